set_option maxHeartbeats 4000000 in
set_option maxRecDepth 100000 in
theorem c_X12_daysOf {l : Launch} {G : va_G} {bs : Nat} {cy : Nat → ClassId} {I : CI} {L : CL} {R : CR} (σ : Row) (x : Nat) (y : Nat) (hs : I 68 = σ) (hi : Inv σ) (hd : DR σ) (hx5 : x < 12) (hy5 : y < Yn σ) (hpt : pnt σ x y ≠ -1) : MTi l G bs cy MX12_daysOf 5 [.ref (bs + 67), .int (nI x), .int (nI y)] I L R (fun r I1 L1 R1 => dys σ x y = r ∧ Fr SL I I1 ∧ L = L1 ∧ R = R1) := by
  refine MTi.of (own := RX12) pn_RX12 rfl (Nat.le_of_ble_eq_true rfl) ?_
  intro p e s m args below meth c Qf X hW hS fin ls hl
  have hx := X.1
  have hb := X.2.1
  have hR : RmOK (rmL 5 0 0) 5 := ⟨rfl, rfl⟩
  have hcs : 0 ≤ (rmL 5 0 0).cells ∧ 0 ≤ (rmL 5 0 0).slots := ⟨Nat.zero_le _, Nat.zero_le _⟩
  have hl : lv_has ls 4 [(0, .ref (bs + 67)), (1, .int (nI x)), (2, .int (nI y))] := hl
  have hF : Fr SL I I := Fr.rf
  obtain ⟨hY, hY1, hY12, hLn, hL4, hSn, hS12, hGn, hG5⟩ := id hi
  obtain ⟨k0, hk0, _, _, hg0⟩ := (hd.2.1 x y hx5 (by omega)).resolve_left hpt
  obtain ⟨s0, hs1, hs50, hs0⟩ := hd.1 k0 hk0
  refine lv_aload_n hx hb (dg D_X12_daysOf (i := 0) rfl) rfl (lv_at hl 0 rfl) ?_
  refine lv_aload_n hx hb (dg D_X12_daysOf (i := 1) rfl) rfl (lv_at hl 0 rfl) ?_
  refine lv_iload_n hx hb (dg D_X12_daysOf (i := 2) rfl) rfl (lv_at hl 1 rfl) ?_
  refine lv_iload_n hx hb (dg D_X12_daysOf (i := 3) rfl) rfl (lv_at hl 2 rfl) ?_
  refine callVi X hW hS hR (c_X12_painter (I := I) σ x y (by first | assumption | omega | decide | exact hP.1) (by first | assumption | omega | decide | exact hP.1) (by first | assumption | omega | decide | exact hP.1)) (by decide) UVX12_painter LK_X12_233 rfl (by decide) rfl rfl rfl (Nat.le_of_ble_eq_true rfl) hl hcs (dg D_X12_daysOf (i := 4) rfl) (fun r4 I4 L1 R1 H locs hq hW hS => ?_)
  obtain ⟨rfl, rfl, rfl, rfl⟩ := hq
  rw [show pnt σ x y = nI k0 from hg0]
  refine n_iconst (a := 0) hx hb (dg D_X12_daysOf (i := 5) rfl) rfl ?_
  refine callVi X hW hS hR (c_X12_propertyOf (I := I) σ k0 0 (by first | assumption | omega | decide | exact hP.1) (by first | assumption | omega | decide | exact hP.1) (by first | assumption | omega | decide | exact hP.1)) (by decide) UVX12_propertyOf LK_X12_276 rfl (by decide) rfl rfl rfl (Nat.le_of_ble_eq_true rfl) hl hcs (dg D_X12_daysOf (i := 6) rfl) (fun r8 I8 L1 R1 H locs hq hW hS => ?_)
  obtain ⟨rfl, rfl, rfl, rfl⟩ := hq
  refine lv_istore_n (lv' := [(3, .int (σ (70 + 2 * k0 + 0))), (0, .ref (bs + 67)), (1, .int (nI x)), (2, .int (nI y))]) hx hb (dg D_X12_daysOf (i := 7) rfl) rfl hl (by decide) rfl (fun ls hl => ?_)
  refine lv_aload_n hx hb (dg D_X12_daysOf (i := 8) rfl) rfl (lv_at hl 1 rfl) ?_
  refine lv_iload_n hx hb (dg D_X12_daysOf (i := 9) rfl) rfl (lv_at hl 2 rfl) ?_
  refine lv_iload_n hx hb (dg D_X12_daysOf (i := 10) rfl) rfl (lv_at hl 3 rfl) ?_
  refine callVi X hW hS hR (c_X12_effortOf (I := I) σ x y (by first | assumption | omega | decide | exact hP.1) (by first | assumption | omega | decide | exact hP.1) (by first | assumption | omega | decide | exact hP.1) (by first | assumption | omega | decide | exact hP.1)) (by decide) UVX12_effortOf LK_X12_279 rfl (by decide) rfl rfl rfl (Nat.le_of_ble_eq_true rfl) hl hcs (dg D_X12_daysOf (i := 11) rfl) (fun r15 I15 L1 R1 H locs hq hW hS => ?_)
  obtain ⟨rfl, hT15, rfl, rfl⟩ := hq
  have hF : Fr SL I I15 := Fr.tr hF hT15 (fun _ _ h => h)
  have hs : I15 68 = σ := by rw [Fr.row hT15 (fun _ => rfl)]; exact hs
  refine lv_iload_n hx hb (dg D_X12_daysOf (i := 12) rfl) rfl (lv_at hl 0 rfl) ?_
  refine lv_iadd hx hb (dg D_X12_daysOf (i := 13) rfl) ?_
  refine n_iconst (a := 1) hx hb (dg D_X12_daysOf (i := 14) rfl) rfl ?_
  refine lv_isub hx hb (dg D_X12_daysOf (i := 15) rfl) ?_
  refine lv_iload_n hx hb (dg D_X12_daysOf (i := 16) rfl) rfl (lv_at hl 0 rfl) ?_
  refine lv_idiv hx hb (dg D_X12_daysOf (i := 17) rfl) (by rw [hs0]; exact nI_ne0 (by omega) (by omega)) ?_
  exact fin (dg D_X12_daysOf (i := 18) rfl) hW hS ⟨by rw [dys, spd, hg0, tN_nI (by omega)], hF, rfl, rfl⟩

set_option maxHeartbeats 4000000 in
set_option maxRecDepth 100000 in
theorem c_X12_daysIn {l : Launch} {G : va_G} {bs : Nat} {cy : Nat → ClassId} {I : CI} {L : CL} {R : CR} (σ : Row) (g : Int32) (y : Nat) (hs : I 68 = σ) (hi : Inv σ) (hd : DR σ) (hy5 : y < Yn σ) (hg : g ≠ -1) : MTi l G bs cy MX12_daysIn 6 [.ref (bs + 67), .int g, .int (nI y)] I L R (fun r I1 L1 R1 => dyI σ g y = r ∧ Fr SL I I1 ∧ L = L1 ∧ R = R1) := by
  refine MTi.of (own := RX12) pn_RX12 rfl (Nat.le_of_ble_eq_true rfl) ?_
  intro p e s m args below meth c Qf X hW hS fin ls hl
  have hx := X.1
  have hb := X.2.1
  have hR : RmOK (rmL 6 0 0) 6 := ⟨rfl, rfl⟩
  have hcs : 0 ≤ (rmL 6 0 0).cells ∧ 0 ≤ (rmL 6 0 0).slots := ⟨Nat.zero_le _, Nat.zero_le _⟩
  have hl : lv_has ls 5 [(0, .ref (bs + 67)), (1, .int g), (2, .int (nI y))] := hl
  have hF : Fr SL I I := Fr.rf
  obtain ⟨hY, hY1, hY12, hLn, hL4, hSn, hS12, hGn, hG5⟩ := id hi
  refine n_iconst (a := 0) hx hb (dg D_X12_daysIn (i := 0) rfl) rfl ?_
  refine lv_istore_n (lv' := [(3, .int (nI 0)), (0, .ref (bs + 67)), (1, .int g), (2, .int (nI y))]) hx hb (dg D_X12_daysIn (i := 1) rfl) rfl hl (by decide) rfl (fun ls hl => ?_)
  refine n_iconst (a := 0) hx hb (dg D_X12_daysIn (i := 2) rfl) rfl ?_
  refine lv_istore (lv' := [(4, .int (nI 0)), (3, .int (nI 0)), (0, .ref (bs + 67)), (1, .int g), (2, .int (nI y))]) hx hb (dg D_X12_daysIn (i := 3) rfl) hl (by decide) rfl (fun ls hl => ?_)
  have loop5 := up_ind (P := fun x => ∀ (K5 : CI) (H : Heap) (locs : List Loc) (ls : Array Slot) (v3 : Int32) (v4 : Int32), v3 = sumT (fun x => if pnt σ x y = g then dys σ x y else nI 0) x → v4 = nI x → (Fr SL I K5) → (K5 68 = σ) → Wd G bs cy K5 L R H → va_S (Aq bs) s.heap H locs → lv_has ls 5 [(0, .ref (bs + 67)), (1, .int g), (2, .int (nI y)), (3, .int v3), (4, .int v4)] → W p l e (rmL 6 0 0) s m args below meth c H locs 0 0 Qf (F0 m 5 ls [])) (nS σ) (fun x hx5 ih5 => by
      intro K5 H locs ls v3 v4 q3 q4 hF hs hW hS hl
      subst q3
      subst q4
      refine lv_iload hx hb (dg D_X12_daysIn (i := 4) rfl) (lv_at hl 4 rfl) ?_
      refine lv_aload_n hx hb (dg D_X12_daysIn (i := 5) rfl) rfl (lv_at hl 0 rfl) ?_
      refine r_getc (t := 68) X hW FI_X12_7 rfl (by decide) rfl (dg D_X12_daysIn (i := 6) rfl) ?_
      refine n_iconst (a := 4) hx hb (dg D_X12_daysIn (i := 7) rfl) rfl ?_
      refine r_ald (j := 4) (v := nI (nS σ)) X hW rfl (by decide) rfl (by omega) (by decide) ((congrFun hs _).trans hSn) (dg D_X12_daysIn (i := 8) rfl) ?_
      refine n_icmp_ge (tgt := 47) hx hb (by omega) (by omega) (dg D_X12_daysIn (i := 9) rfl) (by decide) (fun c13 => ?_) (fun c13 => ?_)
      · refine lv_iload_n hx hb (dg D_X12_daysIn (i := 27) rfl) rfl (lv_at hl 3 rfl) ?_
        exact fin (dg D_X12_daysIn (i := 28) rfl) hW hS ⟨by rw [show x = nS σ by omega]; rfl, hF, rfl, rfl⟩
      · refine lv_iload_n hx hb (dg D_X12_daysIn (i := 10) rfl) rfl (lv_at hl 3 rfl) ?_
        refine lv_aload_n hx hb (dg D_X12_daysIn (i := 11) rfl) rfl (lv_at hl 0 rfl) ?_
        refine lv_iload hx hb (dg D_X12_daysIn (i := 12) rfl) (lv_at hl 4 rfl) ?_
        refine lv_iload_n hx hb (dg D_X12_daysIn (i := 13) rfl) rfl (lv_at hl 2 rfl) ?_
        refine callVi X hW hS hR (c_X12_painter (I := K5) σ x y (by first | assumption | omega | decide | exact hP.1) (by first | assumption | omega | decide | exact hP.1) (by first | assumption | omega | decide | exact hP.1)) (by decide) UVX12_painter LK_X12_233 rfl (by decide) rfl rfl rfl (Nat.le_of_ble_eq_true rfl) hl hcs (dg D_X12_daysIn (i := 14) rfl) (fun r21 I21 L1 R1 H locs hq hW hS => ?_)
        obtain ⟨rfl, rfl, rfl, rfl⟩ := hq
        refine lv_iload_n hx hb (dg D_X12_daysIn (i := 15) rfl) rfl (lv_at hl 1 rfl) ?_
        refine lv_icmp_ne (tgt := 38) hx hb (dg D_X12_daysIn (i := 16) rfl) (by decide) (fun c25 => ?_) (fun c25 => ?_)
        · refine n_iconst (a := 0) hx hb (dg D_X12_daysIn (i := 22) rfl) rfl ?_
          refine lv_iadd hx hb (dg D_X12_daysIn (i := 23) rfl) ?_
          refine lv_istore_n (lv' := [(3, .int ((sumT (fun x => if pnt σ x y = g then dys σ x y else nI 0) x) + (nI 0))), (0, .ref (bs + 67)), (1, .int g), (2, .int (nI y)), (4, .int (nI x))]) hx hb (dg D_X12_daysIn (i := 24) rfl) rfl hl (by decide) rfl (fun ls hl => ?_)
          refine lv_iinc (v := nI (x + 1)) (lv' := [(4, .int (nI (x + 1))), (3, .int ((sumT (fun x => if pnt σ x y = g then dys σ x y else nI 0) x) + (nI 0))), (0, .ref (bs + 67)), (1, .int g), (2, .int (nI y))]) hx hb (dg D_X12_daysIn (i := 25) rfl) hl (k := 4) rfl (nI_add _ _) (by decide) rfl (fun ls hl => ?_)
          refine lv_goto (tgt := 5) hx hb (dg D_X12_daysIn (i := 26) rfl) (by decide) ?_
          exact ih5 (by omega) K5 _ _ _ _ _ (by show _ = _ + (if pnt σ x y = g then dys σ x y else nI 0); first | rw [if_pos c25] | rw [if_neg c25]) (congrArg nI (by omega)) hF hs hW hS (lv_sub hl [2, 3, 4, 1, 0] rfl)
        · refine lv_aload_n hx hb (dg D_X12_daysIn (i := 17) rfl) rfl (lv_at hl 0 rfl) ?_
          refine lv_iload hx hb (dg D_X12_daysIn (i := 18) rfl) (lv_at hl 4 rfl) ?_
          refine lv_iload_n hx hb (dg D_X12_daysIn (i := 19) rfl) rfl (lv_at hl 2 rfl) ?_
          refine callVi X hW hS hR (c_X12_daysOf (I := K5) σ x y (by first | assumption | omega | decide | exact hP.1) (by first | assumption | omega | decide | exact hP.1) (by first | assumption | omega | decide | exact hP.1) (by first | assumption | omega | decide | exact hP.1) (by first | assumption | omega | decide | exact hP.1) (by rw [c25]; exact hg)) (by decide) UVX12_daysOf LK_X12_300 rfl (by decide) rfl rfl rfl (Nat.le_of_ble_eq_true rfl) hl hcs (dg D_X12_daysIn (i := 20) rfl) (fun r32 I32 L1 R1 H locs hq hW hS => ?_)
          obtain ⟨rfl, hT32, rfl, rfl⟩ := hq
          have hF : Fr SL I I32 := Fr.tr hF hT32 (fun _ _ h => h)
          have hs : I32 68 = σ := by rw [Fr.row hT32 (fun _ => rfl)]; exact hs
          refine lv_goto (tgt := 39) hx hb (dg D_X12_daysIn (i := 21) rfl) (by decide) ?_
          refine lv_iadd hx hb (dg D_X12_daysIn (i := 23) rfl) ?_
          refine lv_istore_n (lv' := [(3, .int ((sumT (fun x => if pnt σ x y = g then dys σ x y else nI 0) x) + (dys σ x y))), (0, .ref (bs + 67)), (1, .int g), (2, .int (nI y)), (4, .int (nI x))]) hx hb (dg D_X12_daysIn (i := 24) rfl) rfl hl (by decide) rfl (fun ls hl => ?_)
          refine lv_iinc (v := nI (x + 1)) (lv' := [(4, .int (nI (x + 1))), (3, .int ((sumT (fun x => if pnt σ x y = g then dys σ x y else nI 0) x) + (dys σ x y))), (0, .ref (bs + 67)), (1, .int g), (2, .int (nI y))]) hx hb (dg D_X12_daysIn (i := 25) rfl) hl (k := 4) rfl (nI_add _ _) (by decide) rfl (fun ls hl => ?_)
          refine lv_goto (tgt := 5) hx hb (dg D_X12_daysIn (i := 26) rfl) (by decide) ?_
          exact ih5 (by omega) I32 _ _ _ _ _ (by show _ = _ + (if pnt σ x y = g then dys σ x y else nI 0); first | rw [if_pos c25] | rw [if_neg c25]) (congrArg nI (by omega)) hF hs hW hS (lv_sub hl [2, 3, 4, 1, 0] rfl))
  exact loop5 0 (Nat.zero_le _) I _ _ _ _ _ (rfl) (congrArg nI (by omega)) hF hs hW hS (lv_sub hl [2, 3, 4, 1, 0] rfl)

set_option maxHeartbeats 4000000 in
set_option maxRecDepth 100000 in
theorem c_X12_laneIn {l : Launch} {G : va_G} {bs : Nat} {cy : Nat → ClassId} {I : CI} {L : CL} {R : CR} (σ : Row) (q : Int32) (y : Nat) (hs : I 68 = σ) (hi : Inv σ) (hd : DR σ) (hy5 : y < Yn σ) : MTi l G bs cy MX12_laneIn 6 [.ref (bs + 67), .int q, .int (nI y)] I L R (fun r I1 L1 R1 => lnI σ q y = r ∧ Fr SL I I1 ∧ L = L1 ∧ R = R1) := by
  refine MTi.of (own := RX12) pn_RX12 rfl (Nat.le_of_ble_eq_true rfl) ?_
  intro p e s m args below meth c Qf X hW hS fin ls hl
  have hx := X.1
  have hb := X.2.1
  have hR : RmOK (rmL 6 0 0) 6 := ⟨rfl, rfl⟩
  have hcs : 0 ≤ (rmL 6 0 0).cells ∧ 0 ≤ (rmL 6 0 0).slots := ⟨Nat.zero_le _, Nat.zero_le _⟩
  have hl : lv_has ls 5 [(0, .ref (bs + 67)), (1, .int q), (2, .int (nI y))] := hl
  have hF : Fr SL I I := Fr.rf
  obtain ⟨hY, hY1, hY12, hLn, hL4, hSn, hS12, hGn, hG5⟩ := id hi
  refine n_iconst (a := 0) hx hb (dg D_X12_laneIn (i := 0) rfl) rfl ?_
  refine lv_istore_n (lv' := [(3, .int (nI 0)), (0, .ref (bs + 67)), (1, .int q), (2, .int (nI y))]) hx hb (dg D_X12_laneIn (i := 1) rfl) rfl hl (by decide) rfl (fun ls hl => ?_)
  refine n_iconst (a := 0) hx hb (dg D_X12_laneIn (i := 2) rfl) rfl ?_
  refine lv_istore (lv' := [(4, .int (nI 0)), (3, .int (nI 0)), (0, .ref (bs + 67)), (1, .int q), (2, .int (nI y))]) hx hb (dg D_X12_laneIn (i := 3) rfl) hl (by decide) rfl (fun ls hl => ?_)
  have loop5 := up_ind (P := fun x => ∀ (K5 : CI) (H : Heap) (locs : List Loc) (ls : Array Slot) (v3 : Int32) (v4 : Int32), v3 = sumT (fun x => if pnt σ x y ≠ -1 ∧ σ (10 + 5 * x + 0) = q then dys σ x y else nI 0) x → v4 = nI x → (Fr SL I K5) → (K5 68 = σ) → Wd G bs cy K5 L R H → va_S (Aq bs) s.heap H locs → lv_has ls 5 [(0, .ref (bs + 67)), (1, .int q), (2, .int (nI y)), (3, .int v3), (4, .int v4)] → W p l e (rmL 6 0 0) s m args below meth c H locs 0 0 Qf (F0 m 5 ls [])) (nS σ) (fun x hx5 ih5 => by
      intro K5 H locs ls v3 v4 q3 q4 hF hs hW hS hl
      subst q3
      subst q4
      refine lv_iload hx hb (dg D_X12_laneIn (i := 4) rfl) (lv_at hl 4 rfl) ?_
      refine lv_aload_n hx hb (dg D_X12_laneIn (i := 5) rfl) rfl (lv_at hl 0 rfl) ?_
      refine r_getc (t := 68) X hW FI_X12_7 rfl (by decide) rfl (dg D_X12_laneIn (i := 6) rfl) ?_
      refine n_iconst (a := 4) hx hb (dg D_X12_laneIn (i := 7) rfl) rfl ?_
      refine r_ald (j := 4) (v := nI (nS σ)) X hW rfl (by decide) rfl (by omega) (by decide) ((congrFun hs _).trans hSn) (dg D_X12_laneIn (i := 8) rfl) ?_
      refine n_icmp_ge (tgt := 58) hx hb (by omega) (by omega) (dg D_X12_laneIn (i := 9) rfl) (by decide) (fun c13 => ?_) (fun c13 => ?_)
      · refine lv_iload_n hx hb (dg D_X12_laneIn (i := 33) rfl) rfl (lv_at hl 3 rfl) ?_
        exact fin (dg D_X12_laneIn (i := 34) rfl) hW hS ⟨by rw [show x = nS σ by omega]; rfl, hF, rfl, rfl⟩
      · refine lv_iload_n hx hb (dg D_X12_laneIn (i := 10) rfl) rfl (lv_at hl 3 rfl) ?_
        refine lv_aload_n hx hb (dg D_X12_laneIn (i := 11) rfl) rfl (lv_at hl 0 rfl) ?_
        refine lv_iload hx hb (dg D_X12_laneIn (i := 12) rfl) (lv_at hl 4 rfl) ?_
        refine lv_iload_n hx hb (dg D_X12_laneIn (i := 13) rfl) rfl (lv_at hl 2 rfl) ?_
        refine callVi X hW hS hR (c_X12_painter (I := K5) σ x y (by first | assumption | omega | decide | exact hP.1) (by first | assumption | omega | decide | exact hP.1) (by first | assumption | omega | decide | exact hP.1)) (by decide) UVX12_painter LK_X12_233 rfl (by decide) rfl rfl rfl (Nat.le_of_ble_eq_true rfl) hl hcs (dg D_X12_laneIn (i := 14) rfl) (fun r21 I21 L1 R1 H locs hq hW hS => ?_)
        obtain ⟨rfl, rfl, rfl, rfl⟩ := hq
        refine lv_iconst (v := -1) hx hb (dg D_X12_laneIn (i := 15) rfl) (by decide) ?_
        refine lv_icmp_eq (tgt := 49) hx hb (dg D_X12_laneIn (i := 16) rfl) (by decide) (fun c25 => ?_) (fun c25 => ?_)
        · refine n_iconst (a := 0) hx hb (dg D_X12_laneIn (i := 28) rfl) rfl ?_
          refine lv_iadd hx hb (dg D_X12_laneIn (i := 29) rfl) ?_
          refine lv_istore_n (lv' := [(3, .int ((sumT (fun x => if pnt σ x y ≠ -1 ∧ σ (10 + 5 * x + 0) = q then dys σ x y else nI 0) x) + (nI 0))), (0, .ref (bs + 67)), (1, .int q), (2, .int (nI y)), (4, .int (nI x))]) hx hb (dg D_X12_laneIn (i := 30) rfl) rfl hl (by decide) rfl (fun ls hl => ?_)
          refine lv_iinc (v := nI (x + 1)) (lv' := [(4, .int (nI (x + 1))), (3, .int ((sumT (fun x => if pnt σ x y ≠ -1 ∧ σ (10 + 5 * x + 0) = q then dys σ x y else nI 0) x) + (nI 0))), (0, .ref (bs + 67)), (1, .int q), (2, .int (nI y))]) hx hb (dg D_X12_laneIn (i := 31) rfl) hl (k := 4) rfl (nI_add _ _) (by decide) rfl (fun ls hl => ?_)
          refine lv_goto (tgt := 5) hx hb (dg D_X12_laneIn (i := 32) rfl) (by decide) ?_
          exact ih5 (by omega) K5 _ _ _ _ _ (by show _ = _ + (if pnt σ x y ≠ -1 ∧ σ (10 + 5 * x + 0) = q then dys σ x y else nI 0); first | rw [if_pos (And.intro c25 c36)] | rw [if_neg (nAl c25)] | rw [if_neg (nAr c36)]) (congrArg nI (by omega)) hF hs hW hS (lv_sub hl [2, 3, 4, 1, 0] rfl)
        · refine lv_aload_n hx hb (dg D_X12_laneIn (i := 17) rfl) rfl (lv_at hl 0 rfl) ?_
          refine lv_iload hx hb (dg D_X12_laneIn (i := 18) rfl) (lv_at hl 4 rfl) ?_
          refine n_iconst (a := 0) hx hb (dg D_X12_laneIn (i := 19) rfl) rfl ?_
          refine callVi X hW hS hR (c_X12_spanOf (I := K5) σ x 0 (by first | assumption | omega | decide | exact hP.1) (by first | assumption | omega | decide | exact hP.1) (by first | assumption | omega | decide | exact hP.1)) (by decide) UVX12_spanOf LK_X12_224 rfl (by decide) rfl rfl rfl (Nat.le_of_ble_eq_true rfl) hl hcs (dg D_X12_laneIn (i := 20) rfl) (fun r32 I32 L1 R1 H locs hq hW hS => ?_)
          obtain ⟨rfl, rfl, rfl, rfl⟩ := hq
          refine lv_iload_n hx hb (dg D_X12_laneIn (i := 21) rfl) rfl (lv_at hl 1 rfl) ?_
          refine lv_icmp_ne (tgt := 49) hx hb (dg D_X12_laneIn (i := 22) rfl) (by decide) (fun c36 => ?_) (fun c36 => ?_)
          · refine n_iconst (a := 0) hx hb (dg D_X12_laneIn (i := 28) rfl) rfl ?_
            refine lv_iadd hx hb (dg D_X12_laneIn (i := 29) rfl) ?_
            refine lv_istore_n (lv' := [(3, .int ((sumT (fun x => if pnt σ x y ≠ -1 ∧ σ (10 + 5 * x + 0) = q then dys σ x y else nI 0) x) + (nI 0))), (0, .ref (bs + 67)), (1, .int q), (2, .int (nI y)), (4, .int (nI x))]) hx hb (dg D_X12_laneIn (i := 30) rfl) rfl hl (by decide) rfl (fun ls hl => ?_)
            refine lv_iinc (v := nI (x + 1)) (lv' := [(4, .int (nI (x + 1))), (3, .int ((sumT (fun x => if pnt σ x y ≠ -1 ∧ σ (10 + 5 * x + 0) = q then dys σ x y else nI 0) x) + (nI 0))), (0, .ref (bs + 67)), (1, .int q), (2, .int (nI y))]) hx hb (dg D_X12_laneIn (i := 31) rfl) hl (k := 4) rfl (nI_add _ _) (by decide) rfl (fun ls hl => ?_)
            refine lv_goto (tgt := 5) hx hb (dg D_X12_laneIn (i := 32) rfl) (by decide) ?_
            exact ih5 (by omega) K5 _ _ _ _ _ (by show _ = _ + (if pnt σ x y ≠ -1 ∧ σ (10 + 5 * x + 0) = q then dys σ x y else nI 0); first | rw [if_pos (And.intro c25 c36)] | rw [if_neg (nAl c25)] | rw [if_neg (nAr c36)]) (congrArg nI (by omega)) hF hs hW hS (lv_sub hl [2, 3, 4, 1, 0] rfl)
          · refine lv_aload_n hx hb (dg D_X12_laneIn (i := 23) rfl) rfl (lv_at hl 0 rfl) ?_
            refine lv_iload hx hb (dg D_X12_laneIn (i := 24) rfl) (lv_at hl 4 rfl) ?_
            refine lv_iload_n hx hb (dg D_X12_laneIn (i := 25) rfl) rfl (lv_at hl 2 rfl) ?_
            refine callVi X hW hS hR (c_X12_daysOf (I := K5) σ x y (by first | assumption | omega | decide | exact hP.1) (by first | assumption | omega | decide | exact hP.1) (by first | assumption | omega | decide | exact hP.1) (by first | assumption | omega | decide | exact hP.1) (by first | assumption | omega | decide | exact hP.1) (c25)) (by decide) UVX12_daysOf LK_X12_300 rfl (by decide) rfl rfl rfl (Nat.le_of_ble_eq_true rfl) hl hcs (dg D_X12_laneIn (i := 26) rfl) (fun r43 I43 L1 R1 H locs hq hW hS => ?_)
            obtain ⟨rfl, hT43, rfl, rfl⟩ := hq
            have hF : Fr SL I I43 := Fr.tr hF hT43 (fun _ _ h => h)
            have hs : I43 68 = σ := by rw [Fr.row hT43 (fun _ => rfl)]; exact hs
            refine lv_goto (tgt := 50) hx hb (dg D_X12_laneIn (i := 27) rfl) (by decide) ?_
            refine lv_iadd hx hb (dg D_X12_laneIn (i := 29) rfl) ?_
            refine lv_istore_n (lv' := [(3, .int ((sumT (fun x => if pnt σ x y ≠ -1 ∧ σ (10 + 5 * x + 0) = q then dys σ x y else nI 0) x) + (dys σ x y))), (0, .ref (bs + 67)), (1, .int q), (2, .int (nI y)), (4, .int (nI x))]) hx hb (dg D_X12_laneIn (i := 30) rfl) rfl hl (by decide) rfl (fun ls hl => ?_)
            refine lv_iinc (v := nI (x + 1)) (lv' := [(4, .int (nI (x + 1))), (3, .int ((sumT (fun x => if pnt σ x y ≠ -1 ∧ σ (10 + 5 * x + 0) = q then dys σ x y else nI 0) x) + (dys σ x y))), (0, .ref (bs + 67)), (1, .int q), (2, .int (nI y))]) hx hb (dg D_X12_laneIn (i := 31) rfl) hl (k := 4) rfl (nI_add _ _) (by decide) rfl (fun ls hl => ?_)
            refine lv_goto (tgt := 5) hx hb (dg D_X12_laneIn (i := 32) rfl) (by decide) ?_
            exact ih5 (by omega) I43 _ _ _ _ _ (by show _ = _ + (if pnt σ x y ≠ -1 ∧ σ (10 + 5 * x + 0) = q then dys σ x y else nI 0); first | rw [if_pos (And.intro c25 c36)] | rw [if_neg (nAl c25)] | rw [if_neg (nAr c36)]) (congrArg nI (by omega)) hF hs hW hS (lv_sub hl [2, 3, 4, 1, 0] rfl))
  exact loop5 0 (Nat.zero_le _) I _ _ _ _ _ (rfl) (congrArg nI (by omega)) hF hs hW hS (lv_sub hl [2, 3, 4, 1, 0] rfl)

set_option maxHeartbeats 4000000 in
set_option maxRecDepth 100000 in
theorem c_X12_lossIn {l : Launch} {G : va_G} {bs : Nat} {cy : Nat → ClassId} {I : CI} {L : CL} {R : CR} (σ : Row) (y : Nat) (hs : I 68 = σ) (hi : Inv σ) (hd : DR σ) (hy5 : y < Yn σ) : MTi l G bs cy MX12_lossIn 7 [.ref (bs + 67), .int (nI y)] I L R (fun r I1 L1 R1 => los σ y = r ∧ Fr SL I I1 ∧ L = L1 ∧ R = R1) := by
  refine MTi.of (own := RX12) pn_RX12 rfl (Nat.le_of_ble_eq_true rfl) ?_
  intro p e s m args below meth c Qf X hW hS fin ls hl
  have hx := X.1
  have hb := X.2.1
  have hR : RmOK (rmL 7 0 0) 7 := ⟨rfl, rfl⟩
  have hcs : 0 ≤ (rmL 7 0 0).cells ∧ 0 ≤ (rmL 7 0 0).slots := ⟨Nat.zero_le _, Nat.zero_le _⟩
  have hl : lv_has ls 4 [(0, .ref (bs + 67)), (1, .int (nI y))] := hl
  have hF : Fr SL I I := Fr.rf
  obtain ⟨hY, hY1, hY12, hLn, hL4, hSn, hS12, hGn, hG5⟩ := id hi
  refine n_iconst (a := 0) hx hb (dg D_X12_lossIn (i := 0) rfl) rfl ?_
  refine lv_istore_n (lv' := [(2, .int (nI 0)), (0, .ref (bs + 67)), (1, .int (nI y))]) hx hb (dg D_X12_lossIn (i := 1) rfl) rfl hl (by decide) rfl (fun ls hl => ?_)
  refine n_iconst (a := 0) hx hb (dg D_X12_lossIn (i := 2) rfl) rfl ?_
  refine lv_istore_n (lv' := [(3, .int (nI 0)), (2, .int (nI 0)), (0, .ref (bs + 67)), (1, .int (nI y))]) hx hb (dg D_X12_lossIn (i := 3) rfl) rfl hl (by decide) rfl (fun ls hl => ?_)
  have loop4 := up_ind (P := fun q => ∀ (K4 : CI) (H : Heap) (locs : List Loc) (ls : Array Slot) (v2 : Int32) (v3 : Int32), v2 = sumT (fun q => σ (6 + q) * lnI σ (nI q) y) q → v3 = nI q → (Fr SL I K4) → (K4 68 = σ) → Wd G bs cy K4 L R H → va_S (Aq bs) s.heap H locs → lv_has ls 4 [(0, .ref (bs + 67)), (1, .int (nI y)), (2, .int v2), (3, .int v3)] → W p l e (rmL 7 0 0) s m args below meth c H locs 0 0 Qf (F0 m 4 ls [])) (nLn σ) (fun q hx4 ih4 => by
      intro K4 H locs ls v2 v3 q2 q3 hF hs hW hS hl
      subst q2
      subst q3
      refine lv_iload_n hx hb (dg D_X12_lossIn (i := 4) rfl) rfl (lv_at hl 3 rfl) ?_
      refine lv_aload_n hx hb (dg D_X12_lossIn (i := 5) rfl) rfl (lv_at hl 0 rfl) ?_
      refine r_getc (t := 68) X hW FI_X12_7 rfl (by decide) rfl (dg D_X12_lossIn (i := 6) rfl) ?_
      refine n_iconst (a := 3) hx hb (dg D_X12_lossIn (i := 7) rfl) rfl ?_
      refine r_ald (j := 3) (v := nI (nLn σ)) X hW rfl (by decide) rfl (by omega) (by decide) ((congrFun hs _).trans hLn) (dg D_X12_lossIn (i := 8) rfl) ?_
      refine n_icmp_ge (tgt := 39) hx hb (by omega) (by omega) (dg D_X12_lossIn (i := 9) rfl) (by decide) (fun c11 => ?_) (fun c11 => ?_)
      · refine lv_iload_n hx hb (dg D_X12_lossIn (i := 26) rfl) rfl (lv_at hl 2 rfl) ?_
        exact fin (dg D_X12_lossIn (i := 27) rfl) hW hS ⟨by rw [show q = nLn σ by omega]; rfl, hF, rfl, rfl⟩
      · refine lv_iload_n hx hb (dg D_X12_lossIn (i := 10) rfl) rfl (lv_at hl 2 rfl) ?_
        refine lv_aload_n hx hb (dg D_X12_lossIn (i := 11) rfl) rfl (lv_at hl 0 rfl) ?_
        refine r_getc (t := 68) X hW FI_X12_7 rfl (by decide) rfl (dg D_X12_lossIn (i := 12) rfl) ?_
        refine lv_bipush (v := nI 6) hx hb (dg D_X12_lossIn (i := 13) rfl) (by decide) ?_
        refine lv_iload_n hx hb (dg D_X12_lossIn (i := 14) rfl) rfl (lv_at hl 3 rfl) ?_
        refine n_iadd hx hb (dg D_X12_lossIn (i := 15) rfl) ?_
        refine r_ald (j := 6 + q) (v := σ (6 + q)) X hW rfl (by decide) rfl (by omega) (by decide) (congrFun hs _) (dg D_X12_lossIn (i := 16) rfl) ?_
        refine lv_aload_n hx hb (dg D_X12_lossIn (i := 17) rfl) rfl (lv_at hl 0 rfl) ?_
        refine lv_iload_n hx hb (dg D_X12_lossIn (i := 18) rfl) rfl (lv_at hl 3 rfl) ?_
        refine lv_iload_n hx hb (dg D_X12_lossIn (i := 19) rfl) rfl (lv_at hl 1 rfl) ?_
        refine callVi X hW hS hR (c_X12_laneIn (I := K4) σ (nI q) y (by first | assumption | omega | decide | exact hP.1) (by first | assumption | omega | decide | exact hP.1) (by first | assumption | omega | decide | exact hP.1) (by first | assumption | omega | decide | exact hP.1)) (by decide) UVX12_laneIn LK_X12_309 rfl (by decide) rfl rfl rfl (Nat.le_of_ble_eq_true rfl) hl hcs (dg D_X12_lossIn (i := 20) rfl) (fun r27 I27 L1 R1 H locs hq hW hS => ?_)
        obtain ⟨rfl, hT27, rfl, rfl⟩ := hq
        have hF : Fr SL I I27 := Fr.tr hF hT27 (fun _ _ h => h)
        have hs : I27 68 = σ := by rw [Fr.row hT27 (fun _ => rfl)]; exact hs
        refine lv_imul hx hb (dg D_X12_lossIn (i := 21) rfl) ?_
        refine lv_iadd hx hb (dg D_X12_lossIn (i := 22) rfl) ?_
        refine lv_istore_n (lv' := [(2, .int ((sumT (fun q => σ (6 + q) * lnI σ (nI q) y) q) + ((σ (6 + q)) * (lnI σ (nI q) y)))), (0, .ref (bs + 67)), (1, .int (nI y)), (3, .int (nI q))]) hx hb (dg D_X12_lossIn (i := 23) rfl) rfl hl (by decide) rfl (fun ls hl => ?_)
        refine lv_iinc (v := nI (q + 1)) (lv' := [(3, .int (nI (q + 1))), (2, .int ((sumT (fun q => σ (6 + q) * lnI σ (nI q) y) q) + ((σ (6 + q)) * (lnI σ (nI q) y)))), (0, .ref (bs + 67)), (1, .int (nI y))]) hx hb (dg D_X12_lossIn (i := 24) rfl) hl (k := 3) rfl (nI_add _ _) (by decide) rfl (fun ls hl => ?_)
        refine lv_goto (tgt := 4) hx hb (dg D_X12_lossIn (i := 25) rfl) (by decide) ?_
        exact ih4 (by omega) I27 _ _ _ _ _ (rfl) (congrArg nI (by omega)) hF hs hW hS (lv_sub hl [2, 3, 1, 0] rfl))
  exact loop4 0 (Nat.zero_le _) I _ _ _ _ _ (rfl) (congrArg nI (by omega)) hF hs hW hS (lv_sub hl [2, 3, 1, 0] rfl)

set_option maxHeartbeats 4000000 in
set_option maxRecDepth 100000 in
theorem c_X12_wagesIn {l : Launch} {G : va_G} {bs : Nat} {cy : Nat → ClassId} {I : CI} {L : CL} {R : CR} (σ : Row) (y : Nat) (hs : I 68 = σ) (hi : Inv σ) (hd : DR σ) (hy5 : y < Yn σ) : MTi l G bs cy MX12_wagesIn 7 [.ref (bs + 67), .int (nI y)] I L R (fun r I1 L1 R1 => wgs σ y = r ∧ Fr SL I I1 ∧ L = L1 ∧ R = R1) := by
  refine MTi.of (own := RX12) pn_RX12 rfl (Nat.le_of_ble_eq_true rfl) ?_
  intro p e s m args below meth c Qf X hW hS fin ls hl
  have hx := X.1
  have hb := X.2.1
  have hR : RmOK (rmL 7 0 0) 7 := ⟨rfl, rfl⟩
  have hcs : 0 ≤ (rmL 7 0 0).cells ∧ 0 ≤ (rmL 7 0 0).slots := ⟨Nat.zero_le _, Nat.zero_le _⟩
  have hl : lv_has ls 4 [(0, .ref (bs + 67)), (1, .int (nI y))] := hl
  have hF : Fr SL I I := Fr.rf
  obtain ⟨hY, hY1, hY12, hLn, hL4, hSn, hS12, hGn, hG5⟩ := id hi
  refine n_iconst (a := 0) hx hb (dg D_X12_wagesIn (i := 0) rfl) rfl ?_
  refine lv_istore_n (lv' := [(2, .int (nI 0)), (0, .ref (bs + 67)), (1, .int (nI y))]) hx hb (dg D_X12_wagesIn (i := 1) rfl) rfl hl (by decide) rfl (fun ls hl => ?_)
  refine n_iconst (a := 0) hx hb (dg D_X12_wagesIn (i := 2) rfl) rfl ?_
  refine lv_istore_n (lv' := [(3, .int (nI 0)), (2, .int (nI 0)), (0, .ref (bs + 67)), (1, .int (nI y))]) hx hb (dg D_X12_wagesIn (i := 3) rfl) rfl hl (by decide) rfl (fun ls hl => ?_)
  have loop4 := up_ind (P := fun g => ∀ (K4 : CI) (H : Heap) (locs : List Loc) (ls : Array Slot) (v2 : Int32) (v3 : Int32), v2 = sumT (fun g => σ (70 + 2 * g + 1) * dyI σ (nI g) y) g → v3 = nI g → (Fr SL I K4) → (K4 68 = σ) → Wd G bs cy K4 L R H → va_S (Aq bs) s.heap H locs → lv_has ls 4 [(0, .ref (bs + 67)), (1, .int (nI y)), (2, .int v2), (3, .int v3)] → W p l e (rmL 7 0 0) s m args below meth c H locs 0 0 Qf (F0 m 4 ls [])) (nG σ) (fun g hx4 ih4 => by
      intro K4 H locs ls v2 v3 q2 q3 hF hs hW hS hl
      subst q2
      subst q3
      refine lv_iload_n hx hb (dg D_X12_wagesIn (i := 4) rfl) rfl (lv_at hl 3 rfl) ?_
      refine lv_aload_n hx hb (dg D_X12_wagesIn (i := 5) rfl) rfl (lv_at hl 0 rfl) ?_
      refine r_getc (t := 68) X hW FI_X12_7 rfl (by decide) rfl (dg D_X12_wagesIn (i := 6) rfl) ?_
      refine n_iconst (a := 5) hx hb (dg D_X12_wagesIn (i := 7) rfl) rfl ?_
      refine r_ald (j := 5) (v := nI (nG σ)) X hW rfl (by decide) rfl (by omega) (by decide) ((congrFun hs _).trans hGn) (dg D_X12_wagesIn (i := 8) rfl) ?_
      refine n_icmp_ge (tgt := 36) hx hb (by omega) (by omega) (dg D_X12_wagesIn (i := 9) rfl) (by decide) (fun c11 => ?_) (fun c11 => ?_)
      · refine lv_iload_n hx hb (dg D_X12_wagesIn (i := 24) rfl) rfl (lv_at hl 2 rfl) ?_
        exact fin (dg D_X12_wagesIn (i := 25) rfl) hW hS ⟨by rw [show g = nG σ by omega]; rfl, hF, rfl, rfl⟩
      · refine lv_iload_n hx hb (dg D_X12_wagesIn (i := 10) rfl) rfl (lv_at hl 2 rfl) ?_
        refine lv_aload_n hx hb (dg D_X12_wagesIn (i := 11) rfl) rfl (lv_at hl 0 rfl) ?_
        refine lv_iload_n hx hb (dg D_X12_wagesIn (i := 12) rfl) rfl (lv_at hl 3 rfl) ?_
        refine n_iconst (a := 1) hx hb (dg D_X12_wagesIn (i := 13) rfl) rfl ?_
        refine callVi X hW hS hR (c_X12_propertyOf (I := K4) σ g 1 (by first | assumption | omega | decide | exact hP.1) (by first | assumption | omega | decide | exact hP.1) (by first | assumption | omega | decide | exact hP.1)) (by decide) UVX12_propertyOf LK_X12_276 rfl (by decide) rfl rfl rfl (Nat.le_of_ble_eq_true rfl) hl hcs (dg D_X12_wagesIn (i := 14) rfl) (fun r18 I18 L1 R1 H locs hq hW hS => ?_)
        obtain ⟨rfl, rfl, rfl, rfl⟩ := hq
        refine lv_aload_n hx hb (dg D_X12_wagesIn (i := 15) rfl) rfl (lv_at hl 0 rfl) ?_
        refine lv_iload_n hx hb (dg D_X12_wagesIn (i := 16) rfl) rfl (lv_at hl 3 rfl) ?_
        refine lv_iload_n hx hb (dg D_X12_wagesIn (i := 17) rfl) rfl (lv_at hl 1 rfl) ?_
        refine callVi X hW hS hR (c_X12_daysIn (I := K4) σ (nI g) y (by first | assumption | omega | decide | exact hP.1) (by first | assumption | omega | decide | exact hP.1) (by first | assumption | omega | decide | exact hP.1) (by first | assumption | omega | decide | exact hP.1) (nI_m1 (by omega))) (by decide) UVX12_daysIn LK_X12_303 rfl (by decide) rfl rfl rfl (Nat.le_of_ble_eq_true rfl) hl hcs (dg D_X12_wagesIn (i := 18) rfl) (fun r24 I24 L1 R1 H locs hq hW hS => ?_)
        obtain ⟨rfl, hT24, rfl, rfl⟩ := hq
        have hF : Fr SL I I24 := Fr.tr hF hT24 (fun _ _ h => h)
        have hs : I24 68 = σ := by rw [Fr.row hT24 (fun _ => rfl)]; exact hs
        refine lv_imul hx hb (dg D_X12_wagesIn (i := 19) rfl) ?_
        refine lv_iadd hx hb (dg D_X12_wagesIn (i := 20) rfl) ?_
        refine lv_istore_n (lv' := [(2, .int ((sumT (fun g => σ (70 + 2 * g + 1) * dyI σ (nI g) y) g) + ((σ (70 + 2 * g + 1)) * (dyI σ (nI g) y)))), (0, .ref (bs + 67)), (1, .int (nI y)), (3, .int (nI g))]) hx hb (dg D_X12_wagesIn (i := 21) rfl) rfl hl (by decide) rfl (fun ls hl => ?_)
        refine lv_iinc (v := nI (g + 1)) (lv' := [(3, .int (nI (g + 1))), (2, .int ((sumT (fun g => σ (70 + 2 * g + 1) * dyI σ (nI g) y) g) + ((σ (70 + 2 * g + 1)) * (dyI σ (nI g) y)))), (0, .ref (bs + 67)), (1, .int (nI y))]) hx hb (dg D_X12_wagesIn (i := 22) rfl) hl (k := 3) rfl (nI_add _ _) (by decide) rfl (fun ls hl => ?_)
        refine lv_goto (tgt := 4) hx hb (dg D_X12_wagesIn (i := 23) rfl) (by decide) ?_
        exact ih4 (by omega) I24 _ _ _ _ _ (rfl) (congrArg nI (by omega)) hF hs hW hS (lv_sub hl [2, 3, 1, 0] rfl))
  exact loop4 0 (Nat.zero_le _) I _ _ _ _ _ (rfl) (congrArg nI (by omega)) hF hs hW hS (lv_sub hl [2, 3, 1, 0] rfl)

set_option maxHeartbeats 4000000 in
set_option maxRecDepth 100000 in
theorem c_X12_shutIn {l : Launch} {G : va_G} {bs : Nat} {cy : Nat → ClassId} {I : CI} {L : CL} {R : CR} (σ : Row) (y : Nat) (hs : I 68 = σ) (hi : Inv σ) (hy5 : y < 12) : MTi l G bs cy MX12_shutIn 2 [.ref (bs + 67), .int (nI y)] I L R (fun r I1 L1 R1 => shu σ y = r ∧ I = I1 ∧ L = L1 ∧ R = R1) := by
  refine MTi.of (own := RX12) pn_RX12 rfl (Nat.le_of_ble_eq_true rfl) ?_
  intro p e s m args below meth c Qf X hW hS fin ls hl
  have hx := X.1
  have hb := X.2.1
  have hR : RmOK (rmL 2 0 0) 2 := ⟨rfl, rfl⟩
  have hcs : 0 ≤ (rmL 2 0 0).cells ∧ 0 ≤ (rmL 2 0 0).slots := ⟨Nat.zero_le _, Nat.zero_le _⟩
  have hl : lv_has ls 5 [(0, .ref (bs + 67)), (1, .int (nI y))] := hl
  obtain ⟨hY, hY1, hY12, hLn, hL4, hSn, hS12, hGn, hG5⟩ := id hi
  refine n_iconst (a := 0) hx hb (dg D_X12_shutIn (i := 0) rfl) rfl ?_
  refine lv_istore_n (lv' := [(2, .int (nI 0)), (0, .ref (bs + 67)), (1, .int (nI y))]) hx hb (dg D_X12_shutIn (i := 1) rfl) rfl hl (by decide) rfl (fun ls hl => ?_)
  refine n_iconst (a := 0) hx hb (dg D_X12_shutIn (i := 2) rfl) rfl ?_
  refine lv_istore_n (lv' := [(3, .int (nI 0)), (2, .int (nI 0)), (0, .ref (bs + 67)), (1, .int (nI y))]) hx hb (dg D_X12_shutIn (i := 3) rfl) rfl hl (by decide) rfl (fun ls hl => ?_)
  have loop4 := up_ind (P := fun x => ∀ (H : Heap) (locs : List Loc) (ls : Array Slot) (v2 : Int32) (v3 : Int32), v2 = orT (shF σ y) x → v3 = nI x → Wd G bs cy I L R H → va_S (Aq bs) s.heap H locs → lv_has ls 5 [(0, .ref (bs + 67)), (1, .int (nI y)), (2, .int v2), (3, .int v3)] → W p l e (rmL 2 0 0) s m args below meth c H locs 0 0 Qf (F0 m 4 ls [])) (nS σ) (fun x hx4 ih4 => by
      intro H locs ls v2 v3 q2 q3 hW hS hl
      subst q2
      subst q3
      refine lv_iload_n hx hb (dg D_X12_shutIn (i := 4) rfl) rfl (lv_at hl 3 rfl) ?_
      refine lv_aload_n hx hb (dg D_X12_shutIn (i := 5) rfl) rfl (lv_at hl 0 rfl) ?_
      refine r_getc (t := 68) X hW FI_X12_7 rfl (by decide) rfl (dg D_X12_shutIn (i := 6) rfl) ?_
      refine n_iconst (a := 4) hx hb (dg D_X12_shutIn (i := 7) rfl) rfl ?_
      refine r_ald (j := 4) (v := nI (nS σ)) X hW rfl (by decide) rfl (by omega) (by decide) ((congrFun hs _).trans hSn) (dg D_X12_shutIn (i := 8) rfl) ?_
      refine n_icmp_ge (tgt := 55) hx hb (by omega) (by omega) (dg D_X12_shutIn (i := 9) rfl) (by decide) (fun c11 => ?_) (fun c11 => ?_)
      · refine lv_iload_n hx hb (dg D_X12_shutIn (i := 34) rfl) rfl (lv_at hl 2 rfl) ?_
        exact fin (dg D_X12_shutIn (i := 35) rfl) hW hS ⟨by rw [show x = nS σ by omega]; rfl, rfl, rfl, rfl⟩
      · refine lv_aload_n hx hb (dg D_X12_shutIn (i := 10) rfl) rfl (lv_at hl 0 rfl) ?_
        refine lv_iload_n hx hb (dg D_X12_shutIn (i := 11) rfl) rfl (lv_at hl 3 rfl) ?_
        refine n_iconst (a := 0) hx hb (dg D_X12_shutIn (i := 12) rfl) rfl ?_
        refine callVi X hW hS hR (c_X12_spanOf (I := I) σ x 0 (by first | assumption | omega | decide | exact hP.1) (by first | assumption | omega | decide | exact hP.1) (by first | assumption | omega | decide | exact hP.1)) (by decide) UVX12_spanOf LK_X12_224 rfl (by decide) rfl rfl rfl (Nat.le_of_ble_eq_true rfl) hl hcs (dg D_X12_shutIn (i := 13) rfl) (fun r17 I17 L1 R1 H locs hq hW hS => ?_)
        obtain ⟨rfl, rfl, rfl, rfl⟩ := hq
        refine lv_istore (lv' := [(4, .int (σ (10 + 5 * x + 0))), (0, .ref (bs + 67)), (1, .int (nI y)), (2, .int (orT (shF σ y) x)), (3, .int (nI x))]) hx hb (dg D_X12_shutIn (i := 14) rfl) hl (by decide) rfl (fun ls hl => ?_)
        refine lv_iload_n hx hb (dg D_X12_shutIn (i := 15) rfl) rfl (lv_at hl 3 rfl) ?_
        refine lv_aload_n hx hb (dg D_X12_shutIn (i := 16) rfl) rfl (lv_at hl 1 rfl) ?_
        refine lv_iload_n hx hb (dg D_X12_shutIn (i := 17) rfl) rfl (lv_at hl 4 rfl) ?_
        refine lv_iload_n hx hb (dg D_X12_shutIn (i := 18) rfl) rfl (lv_at hl 2 rfl) ?_
        refine callVi X hW hS hR (c_X12_painter (I := I) σ x y (by first | assumption | omega | decide | exact hP.1) (by first | assumption | omega | decide | exact hP.1) (by first | assumption | omega | decide | exact hP.1)) (by decide) UVX12_painter LK_X12_233 rfl (by decide) rfl rfl rfl (Nat.le_of_ble_eq_true rfl) hl hcs (dg D_X12_shutIn (i := 19) rfl) (fun r26 I26 L1 R1 H locs hq hW hS => ?_)
        obtain ⟨rfl, rfl, rfl, rfl⟩ := hq
        refine lv_iconst (v := -1) hx hb (dg D_X12_shutIn (i := 20) rfl) (by decide) ?_
        refine lv_icmp_eq (tgt := 46) hx hb (dg D_X12_shutIn (i := 21) rfl) (by decide) (fun c30 => ?_) (fun c30 => ?_)
        · refine n_iconst (a := 0) hx hb (dg D_X12_shutIn (i := 29) rfl) rfl ?_
          refine lv_ior hx hb (dg D_X12_shutIn (i := 30) rfl) ?_
          refine lv_istore_n (lv' := [(2, .int ((orT (shF σ y) x) ||| (nI 0))), (4, .int (σ (10 + 5 * x + 0))), (0, .ref (bs + 67)), (1, .int (nI y)), (3, .int (nI x))]) hx hb (dg D_X12_shutIn (i := 31) rfl) rfl hl (by decide) rfl (fun ls hl => ?_)
          refine lv_iinc (v := nI (x + 1)) (lv' := [(3, .int (nI (x + 1))), (2, .int ((orT (shF σ y) x) ||| (nI 0))), (4, .int (σ (10 + 5 * x + 0))), (0, .ref (bs + 67)), (1, .int (nI y))]) hx hb (dg D_X12_shutIn (i := 32) rfl) hl (k := 4) rfl (nI_add _ _) (by decide) rfl (fun ls hl => ?_)
          refine lv_goto (tgt := 4) hx hb (dg D_X12_shutIn (i := 33) rfl) (by decide) ?_
          exact ih4 (by omega) _ _ _ _ _ (by show _ = _ ||| shF σ y x; unfold shF; first | rw [if_pos (And.intro c30 c36)] | rw [if_neg (nAl c30)] | rw [if_neg (nArr c36)]) (congrArg nI (by omega)) hW hS (lv_sub hl [3, 4, 1, 0] rfl)
        · refine lv_iload hx hb (dg D_X12_shutIn (i := 22) rfl) (lv_at hl 0 rfl) ?_
          refine lv_iconst (v := -1) hx hb (dg D_X12_shutIn (i := 23) rfl) (by decide) ?_
          refine lv_icmp_eq (tgt := 46) hx hb (dg D_X12_shutIn (i := 24) rfl) (by decide) (fun c36 => ?_) (fun c36 => ?_)
          · refine n_iconst (a := 0) hx hb (dg D_X12_shutIn (i := 29) rfl) rfl ?_
            refine lv_ior hx hb (dg D_X12_shutIn (i := 30) rfl) ?_
            refine lv_istore_n (lv' := [(2, .int ((orT (shF σ y) x) ||| (nI 0))), (4, .int (σ (10 + 5 * x + 0))), (0, .ref (bs + 67)), (1, .int (nI y)), (3, .int (nI x))]) hx hb (dg D_X12_shutIn (i := 31) rfl) rfl hl (by decide) rfl (fun ls hl => ?_)
            refine lv_iinc (v := nI (x + 1)) (lv' := [(3, .int (nI (x + 1))), (2, .int ((orT (shF σ y) x) ||| (nI 0))), (4, .int (σ (10 + 5 * x + 0))), (0, .ref (bs + 67)), (1, .int (nI y))]) hx hb (dg D_X12_shutIn (i := 32) rfl) hl (k := 4) rfl (nI_add _ _) (by decide) rfl (fun ls hl => ?_)
            refine lv_goto (tgt := 4) hx hb (dg D_X12_shutIn (i := 33) rfl) (by decide) ?_
            exact ih4 (by omega) _ _ _ _ _ (by show _ = _ ||| shF σ y x; unfold shF; first | rw [if_pos (And.intro c30 c36)] | rw [if_neg (nAl c30)] | rw [if_neg (nArr c36)]) (congrArg nI (by omega)) hW hS (lv_sub hl [3, 4, 1, 0] rfl)
          · refine n_iconst (a := 1) hx hb (dg D_X12_shutIn (i := 25) rfl) rfl ?_
            refine lv_iload hx hb (dg D_X12_shutIn (i := 26) rfl) (lv_at hl 0 rfl) ?_
            refine lv_ishl hx hb (dg D_X12_shutIn (i := 27) rfl) ?_
            refine lv_goto (tgt := 47) hx hb (dg D_X12_shutIn (i := 28) rfl) (by decide) ?_
            refine lv_ior hx hb (dg D_X12_shutIn (i := 30) rfl) ?_
            refine lv_istore_n (lv' := [(2, .int ((orT (shF σ y) x) ||| ((nI 1) <<< ((σ (10 + 5 * x + 0)) &&& 31)))), (4, .int (σ (10 + 5 * x + 0))), (0, .ref (bs + 67)), (1, .int (nI y)), (3, .int (nI x))]) hx hb (dg D_X12_shutIn (i := 31) rfl) rfl hl (by decide) rfl (fun ls hl => ?_)
            refine lv_iinc (v := nI (x + 1)) (lv' := [(3, .int (nI (x + 1))), (2, .int ((orT (shF σ y) x) ||| ((nI 1) <<< ((σ (10 + 5 * x + 0)) &&& 31)))), (4, .int (σ (10 + 5 * x + 0))), (0, .ref (bs + 67)), (1, .int (nI y))]) hx hb (dg D_X12_shutIn (i := 32) rfl) hl (k := 4) rfl (nI_add _ _) (by decide) rfl (fun ls hl => ?_)
            refine lv_goto (tgt := 4) hx hb (dg D_X12_shutIn (i := 33) rfl) (by decide) ?_
            exact ih4 (by omega) _ _ _ _ _ (by show _ = _ ||| shF σ y x; unfold shF; first | rw [if_pos (And.intro c30 c36)] | rw [if_neg (nAl c30)] | rw [if_neg (nArr c36)]) (congrArg nI (by omega)) hW hS (lv_sub hl [3, 4, 1, 0] rfl))
  exact loop4 0 (Nat.zero_le _) _ _ _ _ _ (rfl) (congrArg nI (by omega)) hW hS (lv_sub hl [2, 3, 1, 0] rfl)

set_option maxHeartbeats 4000000 in
set_option maxRecDepth 100000 in
theorem c_X12_effort {l : Launch} {G : va_G} {bs : Nat} {cy : Nat → ClassId} {I : CI} {L : CL} {R : CR} (σ : Row) (v : Int32) (w : Int32) (hs : I 68 = σ) (hi : Inv σ) : MTi l G bs cy MX12_effort 5 [.ref (bs + 67), .int v, .int w] I L R (fun r I1 L1 R1 => ((inB v (nS σ) && inB w (Yn σ)) = true → r = eff σ (tN v) (tN w)) ∧ Fr SLT I I1 ∧ I1 67 6 = thr (inB v (nS σ) && inB w (Yn σ)) ∧ L = L1 ∧ R = R1) := by
  refine MTi.of (own := RX12) pn_RX12 rfl (Nat.le_of_ble_eq_true rfl) ?_
  intro p e s m args below meth c Qf X hW hS fin ls hl
  have hx := X.1
  have hb := X.2.1
  have hR : RmOK (rmL 5 0 0) 5 := ⟨rfl, rfl⟩
  have hcs : 0 ≤ (rmL 5 0 0).cells ∧ 0 ≤ (rmL 5 0 0).slots := ⟨Nat.zero_le _, Nat.zero_le _⟩
  have hl : lv_has ls 3 [(0, .ref (bs + 67)), (1, .int v), (2, .int w)] := hl
  have hF : Fr SLT I I := Fr.rf
  obtain ⟨hY, hY1, hY12, hLn, hL4, hSn, hS12, hGn, hG5⟩ := id hi
  refine lv_aload_n hx hb (dg D_X12_effort (i := 0) rfl) rfl (lv_at hl 0 rfl) ?_
  refine lv_iload_n hx hb (dg D_X12_effort (i := 1) rfl) rfl (lv_at hl 1 rfl) ?_
  refine lv_iload_n hx hb (dg D_X12_effort (i := 2) rfl) rfl (lv_at hl 2 rfl) ?_
  refine callVi X hW hS hR (c_X12_goodSpan (I := I) σ v w (by first | assumption | omega | decide | exact hP.1) (by first | assumption | omega | decide | exact hP.1)) (by decide) UVX12_goodSpan LK_X12_252 rfl (by decide) rfl rfl rfl (Nat.le_of_ble_eq_true rfl) hl hcs (dg D_X12_effort (i := 3) rfl) (fun r3 I3 L1 R1 H locs hq hW hS => ?_)
  obtain ⟨rfl, hT3, hp3_0, rfl, rfl⟩ := hq
  have hF : Fr SLT I I3 := Fr.tr hF hT3 (by intro a j h; simp only [ST, SLT, Bool.or_eq_true, Bool.and_eq_true, beq_iff_eq, decide_eq_true_eq] at h ⊢; omega)
  have hs : I3 68 = σ := by rw [Fr.row hT3 (fun _ => rfl)]; exact hs
  have hth : I3 67 6 = thr (inB v (nS σ) && inB w (Yn σ)) := hp3_0
  refine z_if_eq (tgt := 18) hx hb (dg D_X12_effort (i := 4) rfl) (by decide) (fun c6 => ?_) (fun c6 => ?_)
  · refine n_iconst (a := 0) hx hb (dg D_X12_effort (i := 10) rfl) rfl ?_
    exact fin (dg D_X12_effort (i := 11) rfl) hW hS ⟨fun z => absurd z (by rw [c6]; decide), hF, hth, rfl, rfl⟩
  · obtain ⟨g1, g2⟩ := Bool.and_eq_true_iff.mp c6
    obtain ⟨jv, hjv, rfl⟩ := inB_of g1 (by omega)
    obtain ⟨jw, hjw, rfl⟩ := inB_of g2 (by omega)
    refine lv_aload_n hx hb (dg D_X12_effort (i := 5) rfl) rfl (lv_at hl 0 rfl) ?_
    refine lv_iload_n hx hb (dg D_X12_effort (i := 6) rfl) rfl (lv_at hl 1 rfl) ?_
    refine lv_iload_n hx hb (dg D_X12_effort (i := 7) rfl) rfl (lv_at hl 2 rfl) ?_
    refine callVi X hW hS hR (c_X12_effortOf (I := I3) σ jv jw (by first | assumption | omega | decide | exact hP.1) (by first | assumption | omega | decide | exact hP.1) (by first | assumption | omega | decide | exact hP.1) (by first | assumption | omega | decide | exact hP.1)) (by decide) UVX12_effortOf LK_X12_279 rfl (by decide) rfl rfl rfl (Nat.le_of_ble_eq_true rfl) hl hcs (dg D_X12_effort (i := 8) rfl) (fun r12 I12 L1 R1 H locs hq hW hS => ?_)
    obtain ⟨rfl, hT12, rfl, rfl⟩ := hq
    have hF : Fr SLT I I12 := Fr.tr hF hT12 (by intro a j h; simp only [SL, SLT, Bool.or_eq_true, Bool.and_eq_true, beq_iff_eq, decide_eq_true_eq] at h ⊢; omega)
    have hs : I12 68 = σ := by rw [Fr.row hT12 (fun _ => rfl)]; exact hs
    have hth : I12 67 6 = thr (inB (nI jv) (nS σ) && inB (nI jw) (Yn σ)) := (hT12 67 6 rfl).trans hth
    refine lv_goto (tgt := 19) hx hb (dg D_X12_effort (i := 9) rfl) (by decide) ?_
    exact fin (dg D_X12_effort (i := 11) rfl) hW hS ⟨fun _ => by rw [tN_nI (show jv < 2 ^ 31 by omega), tN_nI (show jw < 2 ^ 31 by omega)], hF, hth, rfl, rfl⟩

set_option maxHeartbeats 4000000 in
set_option maxRecDepth 100000 in
theorem c_X12_goodGang {l : Launch} {G : va_G} {bs : Nat} {cy : Nat → ClassId} {I : CI} {L : CL} {R : CR} (σ : Row) (v : Int32) (w : Int32) (hs : I 68 = σ) (hi : Inv σ) : MTi l G bs cy MX12_goodGang 3 [.ref (bs + 67), .int v, .int w] I L R (fun r I1 L1 R1 => bI (inB v (nG σ) && inB w (Yn σ)) = r ∧ Fr ST I I1 ∧ I1 67 6 = thr (inB v (nG σ) && inB w (Yn σ)) ∧ L = L1 ∧ R = R1) := by
  refine MTz.of (own := RX12) pn_RX12 rfl (Nat.le_of_ble_eq_true rfl) ?_
  intro p e s m args below meth c Qf X hW hS fin ls hl
  have hx := X.1
  have hb := X.2.1
  have hR : RmOK (rmL 3 0 0) 3 := ⟨rfl, rfl⟩
  have hcs : 0 ≤ (rmL 3 0 0).cells ∧ 0 ≤ (rmL 3 0 0).slots := ⟨Nat.zero_le _, Nat.zero_le _⟩
  have hl : lv_has ls 3 [(0, .ref (bs + 67)), (1, .int v), (2, .int w)] := hl
  have hF : Fr ST I I := Fr.rf
  refine lv_aload_n hx hb (dg D_X12_goodGang (i := 0) rfl) rfl (lv_at hl 0 rfl) ?_
  refine lv_aload_n hx hb (dg D_X12_goodGang (i := 1) rfl) rfl (lv_at hl 0 rfl) ?_
  refine lv_iload_n hx hb (dg D_X12_goodGang (i := 2) rfl) rfl (lv_at hl 1 rfl) ?_
  refine callVi X hW hS hR (c_X12_isGang (I := I) σ v (by first | assumption | omega | decide | exact hP.1) (by first | assumption | omega | decide | exact hP.1)) (by decide) UVX12_isGang LK_X12_282 rfl (by decide) rfl rfl rfl (Nat.le_of_ble_eq_true rfl) hl hcs (dg D_X12_goodGang (i := 3) rfl) (fun r3 I3 L1 R1 H locs hq hW hS => ?_)
  obtain ⟨rfl, rfl, rfl, rfl⟩ := hq
  refine z_if_eq (tgt := 21) hx hb (dg D_X12_goodGang (i := 4) rfl) (by decide) (fun c6 => ?_) (fun c6 => ?_)
  · refine n_iconst (a := 0) hx hb (dg D_X12_goodGang (i := 11) rfl) rfl ?_
    refine callVi X hW hS hR (c_X12_good (I := I) false) (by decide) UVX12_good LK_X12_95 rfl (by decide) rfl rfl rfl (Nat.le_of_ble_eq_true rfl) hl hcs (dg D_X12_goodGang (i := 12) rfl) (fun r22 I22 L1 R1 H locs hq hW hS => ?_)
    obtain ⟨rfl, hT22, hp22_0, rfl, rfl⟩ := hq
    have hF : Fr ST I I22 := Fr.tr hF hT22 (fun _ _ h => h)
    exact fin (dg D_X12_goodGang (i := 13) rfl) hW hS rfl ⟨by first | rw [c6, c14]; rfl | (rw [c6]; rfl), hF, by first | (rw [c6, c14]; exact hp22_0) | (rw [c6]; exact hp22_0), rfl, rfl⟩
  · refine lv_aload_n hx hb (dg D_X12_goodGang (i := 5) rfl) rfl (lv_at hl 0 rfl) ?_
    refine lv_iload_n hx hb (dg D_X12_goodGang (i := 6) rfl) rfl (lv_at hl 2 rfl) ?_
    refine callVi X hW hS hR (c_X12_isYear (I := I) σ w (by first | assumption | omega | decide | exact hP.1) (by first | assumption | omega | decide | exact hP.1)) (by decide) UVX12_isYear LK_X12_92 rfl (by decide) rfl rfl rfl (Nat.le_of_ble_eq_true rfl) hl hcs (dg D_X12_goodGang (i := 7) rfl) (fun r11 I11 L1 R1 H locs hq hW hS => ?_)
    obtain ⟨rfl, rfl, rfl, rfl⟩ := hq
    refine z_if_eq (tgt := 21) hx hb (dg D_X12_goodGang (i := 8) rfl) (by decide) (fun c14 => ?_) (fun c14 => ?_)
    · refine n_iconst (a := 0) hx hb (dg D_X12_goodGang (i := 11) rfl) rfl ?_
      refine callVi X hW hS hR (c_X12_good (I := I) false) (by decide) UVX12_good LK_X12_95 rfl (by decide) rfl rfl rfl (Nat.le_of_ble_eq_true rfl) hl hcs (dg D_X12_goodGang (i := 12) rfl) (fun r22 I22 L1 R1 H locs hq hW hS => ?_)
      obtain ⟨rfl, hT22, hp22_0, rfl, rfl⟩ := hq
      have hF : Fr ST I I22 := Fr.tr hF hT22 (fun _ _ h => h)
      exact fin (dg D_X12_goodGang (i := 13) rfl) hW hS rfl ⟨by first | rw [c6, c14]; rfl | (rw [c6]; rfl), hF, by first | (rw [c6, c14]; exact hp22_0) | (rw [c6]; exact hp22_0), rfl, rfl⟩
    · refine n_iconst (a := 1) hx hb (dg D_X12_goodGang (i := 9) rfl) rfl ?_
      refine lv_goto (tgt := 22) hx hb (dg D_X12_goodGang (i := 10) rfl) (by decide) ?_
      refine callVi X hW hS hR (c_X12_good (I := I) true) (by decide) UVX12_good LK_X12_95 rfl (by decide) rfl rfl rfl (Nat.le_of_ble_eq_true rfl) hl hcs (dg D_X12_goodGang (i := 12) rfl) (fun r22 I22 L1 R1 H locs hq hW hS => ?_)
      obtain ⟨rfl, hT22, hp22_0, rfl, rfl⟩ := hq
      have hF : Fr ST I I22 := Fr.tr hF hT22 (fun _ _ h => h)
      exact fin (dg D_X12_goodGang (i := 13) rfl) hW hS rfl ⟨by first | rw [c6, c14]; rfl | (rw [c6]; rfl), hF, by first | (rw [c6, c14]; exact hp22_0) | (rw [c6]; exact hp22_0), rfl, rfl⟩

set_option maxHeartbeats 4000000 in
set_option maxRecDepth 100000 in
theorem c_X12_capacity {l : Launch} {G : va_G} {bs : Nat} {cy : Nat → ClassId} {I : CI} {L : CL} {R : CR} (σ : Row) (v : Int32) (w : Int32) (hs : I 68 = σ) (hi : Inv σ) : MTi l G bs cy MX12_capacity 4 [.ref (bs + 67), .int v, .int w] I L R (fun r I1 L1 R1 => ((inB v (nG σ) && inB w (Yn σ)) = true → r = cap σ (tN v) (tN w)) ∧ Fr SLT I I1 ∧ I1 67 6 = thr (inB v (nG σ) && inB w (Yn σ)) ∧ L = L1 ∧ R = R1) := by
  refine MTi.of (own := RX12) pn_RX12 rfl (Nat.le_of_ble_eq_true rfl) ?_
  intro p e s m args below meth c Qf X hW hS fin ls hl
  have hx := X.1
  have hb := X.2.1
  have hR : RmOK (rmL 4 0 0) 4 := ⟨rfl, rfl⟩
  have hcs : 0 ≤ (rmL 4 0 0).cells ∧ 0 ≤ (rmL 4 0 0).slots := ⟨Nat.zero_le _, Nat.zero_le _⟩
  have hl : lv_has ls 3 [(0, .ref (bs + 67)), (1, .int v), (2, .int w)] := hl
  have hF : Fr SLT I I := Fr.rf
  obtain ⟨hY, hY1, hY12, hLn, hL4, hSn, hS12, hGn, hG5⟩ := id hi
  refine lv_aload_n hx hb (dg D_X12_capacity (i := 0) rfl) rfl (lv_at hl 0 rfl) ?_
  refine lv_iload_n hx hb (dg D_X12_capacity (i := 1) rfl) rfl (lv_at hl 1 rfl) ?_
  refine lv_iload_n hx hb (dg D_X12_capacity (i := 2) rfl) rfl (lv_at hl 2 rfl) ?_
  refine callVi X hW hS hR (c_X12_goodGang (I := I) σ v w (by first | assumption | omega | decide | exact hP.1) (by first | assumption | omega | decide | exact hP.1)) (by decide) UVX12_goodGang LK_X12_285 rfl (by decide) rfl rfl rfl (Nat.le_of_ble_eq_true rfl) hl hcs (dg D_X12_capacity (i := 3) rfl) (fun r3 I3 L1 R1 H locs hq hW hS => ?_)
  obtain ⟨rfl, hT3, hp3_0, rfl, rfl⟩ := hq
  have hF : Fr SLT I I3 := Fr.tr hF hT3 (by intro a j h; simp only [ST, SLT, Bool.or_eq_true, Bool.and_eq_true, beq_iff_eq, decide_eq_true_eq] at h ⊢; omega)
  have hs : I3 68 = σ := by rw [Fr.row hT3 (fun _ => rfl)]; exact hs
  have hth : I3 67 6 = thr (inB v (nG σ) && inB w (Yn σ)) := hp3_0
  refine z_if_eq (tgt := 18) hx hb (dg D_X12_capacity (i := 4) rfl) (by decide) (fun c6 => ?_) (fun c6 => ?_)
  · refine n_iconst (a := 0) hx hb (dg D_X12_capacity (i := 10) rfl) rfl ?_
    exact fin (dg D_X12_capacity (i := 11) rfl) hW hS ⟨fun z => absurd z (by rw [c6]; decide), hF, hth, rfl, rfl⟩
  · obtain ⟨g1, g2⟩ := Bool.and_eq_true_iff.mp c6
    obtain ⟨jv, hjv, rfl⟩ := inB_of g1 (by omega)
    obtain ⟨jw, hjw, rfl⟩ := inB_of g2 (by omega)
    refine lv_aload_n hx hb (dg D_X12_capacity (i := 5) rfl) rfl (lv_at hl 0 rfl) ?_
    refine lv_iload_n hx hb (dg D_X12_capacity (i := 6) rfl) rfl (lv_at hl 1 rfl) ?_
    refine lv_iload_n hx hb (dg D_X12_capacity (i := 7) rfl) rfl (lv_at hl 2 rfl) ?_
    refine callVi X hW hS hR (c_X12_capacityOf (I := I3) σ jv jw (by first | assumption | omega | decide | exact hP.1) (by first | assumption | omega | decide | exact hP.1) (by first | assumption | omega | decide | exact hP.1)) (by decide) UVX12_capacityOf LK_X12_288 rfl (by decide) rfl rfl rfl (Nat.le_of_ble_eq_true rfl) hl hcs (dg D_X12_capacity (i := 8) rfl) (fun r12 I12 L1 R1 H locs hq hW hS => ?_)
    obtain ⟨rfl, rfl, rfl, rfl⟩ := hq
    refine lv_goto (tgt := 19) hx hb (dg D_X12_capacity (i := 9) rfl) (by decide) ?_
    exact fin (dg D_X12_capacity (i := 11) rfl) hW hS ⟨fun _ => by rw [tN_nI (show jv < 2 ^ 31 by omega), tN_nI (show jw < 2 ^ 31 by omega)], hF, hth, rfl, rfl⟩

set_option maxHeartbeats 4000000 in
set_option maxRecDepth 100000 in
theorem c_X12_loadOf {l : Launch} {G : va_G} {bs : Nat} {cy : Nat → ClassId} {I : CI} {L : CL} {R : CR} (σ : Row) (v : Int32) (w : Int32) (hs : I 68 = σ) (hi : Inv σ) : MTi l G bs cy MX12_loadOf 6 [.ref (bs + 67), .int v, .int w] I L R (fun r I1 L1 R1 => ((inB v (nG σ) && inB w (Yn σ)) = true → r = lod σ v (tN w)) ∧ Fr SLT I I1 ∧ I1 67 6 = thr (inB v (nG σ) && inB w (Yn σ)) ∧ L = L1 ∧ R = R1) := by
  refine MTi.of (own := RX12) pn_RX12 rfl (Nat.le_of_ble_eq_true rfl) ?_
  intro p e s m args below meth c Qf X hW hS fin ls hl
  have hx := X.1
  have hb := X.2.1
  have hR : RmOK (rmL 6 0 0) 6 := ⟨rfl, rfl⟩
  have hcs : 0 ≤ (rmL 6 0 0).cells ∧ 0 ≤ (rmL 6 0 0).slots := ⟨Nat.zero_le _, Nat.zero_le _⟩
  have hl : lv_has ls 3 [(0, .ref (bs + 67)), (1, .int v), (2, .int w)] := hl
  have hF : Fr SLT I I := Fr.rf
  obtain ⟨hY, hY1, hY12, hLn, hL4, hSn, hS12, hGn, hG5⟩ := id hi
  refine lv_aload_n hx hb (dg D_X12_loadOf (i := 0) rfl) rfl (lv_at hl 0 rfl) ?_
  refine lv_iload_n hx hb (dg D_X12_loadOf (i := 1) rfl) rfl (lv_at hl 1 rfl) ?_
  refine lv_iload_n hx hb (dg D_X12_loadOf (i := 2) rfl) rfl (lv_at hl 2 rfl) ?_
  refine callVi X hW hS hR (c_X12_goodGang (I := I) σ v w (by first | assumption | omega | decide | exact hP.1) (by first | assumption | omega | decide | exact hP.1)) (by decide) UVX12_goodGang LK_X12_285 rfl (by decide) rfl rfl rfl (Nat.le_of_ble_eq_true rfl) hl hcs (dg D_X12_loadOf (i := 3) rfl) (fun r3 I3 L1 R1 H locs hq hW hS => ?_)
  obtain ⟨rfl, hT3, hp3_0, rfl, rfl⟩ := hq
  have hF : Fr SLT I I3 := Fr.tr hF hT3 (by intro a j h; simp only [ST, SLT, Bool.or_eq_true, Bool.and_eq_true, beq_iff_eq, decide_eq_true_eq] at h ⊢; omega)
  have hs : I3 68 = σ := by rw [Fr.row hT3 (fun _ => rfl)]; exact hs
  have hth : I3 67 6 = thr (inB v (nG σ) && inB w (Yn σ)) := hp3_0
  refine z_if_eq (tgt := 18) hx hb (dg D_X12_loadOf (i := 4) rfl) (by decide) (fun c6 => ?_) (fun c6 => ?_)
  · refine n_iconst (a := 0) hx hb (dg D_X12_loadOf (i := 10) rfl) rfl ?_
    exact fin (dg D_X12_loadOf (i := 11) rfl) hW hS ⟨fun z => absurd z (by rw [c6]; decide), hF, hth, rfl, rfl⟩
  · obtain ⟨g1, g2⟩ := Bool.and_eq_true_iff.mp c6
    obtain ⟨jv, hjv, rfl⟩ := inB_of g1 (by omega)
    obtain ⟨jw, hjw, rfl⟩ := inB_of g2 (by omega)
    refine lv_aload_n hx hb (dg D_X12_loadOf (i := 5) rfl) rfl (lv_at hl 0 rfl) ?_
    refine lv_iload_n hx hb (dg D_X12_loadOf (i := 6) rfl) rfl (lv_at hl 1 rfl) ?_
    refine lv_iload_n hx hb (dg D_X12_loadOf (i := 7) rfl) rfl (lv_at hl 2 rfl) ?_
    refine callVi X hW hS hR (c_X12_loadIn (I := I3) σ (nI jv) jw (by first | assumption | omega | decide | exact hP.1) (by first | assumption | omega | decide | exact hP.1) (by first | assumption | omega | decide | exact hP.1)) (by decide) UVX12_loadIn LK_X12_291 rfl (by decide) rfl rfl rfl (Nat.le_of_ble_eq_true rfl) hl hcs (dg D_X12_loadOf (i := 8) rfl) (fun r12 I12 L1 R1 H locs hq hW hS => ?_)
    obtain ⟨rfl, hT12, rfl, rfl⟩ := hq
    have hF : Fr SLT I I12 := Fr.tr hF hT12 (by intro a j h; simp only [SL, SLT, Bool.or_eq_true, Bool.and_eq_true, beq_iff_eq, decide_eq_true_eq] at h ⊢; omega)
    have hs : I12 68 = σ := by rw [Fr.row hT12 (fun _ => rfl)]; exact hs
    have hth : I12 67 6 = thr (inB (nI jv) (nG σ) && inB (nI jw) (Yn σ)) := (hT12 67 6 rfl).trans hth
    refine lv_goto (tgt := 19) hx hb (dg D_X12_loadOf (i := 9) rfl) (by decide) ?_
    exact fin (dg D_X12_loadOf (i := 11) rfl) hW hS ⟨fun _ => by rw [tN_nI (show jw < 2 ^ 31 by omega)], hF, hth, rfl, rfl⟩

set_option maxHeartbeats 4000000 in
set_option maxRecDepth 100000 in
theorem c_X12_orNotFound {l : Launch} {G : va_G} {bs : Nat} {cy : Nat → ClassId} {I : CI} {L : CL} {R : CR} (v : Int32) : MTi l G bs cy MX12_orNotFound 1 [.int v] I L R (fun r I1 L1 R1 => (if v = -1 then NOTF else v) = r ∧ I = I1 ∧ L = L1 ∧ R = R1) := by
  refine MTi.of (own := RX12) pn_RX12 rfl (Nat.le_of_ble_eq_true rfl) ?_
  intro p e s m args below meth c Qf X hW hS fin ls hl
  have hx := X.1
  have hb := X.2.1
  have hR : RmOK (rmL 1 0 0) 1 := ⟨rfl, rfl⟩
  have hcs : 0 ≤ (rmL 1 0 0).cells ∧ 0 ≤ (rmL 1 0 0).slots := ⟨Nat.zero_le _, Nat.zero_le _⟩
  have hl : lv_has ls 1 [(0, .int v)] := hl
  refine lv_iload_n hx hb (dg D_X12_orNotFound (i := 0) rfl) rfl (lv_at hl 0 rfl) ?_
  refine lv_iconst (v := -1) hx hb (dg D_X12_orNotFound (i := 1) rfl) (by decide) ?_
  refine lv_icmp_ne (tgt := 10) hx hb (dg D_X12_orNotFound (i := 2) rfl) (by decide) (fun c2 => ?_) (fun c2 => ?_)
  · refine lv_iload_n hx hb (dg D_X12_orNotFound (i := 5) rfl) rfl (lv_at hl 0 rfl) ?_
    exact fin (dg D_X12_orNotFound (i := 6) rfl) hW hS ⟨by first | rw [if_pos c2] | rw [if_neg c2], rfl, rfl, rfl⟩
  · refine r_ldc X CK_X12_28 (dg D_X12_orNotFound (i := 3) rfl) ?_
    refine lv_goto (tgt := 11) hx hb (dg D_X12_orNotFound (i := 4) rfl) (by decide) ?_
    exact fin (dg D_X12_orNotFound (i := 6) rfl) hW hS ⟨by first | rw [if_pos c2] | rw [if_neg c2], rfl, rfl, rfl⟩

set_option maxHeartbeats 4000000 in
set_option maxRecDepth 100000 in
theorem c_X12_gangOf {l : Launch} {G : va_G} {bs : Nat} {cy : Nat → ClassId} {I : CI} {L : CL} {R : CR} (σ : Row) (v : Int32) (w : Int32) (hs : I 68 = σ) (hi : Inv σ) : MTi l G bs cy MX12_gangOf 4 [.ref (bs + 67), .int v, .int w] I L R (fun r I1 L1 R1 => ((inB v (nS σ) && inB w (Yn σ)) = true → r = (if pnt σ (tN v) (tN w) = -1 then NOTF else pnt σ (tN v) (tN w))) ∧ Fr SLT I I1 ∧ I1 67 6 = thr (inB v (nS σ) && inB w (Yn σ)) ∧ L = L1 ∧ R = R1) := by
  refine MTi.of (own := RX12) pn_RX12 rfl (Nat.le_of_ble_eq_true rfl) ?_
  intro p e s m args below meth c Qf X hW hS fin ls hl
  have hx := X.1
  have hb := X.2.1
  have hR : RmOK (rmL 4 0 0) 4 := ⟨rfl, rfl⟩
  have hcs : 0 ≤ (rmL 4 0 0).cells ∧ 0 ≤ (rmL 4 0 0).slots := ⟨Nat.zero_le _, Nat.zero_le _⟩
  have hl : lv_has ls 3 [(0, .ref (bs + 67)), (1, .int v), (2, .int w)] := hl
  have hF : Fr SLT I I := Fr.rf
  obtain ⟨hY, hY1, hY12, hLn, hL4, hSn, hS12, hGn, hG5⟩ := id hi
  refine lv_aload_n hx hb (dg D_X12_gangOf (i := 0) rfl) rfl (lv_at hl 0 rfl) ?_
  refine lv_iload_n hx hb (dg D_X12_gangOf (i := 1) rfl) rfl (lv_at hl 1 rfl) ?_
  refine lv_iload_n hx hb (dg D_X12_gangOf (i := 2) rfl) rfl (lv_at hl 2 rfl) ?_
  refine callVi X hW hS hR (c_X12_goodSpan (I := I) σ v w (by first | assumption | omega | decide | exact hP.1) (by first | assumption | omega | decide | exact hP.1)) (by decide) UVX12_goodSpan LK_X12_252 rfl (by decide) rfl rfl rfl (Nat.le_of_ble_eq_true rfl) hl hcs (dg D_X12_gangOf (i := 3) rfl) (fun r3 I3 L1 R1 H locs hq hW hS => ?_)
  obtain ⟨rfl, hT3, hp3_0, rfl, rfl⟩ := hq
  have hF : Fr SLT I I3 := Fr.tr hF hT3 (by intro a j h; simp only [ST, SLT, Bool.or_eq_true, Bool.and_eq_true, beq_iff_eq, decide_eq_true_eq] at h ⊢; omega)
  have hs : I3 68 = σ := by rw [Fr.row hT3 (fun _ => rfl)]; exact hs
  have hth : I3 67 6 = thr (inB v (nS σ) && inB w (Yn σ)) := hp3_0
  refine z_if_eq (tgt := 21) hx hb (dg D_X12_gangOf (i := 4) rfl) (by decide) (fun c6 => ?_) (fun c6 => ?_)
  · refine n_iconst (a := 0) hx hb (dg D_X12_gangOf (i := 11) rfl) rfl ?_
    exact fin (dg D_X12_gangOf (i := 12) rfl) hW hS ⟨fun z => absurd z (by rw [c6]; decide), hF, hth, rfl, rfl⟩
  · obtain ⟨g1, g2⟩ := Bool.and_eq_true_iff.mp c6
    obtain ⟨jv, hjv, rfl⟩ := inB_of g1 (by omega)
    obtain ⟨jw, hjw, rfl⟩ := inB_of g2 (by omega)
    refine lv_aload_n hx hb (dg D_X12_gangOf (i := 5) rfl) rfl (lv_at hl 0 rfl) ?_
    refine lv_iload_n hx hb (dg D_X12_gangOf (i := 6) rfl) rfl (lv_at hl 1 rfl) ?_
    refine lv_iload_n hx hb (dg D_X12_gangOf (i := 7) rfl) rfl (lv_at hl 2 rfl) ?_
    refine callVi X hW hS hR (c_X12_painter (I := I3) σ jv jw (by first | assumption | omega | decide | exact hP.1) (by first | assumption | omega | decide | exact hP.1) (by first | assumption | omega | decide | exact hP.1)) (by decide) UVX12_painter LK_X12_233 rfl (by decide) rfl rfl rfl (Nat.le_of_ble_eq_true rfl) hl hcs (dg D_X12_gangOf (i := 8) rfl) (fun r12 I12 L1 R1 H locs hq hW hS => ?_)
    obtain ⟨rfl, rfl, rfl, rfl⟩ := hq
    refine callSi X hW hS hR (c_X12_orNotFound (I := I3) (pnt σ jv jw)) (by decide) USX12_orNotFound LK_X12_294 rfl rfl (Nat.le_of_ble_eq_true rfl) hl hcs (dg D_X12_gangOf (i := 9) rfl) (fun r15 I15 L1 R1 H locs hq hW hS => ?_)
    obtain ⟨rfl, rfl, rfl, rfl⟩ := hq
    refine lv_goto (tgt := 22) hx hb (dg D_X12_gangOf (i := 10) rfl) (by decide) ?_
    exact fin (dg D_X12_gangOf (i := 12) rfl) hW hS ⟨fun _ => by rw [tN_nI (show jv < 2 ^ 31 by omega), tN_nI (show jw < 2 ^ 31 by omega)], hF, hth, rfl, rfl⟩

set_option maxHeartbeats 4000000 in
set_option maxRecDepth 100000 in
theorem c_X12_paintedSpans {l : Launch} {G : va_G} {bs : Nat} {cy : Nat → ClassId} {I : CI} {L : CL} {R : CR} (σ : Row) (v : Int32) (hs : I 68 = σ) (hi : Inv σ) : MTi l G bs cy MX12_paintedSpans 3 [.ref (bs + 67), .int v] I L R (fun r I1 L1 R1 => ((inB v (Yn σ)) = true → r = orT (setF (fun x => ptd σ x (tN v))) (nS σ)) ∧ Fr SLT I I1 ∧ I1 67 6 = thr (inB v (Yn σ)) ∧ L = L1 ∧ R = R1) := by
  refine MTi.of (own := RX12) pn_RX12 rfl (Nat.le_of_ble_eq_true rfl) ?_
  intro p e s m args below meth c Qf X hW hS fin ls hl
  have hx := X.1
  have hb := X.2.1
  have hR : RmOK (rmL 3 0 0) 3 := ⟨rfl, rfl⟩
  have hcs : 0 ≤ (rmL 3 0 0).cells ∧ 0 ≤ (rmL 3 0 0).slots := ⟨Nat.zero_le _, Nat.zero_le _⟩
  have hl : lv_has ls 4 [(0, .ref (bs + 67)), (1, .int v)] := hl
  have hF : Fr SLT I I := Fr.rf
  obtain ⟨hY, hY1, hY12, hLn, hL4, hSn, hS12, hGn, hG5⟩ := id hi
  refine lv_aload_n hx hb (dg D_X12_paintedSpans (i := 0) rfl) rfl (lv_at hl 0 rfl) ?_
  refine lv_aload_n hx hb (dg D_X12_paintedSpans (i := 1) rfl) rfl (lv_at hl 0 rfl) ?_
  refine lv_iload_n hx hb (dg D_X12_paintedSpans (i := 2) rfl) rfl (lv_at hl 1 rfl) ?_
  refine callVi X hW hS hR (c_X12_isYear (I := I) σ v (by first | assumption | omega | decide | exact hP.1) (by first | assumption | omega | decide | exact hP.1)) (by decide) UVX12_isYear LK_X12_92 rfl (by decide) rfl rfl rfl (Nat.le_of_ble_eq_true rfl) hl hcs (dg D_X12_paintedSpans (i := 3) rfl) (fun r3 I3 L1 R1 H locs hq hW hS => ?_)
  obtain ⟨rfl, rfl, rfl, rfl⟩ := hq
  refine callVi X hW hS hR (c_X12_good (I := I) (inB v (Yn σ))) (by decide) UVX12_good LK_X12_95 rfl (by decide) rfl rfl rfl (Nat.le_of_ble_eq_true rfl) hl hcs (dg D_X12_paintedSpans (i := 4) rfl) (fun r6 I6 L1 R1 H locs hq hW hS => ?_)
  obtain ⟨rfl, hT6, hp6_0, rfl, rfl⟩ := hq
  have hF : Fr SLT I I6 := Fr.tr hF hT6 (by intro a j h; simp only [ST, SLT, Bool.or_eq_true, Bool.and_eq_true, beq_iff_eq, decide_eq_true_eq] at h ⊢; omega)
  have hs : I6 68 = σ := by rw [Fr.row hT6 (fun _ => rfl)]; exact hs
  have hth : I6 67 6 = thr (inB v (Yn σ)) := hp6_0
  refine z_if_ne (tgt := 14) hx hb (dg D_X12_paintedSpans (i := 5) rfl) (by decide) (fun c9 => ?_) (fun c9 => ?_)
  · obtain ⟨jv, hjv, rfl⟩ := inB_of c9 (by omega)
    refine n_iconst (a := 0) hx hb (dg D_X12_paintedSpans (i := 8) rfl) rfl ?_
    refine lv_istore_n (lv' := [(2, .int (nI 0)), (0, .ref (bs + 67)), (1, .int (nI jv))]) hx hb (dg D_X12_paintedSpans (i := 9) rfl) rfl hl (by decide) rfl (fun ls hl => ?_)
    refine n_iconst (a := 0) hx hb (dg D_X12_paintedSpans (i := 10) rfl) rfl ?_
    refine lv_istore_n (lv' := [(3, .int (nI 0)), (2, .int (nI 0)), (0, .ref (bs + 67)), (1, .int (nI jv))]) hx hb (dg D_X12_paintedSpans (i := 11) rfl) rfl hl (by decide) rfl (fun ls hl => ?_)
    have loop18 := up_ind (P := fun x => ∀ (H : Heap) (locs : List Loc) (ls : Array Slot) (v2 : Int32) (v3 : Int32), v2 = orT (setF (fun x => ptd σ x jv)) x → v3 = nI x → Wd G bs cy I6 L R H → va_S (Aq bs) s.heap H locs → lv_has ls 4 [(0, .ref (bs + 67)), (1, .int (nI jv)), (2, .int v2), (3, .int v3)] → W p l e (rmL 3 0 0) s m args below meth c H locs 0 0 Qf (F0 m 18 ls [])) (nS σ) (fun x hx18 ih18 => by
        intro H locs ls v2 v3 q2 q3 hW hS hl
        subst q2
        subst q3
        refine lv_iload_n hx hb (dg D_X12_paintedSpans (i := 12) rfl) rfl (lv_at hl 3 rfl) ?_
        refine lv_aload_n hx hb (dg D_X12_paintedSpans (i := 13) rfl) rfl (lv_at hl 0 rfl) ?_
        refine r_getc (t := 68) X hW FI_X12_7 rfl (by decide) rfl (dg D_X12_paintedSpans (i := 14) rfl) ?_
        refine n_iconst (a := 4) hx hb (dg D_X12_paintedSpans (i := 15) rfl) rfl ?_
        refine r_ald (j := 4) (v := nI (nS σ)) X hW rfl (by decide) rfl (by omega) (by decide) ((congrFun hs _).trans hSn) (dg D_X12_paintedSpans (i := 16) rfl) ?_
        refine n_icmp_ge (tgt := 54) hx hb (by omega) (by omega) (dg D_X12_paintedSpans (i := 17) rfl) (by decide) (fun c25 => ?_) (fun c25 => ?_)
        · refine lv_iload_n hx hb (dg D_X12_paintedSpans (i := 34) rfl) rfl (lv_at hl 2 rfl) ?_
          exact fin (dg D_X12_paintedSpans (i := 35) rfl) hW hS ⟨fun _ => by rw [tN_nI (show jv < 2 ^ 31 by omega), show x = nS σ by omega], hF, hth, rfl, rfl⟩
        · refine lv_iload_n hx hb (dg D_X12_paintedSpans (i := 18) rfl) rfl (lv_at hl 2 rfl) ?_
          refine lv_aload_n hx hb (dg D_X12_paintedSpans (i := 19) rfl) rfl (lv_at hl 0 rfl) ?_
          refine lv_iload_n hx hb (dg D_X12_paintedSpans (i := 20) rfl) rfl (lv_at hl 3 rfl) ?_
          refine lv_iload_n hx hb (dg D_X12_paintedSpans (i := 21) rfl) rfl (lv_at hl 1 rfl) ?_
          refine callVi X hW hS hR (c_X12_painter (I := I6) σ x jv (by first | assumption | omega | decide | exact hP.1) (by first | assumption | omega | decide | exact hP.1) (by first | assumption | omega | decide | exact hP.1)) (by decide) UVX12_painter LK_X12_233 rfl (by decide) rfl rfl rfl (Nat.le_of_ble_eq_true rfl) hl hcs (dg D_X12_paintedSpans (i := 22) rfl) (fun r32 I32 L1 R1 H locs hq hW hS => ?_)
          obtain ⟨rfl, rfl, rfl, rfl⟩ := hq
          refine lv_iconst (v := -1) hx hb (dg D_X12_paintedSpans (i := 23) rfl) (by decide) ?_
          refine lv_icmp_eq (tgt := 45) hx hb (dg D_X12_paintedSpans (i := 24) rfl) (by decide) (fun c36 => ?_) (fun c36 => ?_)
          · refine n_iconst (a := 0) hx hb (dg D_X12_paintedSpans (i := 29) rfl) rfl ?_
            refine lv_ior hx hb (dg D_X12_paintedSpans (i := 30) rfl) ?_
            refine lv_istore_n (lv' := [(2, .int ((orT (setF (fun x => ptd σ x jv)) x) ||| (nI 0))), (0, .ref (bs + 67)), (1, .int (nI jv)), (3, .int (nI x))]) hx hb (dg D_X12_paintedSpans (i := 31) rfl) rfl hl (by decide) rfl (fun ls hl => ?_)
            refine lv_iinc (v := nI (x + 1)) (lv' := [(3, .int (nI (x + 1))), (2, .int ((orT (setF (fun x => ptd σ x jv)) x) ||| (nI 0))), (0, .ref (bs + 67)), (1, .int (nI jv))]) hx hb (dg D_X12_paintedSpans (i := 32) rfl) hl (k := 3) rfl (nI_add _ _) (by decide) rfl (fun ls hl => ?_)
            refine lv_goto (tgt := 18) hx hb (dg D_X12_paintedSpans (i := 33) rfl) (by decide) ?_
            exact ih18 (by omega) _ _ _ _ _ (by show _ = _ ||| setF (fun x => ptd σ x jv) x; first | rw [setF_t (p := fun x => ptd σ x jv) (decide_eq_true c36)] | rw [setF_f (p := fun x => ptd σ x jv) (decide_eq_false (fun z => z c36))]) (congrArg nI (by omega)) hW hS (lv_sub hl [2, 3, 1, 0] rfl)
          · refine n_iconst (a := 1) hx hb (dg D_X12_paintedSpans (i := 25) rfl) rfl ?_
            refine lv_iload_n hx hb (dg D_X12_paintedSpans (i := 26) rfl) rfl (lv_at hl 3 rfl) ?_
            refine lv_ishl hx hb (dg D_X12_paintedSpans (i := 27) rfl) ?_
            refine lv_goto (tgt := 46) hx hb (dg D_X12_paintedSpans (i := 28) rfl) (by decide) ?_
            refine lv_ior hx hb (dg D_X12_paintedSpans (i := 30) rfl) ?_
            refine lv_istore_n (lv' := [(2, .int ((orT (setF (fun x => ptd σ x jv)) x) ||| ((nI 1) <<< ((nI x) &&& 31)))), (0, .ref (bs + 67)), (1, .int (nI jv)), (3, .int (nI x))]) hx hb (dg D_X12_paintedSpans (i := 31) rfl) rfl hl (by decide) rfl (fun ls hl => ?_)
            refine lv_iinc (v := nI (x + 1)) (lv' := [(3, .int (nI (x + 1))), (2, .int ((orT (setF (fun x => ptd σ x jv)) x) ||| ((nI 1) <<< ((nI x) &&& 31)))), (0, .ref (bs + 67)), (1, .int (nI jv))]) hx hb (dg D_X12_paintedSpans (i := 32) rfl) hl (k := 3) rfl (nI_add _ _) (by decide) rfl (fun ls hl => ?_)
            refine lv_goto (tgt := 18) hx hb (dg D_X12_paintedSpans (i := 33) rfl) (by decide) ?_
            exact ih18 (by omega) _ _ _ _ _ (by show _ = _ ||| setF (fun x => ptd σ x jv) x; first | rw [setF_t (p := fun x => ptd σ x jv) (decide_eq_true c36)] | rw [setF_f (p := fun x => ptd σ x jv) (decide_eq_false (fun z => z c36))]) (congrArg nI (by omega)) hW hS (lv_sub hl [2, 3, 1, 0] rfl))
    exact loop18 0 (Nat.zero_le _) _ _ _ _ _ (rfl) (congrArg nI (by omega)) hW hS (lv_sub hl [2, 3, 1, 0] rfl)
  · refine n_iconst (a := 0) hx hb (dg D_X12_paintedSpans (i := 6) rfl) rfl ?_
    exact fin (dg D_X12_paintedSpans (i := 7) rfl) hW hS ⟨fun z => absurd z (by rw [c9]; decide), hF, hth, rfl, rfl⟩

set_option maxHeartbeats 4000000 in
set_option maxRecDepth 100000 in
theorem c_X12_lanesShut {l : Launch} {G : va_G} {bs : Nat} {cy : Nat → ClassId} {I : CI} {L : CL} {R : CR} (σ : Row) (v : Int32) (hs : I 68 = σ) (hi : Inv σ) : MTi l G bs cy MX12_lanesShut 3 [.ref (bs + 67), .int v] I L R (fun r I1 L1 R1 => ((inB v (Yn σ)) = true → r = shu σ (tN v)) ∧ Fr SLT I I1 ∧ I1 67 6 = thr (inB v (Yn σ)) ∧ L = L1 ∧ R = R1) := by
  refine MTi.of (own := RX12) pn_RX12 rfl (Nat.le_of_ble_eq_true rfl) ?_
  intro p e s m args below meth c Qf X hW hS fin ls hl
  have hx := X.1
  have hb := X.2.1
  have hR : RmOK (rmL 3 0 0) 3 := ⟨rfl, rfl⟩
  have hcs : 0 ≤ (rmL 3 0 0).cells ∧ 0 ≤ (rmL 3 0 0).slots := ⟨Nat.zero_le _, Nat.zero_le _⟩
  have hl : lv_has ls 2 [(0, .ref (bs + 67)), (1, .int v)] := hl
  have hF : Fr SLT I I := Fr.rf
  obtain ⟨hY, hY1, hY12, hLn, hL4, hSn, hS12, hGn, hG5⟩ := id hi
  refine lv_aload_n hx hb (dg D_X12_lanesShut (i := 0) rfl) rfl (lv_at hl 0 rfl) ?_
  refine lv_aload_n hx hb (dg D_X12_lanesShut (i := 1) rfl) rfl (lv_at hl 0 rfl) ?_
  refine lv_iload_n hx hb (dg D_X12_lanesShut (i := 2) rfl) rfl (lv_at hl 1 rfl) ?_
  refine callVi X hW hS hR (c_X12_isYear (I := I) σ v (by first | assumption | omega | decide | exact hP.1) (by first | assumption | omega | decide | exact hP.1)) (by decide) UVX12_isYear LK_X12_92 rfl (by decide) rfl rfl rfl (Nat.le_of_ble_eq_true rfl) hl hcs (dg D_X12_lanesShut (i := 3) rfl) (fun r3 I3 L1 R1 H locs hq hW hS => ?_)
  obtain ⟨rfl, rfl, rfl, rfl⟩ := hq
  refine callVi X hW hS hR (c_X12_good (I := I) (inB v (Yn σ))) (by decide) UVX12_good LK_X12_95 rfl (by decide) rfl rfl rfl (Nat.le_of_ble_eq_true rfl) hl hcs (dg D_X12_lanesShut (i := 4) rfl) (fun r6 I6 L1 R1 H locs hq hW hS => ?_)
  obtain ⟨rfl, hT6, hp6_0, rfl, rfl⟩ := hq
  have hF : Fr SLT I I6 := Fr.tr hF hT6 (by intro a j h; simp only [ST, SLT, Bool.or_eq_true, Bool.and_eq_true, beq_iff_eq, decide_eq_true_eq] at h ⊢; omega)
  have hs : I6 68 = σ := by rw [Fr.row hT6 (fun _ => rfl)]; exact hs
  have hth : I6 67 6 = thr (inB v (Yn σ)) := hp6_0
  refine z_if_eq (tgt := 20) hx hb (dg D_X12_lanesShut (i := 5) rfl) (by decide) (fun c9 => ?_) (fun c9 => ?_)
  · refine n_iconst (a := 0) hx hb (dg D_X12_lanesShut (i := 10) rfl) rfl ?_
    exact fin (dg D_X12_lanesShut (i := 11) rfl) hW hS ⟨fun z => absurd z (by rw [c9]; decide), hF, hth, rfl, rfl⟩
  · obtain ⟨jv, hjv, rfl⟩ := inB_of c9 (by omega)
    refine lv_aload_n hx hb (dg D_X12_lanesShut (i := 6) rfl) rfl (lv_at hl 0 rfl) ?_
    refine lv_iload_n hx hb (dg D_X12_lanesShut (i := 7) rfl) rfl (lv_at hl 1 rfl) ?_
    refine callVi X hW hS hR (c_X12_shutIn (I := I6) σ jv (by first | assumption | omega | decide | exact hP.1) (by first | assumption | omega | decide | exact hP.1) (by first | assumption | omega | decide | exact hP.1)) (by decide) UVX12_shutIn LK_X12_297 rfl (by decide) rfl rfl rfl (Nat.le_of_ble_eq_true rfl) hl hcs (dg D_X12_lanesShut (i := 8) rfl) (fun r14 I14 L1 R1 H locs hq hW hS => ?_)
    obtain ⟨rfl, rfl, rfl, rfl⟩ := hq
    refine lv_goto (tgt := 21) hx hb (dg D_X12_lanesShut (i := 9) rfl) (by decide) ?_
    exact fin (dg D_X12_lanesShut (i := 11) rfl) hW hS ⟨fun _ => by rw [tN_nI (show jv < 2 ^ 31 by omega)], hF, hth, rfl, rfl⟩

set_option maxHeartbeats 4000000 in
set_option maxRecDepth 100000 in
theorem c_X12_paintings {l : Launch} {G : va_G} {bs : Nat} {cy : Nat → ClassId} {I : CI} {L : CL} {R : CR} (σ : Row) (hs : I 68 = σ) (hi : Inv σ) : MTi l G bs cy MX12_paintings 3 [.ref (bs + 67)] I L R (fun r I1 L1 R1 => sumT (fun x => cnt16 (orT (setF (ptd σ x)) (Yn σ))) (nS σ) = r ∧ Fr SLT I I1 ∧ I1 67 6 = nI 0 ∧ L = L1 ∧ R = R1) := by
  refine MTi.of (own := RX12) pn_RX12 rfl (Nat.le_of_ble_eq_true rfl) ?_
  intro p e s m args below meth c Qf X hW hS fin ls hl
  have hx := X.1
  have hb := X.2.1
  have hR : RmOK (rmL 3 0 0) 3 := ⟨rfl, rfl⟩
  have hcs : 0 ≤ (rmL 3 0 0).cells ∧ 0 ≤ (rmL 3 0 0).slots := ⟨Nat.zero_le _, Nat.zero_le _⟩
  have hl : lv_has ls 3 [(0, .ref (bs + 67))] := hl
  have hF : Fr SLT I I := Fr.rf
  obtain ⟨hY, hY1, hY12, hLn, hL4, hSn, hS12, hGn, hG5⟩ := id hi
  have hth0 : True := trivial
  refine lv_aload_n hx hb (dg D_X12_paintings (i := 0) rfl) rfl (lv_at hl 0 rfl) ?_
  refine n_iconst (a := 0) hx hb (dg D_X12_paintings (i := 1) rfl) rfl ?_
  refine r_puti (v := nI 0) (ty := .int) X hW hS FI_X12_74 rfl (by decide) rfl rfl (by decide +kernel) rfl rfl (dg D_X12_paintings (i := 2) rfl) (fun H locs hW hS => ?_)
  have hF : Fr SLT I (u2 I 67 6 (nI 0)) := Fr.put hF rfl
  have hs : (u2 I 67 6 (nI 0)) 68 = σ := hs
  obtain ⟨J2, eJ2⟩ : ∃ J, J = u2 I 67 6 (nI 0) := ⟨_, rfl⟩
  rw [← eJ2] at hW hF hs
  have hth : J2 67 6 = nI 0 := by rw [eJ2]; exact u2_at
  refine n_iconst (a := 0) hx hb (dg D_X12_paintings (i := 3) rfl) rfl ?_
  refine lv_istore_n (lv' := [(1, .int (nI 0)), (0, .ref (bs + 67))]) hx hb (dg D_X12_paintings (i := 4) rfl) rfl hl (by decide) rfl (fun ls hl => ?_)
  refine n_iconst (a := 0) hx hb (dg D_X12_paintings (i := 5) rfl) rfl ?_
  refine lv_istore_n (lv' := [(2, .int (nI 0)), (1, .int (nI 0)), (0, .ref (bs + 67))]) hx hb (dg D_X12_paintings (i := 6) rfl) rfl hl (by decide) rfl (fun ls hl => ?_)
  have loop9 := up_ind (P := fun x => ∀ (H : Heap) (locs : List Loc) (ls : Array Slot) (v1 : Int32) (v2 : Int32), v1 = sumT (fun x => cnt16 (orT (setF (ptd σ x)) (Yn σ))) x → v2 = nI x → Wd G bs cy J2 L R H → va_S (Aq bs) s.heap H locs → lv_has ls 3 [(0, .ref (bs + 67)), (1, .int v1), (2, .int v2)] → W p l e (rmL 3 0 0) s m args below meth c H locs 0 0 Qf (F0 m 9 ls [])) (nS σ) (fun x hx9 ih9 => by
      intro H locs ls v1 v2 q1 q2 hW hS hl
      subst q1
      subst q2
      refine lv_iload_n hx hb (dg D_X12_paintings (i := 7) rfl) rfl (lv_at hl 2 rfl) ?_
      refine lv_aload_n hx hb (dg D_X12_paintings (i := 8) rfl) rfl (lv_at hl 0 rfl) ?_
      refine r_getc (t := 68) X hW FI_X12_7 rfl (by decide) rfl (dg D_X12_paintings (i := 9) rfl) ?_
      refine n_iconst (a := 4) hx hb (dg D_X12_paintings (i := 10) rfl) rfl ?_
      refine r_ald (j := 4) (v := nI (nS σ)) X hW rfl (by decide) rfl (by omega) (by decide) ((congrFun hs _).trans hSn) (dg D_X12_paintings (i := 11) rfl) ?_
      refine n_icmp_ge (tgt := 36) hx hb (by omega) (by omega) (dg D_X12_paintings (i := 12) rfl) (by decide) (fun c16 => ?_) (fun c16 => ?_)
      · refine lv_iload_n hx hb (dg D_X12_paintings (i := 22) rfl) rfl (lv_at hl 1 rfl) ?_
        exact fin (dg D_X12_paintings (i := 23) rfl) hW hS ⟨by rw [show x = nS σ by omega], hF, hth, rfl, rfl⟩
      · refine lv_iload_n hx hb (dg D_X12_paintings (i := 13) rfl) rfl (lv_at hl 1 rfl) ?_
        refine lv_aload_n hx hb (dg D_X12_paintings (i := 14) rfl) rfl (lv_at hl 0 rfl) ?_
        refine lv_iload_n hx hb (dg D_X12_paintings (i := 15) rfl) rfl (lv_at hl 2 rfl) ?_
        refine callVi X hW hS hR (c_X12_paintedYears (I := J2) σ x (by first | assumption | omega | decide | exact hP.1) (by first | assumption | omega | decide | exact hP.1) (by first | assumption | omega | decide | exact hP.1)) (by decide) UVX12_paintedYears LK_X12_236 rfl (by decide) rfl rfl rfl (Nat.le_of_ble_eq_true rfl) hl hcs (dg D_X12_paintings (i := 16) rfl) (fun r22 I22 L1 R1 H locs hq hW hS => ?_)
        obtain ⟨rfl, rfl, rfl, rfl⟩ := hq
        refine callSi X hW hS hR (c_X12_bits (I := J2) (orT (setF (ptd σ x)) (Yn σ))) (by decide) USX12_bits LK_X12_270 rfl rfl (Nat.le_of_ble_eq_true rfl) hl hcs (dg D_X12_paintings (i := 17) rfl) (fun r25 I25 L1 R1 H locs hq hW hS => ?_)
        obtain ⟨rfl, rfl, rfl, rfl⟩ := hq
        refine lv_iadd hx hb (dg D_X12_paintings (i := 18) rfl) ?_
        refine lv_istore_n (lv' := [(1, .int ((sumT (fun x => cnt16 (orT (setF (ptd σ x)) (Yn σ))) x) + (cnt16 (orT (setF (ptd σ x)) (Yn σ))))), (0, .ref (bs + 67)), (2, .int (nI x))]) hx hb (dg D_X12_paintings (i := 19) rfl) rfl hl (by decide) rfl (fun ls hl => ?_)
        refine lv_iinc (v := nI (x + 1)) (lv' := [(2, .int (nI (x + 1))), (1, .int ((sumT (fun x => cnt16 (orT (setF (ptd σ x)) (Yn σ))) x) + (cnt16 (orT (setF (ptd σ x)) (Yn σ))))), (0, .ref (bs + 67))]) hx hb (dg D_X12_paintings (i := 20) rfl) hl (k := 2) rfl (nI_add _ _) (by decide) rfl (fun ls hl => ?_)
        refine lv_goto (tgt := 9) hx hb (dg D_X12_paintings (i := 21) rfl) (by decide) ?_
        exact ih9 (by omega) _ _ _ _ _ (rfl) (congrArg nI (by omega)) hW hS (lv_sub hl [2, 1, 0] rfl))
  exact loop9 0 (Nat.zero_le _) _ _ _ _ _ (rfl) (congrArg nI (by omega)) hW hS (lv_sub hl [2, 1, 0] rfl)

set_option maxHeartbeats 4000000 in
set_option maxRecDepth 100000 in
theorem c_X12_daysUsed {l : Launch} {G : va_G} {bs : Nat} {cy : Nat → ClassId} {I : CI} {L : CL} {R : CR} (σ : Row) (v : Int32) (w : Int32) (hs : I 68 = σ) (hi : Inv σ) (hd : DR σ) : MTi l G bs cy MX12_daysUsed 7 [.ref (bs + 67), .int v, .int w] I L R (fun r I1 L1 R1 => ((inB v (nG σ) && inB w (Yn σ)) = true → r = dyI σ v (tN w)) ∧ Fr SLT I I1 ∧ I1 67 6 = thr (inB v (nG σ) && inB w (Yn σ)) ∧ L = L1 ∧ R = R1) := by
  refine MTi.of (own := RX12) pn_RX12 rfl (Nat.le_of_ble_eq_true rfl) ?_
  intro p e s m args below meth c Qf X hW hS fin ls hl
  have hx := X.1
  have hb := X.2.1
  have hR : RmOK (rmL 7 0 0) 7 := ⟨rfl, rfl⟩
  have hcs : 0 ≤ (rmL 7 0 0).cells ∧ 0 ≤ (rmL 7 0 0).slots := ⟨Nat.zero_le _, Nat.zero_le _⟩
  have hl : lv_has ls 3 [(0, .ref (bs + 67)), (1, .int v), (2, .int w)] := hl
  have hF : Fr SLT I I := Fr.rf
  obtain ⟨hY, hY1, hY12, hLn, hL4, hSn, hS12, hGn, hG5⟩ := id hi
  refine lv_aload_n hx hb (dg D_X12_daysUsed (i := 0) rfl) rfl (lv_at hl 0 rfl) ?_
  refine lv_iload_n hx hb (dg D_X12_daysUsed (i := 1) rfl) rfl (lv_at hl 1 rfl) ?_
  refine lv_iload_n hx hb (dg D_X12_daysUsed (i := 2) rfl) rfl (lv_at hl 2 rfl) ?_
  refine callVi X hW hS hR (c_X12_goodGang (I := I) σ v w (by first | assumption | omega | decide | exact hP.1) (by first | assumption | omega | decide | exact hP.1)) (by decide) UVX12_goodGang LK_X12_285 rfl (by decide) rfl rfl rfl (Nat.le_of_ble_eq_true rfl) hl hcs (dg D_X12_daysUsed (i := 3) rfl) (fun r3 I3 L1 R1 H locs hq hW hS => ?_)
  obtain ⟨rfl, hT3, hp3_0, rfl, rfl⟩ := hq
  have hF : Fr SLT I I3 := Fr.tr hF hT3 (by intro a j h; simp only [ST, SLT, Bool.or_eq_true, Bool.and_eq_true, beq_iff_eq, decide_eq_true_eq] at h ⊢; omega)
  have hs : I3 68 = σ := by rw [Fr.row hT3 (fun _ => rfl)]; exact hs
  have hth : I3 67 6 = thr (inB v (nG σ) && inB w (Yn σ)) := hp3_0
  refine z_if_eq (tgt := 18) hx hb (dg D_X12_daysUsed (i := 4) rfl) (by decide) (fun c6 => ?_) (fun c6 => ?_)
  · refine n_iconst (a := 0) hx hb (dg D_X12_daysUsed (i := 10) rfl) rfl ?_
    exact fin (dg D_X12_daysUsed (i := 11) rfl) hW hS ⟨fun z => absurd z (by rw [c6]; decide), hF, hth, rfl, rfl⟩
  · obtain ⟨g1, g2⟩ := Bool.and_eq_true_iff.mp c6
    obtain ⟨jv, hjv, rfl⟩ := inB_of g1 (by omega)
    obtain ⟨jw, hjw, rfl⟩ := inB_of g2 (by omega)
    refine lv_aload_n hx hb (dg D_X12_daysUsed (i := 5) rfl) rfl (lv_at hl 0 rfl) ?_
    refine lv_iload_n hx hb (dg D_X12_daysUsed (i := 6) rfl) rfl (lv_at hl 1 rfl) ?_
    refine lv_iload_n hx hb (dg D_X12_daysUsed (i := 7) rfl) rfl (lv_at hl 2 rfl) ?_
    refine callVi X hW hS hR (c_X12_daysIn (I := I3) σ (nI jv) jw (by first | assumption | omega | decide | exact hP.1) (by first | assumption | omega | decide | exact hP.1) (by first | assumption | omega | decide | exact hP.1) (by first | assumption | omega | decide | exact hP.1) (nI_m1 (by omega))) (by decide) UVX12_daysIn LK_X12_303 rfl (by decide) rfl rfl rfl (Nat.le_of_ble_eq_true rfl) hl hcs (dg D_X12_daysUsed (i := 8) rfl) (fun r12 I12 L1 R1 H locs hq hW hS => ?_)
    obtain ⟨rfl, hT12, rfl, rfl⟩ := hq
    have hF : Fr SLT I I12 := Fr.tr hF hT12 (by intro a j h; simp only [SL, SLT, Bool.or_eq_true, Bool.and_eq_true, beq_iff_eq, decide_eq_true_eq] at h ⊢; omega)
    have hs : I12 68 = σ := by rw [Fr.row hT12 (fun _ => rfl)]; exact hs
    have hth : I12 67 6 = thr (inB (nI jv) (nG σ) && inB (nI jw) (Yn σ)) := (hT12 67 6 rfl).trans hth
    refine lv_goto (tgt := 19) hx hb (dg D_X12_daysUsed (i := 9) rfl) (by decide) ?_
    exact fin (dg D_X12_daysUsed (i := 11) rfl) hW hS ⟨fun _ => by rw [tN_nI (show jw < 2 ^ 31 by omega)], hF, hth, rfl, rfl⟩

set_option maxHeartbeats 4000000 in
set_option maxRecDepth 100000 in
theorem c_X12_laneDays {l : Launch} {G : va_G} {bs : Nat} {cy : Nat → ClassId} {I : CI} {L : CL} {R : CR} (σ : Row) (v : Int32) (w : Int32) (hs : I 68 = σ) (hi : Inv σ) (hd : DR σ) : MTi l G bs cy MX12_laneDays 7 [.ref (bs + 67), .int v, .int w] I L R (fun r I1 L1 R1 => ((inB v (nLn σ) && inB w (Yn σ)) = true → r = lnI σ v (tN w)) ∧ Fr SLT I I1 ∧ I1 67 6 = thr (inB v (nLn σ) && inB w (Yn σ)) ∧ L = L1 ∧ R = R1) := by
  refine MTi.of (own := RX12) pn_RX12 rfl (Nat.le_of_ble_eq_true rfl) ?_
  intro p e s m args below meth c Qf X hW hS fin ls hl
  have hx := X.1
  have hb := X.2.1
  have hR : RmOK (rmL 7 0 0) 7 := ⟨rfl, rfl⟩
  have hcs : 0 ≤ (rmL 7 0 0).cells ∧ 0 ≤ (rmL 7 0 0).slots := ⟨Nat.zero_le _, Nat.zero_le _⟩
  have hl : lv_has ls 3 [(0, .ref (bs + 67)), (1, .int v), (2, .int w)] := hl
  have hF : Fr SLT I I := Fr.rf
  obtain ⟨hY, hY1, hY12, hLn, hL4, hSn, hS12, hGn, hG5⟩ := id hi
  refine lv_aload_n hx hb (dg D_X12_laneDays (i := 0) rfl) rfl (lv_at hl 0 rfl) ?_
  refine lv_aload_n hx hb (dg D_X12_laneDays (i := 1) rfl) rfl (lv_at hl 0 rfl) ?_
  refine lv_iload_n hx hb (dg D_X12_laneDays (i := 2) rfl) rfl (lv_at hl 1 rfl) ?_
  refine callVi X hW hS hR (c_X12_isLane (I := I) σ v (by first | assumption | omega | decide | exact hP.1) (by first | assumption | omega | decide | exact hP.1)) (by decide) UVX12_isLane LK_X12_306 rfl (by decide) rfl rfl rfl (Nat.le_of_ble_eq_true rfl) hl hcs (dg D_X12_laneDays (i := 3) rfl) (fun r3 I3 L1 R1 H locs hq hW hS => ?_)
  obtain ⟨rfl, rfl, rfl, rfl⟩ := hq
  refine z_if_eq (tgt := 21) hx hb (dg D_X12_laneDays (i := 4) rfl) (by decide) (fun c6 => ?_) (fun c6 => ?_)
  · refine n_iconst (a := 0) hx hb (dg D_X12_laneDays (i := 11) rfl) rfl ?_
    refine callVi X hW hS hR (c_X12_good (I := I) false) (by decide) UVX12_good LK_X12_95 rfl (by decide) rfl rfl rfl (Nat.le_of_ble_eq_true rfl) hl hcs (dg D_X12_laneDays (i := 12) rfl) (fun r22 I22 L1 R1 H locs hq hW hS => ?_)
    obtain ⟨rfl, hT22, hp22_0, rfl, rfl⟩ := hq
    have hF : Fr SLT I I22 := Fr.tr hF hT22 (by intro a j h; simp only [ST, SLT, Bool.or_eq_true, Bool.and_eq_true, beq_iff_eq, decide_eq_true_eq] at h ⊢; omega)
    have hs : I22 68 = σ := by rw [Fr.row hT22 (fun _ => rfl)]; exact hs
    have hth : I22 67 6 = thr (inB v (nLn σ) && inB w (Yn σ)) := by first | (rw [c6, c14]; exact hp22_0) | (rw [c6]; exact hp22_0)
    refine z_if_eq (tgt := 37) hx hb (dg D_X12_laneDays (i := 13) rfl) (by decide) (fun c25 => ?_) (fun c25 => ?_)
    · refine n_iconst (a := 0) hx hb (dg D_X12_laneDays (i := 19) rfl) rfl ?_
      exact fin (dg D_X12_laneDays (i := 20) rfl) hW hS ⟨fun z => absurd z (by first | simp [c14] | simp [c6]), hF, hth, rfl, rfl⟩
    · exact absurd c25 (by decide)
  · refine lv_aload_n hx hb (dg D_X12_laneDays (i := 5) rfl) rfl (lv_at hl 0 rfl) ?_
    refine lv_iload_n hx hb (dg D_X12_laneDays (i := 6) rfl) rfl (lv_at hl 2 rfl) ?_
    refine callVi X hW hS hR (c_X12_isYear (I := I) σ w (by first | assumption | omega | decide | exact hP.1) (by first | assumption | omega | decide | exact hP.1)) (by decide) UVX12_isYear LK_X12_92 rfl (by decide) rfl rfl rfl (Nat.le_of_ble_eq_true rfl) hl hcs (dg D_X12_laneDays (i := 7) rfl) (fun r11 I11 L1 R1 H locs hq hW hS => ?_)
    obtain ⟨rfl, rfl, rfl, rfl⟩ := hq
    refine z_if_eq (tgt := 21) hx hb (dg D_X12_laneDays (i := 8) rfl) (by decide) (fun c14 => ?_) (fun c14 => ?_)
    · refine n_iconst (a := 0) hx hb (dg D_X12_laneDays (i := 11) rfl) rfl ?_
      refine callVi X hW hS hR (c_X12_good (I := I) false) (by decide) UVX12_good LK_X12_95 rfl (by decide) rfl rfl rfl (Nat.le_of_ble_eq_true rfl) hl hcs (dg D_X12_laneDays (i := 12) rfl) (fun r22 I22 L1 R1 H locs hq hW hS => ?_)
      obtain ⟨rfl, hT22, hp22_0, rfl, rfl⟩ := hq
      have hF : Fr SLT I I22 := Fr.tr hF hT22 (by intro a j h; simp only [ST, SLT, Bool.or_eq_true, Bool.and_eq_true, beq_iff_eq, decide_eq_true_eq] at h ⊢; omega)
      have hs : I22 68 = σ := by rw [Fr.row hT22 (fun _ => rfl)]; exact hs
      have hth : I22 67 6 = thr (inB v (nLn σ) && inB w (Yn σ)) := by first | (rw [c6, c14]; exact hp22_0) | (rw [c6]; exact hp22_0)
      refine z_if_eq (tgt := 37) hx hb (dg D_X12_laneDays (i := 13) rfl) (by decide) (fun c25 => ?_) (fun c25 => ?_)
      · refine n_iconst (a := 0) hx hb (dg D_X12_laneDays (i := 19) rfl) rfl ?_
        exact fin (dg D_X12_laneDays (i := 20) rfl) hW hS ⟨fun z => absurd z (by first | simp [c14] | simp [c6]), hF, hth, rfl, rfl⟩
      · exact absurd c25 (by decide)
    · refine n_iconst (a := 1) hx hb (dg D_X12_laneDays (i := 9) rfl) rfl ?_
      refine lv_goto (tgt := 22) hx hb (dg D_X12_laneDays (i := 10) rfl) (by decide) ?_
      refine callVi X hW hS hR (c_X12_good (I := I) true) (by decide) UVX12_good LK_X12_95 rfl (by decide) rfl rfl rfl (Nat.le_of_ble_eq_true rfl) hl hcs (dg D_X12_laneDays (i := 12) rfl) (fun r22 I22 L1 R1 H locs hq hW hS => ?_)
      obtain ⟨rfl, hT22, hp22_0, rfl, rfl⟩ := hq
      have hF : Fr SLT I I22 := Fr.tr hF hT22 (by intro a j h; simp only [ST, SLT, Bool.or_eq_true, Bool.and_eq_true, beq_iff_eq, decide_eq_true_eq] at h ⊢; omega)
      have hs : I22 68 = σ := by rw [Fr.row hT22 (fun _ => rfl)]; exact hs
      have hth : I22 67 6 = thr (inB v (nLn σ) && inB w (Yn σ)) := by first | (rw [c6, c14]; exact hp22_0) | (rw [c6]; exact hp22_0)
      refine z_if_eq (tgt := 37) hx hb (dg D_X12_laneDays (i := 13) rfl) (by decide) (fun c25 => ?_) (fun c25 => ?_)
      · exact absurd c25 (by decide)
      · obtain ⟨jv, hjv, rfl⟩ := inB_of c6 (by omega)
        obtain ⟨jw, hjw, rfl⟩ := inB_of c14 (by omega)
        refine lv_aload_n hx hb (dg D_X12_laneDays (i := 14) rfl) rfl (lv_at hl 0 rfl) ?_
        refine lv_iload_n hx hb (dg D_X12_laneDays (i := 15) rfl) rfl (lv_at hl 1 rfl) ?_
        refine lv_iload_n hx hb (dg D_X12_laneDays (i := 16) rfl) rfl (lv_at hl 2 rfl) ?_
        refine callVi X hW hS hR (c_X12_laneIn (I := I22) σ (nI jv) jw (by first | assumption | omega | decide | exact hP.1) (by first | assumption | omega | decide | exact hP.1) (by first | assumption | omega | decide | exact hP.1) (by first | assumption | omega | decide | exact hP.1)) (by decide) UVX12_laneIn LK_X12_309 rfl (by decide) rfl rfl rfl (Nat.le_of_ble_eq_true rfl) hl hcs (dg D_X12_laneDays (i := 17) rfl) (fun r31 I31 L1 R1 H locs hq hW hS => ?_)
        obtain ⟨rfl, hT31, rfl, rfl⟩ := hq
        have hF : Fr SLT I I31 := Fr.tr hF hT31 (by intro a j h; simp only [SL, SLT, Bool.or_eq_true, Bool.and_eq_true, beq_iff_eq, decide_eq_true_eq] at h ⊢; omega)
        have hs : I31 68 = σ := by rw [Fr.row hT31 (fun _ => rfl)]; exact hs
        have hth : I31 67 6 = thr (inB (nI jv) (nLn σ) && inB (nI jw) (Yn σ)) := (hT31 67 6 rfl).trans hth
        refine lv_goto (tgt := 38) hx hb (dg D_X12_laneDays (i := 18) rfl) (by decide) ?_
        exact fin (dg D_X12_laneDays (i := 20) rfl) hW hS ⟨fun _ => by rw [tN_nI (show jw < 2 ^ 31 by omega)], hF, hth, rfl, rfl⟩

set_option maxHeartbeats 4000000 in
set_option maxRecDepth 100000 in
theorem c_X12_trafficLoss {l : Launch} {G : va_G} {bs : Nat} {cy : Nat → ClassId} {I : CI} {L : CL} {R : CR} (σ : Row) (v : Int32) (hs : I 68 = σ) (hi : Inv σ) (hd : DR σ) : MTi l G bs cy MX12_trafficLoss 8 [.ref (bs + 67), .int v] I L R (fun r I1 L1 R1 => ((inB v (Yn σ)) = true → r = los σ (tN v)) ∧ Fr SLT I I1 ∧ I1 67 6 = thr (inB v (Yn σ)) ∧ L = L1 ∧ R = R1) := by
  refine MTi.of (own := RX12) pn_RX12 rfl (Nat.le_of_ble_eq_true rfl) ?_
  intro p e s m args below meth c Qf X hW hS fin ls hl
  have hx := X.1
  have hb := X.2.1
  have hR : RmOK (rmL 8 0 0) 8 := ⟨rfl, rfl⟩
  have hcs : 0 ≤ (rmL 8 0 0).cells ∧ 0 ≤ (rmL 8 0 0).slots := ⟨Nat.zero_le _, Nat.zero_le _⟩
  have hl : lv_has ls 2 [(0, .ref (bs + 67)), (1, .int v)] := hl
  have hF : Fr SLT I I := Fr.rf
  obtain ⟨hY, hY1, hY12, hLn, hL4, hSn, hS12, hGn, hG5⟩ := id hi
  refine lv_aload_n hx hb (dg D_X12_trafficLoss (i := 0) rfl) rfl (lv_at hl 0 rfl) ?_
  refine lv_aload_n hx hb (dg D_X12_trafficLoss (i := 1) rfl) rfl (lv_at hl 0 rfl) ?_
  refine lv_iload_n hx hb (dg D_X12_trafficLoss (i := 2) rfl) rfl (lv_at hl 1 rfl) ?_
  refine callVi X hW hS hR (c_X12_isYear (I := I) σ v (by first | assumption | omega | decide | exact hP.1) (by first | assumption | omega | decide | exact hP.1)) (by decide) UVX12_isYear LK_X12_92 rfl (by decide) rfl rfl rfl (Nat.le_of_ble_eq_true rfl) hl hcs (dg D_X12_trafficLoss (i := 3) rfl) (fun r3 I3 L1 R1 H locs hq hW hS => ?_)
  obtain ⟨rfl, rfl, rfl, rfl⟩ := hq
  refine callVi X hW hS hR (c_X12_good (I := I) (inB v (Yn σ))) (by decide) UVX12_good LK_X12_95 rfl (by decide) rfl rfl rfl (Nat.le_of_ble_eq_true rfl) hl hcs (dg D_X12_trafficLoss (i := 4) rfl) (fun r6 I6 L1 R1 H locs hq hW hS => ?_)
  obtain ⟨rfl, hT6, hp6_0, rfl, rfl⟩ := hq
  have hF : Fr SLT I I6 := Fr.tr hF hT6 (by intro a j h; simp only [ST, SLT, Bool.or_eq_true, Bool.and_eq_true, beq_iff_eq, decide_eq_true_eq] at h ⊢; omega)
  have hs : I6 68 = σ := by rw [Fr.row hT6 (fun _ => rfl)]; exact hs
  have hth : I6 67 6 = thr (inB v (Yn σ)) := hp6_0
  refine z_if_eq (tgt := 20) hx hb (dg D_X12_trafficLoss (i := 5) rfl) (by decide) (fun c9 => ?_) (fun c9 => ?_)
  · refine n_iconst (a := 0) hx hb (dg D_X12_trafficLoss (i := 10) rfl) rfl ?_
    exact fin (dg D_X12_trafficLoss (i := 11) rfl) hW hS ⟨fun z => absurd z (by rw [c9]; decide), hF, hth, rfl, rfl⟩
  · obtain ⟨jv, hjv, rfl⟩ := inB_of c9 (by omega)
    refine lv_aload_n hx hb (dg D_X12_trafficLoss (i := 6) rfl) rfl (lv_at hl 0 rfl) ?_
    refine lv_iload_n hx hb (dg D_X12_trafficLoss (i := 7) rfl) rfl (lv_at hl 1 rfl) ?_
    refine callVi X hW hS hR (c_X12_lossIn (I := I6) σ jv (by first | assumption | omega | decide | exact hP.1) (by first | assumption | omega | decide | exact hP.1) (by first | assumption | omega | decide | exact hP.1) (by first | assumption | omega | decide | exact hP.1)) (by decide) UVX12_lossIn LK_X12_312 rfl (by decide) rfl rfl rfl (Nat.le_of_ble_eq_true rfl) hl hcs (dg D_X12_trafficLoss (i := 8) rfl) (fun r14 I14 L1 R1 H locs hq hW hS => ?_)
    obtain ⟨rfl, hT14, rfl, rfl⟩ := hq
    have hF : Fr SLT I I14 := Fr.tr hF hT14 (by intro a j h; simp only [SL, SLT, Bool.or_eq_true, Bool.and_eq_true, beq_iff_eq, decide_eq_true_eq] at h ⊢; omega)
    have hs : I14 68 = σ := by rw [Fr.row hT14 (fun _ => rfl)]; exact hs
    have hth : I14 67 6 = thr (inB (nI jv) (Yn σ)) := (hT14 67 6 rfl).trans hth
    refine lv_goto (tgt := 21) hx hb (dg D_X12_trafficLoss (i := 9) rfl) (by decide) ?_
    exact fin (dg D_X12_trafficLoss (i := 11) rfl) hW hS ⟨fun _ => by rw [tN_nI (show jv < 2 ^ 31 by omega)], hF, hth, rfl, rfl⟩

set_option maxHeartbeats 4000000 in
set_option maxRecDepth 100000 in
theorem c_X12_wages {l : Launch} {G : va_G} {bs : Nat} {cy : Nat → ClassId} {I : CI} {L : CL} {R : CR} (σ : Row) (v : Int32) (hs : I 68 = σ) (hi : Inv σ) (hd : DR σ) : MTi l G bs cy MX12_wages 8 [.ref (bs + 67), .int v] I L R (fun r I1 L1 R1 => ((inB v (Yn σ)) = true → r = wgs σ (tN v)) ∧ Fr SLT I I1 ∧ I1 67 6 = thr (inB v (Yn σ)) ∧ L = L1 ∧ R = R1) := by
  refine MTi.of (own := RX12) pn_RX12 rfl (Nat.le_of_ble_eq_true rfl) ?_
  intro p e s m args below meth c Qf X hW hS fin ls hl
  have hx := X.1
  have hb := X.2.1
  have hR : RmOK (rmL 8 0 0) 8 := ⟨rfl, rfl⟩
  have hcs : 0 ≤ (rmL 8 0 0).cells ∧ 0 ≤ (rmL 8 0 0).slots := ⟨Nat.zero_le _, Nat.zero_le _⟩
  have hl : lv_has ls 2 [(0, .ref (bs + 67)), (1, .int v)] := hl
  have hF : Fr SLT I I := Fr.rf
  obtain ⟨hY, hY1, hY12, hLn, hL4, hSn, hS12, hGn, hG5⟩ := id hi
  refine lv_aload_n hx hb (dg D_X12_wages (i := 0) rfl) rfl (lv_at hl 0 rfl) ?_
  refine lv_aload_n hx hb (dg D_X12_wages (i := 1) rfl) rfl (lv_at hl 0 rfl) ?_
  refine lv_iload_n hx hb (dg D_X12_wages (i := 2) rfl) rfl (lv_at hl 1 rfl) ?_
  refine callVi X hW hS hR (c_X12_isYear (I := I) σ v (by first | assumption | omega | decide | exact hP.1) (by first | assumption | omega | decide | exact hP.1)) (by decide) UVX12_isYear LK_X12_92 rfl (by decide) rfl rfl rfl (Nat.le_of_ble_eq_true rfl) hl hcs (dg D_X12_wages (i := 3) rfl) (fun r3 I3 L1 R1 H locs hq hW hS => ?_)
  obtain ⟨rfl, rfl, rfl, rfl⟩ := hq
  refine callVi X hW hS hR (c_X12_good (I := I) (inB v (Yn σ))) (by decide) UVX12_good LK_X12_95 rfl (by decide) rfl rfl rfl (Nat.le_of_ble_eq_true rfl) hl hcs (dg D_X12_wages (i := 4) rfl) (fun r6 I6 L1 R1 H locs hq hW hS => ?_)
  obtain ⟨rfl, hT6, hp6_0, rfl, rfl⟩ := hq
  have hF : Fr SLT I I6 := Fr.tr hF hT6 (by intro a j h; simp only [ST, SLT, Bool.or_eq_true, Bool.and_eq_true, beq_iff_eq, decide_eq_true_eq] at h ⊢; omega)
  have hs : I6 68 = σ := by rw [Fr.row hT6 (fun _ => rfl)]; exact hs
  have hth : I6 67 6 = thr (inB v (Yn σ)) := hp6_0
  refine z_if_eq (tgt := 20) hx hb (dg D_X12_wages (i := 5) rfl) (by decide) (fun c9 => ?_) (fun c9 => ?_)
  · refine n_iconst (a := 0) hx hb (dg D_X12_wages (i := 10) rfl) rfl ?_
    exact fin (dg D_X12_wages (i := 11) rfl) hW hS ⟨fun z => absurd z (by rw [c9]; decide), hF, hth, rfl, rfl⟩
  · obtain ⟨jv, hjv, rfl⟩ := inB_of c9 (by omega)
    refine lv_aload_n hx hb (dg D_X12_wages (i := 6) rfl) rfl (lv_at hl 0 rfl) ?_
    refine lv_iload_n hx hb (dg D_X12_wages (i := 7) rfl) rfl (lv_at hl 1 rfl) ?_
    refine callVi X hW hS hR (c_X12_wagesIn (I := I6) σ jv (by first | assumption | omega | decide | exact hP.1) (by first | assumption | omega | decide | exact hP.1) (by first | assumption | omega | decide | exact hP.1) (by first | assumption | omega | decide | exact hP.1)) (by decide) UVX12_wagesIn LK_X12_315 rfl (by decide) rfl rfl rfl (Nat.le_of_ble_eq_true rfl) hl hcs (dg D_X12_wages (i := 8) rfl) (fun r14 I14 L1 R1 H locs hq hW hS => ?_)
    obtain ⟨rfl, hT14, rfl, rfl⟩ := hq
    have hF : Fr SLT I I14 := Fr.tr hF hT14 (by intro a j h; simp only [SL, SLT, Bool.or_eq_true, Bool.and_eq_true, beq_iff_eq, decide_eq_true_eq] at h ⊢; omega)
    have hs : I14 68 = σ := by rw [Fr.row hT14 (fun _ => rfl)]; exact hs
    have hth : I14 67 6 = thr (inB (nI jv) (Yn σ)) := (hT14 67 6 rfl).trans hth
    refine lv_goto (tgt := 21) hx hb (dg D_X12_wages (i := 9) rfl) (by decide) ?_
    exact fin (dg D_X12_wages (i := 11) rfl) hW hS ⟨fun _ => by rw [tN_nI (show jv < 2 ^ 31 by omega)], hF, hth, rfl, rfl⟩

set_option maxHeartbeats 4000000 in
set_option maxRecDepth 100000 in
theorem c_X12_totalWages {l : Launch} {G : va_G} {bs : Nat} {cy : Nat → ClassId} {I : CI} {L : CL} {R : CR} (σ : Row) (hs : I 68 = σ) (hi : Inv σ) (hd : DR σ) : MTi l G bs cy MX12_totalWages 8 [.ref (bs + 67)] I L R (fun r I1 L1 R1 => sumT (wgs σ) (Yn σ) = r ∧ Fr SLT I I1 ∧ I1 67 6 = nI 0 ∧ L = L1 ∧ R = R1) := by
  refine MTi.of (own := RX12) pn_RX12 rfl (Nat.le_of_ble_eq_true rfl) ?_
  intro p e s m args below meth c Qf X hW hS fin ls hl
  have hx := X.1
  have hb := X.2.1
  have hR : RmOK (rmL 8 0 0) 8 := ⟨rfl, rfl⟩
  have hcs : 0 ≤ (rmL 8 0 0).cells ∧ 0 ≤ (rmL 8 0 0).slots := ⟨Nat.zero_le _, Nat.zero_le _⟩
  have hl : lv_has ls 3 [(0, .ref (bs + 67))] := hl
  have hF : Fr SLT I I := Fr.rf
  obtain ⟨hY, hY1, hY12, hLn, hL4, hSn, hS12, hGn, hG5⟩ := id hi
  have hth0 : True := trivial
  refine lv_aload_n hx hb (dg D_X12_totalWages (i := 0) rfl) rfl (lv_at hl 0 rfl) ?_
  refine n_iconst (a := 0) hx hb (dg D_X12_totalWages (i := 1) rfl) rfl ?_
  refine r_puti (v := nI 0) (ty := .int) X hW hS FI_X12_74 rfl (by decide) rfl rfl (by decide +kernel) rfl rfl (dg D_X12_totalWages (i := 2) rfl) (fun H locs hW hS => ?_)
  have hF : Fr SLT I (u2 I 67 6 (nI 0)) := Fr.put hF rfl
  have hs : (u2 I 67 6 (nI 0)) 68 = σ := hs
  obtain ⟨J2, eJ2⟩ : ∃ J, J = u2 I 67 6 (nI 0) := ⟨_, rfl⟩
  rw [← eJ2] at hW hF hs
  have hth : J2 67 6 = nI 0 := by rw [eJ2]; exact u2_at
  refine n_iconst (a := 0) hx hb (dg D_X12_totalWages (i := 3) rfl) rfl ?_
  refine lv_istore_n (lv' := [(1, .int (nI 0)), (0, .ref (bs + 67))]) hx hb (dg D_X12_totalWages (i := 4) rfl) rfl hl (by decide) rfl (fun ls hl => ?_)
  refine n_iconst (a := 0) hx hb (dg D_X12_totalWages (i := 5) rfl) rfl ?_
  refine lv_istore_n (lv' := [(2, .int (nI 0)), (1, .int (nI 0)), (0, .ref (bs + 67))]) hx hb (dg D_X12_totalWages (i := 6) rfl) rfl hl (by decide) rfl (fun ls hl => ?_)
  have loop9 := up_ind (P := fun y => ∀ (K9 : CI) (H : Heap) (locs : List Loc) (ls : Array Slot) (v1 : Int32) (v2 : Int32), v1 = sumT (wgs σ) y → v2 = nI y → (Fr SLT I K9) → (K9 68 = σ) → (K9 67 6 = nI 0) → Wd G bs cy K9 L R H → va_S (Aq bs) s.heap H locs → lv_has ls 3 [(0, .ref (bs + 67)), (1, .int v1), (2, .int v2)] → W p l e (rmL 8 0 0) s m args below meth c H locs 0 0 Qf (F0 m 9 ls [])) (Yn σ) (fun y hx9 ih9 => by
      intro K9 H locs ls v1 v2 q1 q2 hF hs hth hW hS hl
      subst q1
      subst q2
      refine lv_iload_n hx hb (dg D_X12_totalWages (i := 7) rfl) rfl (lv_at hl 2 rfl) ?_
      refine lv_aload_n hx hb (dg D_X12_totalWages (i := 8) rfl) rfl (lv_at hl 0 rfl) ?_
      refine r_getc (t := 68) X hW FI_X12_7 rfl (by decide) rfl (dg D_X12_totalWages (i := 9) rfl) ?_
      refine n_iconst (a := 0) hx hb (dg D_X12_totalWages (i := 10) rfl) rfl ?_
      refine r_ald (j := 0) (v := nI (Yn σ)) X hW rfl (by decide) rfl (by omega) (by decide) ((congrFun hs _).trans hY) (dg D_X12_totalWages (i := 11) rfl) ?_
      refine n_icmp_ge (tgt := 33) hx hb (by omega) (by omega) (dg D_X12_totalWages (i := 12) rfl) (by decide) (fun c16 => ?_) (fun c16 => ?_)
      · refine lv_iload_n hx hb (dg D_X12_totalWages (i := 21) rfl) rfl (lv_at hl 1 rfl) ?_
        exact fin (dg D_X12_totalWages (i := 22) rfl) hW hS ⟨by rw [show y = Yn σ by omega], hF, hth, rfl, rfl⟩
      · refine lv_iload_n hx hb (dg D_X12_totalWages (i := 13) rfl) rfl (lv_at hl 1 rfl) ?_
        refine lv_aload_n hx hb (dg D_X12_totalWages (i := 14) rfl) rfl (lv_at hl 0 rfl) ?_
        refine lv_iload_n hx hb (dg D_X12_totalWages (i := 15) rfl) rfl (lv_at hl 2 rfl) ?_
        refine callVi X hW hS hR (c_X12_wagesIn (I := K9) σ y (by first | assumption | omega | decide | exact hP.1) (by first | assumption | omega | decide | exact hP.1) (by first | assumption | omega | decide | exact hP.1) (by first | assumption | omega | decide | exact hP.1)) (by decide) UVX12_wagesIn LK_X12_315 rfl (by decide) rfl rfl rfl (Nat.le_of_ble_eq_true rfl) hl hcs (dg D_X12_totalWages (i := 16) rfl) (fun r22 I22 L1 R1 H locs hq hW hS => ?_)
        obtain ⟨rfl, hT22, rfl, rfl⟩ := hq
        have hF : Fr SLT I I22 := Fr.tr hF hT22 (by intro a j h; simp only [SL, SLT, Bool.or_eq_true, Bool.and_eq_true, beq_iff_eq, decide_eq_true_eq] at h ⊢; omega)
        have hs : I22 68 = σ := by rw [Fr.row hT22 (fun _ => rfl)]; exact hs
        have hth : I22 67 6 = nI 0 := (hT22 67 6 rfl).trans hth
        refine lv_iadd hx hb (dg D_X12_totalWages (i := 17) rfl) ?_
        refine lv_istore_n (lv' := [(1, .int ((sumT (wgs σ) y) + (wgs σ y))), (0, .ref (bs + 67)), (2, .int (nI y))]) hx hb (dg D_X12_totalWages (i := 18) rfl) rfl hl (by decide) rfl (fun ls hl => ?_)
        refine lv_iinc (v := nI (y + 1)) (lv' := [(2, .int (nI (y + 1))), (1, .int ((sumT (wgs σ) y) + (wgs σ y))), (0, .ref (bs + 67))]) hx hb (dg D_X12_totalWages (i := 19) rfl) hl (k := 2) rfl (nI_add _ _) (by decide) rfl (fun ls hl => ?_)
        refine lv_goto (tgt := 9) hx hb (dg D_X12_totalWages (i := 20) rfl) (by decide) ?_
        exact ih9 (by omega) I22 _ _ _ _ _ (rfl) (congrArg nI (by omega)) hF hs hth hW hS (lv_sub hl [2, 1, 0] rfl))
  exact loop9 0 (Nat.zero_le _) J2 _ _ _ _ _ (rfl) (congrArg nI (by omega)) hF hs hth hW hS (lv_sub hl [2, 1, 0] rfl)

set_option maxHeartbeats 4000000 in
set_option maxRecDepth 100000 in
theorem c_X12_totalLoss {l : Launch} {G : va_G} {bs : Nat} {cy : Nat → ClassId} {I : CI} {L : CL} {R : CR} (σ : Row) (hs : I 68 = σ) (hi : Inv σ) (hd : DR σ) : MTi l G bs cy MX12_totalLoss 8 [.ref (bs + 67)] I L R (fun r I1 L1 R1 => sumT (los σ) (Yn σ) = r ∧ Fr SLT I I1 ∧ I1 67 6 = nI 0 ∧ L = L1 ∧ R = R1) := by
  refine MTi.of (own := RX12) pn_RX12 rfl (Nat.le_of_ble_eq_true rfl) ?_
  intro p e s m args below meth c Qf X hW hS fin ls hl
  have hx := X.1
  have hb := X.2.1
  have hR : RmOK (rmL 8 0 0) 8 := ⟨rfl, rfl⟩
  have hcs : 0 ≤ (rmL 8 0 0).cells ∧ 0 ≤ (rmL 8 0 0).slots := ⟨Nat.zero_le _, Nat.zero_le _⟩
  have hl : lv_has ls 3 [(0, .ref (bs + 67))] := hl
  have hF : Fr SLT I I := Fr.rf
  obtain ⟨hY, hY1, hY12, hLn, hL4, hSn, hS12, hGn, hG5⟩ := id hi
  have hth0 : True := trivial
  refine lv_aload_n hx hb (dg D_X12_totalLoss (i := 0) rfl) rfl (lv_at hl 0 rfl) ?_
  refine n_iconst (a := 0) hx hb (dg D_X12_totalLoss (i := 1) rfl) rfl ?_
  refine r_puti (v := nI 0) (ty := .int) X hW hS FI_X12_74 rfl (by decide) rfl rfl (by decide +kernel) rfl rfl (dg D_X12_totalLoss (i := 2) rfl) (fun H locs hW hS => ?_)
  have hF : Fr SLT I (u2 I 67 6 (nI 0)) := Fr.put hF rfl
  have hs : (u2 I 67 6 (nI 0)) 68 = σ := hs
  obtain ⟨J2, eJ2⟩ : ∃ J, J = u2 I 67 6 (nI 0) := ⟨_, rfl⟩
  rw [← eJ2] at hW hF hs
  have hth : J2 67 6 = nI 0 := by rw [eJ2]; exact u2_at
  refine n_iconst (a := 0) hx hb (dg D_X12_totalLoss (i := 3) rfl) rfl ?_
  refine lv_istore_n (lv' := [(1, .int (nI 0)), (0, .ref (bs + 67))]) hx hb (dg D_X12_totalLoss (i := 4) rfl) rfl hl (by decide) rfl (fun ls hl => ?_)
  refine n_iconst (a := 0) hx hb (dg D_X12_totalLoss (i := 5) rfl) rfl ?_
  refine lv_istore_n (lv' := [(2, .int (nI 0)), (1, .int (nI 0)), (0, .ref (bs + 67))]) hx hb (dg D_X12_totalLoss (i := 6) rfl) rfl hl (by decide) rfl (fun ls hl => ?_)
  have loop9 := up_ind (P := fun y => ∀ (K9 : CI) (H : Heap) (locs : List Loc) (ls : Array Slot) (v1 : Int32) (v2 : Int32), v1 = sumT (los σ) y → v2 = nI y → (Fr SLT I K9) → (K9 68 = σ) → (K9 67 6 = nI 0) → Wd G bs cy K9 L R H → va_S (Aq bs) s.heap H locs → lv_has ls 3 [(0, .ref (bs + 67)), (1, .int v1), (2, .int v2)] → W p l e (rmL 8 0 0) s m args below meth c H locs 0 0 Qf (F0 m 9 ls [])) (Yn σ) (fun y hx9 ih9 => by
      intro K9 H locs ls v1 v2 q1 q2 hF hs hth hW hS hl
      subst q1
      subst q2
      refine lv_iload_n hx hb (dg D_X12_totalLoss (i := 7) rfl) rfl (lv_at hl 2 rfl) ?_
      refine lv_aload_n hx hb (dg D_X12_totalLoss (i := 8) rfl) rfl (lv_at hl 0 rfl) ?_
      refine r_getc (t := 68) X hW FI_X12_7 rfl (by decide) rfl (dg D_X12_totalLoss (i := 9) rfl) ?_
      refine n_iconst (a := 0) hx hb (dg D_X12_totalLoss (i := 10) rfl) rfl ?_
      refine r_ald (j := 0) (v := nI (Yn σ)) X hW rfl (by decide) rfl (by omega) (by decide) ((congrFun hs _).trans hY) (dg D_X12_totalLoss (i := 11) rfl) ?_
      refine n_icmp_ge (tgt := 33) hx hb (by omega) (by omega) (dg D_X12_totalLoss (i := 12) rfl) (by decide) (fun c16 => ?_) (fun c16 => ?_)
      · refine lv_iload_n hx hb (dg D_X12_totalLoss (i := 21) rfl) rfl (lv_at hl 1 rfl) ?_
        exact fin (dg D_X12_totalLoss (i := 22) rfl) hW hS ⟨by rw [show y = Yn σ by omega], hF, hth, rfl, rfl⟩
      · refine lv_iload_n hx hb (dg D_X12_totalLoss (i := 13) rfl) rfl (lv_at hl 1 rfl) ?_
        refine lv_aload_n hx hb (dg D_X12_totalLoss (i := 14) rfl) rfl (lv_at hl 0 rfl) ?_
        refine lv_iload_n hx hb (dg D_X12_totalLoss (i := 15) rfl) rfl (lv_at hl 2 rfl) ?_
        refine callVi X hW hS hR (c_X12_lossIn (I := K9) σ y (by first | assumption | omega | decide | exact hP.1) (by first | assumption | omega | decide | exact hP.1) (by first | assumption | omega | decide | exact hP.1) (by first | assumption | omega | decide | exact hP.1)) (by decide) UVX12_lossIn LK_X12_312 rfl (by decide) rfl rfl rfl (Nat.le_of_ble_eq_true rfl) hl hcs (dg D_X12_totalLoss (i := 16) rfl) (fun r22 I22 L1 R1 H locs hq hW hS => ?_)
        obtain ⟨rfl, hT22, rfl, rfl⟩ := hq
        have hF : Fr SLT I I22 := Fr.tr hF hT22 (by intro a j h; simp only [SL, SLT, Bool.or_eq_true, Bool.and_eq_true, beq_iff_eq, decide_eq_true_eq] at h ⊢; omega)
        have hs : I22 68 = σ := by rw [Fr.row hT22 (fun _ => rfl)]; exact hs
        have hth : I22 67 6 = nI 0 := (hT22 67 6 rfl).trans hth
        refine lv_iadd hx hb (dg D_X12_totalLoss (i := 17) rfl) ?_
        refine lv_istore_n (lv' := [(1, .int ((sumT (los σ) y) + (los σ y))), (0, .ref (bs + 67)), (2, .int (nI y))]) hx hb (dg D_X12_totalLoss (i := 18) rfl) rfl hl (by decide) rfl (fun ls hl => ?_)
        refine lv_iinc (v := nI (y + 1)) (lv' := [(2, .int (nI (y + 1))), (1, .int ((sumT (los σ) y) + (los σ y))), (0, .ref (bs + 67))]) hx hb (dg D_X12_totalLoss (i := 19) rfl) hl (k := 2) rfl (nI_add _ _) (by decide) rfl (fun ls hl => ?_)
        refine lv_goto (tgt := 9) hx hb (dg D_X12_totalLoss (i := 20) rfl) (by decide) ?_
        exact ih9 (by omega) I22 _ _ _ _ _ (rfl) (congrArg nI (by omega)) hF hs hth hW hS (lv_sub hl [2, 1, 0] rfl))
  exact loop9 0 (Nat.zero_le _) J2 _ _ _ _ _ (rfl) (congrArg nI (by omega)) hF hs hth hW hS (lv_sub hl [2, 1, 0] rfl)

set_option maxHeartbeats 4000000 in
set_option maxRecDepth 100000 in
theorem c_X12_busiestYear {l : Launch} {G : va_G} {bs : Nat} {cy : Nat → ClassId} {I : CI} {L : CL} {R : CR} (σ : Row) (hs : I 68 = σ) (hi : Inv σ) : MTi l G bs cy MX12_busiestYear 6 [.ref (bs + 67)] I L R (fun r I1 L1 R1 => (amx (fun y => sumT (fun g => lod σ (nI g) y) (nG σ)) (nI 0) (-1) (Yn σ)).1 = r ∧ Fr SLT I I1 ∧ I1 67 6 = nI 0 ∧ L = L1 ∧ R = R1) := by
  refine MTi.of (own := RX12) pn_RX12 rfl (Nat.le_of_ble_eq_true rfl) ?_
  intro p e s m args below meth c Qf X hW hS fin ls hl
  have hx := X.1
  have hb := X.2.1
  have hR : RmOK (rmL 6 0 0) 6 := ⟨rfl, rfl⟩
  have hcs : 0 ≤ (rmL 6 0 0).cells ∧ 0 ≤ (rmL 6 0 0).slots := ⟨Nat.zero_le _, Nat.zero_le _⟩
  have hl : lv_has ls 6 [(0, .ref (bs + 67))] := hl
  have hF : Fr SLT I I := Fr.rf
  obtain ⟨hY, hY1, hY12, hLn, hL4, hSn, hS12, hGn, hG5⟩ := id hi
  have hth0 : True := trivial
  refine lv_aload_n hx hb (dg D_X12_busiestYear (i := 0) rfl) rfl (lv_at hl 0 rfl) ?_
  refine n_iconst (a := 0) hx hb (dg D_X12_busiestYear (i := 1) rfl) rfl ?_
  refine r_puti (v := nI 0) (ty := .int) X hW hS FI_X12_74 rfl (by decide) rfl rfl (by decide +kernel) rfl rfl (dg D_X12_busiestYear (i := 2) rfl) (fun H locs hW hS => ?_)
  have hF : Fr SLT I (u2 I 67 6 (nI 0)) := Fr.put hF rfl
  have hs : (u2 I 67 6 (nI 0)) 68 = σ := hs
  obtain ⟨J2, eJ2⟩ : ∃ J, J = u2 I 67 6 (nI 0) := ⟨_, rfl⟩
  rw [← eJ2] at hW hF hs
  have hth : J2 67 6 = nI 0 := by rw [eJ2]; exact u2_at
  refine n_iconst (a := 0) hx hb (dg D_X12_busiestYear (i := 3) rfl) rfl ?_
  refine lv_istore_n (lv' := [(1, .int (nI 0)), (0, .ref (bs + 67))]) hx hb (dg D_X12_busiestYear (i := 4) rfl) rfl hl (by decide) rfl (fun ls hl => ?_)
  refine lv_iconst (v := -1) hx hb (dg D_X12_busiestYear (i := 5) rfl) (by decide) ?_
  refine lv_istore_n (lv' := [(2, .int ((-1))), (1, .int (nI 0)), (0, .ref (bs + 67))]) hx hb (dg D_X12_busiestYear (i := 6) rfl) rfl hl (by decide) rfl (fun ls hl => ?_)
  refine n_iconst (a := 0) hx hb (dg D_X12_busiestYear (i := 7) rfl) rfl ?_
  refine lv_istore_n (lv' := [(3, .int (nI 0)), (2, .int ((-1))), (1, .int (nI 0)), (0, .ref (bs + 67))]) hx hb (dg D_X12_busiestYear (i := 8) rfl) rfl hl (by decide) rfl (fun ls hl => ?_)
  have loop11 := up_ind (P := fun y => ∀ (K11 : CI) (H : Heap) (locs : List Loc) (ls : Array Slot) (v1 : Int32) (v2 : Int32) (v3 : Int32), v1 = (amx (fun y => sumT (fun g => lod σ (nI g) y) (nG σ)) (nI 0) (-1) y).1 → v2 = (amx (fun y => sumT (fun g => lod σ (nI g) y) (nG σ)) (nI 0) (-1) y).2 → v3 = nI y → (Fr SLT I K11) → (K11 68 = σ) → (K11 67 6 = nI 0) → Wd G bs cy K11 L R H → va_S (Aq bs) s.heap H locs → lv_has ls 6 [(0, .ref (bs + 67)), (1, .int v1), (2, .int v2), (3, .int v3)] → W p l e (rmL 6 0 0) s m args below meth c H locs 0 0 Qf (F0 m 11 ls [])) (Yn σ) (fun y hx11 ih11 => by
      intro K11 H locs ls v1 v2 v3 q1 q2 q3 hF hs hth hW hS hl
      subst q1
      subst q2
      subst q3
      refine lv_iload_n hx hb (dg D_X12_busiestYear (i := 9) rfl) rfl (lv_at hl 3 rfl) ?_
      refine lv_aload_n hx hb (dg D_X12_busiestYear (i := 10) rfl) rfl (lv_at hl 0 rfl) ?_
      refine r_getc (t := 68) X hW FI_X12_7 rfl (by decide) rfl (dg D_X12_busiestYear (i := 11) rfl) ?_
      refine n_iconst (a := 0) hx hb (dg D_X12_busiestYear (i := 12) rfl) rfl ?_
      refine r_ald (j := 0) (v := nI (Yn σ)) X hW rfl (by decide) rfl (by omega) (by decide) ((congrFun hs _).trans hY) (dg D_X12_busiestYear (i := 13) rfl) ?_
      refine n_icmp_ge (tgt := 81) hx hb (by omega) (by omega) (dg D_X12_busiestYear (i := 14) rfl) (by decide) (fun c18 => ?_) (fun c18 => ?_)
      · refine lv_iload_n hx hb (dg D_X12_busiestYear (i := 47) rfl) rfl (lv_at hl 1 rfl) ?_
        exact fin (dg D_X12_busiestYear (i := 48) rfl) hW hS ⟨by rw [show y = Yn σ by omega], hF, hth, rfl, rfl⟩
      · refine n_iconst (a := 0) hx hb (dg D_X12_busiestYear (i := 15) rfl) rfl ?_
        refine lv_istore (lv' := [(4, .int (nI 0)), (0, .ref (bs + 67)), (1, .int ((amx (fun y => sumT (fun g => lod σ (nI g) y) (nG σ)) (nI 0) (-1) y).1)), (2, .int ((amx (fun y => sumT (fun g => lod σ (nI g) y) (nG σ)) (nI 0) (-1) y).2)), (3, .int (nI y))]) hx hb (dg D_X12_busiestYear (i := 16) rfl) hl (by decide) rfl (fun ls hl => ?_)
        refine n_iconst (a := 0) hx hb (dg D_X12_busiestYear (i := 17) rfl) rfl ?_
        refine lv_istore (lv' := [(5, .int (nI 0)), (4, .int (nI 0)), (0, .ref (bs + 67)), (1, .int ((amx (fun y => sumT (fun g => lod σ (nI g) y) (nG σ)) (nI 0) (-1) y).1)), (2, .int ((amx (fun y => sumT (fun g => lod σ (nI g) y) (nG σ)) (nI 0) (-1) y).2)), (3, .int (nI y))]) hx hb (dg D_X12_busiestYear (i := 18) rfl) hl (by decide) rfl (fun ls hl => ?_)
        have loop27 := up_ind (P := fun g => ∀ (K27 : CI) (H : Heap) (locs : List Loc) (ls : Array Slot) (v4 : Int32) (v5 : Int32), v4 = sumT (fun g => lod σ (nI g) y) g → v5 = nI g → (Fr SLT I K27) → (K27 68 = σ) → (K27 67 6 = nI 0) → Wd G bs cy K27 L R H → va_S (Aq bs) s.heap H locs → lv_has ls 6 [(0, .ref (bs + 67)), (1, .int ((amx (fun y => sumT (fun g => lod σ (nI g) y) (nG σ)) (nI 0) (-1) y).1)), (2, .int ((amx (fun y => sumT (fun g => lod σ (nI g) y) (nG σ)) (nI 0) (-1) y).2)), (3, .int (nI y)), (4, .int v4), (5, .int v5)] → W p l e (rmL 6 0 0) s m args below meth c H locs 0 0 Qf (F0 m 27 ls [])) (nG σ) (fun g hx27 ih27 => by
            intro K27 H locs ls v4 v5 q4 q5 hF hs hth hW hS hl
            subst q4
            subst q5
            refine lv_iload hx hb (dg D_X12_busiestYear (i := 19) rfl) (lv_at hl 5 rfl) ?_
            refine lv_aload_n hx hb (dg D_X12_busiestYear (i := 20) rfl) rfl (lv_at hl 0 rfl) ?_
            refine r_getc (t := 68) X hW FI_X12_7 rfl (by decide) rfl (dg D_X12_busiestYear (i := 21) rfl) ?_
            refine n_iconst (a := 5) hx hb (dg D_X12_busiestYear (i := 22) rfl) rfl ?_
            refine r_ald (j := 5) (v := nI (nG σ)) X hW rfl (by decide) rfl (by omega) (by decide) ((congrFun hs _).trans hGn) (dg D_X12_busiestYear (i := 23) rfl) ?_
            refine n_icmp_ge (tgt := 56) hx hb (by omega) (by omega) (dg D_X12_busiestYear (i := 24) rfl) (by decide) (fun c35 => ?_) (fun c35 => ?_)
            · refine lv_iload hx hb (dg D_X12_busiestYear (i := 34) rfl) (lv_at hl 4 rfl) ?_
              refine lv_iload_n hx hb (dg D_X12_busiestYear (i := 35) rfl) rfl (lv_at hl 2 rfl) ?_
              refine lv_icmp_le (tgt := 66) hx hb (dg D_X12_busiestYear (i := 36) rfl) (by decide) (fun c59 => ?_) (fun c59 => ?_)
              · refine lv_iload_n hx hb (dg D_X12_busiestYear (i := 39) rfl) rfl (lv_at hl 1 rfl) ?_
                refine lv_istore_n (lv' := [(1, .int ((amx (fun y => sumT (fun g => lod σ (nI g) y) (nG σ)) (nI 0) (-1) y).1)), (0, .ref (bs + 67)), (2, .int ((amx (fun y => sumT (fun g => lod σ (nI g) y) (nG σ)) (nI 0) (-1) y).2)), (3, .int (nI y)), (4, .int (sumT (fun g => lod σ (nI g) y) g)), (5, .int (nI g))]) hx hb (dg D_X12_busiestYear (i := 40) rfl) rfl hl (by decide) rfl (fun ls hl => ?_)
                refine lv_iload_n hx hb (dg D_X12_busiestYear (i := 41) rfl) rfl (lv_at hl 2 rfl) ?_
                refine lv_iload hx hb (dg D_X12_busiestYear (i := 42) rfl) (lv_at hl 4 rfl) ?_
                refine r_max (v := if ((amx (fun y => sumT (fun g => lod σ (nI g) y) (nG σ)) (nI 0) (-1) y).2) < (sumT (fun g => lod σ (nI g) y) g) then (sumT (fun g => lod σ (nI g) y) g) else ((amx (fun y => sumT (fun g => lod σ (nI g) y) (nG σ)) (nI 0) (-1) y).2)) X hR (by decide) LK_X12_258 (Nat.le_of_ble_eq_true rfl) hl hcs rfl (dg D_X12_busiestYear (i := 43) rfl) ?_
                refine lv_istore_n (lv' := [(2, .int (if ((amx (fun y => sumT (fun g => lod σ (nI g) y) (nG σ)) (nI 0) (-1) y).2) < (sumT (fun g => lod σ (nI g) y) g) then (sumT (fun g => lod σ (nI g) y) g) else ((amx (fun y => sumT (fun g => lod σ (nI g) y) (nG σ)) (nI 0) (-1) y).2))), (1, .int ((amx (fun y => sumT (fun g => lod σ (nI g) y) (nG σ)) (nI 0) (-1) y).1)), (0, .ref (bs + 67)), (3, .int (nI y)), (4, .int (sumT (fun g => lod σ (nI g) y) g)), (5, .int (nI g))]) hx hb (dg D_X12_busiestYear (i := 44) rfl) rfl hl (by decide) rfl (fun ls hl => ?_)
                refine lv_iinc (v := nI (y + 1)) (lv' := [(3, .int (nI (y + 1))), (2, .int (if ((amx (fun y => sumT (fun g => lod σ (nI g) y) (nG σ)) (nI 0) (-1) y).2) < (sumT (fun g => lod σ (nI g) y) g) then (sumT (fun g => lod σ (nI g) y) g) else ((amx (fun y => sumT (fun g => lod σ (nI g) y) (nG σ)) (nI 0) (-1) y).2))), (1, .int ((amx (fun y => sumT (fun g => lod σ (nI g) y) (nG σ)) (nI 0) (-1) y).1)), (0, .ref (bs + 67)), (4, .int (sumT (fun g => lod σ (nI g) y) g)), (5, .int (nI g))]) hx hb (dg D_X12_busiestYear (i := 45) rfl) hl (k := 3) rfl (nI_add _ _) (by decide) rfl (fun ls hl => ?_)
                refine lv_goto (tgt := 11) hx hb (dg D_X12_busiestYear (i := 46) rfl) (by decide) ?_
                exact ih11 (by omega) K27 _ _ _ _ _ _ (by rw [show g = nG σ by omega] at c59; first | rw [amx_y c59] | rw [amx_n c59]) (by rw [show g = nG σ by omega] at c59 ⊢; first | rw [amx_y c59, if_pos (Int32.not_le.mp c59)] | rw [amx_n c59, if_neg (Int32.not_lt.mpr c59)]) (congrArg nI (by omega)) hF hs hth hW hS (lv_sub hl [3, 2, 1, 0] rfl)
              · refine lv_iload_n hx hb (dg D_X12_busiestYear (i := 37) rfl) rfl (lv_at hl 3 rfl) ?_
                refine lv_goto (tgt := 67) hx hb (dg D_X12_busiestYear (i := 38) rfl) (by decide) ?_
                refine lv_istore_n (lv' := [(1, .int (nI y)), (0, .ref (bs + 67)), (2, .int ((amx (fun y => sumT (fun g => lod σ (nI g) y) (nG σ)) (nI 0) (-1) y).2)), (3, .int (nI y)), (4, .int (sumT (fun g => lod σ (nI g) y) g)), (5, .int (nI g))]) hx hb (dg D_X12_busiestYear (i := 40) rfl) rfl hl (by decide) rfl (fun ls hl => ?_)
                refine lv_iload_n hx hb (dg D_X12_busiestYear (i := 41) rfl) rfl (lv_at hl 2 rfl) ?_
                refine lv_iload hx hb (dg D_X12_busiestYear (i := 42) rfl) (lv_at hl 4 rfl) ?_
                refine r_max (v := if ((amx (fun y => sumT (fun g => lod σ (nI g) y) (nG σ)) (nI 0) (-1) y).2) < (sumT (fun g => lod σ (nI g) y) g) then (sumT (fun g => lod σ (nI g) y) g) else ((amx (fun y => sumT (fun g => lod σ (nI g) y) (nG σ)) (nI 0) (-1) y).2)) X hR (by decide) LK_X12_258 (Nat.le_of_ble_eq_true rfl) hl hcs rfl (dg D_X12_busiestYear (i := 43) rfl) ?_
                refine lv_istore_n (lv' := [(2, .int (if ((amx (fun y => sumT (fun g => lod σ (nI g) y) (nG σ)) (nI 0) (-1) y).2) < (sumT (fun g => lod σ (nI g) y) g) then (sumT (fun g => lod σ (nI g) y) g) else ((amx (fun y => sumT (fun g => lod σ (nI g) y) (nG σ)) (nI 0) (-1) y).2))), (1, .int (nI y)), (0, .ref (bs + 67)), (3, .int (nI y)), (4, .int (sumT (fun g => lod σ (nI g) y) g)), (5, .int (nI g))]) hx hb (dg D_X12_busiestYear (i := 44) rfl) rfl hl (by decide) rfl (fun ls hl => ?_)
                refine lv_iinc (v := nI (y + 1)) (lv' := [(3, .int (nI (y + 1))), (2, .int (if ((amx (fun y => sumT (fun g => lod σ (nI g) y) (nG σ)) (nI 0) (-1) y).2) < (sumT (fun g => lod σ (nI g) y) g) then (sumT (fun g => lod σ (nI g) y) g) else ((amx (fun y => sumT (fun g => lod σ (nI g) y) (nG σ)) (nI 0) (-1) y).2))), (1, .int (nI y)), (0, .ref (bs + 67)), (4, .int (sumT (fun g => lod σ (nI g) y) g)), (5, .int (nI g))]) hx hb (dg D_X12_busiestYear (i := 45) rfl) hl (k := 3) rfl (nI_add _ _) (by decide) rfl (fun ls hl => ?_)
                refine lv_goto (tgt := 11) hx hb (dg D_X12_busiestYear (i := 46) rfl) (by decide) ?_
                exact ih11 (by omega) K27 _ _ _ _ _ _ (by rw [show g = nG σ by omega] at c59; first | rw [amx_y c59] | rw [amx_n c59]) (by rw [show g = nG σ by omega] at c59 ⊢; first | rw [amx_y c59, if_pos (Int32.not_le.mp c59)] | rw [amx_n c59, if_neg (Int32.not_lt.mpr c59)]) (congrArg nI (by omega)) hF hs hth hW hS (lv_sub hl [3, 2, 1, 0] rfl)
            · refine lv_iload hx hb (dg D_X12_busiestYear (i := 25) rfl) (lv_at hl 4 rfl) ?_
              refine lv_aload_n hx hb (dg D_X12_busiestYear (i := 26) rfl) rfl (lv_at hl 0 rfl) ?_
              refine lv_iload hx hb (dg D_X12_busiestYear (i := 27) rfl) (lv_at hl 5 rfl) ?_
              refine lv_iload_n hx hb (dg D_X12_busiestYear (i := 28) rfl) rfl (lv_at hl 3 rfl) ?_
              refine callVi X hW hS hR (c_X12_loadIn (I := K27) σ (nI g) y (by first | assumption | omega | decide | exact hP.1) (by first | assumption | omega | decide | exact hP.1) (by first | assumption | omega | decide | exact hP.1)) (by decide) UVX12_loadIn LK_X12_291 rfl (by decide) rfl rfl rfl (Nat.le_of_ble_eq_true rfl) hl hcs (dg D_X12_busiestYear (i := 29) rfl) (fun r44 I44 L1 R1 H locs hq hW hS => ?_)
              obtain ⟨rfl, hT44, rfl, rfl⟩ := hq
              have hF : Fr SLT I I44 := Fr.tr hF hT44 (by intro a j h; simp only [SL, SLT, Bool.or_eq_true, Bool.and_eq_true, beq_iff_eq, decide_eq_true_eq] at h ⊢; omega)
              have hs : I44 68 = σ := by rw [Fr.row hT44 (fun _ => rfl)]; exact hs
              have hth : I44 67 6 = nI 0 := (hT44 67 6 rfl).trans hth
              refine lv_iadd hx hb (dg D_X12_busiestYear (i := 30) rfl) ?_
              refine lv_istore (lv' := [(4, .int ((sumT (fun g => lod σ (nI g) y) g) + (lod σ (nI g) y))), (0, .ref (bs + 67)), (1, .int ((amx (fun y => sumT (fun g => lod σ (nI g) y) (nG σ)) (nI 0) (-1) y).1)), (2, .int ((amx (fun y => sumT (fun g => lod σ (nI g) y) (nG σ)) (nI 0) (-1) y).2)), (3, .int (nI y)), (5, .int (nI g))]) hx hb (dg D_X12_busiestYear (i := 31) rfl) hl (by decide) rfl (fun ls hl => ?_)
              refine lv_iinc (v := nI (g + 1)) (lv' := [(5, .int (nI (g + 1))), (4, .int ((sumT (fun g => lod σ (nI g) y) g) + (lod σ (nI g) y))), (0, .ref (bs + 67)), (1, .int ((amx (fun y => sumT (fun g => lod σ (nI g) y) (nG σ)) (nI 0) (-1) y).1)), (2, .int ((amx (fun y => sumT (fun g => lod σ (nI g) y) (nG σ)) (nI 0) (-1) y).2)), (3, .int (nI y))]) hx hb (dg D_X12_busiestYear (i := 32) rfl) hl (k := 5) rfl (nI_add _ _) (by decide) rfl (fun ls hl => ?_)
              refine lv_goto (tgt := 27) hx hb (dg D_X12_busiestYear (i := 33) rfl) (by decide) ?_
              exact ih27 (by omega) I44 _ _ _ _ _ (rfl) (congrArg nI (by omega)) hF hs hth hW hS (lv_sub hl [2, 3, 4, 5, 1, 0] rfl))
        exact loop27 0 (Nat.zero_le _) K11 _ _ _ _ _ (rfl) (congrArg nI (by omega)) hF hs hth hW hS (lv_sub hl [2, 3, 4, 5, 1, 0] rfl))
  exact loop11 0 (Nat.zero_le _) J2 _ _ _ _ _ _ (rfl) (rfl) (congrArg nI (by omega)) hF hs hth hW hS (lv_sub hl [3, 2, 1, 0] rfl)

set_option maxHeartbeats 4000000 in
set_option maxRecDepth 100000 in
theorem c_X12_idleDays {l : Launch} {G : va_G} {bs : Nat} {cy : Nat → ClassId} {I : CI} {L : CL} {R : CR} (σ : Row) (v : Int32) (hs : I 68 = σ) (hi : Inv σ) (hd : DR σ) : MTi l G bs cy MX12_idleDays 7 [.ref (bs + 67), .int v] I L R (fun r I1 L1 R1 => ((inB v (nG σ)) = true → r = sumT (fun y => mx (nI 0) (σ (80 + y) - dyI σ v y)) (Yn σ)) ∧ Fr SLT I I1 ∧ I1 67 6 = thr (inB v (nG σ)) ∧ L = L1 ∧ R = R1) := by
  refine MTi.of (own := RX12) pn_RX12 rfl (Nat.le_of_ble_eq_true rfl) ?_
  intro p e s m args below meth c Qf X hW hS fin ls hl
  have hx := X.1
  have hb := X.2.1
  have hR : RmOK (rmL 7 0 0) 7 := ⟨rfl, rfl⟩
  have hcs : 0 ≤ (rmL 7 0 0).cells ∧ 0 ≤ (rmL 7 0 0).slots := ⟨Nat.zero_le _, Nat.zero_le _⟩
  have hl : lv_has ls 4 [(0, .ref (bs + 67)), (1, .int v)] := hl
  have hF : Fr SLT I I := Fr.rf
  obtain ⟨hY, hY1, hY12, hLn, hL4, hSn, hS12, hGn, hG5⟩ := id hi
  refine lv_aload_n hx hb (dg D_X12_idleDays (i := 0) rfl) rfl (lv_at hl 0 rfl) ?_
  refine lv_aload_n hx hb (dg D_X12_idleDays (i := 1) rfl) rfl (lv_at hl 0 rfl) ?_
  refine lv_iload_n hx hb (dg D_X12_idleDays (i := 2) rfl) rfl (lv_at hl 1 rfl) ?_
  refine callVi X hW hS hR (c_X12_isGang (I := I) σ v (by first | assumption | omega | decide | exact hP.1) (by first | assumption | omega | decide | exact hP.1)) (by decide) UVX12_isGang LK_X12_282 rfl (by decide) rfl rfl rfl (Nat.le_of_ble_eq_true rfl) hl hcs (dg D_X12_idleDays (i := 3) rfl) (fun r3 I3 L1 R1 H locs hq hW hS => ?_)
  obtain ⟨rfl, rfl, rfl, rfl⟩ := hq
  refine callVi X hW hS hR (c_X12_good (I := I) (inB v (nG σ))) (by decide) UVX12_good LK_X12_95 rfl (by decide) rfl rfl rfl (Nat.le_of_ble_eq_true rfl) hl hcs (dg D_X12_idleDays (i := 4) rfl) (fun r6 I6 L1 R1 H locs hq hW hS => ?_)
  obtain ⟨rfl, hT6, hp6_0, rfl, rfl⟩ := hq
  have hF : Fr SLT I I6 := Fr.tr hF hT6 (by intro a j h; simp only [ST, SLT, Bool.or_eq_true, Bool.and_eq_true, beq_iff_eq, decide_eq_true_eq] at h ⊢; omega)
  have hs : I6 68 = σ := by rw [Fr.row hT6 (fun _ => rfl)]; exact hs
  have hth : I6 67 6 = thr (inB v (nG σ)) := hp6_0
  refine z_if_ne (tgt := 14) hx hb (dg D_X12_idleDays (i := 5) rfl) (by decide) (fun c9 => ?_) (fun c9 => ?_)
  · obtain ⟨jv, hjv, rfl⟩ := inB_of c9 (by omega)
    refine n_iconst (a := 0) hx hb (dg D_X12_idleDays (i := 8) rfl) rfl ?_
    refine lv_istore_n (lv' := [(2, .int (nI 0)), (0, .ref (bs + 67)), (1, .int (nI jv))]) hx hb (dg D_X12_idleDays (i := 9) rfl) rfl hl (by decide) rfl (fun ls hl => ?_)
    refine n_iconst (a := 0) hx hb (dg D_X12_idleDays (i := 10) rfl) rfl ?_
    refine lv_istore_n (lv' := [(3, .int (nI 0)), (2, .int (nI 0)), (0, .ref (bs + 67)), (1, .int (nI jv))]) hx hb (dg D_X12_idleDays (i := 11) rfl) rfl hl (by decide) rfl (fun ls hl => ?_)
    have loop18 := up_ind (P := fun y => ∀ (K18 : CI) (H : Heap) (locs : List Loc) (ls : Array Slot) (v2 : Int32) (v3 : Int32), v2 = sumT (fun y => mx (nI 0) (σ (80 + y) - dyI σ (nI jv) y)) y → v3 = nI y → (Fr SLT I K18) → (K18 68 = σ) → (K18 67 6 = thr (inB (nI jv) (nG σ))) → Wd G bs cy K18 L R H → va_S (Aq bs) s.heap H locs → lv_has ls 4 [(0, .ref (bs + 67)), (1, .int (nI jv)), (2, .int v2), (3, .int v3)] → W p l e (rmL 7 0 0) s m args below meth c H locs 0 0 Qf (F0 m 18 ls [])) (Yn σ) (fun y hx18 ih18 => by
        intro K18 H locs ls v2 v3 q2 q3 hF hs hth hW hS hl
        subst q2
        subst q3
        refine lv_iload_n hx hb (dg D_X12_idleDays (i := 12) rfl) rfl (lv_at hl 3 rfl) ?_
        refine lv_aload_n hx hb (dg D_X12_idleDays (i := 13) rfl) rfl (lv_at hl 0 rfl) ?_
        refine r_getc (t := 68) X hW FI_X12_7 rfl (by decide) rfl (dg D_X12_idleDays (i := 14) rfl) ?_
        refine n_iconst (a := 0) hx hb (dg D_X12_idleDays (i := 15) rfl) rfl ?_
        refine r_ald (j := 0) (v := nI (Yn σ)) X hW rfl (by decide) rfl (by omega) (by decide) ((congrFun hs _).trans hY) (dg D_X12_idleDays (i := 16) rfl) ?_
        refine n_icmp_ge (tgt := 57) hx hb (by omega) (by omega) (dg D_X12_idleDays (i := 17) rfl) (by decide) (fun c25 => ?_) (fun c25 => ?_)
        · refine lv_iload_n hx hb (dg D_X12_idleDays (i := 36) rfl) rfl (lv_at hl 2 rfl) ?_
          exact fin (dg D_X12_idleDays (i := 37) rfl) hW hS ⟨fun _ => by rw [show y = Yn σ by omega], hF, hth, rfl, rfl⟩
        · refine lv_iload_n hx hb (dg D_X12_idleDays (i := 18) rfl) rfl (lv_at hl 2 rfl) ?_
          refine n_iconst (a := 0) hx hb (dg D_X12_idleDays (i := 19) rfl) rfl ?_
          refine lv_aload_n hx hb (dg D_X12_idleDays (i := 20) rfl) rfl (lv_at hl 0 rfl) ?_
          refine r_getc (t := 68) X hW FI_X12_7 rfl (by decide) rfl (dg D_X12_idleDays (i := 21) rfl) ?_
          refine lv_bipush (v := nI 80) hx hb (dg D_X12_idleDays (i := 22) rfl) (by decide) ?_
          refine lv_iload_n hx hb (dg D_X12_idleDays (i := 23) rfl) rfl (lv_at hl 3 rfl) ?_
          refine n_iadd hx hb (dg D_X12_idleDays (i := 24) rfl) ?_
          refine r_ald (j := 80 + y) (v := σ (80 + y)) X hW rfl (by decide) rfl (by omega) (by decide) (congrFun hs _) (dg D_X12_idleDays (i := 25) rfl) ?_
          refine lv_aload_n hx hb (dg D_X12_idleDays (i := 26) rfl) rfl (lv_at hl 0 rfl) ?_
          refine lv_iload_n hx hb (dg D_X12_idleDays (i := 27) rfl) rfl (lv_at hl 1 rfl) ?_
          refine lv_iload_n hx hb (dg D_X12_idleDays (i := 28) rfl) rfl (lv_at hl 3 rfl) ?_
          refine callVi X hW hS hR (c_X12_daysIn (I := K18) σ (nI jv) y (by first | assumption | omega | decide | exact hP.1) (by first | assumption | omega | decide | exact hP.1) (by first | assumption | omega | decide | exact hP.1) (by first | assumption | omega | decide | exact hP.1) (nI_m1 (by omega))) (by decide) UVX12_daysIn LK_X12_303 rfl (by decide) rfl rfl rfl (Nat.le_of_ble_eq_true rfl) hl hcs (dg D_X12_idleDays (i := 29) rfl) (fun r42 I42 L1 R1 H locs hq hW hS => ?_)
          obtain ⟨rfl, hT42, rfl, rfl⟩ := hq
          have hF : Fr SLT I I42 := Fr.tr hF hT42 (by intro a j h; simp only [SL, SLT, Bool.or_eq_true, Bool.and_eq_true, beq_iff_eq, decide_eq_true_eq] at h ⊢; omega)
          have hs : I42 68 = σ := by rw [Fr.row hT42 (fun _ => rfl)]; exact hs
          have hth : I42 67 6 = thr (inB (nI jv) (nG σ)) := (hT42 67 6 rfl).trans hth
          refine lv_isub hx hb (dg D_X12_idleDays (i := 30) rfl) ?_
          refine r_max (v := mx (nI 0) (σ (80 + y) - dyI σ (nI jv) y)) X hR (by decide) LK_X12_258 (Nat.le_of_ble_eq_true rfl) hl hcs rfl (dg D_X12_idleDays (i := 31) rfl) ?_
          refine lv_iadd hx hb (dg D_X12_idleDays (i := 32) rfl) ?_
          refine lv_istore_n (lv' := [(2, .int ((sumT (fun y => mx (nI 0) (σ (80 + y) - dyI σ (nI jv) y)) y) + (mx (nI 0) (σ (80 + y) - dyI σ (nI jv) y)))), (0, .ref (bs + 67)), (1, .int (nI jv)), (3, .int (nI y))]) hx hb (dg D_X12_idleDays (i := 33) rfl) rfl hl (by decide) rfl (fun ls hl => ?_)
          refine lv_iinc (v := nI (y + 1)) (lv' := [(3, .int (nI (y + 1))), (2, .int ((sumT (fun y => mx (nI 0) (σ (80 + y) - dyI σ (nI jv) y)) y) + (mx (nI 0) (σ (80 + y) - dyI σ (nI jv) y)))), (0, .ref (bs + 67)), (1, .int (nI jv))]) hx hb (dg D_X12_idleDays (i := 34) rfl) hl (k := 3) rfl (nI_add _ _) (by decide) rfl (fun ls hl => ?_)
          refine lv_goto (tgt := 18) hx hb (dg D_X12_idleDays (i := 35) rfl) (by decide) ?_
          exact ih18 (by omega) I42 _ _ _ _ _ (rfl) (congrArg nI (by omega)) hF hs hth hW hS (lv_sub hl [2, 3, 1, 0] rfl))
    exact loop18 0 (Nat.zero_le _) I6 _ _ _ _ _ (rfl) (congrArg nI (by omega)) hF hs hth hW hS (lv_sub hl [2, 3, 1, 0] rfl)
  · refine n_iconst (a := 0) hx hb (dg D_X12_idleDays (i := 6) rfl) rfl ?_
    exact fin (dg D_X12_idleDays (i := 7) rfl) hW hS ⟨fun z => absurd z (by rw [c9]; decide), hF, hth, rfl, rfl⟩

set_option maxHeartbeats 4000000 in
set_option maxRecDepth 100000 in
theorem c_X12_isOver {l : Launch} {G : va_G} {bs : Nat} {cy : Nat → ClassId} {I : CI} {L : CL} {R : CR} (σ : Row) (g : Nat) (y : Nat) (hs : I 68 = σ) (hi : Inv σ) (hg5 : g < 5) (hy5 : y < Yn σ) : MTi l G bs cy MX12_isOver 6 [.ref (bs + 67), .int (nI g), .int (nI y)] I L R (fun r I1 L1 R1 => bI (ovr σ g y) = r ∧ Fr SL I I1 ∧ L = L1 ∧ R = R1) := by
  refine MTz.of (own := RX12) pn_RX12 rfl (Nat.le_of_ble_eq_true rfl) ?_
  intro p e s m args below meth c Qf X hW hS fin ls hl
  have hx := X.1
  have hb := X.2.1
  have hR : RmOK (rmL 6 0 0) 6 := ⟨rfl, rfl⟩
  have hcs : 0 ≤ (rmL 6 0 0).cells ∧ 0 ≤ (rmL 6 0 0).slots := ⟨Nat.zero_le _, Nat.zero_le _⟩
  have hl : lv_has ls 3 [(0, .ref (bs + 67)), (1, .int (nI g)), (2, .int (nI y))] := hl
  have hF : Fr SL I I := Fr.rf
  obtain ⟨hY, hY1, hY12, hLn, hL4, hSn, hS12, hGn, hG5⟩ := id hi
  refine lv_aload_n hx hb (dg D_X12_isOver (i := 0) rfl) rfl (lv_at hl 0 rfl) ?_
  refine lv_iload_n hx hb (dg D_X12_isOver (i := 1) rfl) rfl (lv_at hl 1 rfl) ?_
  refine lv_iload_n hx hb (dg D_X12_isOver (i := 2) rfl) rfl (lv_at hl 2 rfl) ?_
  refine callVi X hW hS hR (c_X12_loadIn (I := I) σ (nI g) y (by first | assumption | omega | decide | exact hP.1) (by first | assumption | omega | decide | exact hP.1) (by first | assumption | omega | decide | exact hP.1)) (by decide) UVX12_loadIn LK_X12_291 rfl (by decide) rfl rfl rfl (Nat.le_of_ble_eq_true rfl) hl hcs (dg D_X12_isOver (i := 3) rfl) (fun r3 I3 L1 R1 H locs hq hW hS => ?_)
  obtain ⟨rfl, hT3, rfl, rfl⟩ := hq
  have hF : Fr SL I I3 := Fr.tr hF hT3 (fun _ _ h => h)
  have hs : I3 68 = σ := by rw [Fr.row hT3 (fun _ => rfl)]; exact hs
  refine lv_aload_n hx hb (dg D_X12_isOver (i := 4) rfl) rfl (lv_at hl 0 rfl) ?_
  refine lv_iload_n hx hb (dg D_X12_isOver (i := 5) rfl) rfl (lv_at hl 1 rfl) ?_
  refine lv_iload_n hx hb (dg D_X12_isOver (i := 6) rfl) rfl (lv_at hl 2 rfl) ?_
  refine callVi X hW hS hR (c_X12_capacityOf (I := I3) σ g y (by first | assumption | omega | decide | exact hP.1) (by first | assumption | omega | decide | exact hP.1) (by first | assumption | omega | decide | exact hP.1)) (by decide) UVX12_capacityOf LK_X12_288 rfl (by decide) rfl rfl rfl (Nat.le_of_ble_eq_true rfl) hl hcs (dg D_X12_isOver (i := 7) rfl) (fun r9 I9 L1 R1 H locs hq hW hS => ?_)
  obtain ⟨rfl, rfl, rfl, rfl⟩ := hq
  refine lv_icmp_le (tgt := 19) hx hb (dg D_X12_isOver (i := 8) rfl) (by decide) (fun c12 => ?_) (fun c12 => ?_)
  · refine n_iconst (a := 0) hx hb (dg D_X12_isOver (i := 11) rfl) rfl ?_
    exact fin (dg D_X12_isOver (i := 12) rfl) hW hS (show _ = bI false from rfl) ⟨congrArg bI (by unfold ovr; first | rw [decide_eq_true (Int32.not_le.mp c12)] | rw [decide_eq_false (Int32.not_lt.mpr c12)]), hF, rfl, rfl⟩
  · refine n_iconst (a := 1) hx hb (dg D_X12_isOver (i := 9) rfl) rfl ?_
    refine lv_goto (tgt := 20) hx hb (dg D_X12_isOver (i := 10) rfl) (by decide) ?_
    exact fin (dg D_X12_isOver (i := 12) rfl) hW hS (show _ = bI true from rfl) ⟨congrArg bI (by unfold ovr; first | rw [decide_eq_true (Int32.not_le.mp c12)] | rw [decide_eq_false (Int32.not_lt.mpr c12)]), hF, rfl, rfl⟩

set_option maxHeartbeats 4000000 in
set_option maxRecDepth 100000 in
theorem c_X12_countOver {l : Launch} {G : va_G} {bs : Nat} {cy : Nat → ClassId} {I : CI} {L : CL} {R : CR} (σ : Row) (hs : I 68 = σ) (hi : Inv σ) : MTi l G bs cy MX12_countOver 7 [.ref (bs + 67)] I L R (fun r I1 L1 R1 => cov σ = r ∧ Fr SL I I1 ∧ L = L1 ∧ R = R1) := by
  refine MTi.of (own := RX12) pn_RX12 rfl (Nat.le_of_ble_eq_true rfl) ?_
  intro p e s m args below meth c Qf X hW hS fin ls hl
  have hx := X.1
  have hb := X.2.1
  have hR : RmOK (rmL 7 0 0) 7 := ⟨rfl, rfl⟩
  have hcs : 0 ≤ (rmL 7 0 0).cells ∧ 0 ≤ (rmL 7 0 0).slots := ⟨Nat.zero_le _, Nat.zero_le _⟩
  have hl : lv_has ls 4 [(0, .ref (bs + 67))] := hl
  have hF : Fr SL I I := Fr.rf
  obtain ⟨hY, hY1, hY12, hLn, hL4, hSn, hS12, hGn, hG5⟩ := id hi
  refine n_iconst (a := 0) hx hb (dg D_X12_countOver (i := 0) rfl) rfl ?_
  refine lv_istore_n (lv' := [(1, .int (nI 0)), (0, .ref (bs + 67))]) hx hb (dg D_X12_countOver (i := 1) rfl) rfl hl (by decide) rfl (fun ls hl => ?_)
  refine n_iconst (a := 0) hx hb (dg D_X12_countOver (i := 2) rfl) rfl ?_
  refine lv_istore_n (lv' := [(2, .int (nI 0)), (1, .int (nI 0)), (0, .ref (bs + 67))]) hx hb (dg D_X12_countOver (i := 3) rfl) rfl hl (by decide) rfl (fun ls hl => ?_)
  have loop4 := up_ind (P := fun y => ∀ (K4 : CI) (H : Heap) (locs : List Loc) (ls : Array Slot) (v1 : Int32) (v2 : Int32), v1 = sumT (fun y => sumT (fun g => if ovr σ g y = true then nI 1 else nI 0) (nG σ)) y → v2 = nI y → (Fr SL I K4) → (K4 68 = σ) → Wd G bs cy K4 L R H → va_S (Aq bs) s.heap H locs → lv_has ls 4 [(0, .ref (bs + 67)), (1, .int v1), (2, .int v2)] → W p l e (rmL 7 0 0) s m args below meth c H locs 0 0 Qf (F0 m 4 ls [])) (Yn σ) (fun y hx4 ih4 => by
      intro K4 H locs ls v1 v2 q1 q2 hF hs hW hS hl
      subst q1
      subst q2
      refine lv_iload_n hx hb (dg D_X12_countOver (i := 4) rfl) rfl (lv_at hl 2 rfl) ?_
      refine lv_aload_n hx hb (dg D_X12_countOver (i := 5) rfl) rfl (lv_at hl 0 rfl) ?_
      refine r_getc (t := 68) X hW FI_X12_7 rfl (by decide) rfl (dg D_X12_countOver (i := 6) rfl) ?_
      refine n_iconst (a := 0) hx hb (dg D_X12_countOver (i := 7) rfl) rfl ?_
      refine r_ald (j := 0) (v := nI (Yn σ)) X hW rfl (by decide) rfl (by omega) (by decide) ((congrFun hs _).trans hY) (dg D_X12_countOver (i := 8) rfl) ?_
      refine n_icmp_ge (tgt := 55) hx hb (by omega) (by omega) (dg D_X12_countOver (i := 9) rfl) (by decide) (fun c11 => ?_) (fun c11 => ?_)
      · refine lv_iload_n hx hb (dg D_X12_countOver (i := 33) rfl) rfl (lv_at hl 1 rfl) ?_
        exact fin (dg D_X12_countOver (i := 34) rfl) hW hS ⟨by rw [show y = Yn σ by omega]; rfl, hF, rfl, rfl⟩
      · refine n_iconst (a := 0) hx hb (dg D_X12_countOver (i := 10) rfl) rfl ?_
        refine lv_istore_n (lv' := [(3, .int (nI 0)), (0, .ref (bs + 67)), (1, .int (sumT (fun y => sumT (fun g => if ovr σ g y = true then nI 1 else nI 0) (nG σ)) y)), (2, .int (nI y))]) hx hb (dg D_X12_countOver (i := 11) rfl) rfl hl (by decide) rfl (fun ls hl => ?_)
        have loop16 := up_ind (P := fun g => ∀ (K16 : CI) (H : Heap) (locs : List Loc) (ls : Array Slot) (v1 : Int32) (v3 : Int32), v1 = sumT (fun y => sumT (fun g => if ovr σ g y = true then nI 1 else nI 0) (nG σ)) y + sumT (fun g => if ovr σ g y = true then nI 1 else nI 0) g → v3 = nI g → (Fr SL I K16) → (K16 68 = σ) → Wd G bs cy K16 L R H → va_S (Aq bs) s.heap H locs → lv_has ls 4 [(0, .ref (bs + 67)), (1, .int v1), (2, .int (nI y)), (3, .int v3)] → W p l e (rmL 7 0 0) s m args below meth c H locs 0 0 Qf (F0 m 16 ls [])) (nG σ) (fun g hx16 ih16 => by
            intro K16 H locs ls v1 v3 q1 q3 hF hs hW hS hl
            subst q1
            subst q3
            refine lv_iload_n hx hb (dg D_X12_countOver (i := 12) rfl) rfl (lv_at hl 3 rfl) ?_
            refine lv_aload_n hx hb (dg D_X12_countOver (i := 13) rfl) rfl (lv_at hl 0 rfl) ?_
            refine r_getc (t := 68) X hW FI_X12_7 rfl (by decide) rfl (dg D_X12_countOver (i := 14) rfl) ?_
            refine n_iconst (a := 5) hx hb (dg D_X12_countOver (i := 15) rfl) rfl ?_
            refine r_ald (j := 5) (v := nI (nG σ)) X hW rfl (by decide) rfl (by omega) (by decide) ((congrFun hs _).trans hGn) (dg D_X12_countOver (i := 16) rfl) ?_
            refine n_icmp_ge (tgt := 49) hx hb (by omega) (by omega) (dg D_X12_countOver (i := 17) rfl) (by decide) (fun c23 => ?_) (fun c23 => ?_)
            · refine lv_iinc (v := nI (y + 1)) (lv' := [(2, .int (nI (y + 1))), (0, .ref (bs + 67)), (1, .int (sumT (fun y => sumT (fun g => if ovr σ g y = true then nI 1 else nI 0) (nG σ)) y + sumT (fun g => if ovr σ g y = true then nI 1 else nI 0) g)), (3, .int (nI g))]) hx hb (dg D_X12_countOver (i := 31) rfl) hl (k := 2) rfl (nI_add _ _) (by decide) rfl (fun ls hl => ?_)
              refine lv_goto (tgt := 4) hx hb (dg D_X12_countOver (i := 32) rfl) (by decide) ?_
              exact ih4 (by omega) K16 _ _ _ _ _ (by rw [show g = nG σ by omega]; rfl) (congrArg nI (by omega)) hF hs hW hS (lv_sub hl [1, 2, 0] rfl)
            · refine lv_iload_n hx hb (dg D_X12_countOver (i := 18) rfl) rfl (lv_at hl 1 rfl) ?_
              refine lv_aload_n hx hb (dg D_X12_countOver (i := 19) rfl) rfl (lv_at hl 0 rfl) ?_
              refine lv_iload_n hx hb (dg D_X12_countOver (i := 20) rfl) rfl (lv_at hl 3 rfl) ?_
              refine lv_iload_n hx hb (dg D_X12_countOver (i := 21) rfl) rfl (lv_at hl 2 rfl) ?_
              refine callVi X hW hS hR (c_X12_isOver (I := K16) σ g y (by first | assumption | omega | decide | exact hP.1) (by first | assumption | omega | decide | exact hP.1) (by first | assumption | omega | decide | exact hP.1) (by first | assumption | omega | decide | exact hP.1)) (by decide) UVX12_isOver LK_X12_318 rfl (by decide) rfl rfl rfl (Nat.le_of_ble_eq_true rfl) hl hcs (dg D_X12_countOver (i := 22) rfl) (fun r30 I30 L1 R1 H locs hq hW hS => ?_)
              obtain ⟨rfl, hT30, rfl, rfl⟩ := hq
              have hF : Fr SL I I30 := Fr.tr hF hT30 (fun _ _ h => h)
              have hs : I30 68 = σ := by rw [Fr.row hT30 (fun _ => rfl)]; exact hs
              refine z_if_eq (tgt := 40) hx hb (dg D_X12_countOver (i := 23) rfl) (by decide) (fun c33 => ?_) (fun c33 => ?_)
              · refine n_iconst (a := 0) hx hb (dg D_X12_countOver (i := 26) rfl) rfl ?_
                refine lv_iadd hx hb (dg D_X12_countOver (i := 27) rfl) ?_
                refine lv_istore_n (lv' := [(1, .int ((sumT (fun y => sumT (fun g => if ovr σ g y = true then nI 1 else nI 0) (nG σ)) y + sumT (fun g => if ovr σ g y = true then nI 1 else nI 0) g) + (nI 0))), (0, .ref (bs + 67)), (2, .int (nI y)), (3, .int (nI g))]) hx hb (dg D_X12_countOver (i := 28) rfl) rfl hl (by decide) rfl (fun ls hl => ?_)
                refine lv_iinc (v := nI (g + 1)) (lv' := [(3, .int (nI (g + 1))), (1, .int ((sumT (fun y => sumT (fun g => if ovr σ g y = true then nI 1 else nI 0) (nG σ)) y + sumT (fun g => if ovr σ g y = true then nI 1 else nI 0) g) + (nI 0))), (0, .ref (bs + 67)), (2, .int (nI y))]) hx hb (dg D_X12_countOver (i := 29) rfl) hl (k := 3) rfl (nI_add _ _) (by decide) rfl (fun ls hl => ?_)
                refine lv_goto (tgt := 16) hx hb (dg D_X12_countOver (i := 30) rfl) (by decide) ?_
                exact ih16 (by omega) I30 _ _ _ _ _ (by rw [sumT_add]; first | rw [if_pos c33] | rw [if_neg (by rw [c33]; decide)]) (congrArg nI (by omega)) hF hs hW hS (lv_sub hl [2, 1, 3, 0] rfl)
              · refine n_iconst (a := 1) hx hb (dg D_X12_countOver (i := 24) rfl) rfl ?_
                refine lv_goto (tgt := 41) hx hb (dg D_X12_countOver (i := 25) rfl) (by decide) ?_
                refine lv_iadd hx hb (dg D_X12_countOver (i := 27) rfl) ?_
                refine lv_istore_n (lv' := [(1, .int ((sumT (fun y => sumT (fun g => if ovr σ g y = true then nI 1 else nI 0) (nG σ)) y + sumT (fun g => if ovr σ g y = true then nI 1 else nI 0) g) + (nI 1))), (0, .ref (bs + 67)), (2, .int (nI y)), (3, .int (nI g))]) hx hb (dg D_X12_countOver (i := 28) rfl) rfl hl (by decide) rfl (fun ls hl => ?_)
                refine lv_iinc (v := nI (g + 1)) (lv' := [(3, .int (nI (g + 1))), (1, .int ((sumT (fun y => sumT (fun g => if ovr σ g y = true then nI 1 else nI 0) (nG σ)) y + sumT (fun g => if ovr σ g y = true then nI 1 else nI 0) g) + (nI 1))), (0, .ref (bs + 67)), (2, .int (nI y))]) hx hb (dg D_X12_countOver (i := 29) rfl) hl (k := 3) rfl (nI_add _ _) (by decide) rfl (fun ls hl => ?_)
                refine lv_goto (tgt := 16) hx hb (dg D_X12_countOver (i := 30) rfl) (by decide) ?_
                exact ih16 (by omega) I30 _ _ _ _ _ (by rw [sumT_add]; first | rw [if_pos c33] | rw [if_neg (by rw [c33]; decide)]) (congrArg nI (by omega)) hF hs hW hS (lv_sub hl [2, 1, 3, 0] rfl))
        exact loop16 0 (Nat.zero_le _) K4 _ _ _ _ _ ((Int32.add_zero _).symm) (congrArg nI (by omega)) hF hs hW hS (lv_sub hl [1, 2, 3, 0] rfl))
  exact loop4 0 (Nat.zero_le _) I _ _ _ _ _ (rfl) (congrArg nI (by omega)) hF hs hW hS (lv_sub hl [2, 1, 0] rfl)

set_option maxHeartbeats 4000000 in
set_option maxRecDepth 100000 in
theorem c_X12_overloads {l : Launch} {G : va_G} {bs : Nat} {cy : Nat → ClassId} {I : CI} {L : CL} {R : CR} (σ : Row) (hs : I 68 = σ) (hi : Inv σ) : MTi l G bs cy MX12_overloads 8 [.ref (bs + 67)] I L R (fun r I1 L1 R1 => cov σ = r ∧ Fr SLT I I1 ∧ I1 67 6 = nI 0 ∧ L = L1 ∧ R = R1) := by
  refine MTi.of (own := RX12) pn_RX12 rfl (Nat.le_of_ble_eq_true rfl) ?_
  intro p e s m args below meth c Qf X hW hS fin ls hl
  have hx := X.1
  have hb := X.2.1
  have hR : RmOK (rmL 8 0 0) 8 := ⟨rfl, rfl⟩
  have hcs : 0 ≤ (rmL 8 0 0).cells ∧ 0 ≤ (rmL 8 0 0).slots := ⟨Nat.zero_le _, Nat.zero_le _⟩
  have hl : lv_has ls 1 [(0, .ref (bs + 67))] := hl
  have hF : Fr SLT I I := Fr.rf
  obtain ⟨hY, hY1, hY12, hLn, hL4, hSn, hS12, hGn, hG5⟩ := id hi
  have hth0 : True := trivial
  refine lv_aload_n hx hb (dg D_X12_overloads (i := 0) rfl) rfl (lv_at hl 0 rfl) ?_
  refine n_iconst (a := 0) hx hb (dg D_X12_overloads (i := 1) rfl) rfl ?_
  refine r_puti (v := nI 0) (ty := .int) X hW hS FI_X12_74 rfl (by decide) rfl rfl (by decide +kernel) rfl rfl (dg D_X12_overloads (i := 2) rfl) (fun H locs hW hS => ?_)
  have hF : Fr SLT I (u2 I 67 6 (nI 0)) := Fr.put hF rfl
  have hs : (u2 I 67 6 (nI 0)) 68 = σ := hs
  obtain ⟨J2, eJ2⟩ : ∃ J, J = u2 I 67 6 (nI 0) := ⟨_, rfl⟩
  rw [← eJ2] at hW hF hs
  have hth : J2 67 6 = nI 0 := by rw [eJ2]; exact u2_at
  refine lv_aload_n hx hb (dg D_X12_overloads (i := 3) rfl) rfl (lv_at hl 0 rfl) ?_
  refine callVi X hW hS hR (c_X12_countOver (I := J2) σ (by first | assumption | omega | decide | exact hP.1) (by first | assumption | omega | decide | exact hP.1)) (by decide) UVX12_countOver LK_X12_321 rfl (by decide) rfl rfl rfl (Nat.le_of_ble_eq_true rfl) hl hcs (dg D_X12_overloads (i := 4) rfl) (fun r6 I6 L1 R1 H locs hq hW hS => ?_)
  obtain ⟨rfl, hT6, rfl, rfl⟩ := hq
  have hF : Fr SLT I I6 := Fr.tr hF hT6 (by intro a j h; simp only [SL, SLT, Bool.or_eq_true, Bool.and_eq_true, beq_iff_eq, decide_eq_true_eq] at h ⊢; omega)
  have hs : I6 68 = σ := by rw [Fr.row hT6 (fun _ => rfl)]; exact hs
  have hth : I6 67 6 = nI 0 := (hT6 67 6 rfl).trans hth
  exact fin (dg D_X12_overloads (i := 5) rfl) hW hS ⟨rfl, hF, hth, rfl, rfl⟩

set_option maxHeartbeats 4000000 in
set_option maxRecDepth 100000 in
theorem c_X12_refusalOf {l : Launch} {G : va_G} {bs : Nat} {cy : Nat → ClassId} {I : CI} {L : CL} {R : CR} (σ : Row) (y : Nat) (x : Nat) (g : Nat) (hs : I 68 = σ) (hi : Inv σ) (hy5 : y < Yn σ) (hx5 : x < 12) (hg5 : g < 5) : MTi l G bs cy MX12_refusalOf 6 [.ref (bs + 67), .int (nI y), .int (nI x), .int (nI g)] I L R (fun r I1 L1 R1 => rfs σ y x g = r ∧ Fr SL I I1 ∧ L = L1 ∧ R = R1) := by
  refine MTi.of (own := RX12) pn_RX12 rfl (Nat.le_of_ble_eq_true rfl) ?_
  intro p e s m args below meth c Qf X hW hS fin ls hl
  have hx := X.1
  have hb := X.2.1
  have hR : RmOK (rmL 6 0 0) 6 := ⟨rfl, rfl⟩
  have hcs : 0 ≤ (rmL 6 0 0).cells ∧ 0 ≤ (rmL 6 0 0).slots := ⟨Nat.zero_le _, Nat.zero_le _⟩
  have hl : lv_has ls 5 [(0, .ref (bs + 67)), (1, .int (nI y)), (2, .int (nI x)), (3, .int (nI g))] := hl
  have hF : Fr SL I I := Fr.rf
  obtain ⟨hY, hY1, hY12, hLn, hL4, hSn, hS12, hGn, hG5⟩ := id hi
  refine lv_aload_n hx hb (dg D_X12_refusalOf (i := 0) rfl) rfl (lv_at hl 0 rfl) ?_
  refine lv_iload_n hx hb (dg D_X12_refusalOf (i := 1) rfl) rfl (lv_at hl 2 rfl) ?_
  refine n_iconst (a := 0) hx hb (dg D_X12_refusalOf (i := 2) rfl) rfl ?_
  refine callVi X hW hS hR (c_X12_spanOf (I := I) σ x 0 (by first | assumption | omega | decide | exact hP.1) (by first | assumption | omega | decide | exact hP.1) (by first | assumption | omega | decide | exact hP.1)) (by decide) UVX12_spanOf LK_X12_224 rfl (by decide) rfl rfl rfl (Nat.le_of_ble_eq_true rfl) hl hcs (dg D_X12_refusalOf (i := 3) rfl) (fun r3 I3 L1 R1 H locs hq hW hS => ?_)
  obtain ⟨rfl, rfl, rfl, rfl⟩ := hq
  refine lv_istore (lv' := [(4, .int (σ (10 + 5 * x + 0))), (0, .ref (bs + 67)), (1, .int (nI y)), (2, .int (nI x)), (3, .int (nI g))]) hx hb (dg D_X12_refusalOf (i := 4) rfl) hl (by decide) rfl (fun ls hl => ?_)
  refine lv_aload_n hx hb (dg D_X12_refusalOf (i := 5) rfl) rfl (lv_at hl 1 rfl) ?_
  refine lv_iload_n hx hb (dg D_X12_refusalOf (i := 6) rfl) rfl (lv_at hl 3 rfl) ?_
  refine lv_iload_n hx hb (dg D_X12_refusalOf (i := 7) rfl) rfl (lv_at hl 2 rfl) ?_
  refine callVi X hW hS hR (c_X12_painter (I := I) σ x y (by first | assumption | omega | decide | exact hP.1) (by first | assumption | omega | decide | exact hP.1) (by first | assumption | omega | decide | exact hP.1)) (by decide) UVX12_painter LK_X12_233 rfl (by decide) rfl rfl rfl (Nat.le_of_ble_eq_true rfl) hl hcs (dg D_X12_refusalOf (i := 8) rfl) (fun r11 I11 L1 R1 H locs hq hW hS => ?_)
  obtain ⟨rfl, rfl, rfl, rfl⟩ := hq
  refine lv_iconst (v := -1) hx hb (dg D_X12_refusalOf (i := 9) rfl) (by decide) ?_
  refine lv_icmp_eq (tgt := 20) hx hb (dg D_X12_refusalOf (i := 10) rfl) (by decide) (fun c15 => ?_) (fun c15 => ?_)
  · refine lv_iload hx hb (dg D_X12_refusalOf (i := 13) rfl) (lv_at hl 0 rfl) ?_
    refine lv_iconst (v := -1) hx hb (dg D_X12_refusalOf (i := 14) rfl) (by decide) ?_
    refine lv_icmp_eq (tgt := 46) hx hb (dg D_X12_refusalOf (i := 15) rfl) (by decide) (fun c23 => ?_) (fun c23 => ?_)
    · refine lv_iload hx hb (dg D_X12_refusalOf (i := 30) rfl) (lv_at hl 0 rfl) ?_
      refine lv_iconst (v := -1) hx hb (dg D_X12_refusalOf (i := 31) rfl) (by decide) ?_
      refine lv_icmp_eq (tgt := 76) hx hb (dg D_X12_refusalOf (i := 32) rfl) (by decide) (fun c49 => ?_) (fun c49 => ?_)
      · refine lv_aload_n hx hb (dg D_X12_refusalOf (i := 48) rfl) rfl (lv_at hl 1 rfl) ?_
        refine lv_iload_n hx hb (dg D_X12_refusalOf (i := 49) rfl) rfl (lv_at hl 4 rfl) ?_
        refine lv_iload_n hx hb (dg D_X12_refusalOf (i := 50) rfl) rfl (lv_at hl 2 rfl) ?_
        refine callVi X hW hS hR (c_X12_loadIn (I := I) σ (nI g) y (by first | assumption | omega | decide | exact hP.1) (by first | assumption | omega | decide | exact hP.1) (by first | assumption | omega | decide | exact hP.1)) (by decide) UVX12_loadIn LK_X12_291 rfl (by decide) rfl rfl rfl (Nat.le_of_ble_eq_true rfl) hl hcs (dg D_X12_refusalOf (i := 51) rfl) (fun r79 I79 L1 R1 H locs hq hW hS => ?_)
        obtain ⟨rfl, hT79, rfl, rfl⟩ := hq
        have hF : Fr SL I I79 := Fr.tr hF hT79 (fun _ _ h => h)
        have hs : I79 68 = σ := by rw [Fr.row hT79 (fun _ => rfl)]; exact hs
        refine lv_aload_n hx hb (dg D_X12_refusalOf (i := 52) rfl) rfl (lv_at hl 1 rfl) ?_
        refine lv_iload_n hx hb (dg D_X12_refusalOf (i := 53) rfl) rfl (lv_at hl 3 rfl) ?_
        refine lv_iload_n hx hb (dg D_X12_refusalOf (i := 54) rfl) rfl (lv_at hl 2 rfl) ?_
        refine callVi X hW hS hR (c_X12_effortOf (I := I79) σ x y (by first | assumption | omega | decide | exact hP.1) (by first | assumption | omega | decide | exact hP.1) (by first | assumption | omega | decide | exact hP.1) (by first | assumption | omega | decide | exact hP.1)) (by decide) UVX12_effortOf LK_X12_279 rfl (by decide) rfl rfl rfl (Nat.le_of_ble_eq_true rfl) hl hcs (dg D_X12_refusalOf (i := 55) rfl) (fun r85 I85 L1 R1 H locs hq hW hS => ?_)
        obtain ⟨rfl, hT85, rfl, rfl⟩ := hq
        have hF : Fr SL I I85 := Fr.tr hF hT85 (fun _ _ h => h)
        have hs : I85 68 = σ := by rw [Fr.row hT85 (fun _ => rfl)]; exact hs
        refine lv_iadd hx hb (dg D_X12_refusalOf (i := 56) rfl) ?_
        refine lv_aload_n hx hb (dg D_X12_refusalOf (i := 57) rfl) rfl (lv_at hl 1 rfl) ?_
        refine lv_iload_n hx hb (dg D_X12_refusalOf (i := 58) rfl) rfl (lv_at hl 4 rfl) ?_
        refine lv_iload_n hx hb (dg D_X12_refusalOf (i := 59) rfl) rfl (lv_at hl 2 rfl) ?_
        refine callVi X hW hS hR (c_X12_capacityOf (I := I85) σ g y (by first | assumption | omega | decide | exact hP.1) (by first | assumption | omega | decide | exact hP.1) (by first | assumption | omega | decide | exact hP.1)) (by decide) UVX12_capacityOf LK_X12_288 rfl (by decide) rfl rfl rfl (Nat.le_of_ble_eq_true rfl) hl hcs (dg D_X12_refusalOf (i := 60) rfl) (fun r92 I92 L1 R1 H locs hq hW hS => ?_)
        obtain ⟨rfl, rfl, rfl, rfl⟩ := hq
        refine lv_icmp_le (tgt := 102) hx hb (dg D_X12_refusalOf (i := 61) rfl) (by decide) (fun c95 => ?_) (fun c95 => ?_)
        · refine n_iconst (a := 0) hx hb (dg D_X12_refusalOf (i := 64) rfl) rfl ?_
          exact fin (dg D_X12_refusalOf (i := 65) rfl) hW hS ⟨by first | exact absurd c23 c49 | exact absurd c49 c23 | (unfold rfs; first | rw [if_neg (fun z => z c15), if_neg (nAl c23), if_neg (nAl c49), if_pos (Int32.not_le.mp c95)] | rw [if_neg (fun z => z c15), if_neg (nAl c23), if_neg (nAl c49), if_neg (Int32.not_lt.mpr c95)] | rw [if_neg (fun z => z c15), if_neg (nAl c23), if_neg (nAr (Int32.not_lt.mpr c71)), if_pos (Int32.not_le.mp c95)] | rw [if_neg (fun z => z c15), if_neg (nAl c23), if_neg (nAr (Int32.not_lt.mpr c71)), if_neg (Int32.not_lt.mpr c95)] | rw [if_neg (fun z => z c15), if_neg (nAr c41), if_neg (nAl c49), if_pos (Int32.not_le.mp c95)] | rw [if_neg (fun z => z c15), if_neg (nAr c41), if_neg (nAl c49), if_neg (Int32.not_lt.mpr c95)] | rw [if_neg (fun z => z c15), if_neg (nAr c41), if_neg (nAr (Int32.not_lt.mpr c71)), if_pos (Int32.not_le.mp c95)] | rw [if_neg (fun z => z c15), if_neg (nAr c41), if_neg (nAr (Int32.not_lt.mpr c71)), if_neg (Int32.not_lt.mpr c95)]), hF, rfl, rfl⟩
        · refine n_iconst (a := 4) hx hb (dg D_X12_refusalOf (i := 62) rfl) rfl ?_
          refine lv_goto (tgt := 103) hx hb (dg D_X12_refusalOf (i := 63) rfl) (by decide) ?_
          exact fin (dg D_X12_refusalOf (i := 65) rfl) hW hS ⟨by first | exact absurd c23 c49 | exact absurd c49 c23 | (unfold rfs; first | rw [if_neg (fun z => z c15), if_neg (nAl c23), if_neg (nAl c49), if_pos (Int32.not_le.mp c95)] | rw [if_neg (fun z => z c15), if_neg (nAl c23), if_neg (nAl c49), if_neg (Int32.not_lt.mpr c95)] | rw [if_neg (fun z => z c15), if_neg (nAl c23), if_neg (nAr (Int32.not_lt.mpr c71)), if_pos (Int32.not_le.mp c95)] | rw [if_neg (fun z => z c15), if_neg (nAl c23), if_neg (nAr (Int32.not_lt.mpr c71)), if_neg (Int32.not_lt.mpr c95)] | rw [if_neg (fun z => z c15), if_neg (nAr c41), if_neg (nAl c49), if_pos (Int32.not_le.mp c95)] | rw [if_neg (fun z => z c15), if_neg (nAr c41), if_neg (nAl c49), if_neg (Int32.not_lt.mpr c95)] | rw [if_neg (fun z => z c15), if_neg (nAr c41), if_neg (nAr (Int32.not_lt.mpr c71)), if_pos (Int32.not_le.mp c95)] | rw [if_neg (fun z => z c15), if_neg (nAr c41), if_neg (nAr (Int32.not_lt.mpr c71)), if_neg (Int32.not_lt.mpr c95)]), hF, rfl, rfl⟩
      · refine lv_aload_n hx hb (dg D_X12_refusalOf (i := 33) rfl) rfl (lv_at hl 1 rfl) ?_
        refine lv_iload_n hx hb (dg D_X12_refusalOf (i := 34) rfl) rfl (lv_at hl 2 rfl) ?_
        refine callVi X hW hS hR (c_X12_shutIn (I := I) σ y (by first | assumption | omega | decide | exact hP.1) (by first | assumption | omega | decide | exact hP.1) (by first | assumption | omega | decide | exact hP.1)) (by decide) UVX12_shutIn LK_X12_297 rfl (by decide) rfl rfl rfl (Nat.le_of_ble_eq_true rfl) hl hcs (dg D_X12_refusalOf (i := 35) rfl) (fun r54 I54 L1 R1 H locs hq hW hS => ?_)
        obtain ⟨rfl, rfl, rfl, rfl⟩ := hq
        refine n_iconst (a := 1) hx hb (dg D_X12_refusalOf (i := 36) rfl) rfl ?_
        refine lv_iload hx hb (dg D_X12_refusalOf (i := 37) rfl) (lv_at hl 0 rfl) ?_
        refine lv_ishl hx hb (dg D_X12_refusalOf (i := 38) rfl) ?_
        refine lv_ior hx hb (dg D_X12_refusalOf (i := 39) rfl) ?_
        refine callSi X hW hS hR (c_X12_bits (I := I) ((shu σ y) ||| ((nI 1) <<< ((σ (10 + 5 * x + 0)) &&& 31)))) (by decide) USX12_bits LK_X12_270 rfl rfl (Nat.le_of_ble_eq_true rfl) hl hcs (dg D_X12_refusalOf (i := 40) rfl) (fun r62 I62 L1 R1 H locs hq hW hS => ?_)
        obtain ⟨rfl, rfl, rfl, rfl⟩ := hq
        refine lv_aload_n hx hb (dg D_X12_refusalOf (i := 41) rfl) rfl (lv_at hl 1 rfl) ?_
        refine r_getc (t := 68) X hW FI_X12_7 rfl (by decide) rfl (dg D_X12_refusalOf (i := 42) rfl) ?_
        refine n_iconst (a := 1) hx hb (dg D_X12_refusalOf (i := 43) rfl) rfl ?_
        refine r_ald (j := 1) (v := σ 1) X hW rfl (by decide) rfl (by omega) (by decide) (congrFun hs _) (dg D_X12_refusalOf (i := 44) rfl) ?_
        refine lv_icmp_le (tgt := 76) hx hb (dg D_X12_refusalOf (i := 45) rfl) (by decide) (fun c71 => ?_) (fun c71 => ?_)
        · refine lv_aload_n hx hb (dg D_X12_refusalOf (i := 48) rfl) rfl (lv_at hl 1 rfl) ?_
          refine lv_iload_n hx hb (dg D_X12_refusalOf (i := 49) rfl) rfl (lv_at hl 4 rfl) ?_
          refine lv_iload_n hx hb (dg D_X12_refusalOf (i := 50) rfl) rfl (lv_at hl 2 rfl) ?_
          refine callVi X hW hS hR (c_X12_loadIn (I := I) σ (nI g) y (by first | assumption | omega | decide | exact hP.1) (by first | assumption | omega | decide | exact hP.1) (by first | assumption | omega | decide | exact hP.1)) (by decide) UVX12_loadIn LK_X12_291 rfl (by decide) rfl rfl rfl (Nat.le_of_ble_eq_true rfl) hl hcs (dg D_X12_refusalOf (i := 51) rfl) (fun r79 I79 L1 R1 H locs hq hW hS => ?_)
          obtain ⟨rfl, hT79, rfl, rfl⟩ := hq
          have hF : Fr SL I I79 := Fr.tr hF hT79 (fun _ _ h => h)
          have hs : I79 68 = σ := by rw [Fr.row hT79 (fun _ => rfl)]; exact hs
          refine lv_aload_n hx hb (dg D_X12_refusalOf (i := 52) rfl) rfl (lv_at hl 1 rfl) ?_
          refine lv_iload_n hx hb (dg D_X12_refusalOf (i := 53) rfl) rfl (lv_at hl 3 rfl) ?_
          refine lv_iload_n hx hb (dg D_X12_refusalOf (i := 54) rfl) rfl (lv_at hl 2 rfl) ?_
          refine callVi X hW hS hR (c_X12_effortOf (I := I79) σ x y (by first | assumption | omega | decide | exact hP.1) (by first | assumption | omega | decide | exact hP.1) (by first | assumption | omega | decide | exact hP.1) (by first | assumption | omega | decide | exact hP.1)) (by decide) UVX12_effortOf LK_X12_279 rfl (by decide) rfl rfl rfl (Nat.le_of_ble_eq_true rfl) hl hcs (dg D_X12_refusalOf (i := 55) rfl) (fun r85 I85 L1 R1 H locs hq hW hS => ?_)
          obtain ⟨rfl, hT85, rfl, rfl⟩ := hq
          have hF : Fr SL I I85 := Fr.tr hF hT85 (fun _ _ h => h)
          have hs : I85 68 = σ := by rw [Fr.row hT85 (fun _ => rfl)]; exact hs
          refine lv_iadd hx hb (dg D_X12_refusalOf (i := 56) rfl) ?_
          refine lv_aload_n hx hb (dg D_X12_refusalOf (i := 57) rfl) rfl (lv_at hl 1 rfl) ?_
          refine lv_iload_n hx hb (dg D_X12_refusalOf (i := 58) rfl) rfl (lv_at hl 4 rfl) ?_
          refine lv_iload_n hx hb (dg D_X12_refusalOf (i := 59) rfl) rfl (lv_at hl 2 rfl) ?_
          refine callVi X hW hS hR (c_X12_capacityOf (I := I85) σ g y (by first | assumption | omega | decide | exact hP.1) (by first | assumption | omega | decide | exact hP.1) (by first | assumption | omega | decide | exact hP.1)) (by decide) UVX12_capacityOf LK_X12_288 rfl (by decide) rfl rfl rfl (Nat.le_of_ble_eq_true rfl) hl hcs (dg D_X12_refusalOf (i := 60) rfl) (fun r92 I92 L1 R1 H locs hq hW hS => ?_)
          obtain ⟨rfl, rfl, rfl, rfl⟩ := hq
          refine lv_icmp_le (tgt := 102) hx hb (dg D_X12_refusalOf (i := 61) rfl) (by decide) (fun c95 => ?_) (fun c95 => ?_)
          · refine n_iconst (a := 0) hx hb (dg D_X12_refusalOf (i := 64) rfl) rfl ?_
            exact fin (dg D_X12_refusalOf (i := 65) rfl) hW hS ⟨by first | exact absurd c23 c49 | exact absurd c49 c23 | (unfold rfs; first | rw [if_neg (fun z => z c15), if_neg (nAl c23), if_neg (nAl c49), if_pos (Int32.not_le.mp c95)] | rw [if_neg (fun z => z c15), if_neg (nAl c23), if_neg (nAl c49), if_neg (Int32.not_lt.mpr c95)] | rw [if_neg (fun z => z c15), if_neg (nAl c23), if_neg (nAr (Int32.not_lt.mpr c71)), if_pos (Int32.not_le.mp c95)] | rw [if_neg (fun z => z c15), if_neg (nAl c23), if_neg (nAr (Int32.not_lt.mpr c71)), if_neg (Int32.not_lt.mpr c95)] | rw [if_neg (fun z => z c15), if_neg (nAr c41), if_neg (nAl c49), if_pos (Int32.not_le.mp c95)] | rw [if_neg (fun z => z c15), if_neg (nAr c41), if_neg (nAl c49), if_neg (Int32.not_lt.mpr c95)] | rw [if_neg (fun z => z c15), if_neg (nAr c41), if_neg (nAr (Int32.not_lt.mpr c71)), if_pos (Int32.not_le.mp c95)] | rw [if_neg (fun z => z c15), if_neg (nAr c41), if_neg (nAr (Int32.not_lt.mpr c71)), if_neg (Int32.not_lt.mpr c95)]), hF, rfl, rfl⟩
          · refine n_iconst (a := 4) hx hb (dg D_X12_refusalOf (i := 62) rfl) rfl ?_
            refine lv_goto (tgt := 103) hx hb (dg D_X12_refusalOf (i := 63) rfl) (by decide) ?_
            exact fin (dg D_X12_refusalOf (i := 65) rfl) hW hS ⟨by first | exact absurd c23 c49 | exact absurd c49 c23 | (unfold rfs; first | rw [if_neg (fun z => z c15), if_neg (nAl c23), if_neg (nAl c49), if_pos (Int32.not_le.mp c95)] | rw [if_neg (fun z => z c15), if_neg (nAl c23), if_neg (nAl c49), if_neg (Int32.not_lt.mpr c95)] | rw [if_neg (fun z => z c15), if_neg (nAl c23), if_neg (nAr (Int32.not_lt.mpr c71)), if_pos (Int32.not_le.mp c95)] | rw [if_neg (fun z => z c15), if_neg (nAl c23), if_neg (nAr (Int32.not_lt.mpr c71)), if_neg (Int32.not_lt.mpr c95)] | rw [if_neg (fun z => z c15), if_neg (nAr c41), if_neg (nAl c49), if_pos (Int32.not_le.mp c95)] | rw [if_neg (fun z => z c15), if_neg (nAr c41), if_neg (nAl c49), if_neg (Int32.not_lt.mpr c95)] | rw [if_neg (fun z => z c15), if_neg (nAr c41), if_neg (nAr (Int32.not_lt.mpr c71)), if_pos (Int32.not_le.mp c95)] | rw [if_neg (fun z => z c15), if_neg (nAr c41), if_neg (nAr (Int32.not_lt.mpr c71)), if_neg (Int32.not_lt.mpr c95)]), hF, rfl, rfl⟩
        · refine n_iconst (a := 3) hx hb (dg D_X12_refusalOf (i := 46) rfl) rfl ?_
          exact fin (dg D_X12_refusalOf (i := 47) rfl) hW hS ⟨by first | exact absurd c23 c49 | (unfold rfs; rw [if_neg (fun z => z c15), if_neg (nAr c41), if_pos (And.intro c49 (Int32.not_le.mp c71))]), hF, rfl, rfl⟩
    · refine lv_aload_n hx hb (dg D_X12_refusalOf (i := 16) rfl) rfl (lv_at hl 1 rfl) ?_
      refine r_getc (t := 68) X hW FI_X12_7 rfl (by decide) rfl (dg D_X12_refusalOf (i := 17) rfl) ?_
      refine lv_bipush (v := nI 92) hx hb (dg D_X12_refusalOf (i := 18) rfl) (by decide) ?_
      refine lv_iload_n hx hb (dg D_X12_refusalOf (i := 19) rfl) rfl (lv_at hl 2 rfl) ?_
      refine n_iadd hx hb (dg D_X12_refusalOf (i := 20) rfl) ?_
      refine r_ald (j := 92 + y) (v := σ (92 + y)) X hW rfl (by decide) rfl (by omega) (by decide) (congrFun hs _) (dg D_X12_refusalOf (i := 21) rfl) ?_
      refine lv_iload hx hb (dg D_X12_refusalOf (i := 22) rfl) (lv_at hl 0 rfl) ?_
      refine lv_ishr hx hb (dg D_X12_refusalOf (i := 23) rfl) ?_
      refine n_iconst (a := 1) hx hb (dg D_X12_refusalOf (i := 24) rfl) rfl ?_
      refine lv_iand hx hb (dg D_X12_refusalOf (i := 25) rfl) ?_
      refine n_iconst (a := 1) hx hb (dg D_X12_refusalOf (i := 26) rfl) rfl ?_
      refine lv_icmp_ne (tgt := 46) hx hb (dg D_X12_refusalOf (i := 27) rfl) (by decide) (fun c41 => ?_) (fun c41 => ?_)
      · refine lv_iload hx hb (dg D_X12_refusalOf (i := 30) rfl) (lv_at hl 0 rfl) ?_
        refine lv_iconst (v := -1) hx hb (dg D_X12_refusalOf (i := 31) rfl) (by decide) ?_
        refine lv_icmp_eq (tgt := 76) hx hb (dg D_X12_refusalOf (i := 32) rfl) (by decide) (fun c49 => ?_) (fun c49 => ?_)
        · refine lv_aload_n hx hb (dg D_X12_refusalOf (i := 48) rfl) rfl (lv_at hl 1 rfl) ?_
          refine lv_iload_n hx hb (dg D_X12_refusalOf (i := 49) rfl) rfl (lv_at hl 4 rfl) ?_
          refine lv_iload_n hx hb (dg D_X12_refusalOf (i := 50) rfl) rfl (lv_at hl 2 rfl) ?_
          refine callVi X hW hS hR (c_X12_loadIn (I := I) σ (nI g) y (by first | assumption | omega | decide | exact hP.1) (by first | assumption | omega | decide | exact hP.1) (by first | assumption | omega | decide | exact hP.1)) (by decide) UVX12_loadIn LK_X12_291 rfl (by decide) rfl rfl rfl (Nat.le_of_ble_eq_true rfl) hl hcs (dg D_X12_refusalOf (i := 51) rfl) (fun r79 I79 L1 R1 H locs hq hW hS => ?_)
          obtain ⟨rfl, hT79, rfl, rfl⟩ := hq
          have hF : Fr SL I I79 := Fr.tr hF hT79 (fun _ _ h => h)
          have hs : I79 68 = σ := by rw [Fr.row hT79 (fun _ => rfl)]; exact hs
          refine lv_aload_n hx hb (dg D_X12_refusalOf (i := 52) rfl) rfl (lv_at hl 1 rfl) ?_
          refine lv_iload_n hx hb (dg D_X12_refusalOf (i := 53) rfl) rfl (lv_at hl 3 rfl) ?_
          refine lv_iload_n hx hb (dg D_X12_refusalOf (i := 54) rfl) rfl (lv_at hl 2 rfl) ?_
          refine callVi X hW hS hR (c_X12_effortOf (I := I79) σ x y (by first | assumption | omega | decide | exact hP.1) (by first | assumption | omega | decide | exact hP.1) (by first | assumption | omega | decide | exact hP.1) (by first | assumption | omega | decide | exact hP.1)) (by decide) UVX12_effortOf LK_X12_279 rfl (by decide) rfl rfl rfl (Nat.le_of_ble_eq_true rfl) hl hcs (dg D_X12_refusalOf (i := 55) rfl) (fun r85 I85 L1 R1 H locs hq hW hS => ?_)
          obtain ⟨rfl, hT85, rfl, rfl⟩ := hq
          have hF : Fr SL I I85 := Fr.tr hF hT85 (fun _ _ h => h)
          have hs : I85 68 = σ := by rw [Fr.row hT85 (fun _ => rfl)]; exact hs
          refine lv_iadd hx hb (dg D_X12_refusalOf (i := 56) rfl) ?_
          refine lv_aload_n hx hb (dg D_X12_refusalOf (i := 57) rfl) rfl (lv_at hl 1 rfl) ?_
          refine lv_iload_n hx hb (dg D_X12_refusalOf (i := 58) rfl) rfl (lv_at hl 4 rfl) ?_
          refine lv_iload_n hx hb (dg D_X12_refusalOf (i := 59) rfl) rfl (lv_at hl 2 rfl) ?_
          refine callVi X hW hS hR (c_X12_capacityOf (I := I85) σ g y (by first | assumption | omega | decide | exact hP.1) (by first | assumption | omega | decide | exact hP.1) (by first | assumption | omega | decide | exact hP.1)) (by decide) UVX12_capacityOf LK_X12_288 rfl (by decide) rfl rfl rfl (Nat.le_of_ble_eq_true rfl) hl hcs (dg D_X12_refusalOf (i := 60) rfl) (fun r92 I92 L1 R1 H locs hq hW hS => ?_)
          obtain ⟨rfl, rfl, rfl, rfl⟩ := hq
          refine lv_icmp_le (tgt := 102) hx hb (dg D_X12_refusalOf (i := 61) rfl) (by decide) (fun c95 => ?_) (fun c95 => ?_)
          · refine n_iconst (a := 0) hx hb (dg D_X12_refusalOf (i := 64) rfl) rfl ?_
            exact fin (dg D_X12_refusalOf (i := 65) rfl) hW hS ⟨by first | exact absurd c23 c49 | exact absurd c49 c23 | (unfold rfs; first | rw [if_neg (fun z => z c15), if_neg (nAl c23), if_neg (nAl c49), if_pos (Int32.not_le.mp c95)] | rw [if_neg (fun z => z c15), if_neg (nAl c23), if_neg (nAl c49), if_neg (Int32.not_lt.mpr c95)] | rw [if_neg (fun z => z c15), if_neg (nAl c23), if_neg (nAr (Int32.not_lt.mpr c71)), if_pos (Int32.not_le.mp c95)] | rw [if_neg (fun z => z c15), if_neg (nAl c23), if_neg (nAr (Int32.not_lt.mpr c71)), if_neg (Int32.not_lt.mpr c95)] | rw [if_neg (fun z => z c15), if_neg (nAr c41), if_neg (nAl c49), if_pos (Int32.not_le.mp c95)] | rw [if_neg (fun z => z c15), if_neg (nAr c41), if_neg (nAl c49), if_neg (Int32.not_lt.mpr c95)] | rw [if_neg (fun z => z c15), if_neg (nAr c41), if_neg (nAr (Int32.not_lt.mpr c71)), if_pos (Int32.not_le.mp c95)] | rw [if_neg (fun z => z c15), if_neg (nAr c41), if_neg (nAr (Int32.not_lt.mpr c71)), if_neg (Int32.not_lt.mpr c95)]), hF, rfl, rfl⟩
          · refine n_iconst (a := 4) hx hb (dg D_X12_refusalOf (i := 62) rfl) rfl ?_
            refine lv_goto (tgt := 103) hx hb (dg D_X12_refusalOf (i := 63) rfl) (by decide) ?_
            exact fin (dg D_X12_refusalOf (i := 65) rfl) hW hS ⟨by first | exact absurd c23 c49 | exact absurd c49 c23 | (unfold rfs; first | rw [if_neg (fun z => z c15), if_neg (nAl c23), if_neg (nAl c49), if_pos (Int32.not_le.mp c95)] | rw [if_neg (fun z => z c15), if_neg (nAl c23), if_neg (nAl c49), if_neg (Int32.not_lt.mpr c95)] | rw [if_neg (fun z => z c15), if_neg (nAl c23), if_neg (nAr (Int32.not_lt.mpr c71)), if_pos (Int32.not_le.mp c95)] | rw [if_neg (fun z => z c15), if_neg (nAl c23), if_neg (nAr (Int32.not_lt.mpr c71)), if_neg (Int32.not_lt.mpr c95)] | rw [if_neg (fun z => z c15), if_neg (nAr c41), if_neg (nAl c49), if_pos (Int32.not_le.mp c95)] | rw [if_neg (fun z => z c15), if_neg (nAr c41), if_neg (nAl c49), if_neg (Int32.not_lt.mpr c95)] | rw [if_neg (fun z => z c15), if_neg (nAr c41), if_neg (nAr (Int32.not_lt.mpr c71)), if_pos (Int32.not_le.mp c95)] | rw [if_neg (fun z => z c15), if_neg (nAr c41), if_neg (nAr (Int32.not_lt.mpr c71)), if_neg (Int32.not_lt.mpr c95)]), hF, rfl, rfl⟩
        · refine lv_aload_n hx hb (dg D_X12_refusalOf (i := 33) rfl) rfl (lv_at hl 1 rfl) ?_
          refine lv_iload_n hx hb (dg D_X12_refusalOf (i := 34) rfl) rfl (lv_at hl 2 rfl) ?_
          refine callVi X hW hS hR (c_X12_shutIn (I := I) σ y (by first | assumption | omega | decide | exact hP.1) (by first | assumption | omega | decide | exact hP.1) (by first | assumption | omega | decide | exact hP.1)) (by decide) UVX12_shutIn LK_X12_297 rfl (by decide) rfl rfl rfl (Nat.le_of_ble_eq_true rfl) hl hcs (dg D_X12_refusalOf (i := 35) rfl) (fun r54 I54 L1 R1 H locs hq hW hS => ?_)
          obtain ⟨rfl, rfl, rfl, rfl⟩ := hq
          refine n_iconst (a := 1) hx hb (dg D_X12_refusalOf (i := 36) rfl) rfl ?_
          refine lv_iload hx hb (dg D_X12_refusalOf (i := 37) rfl) (lv_at hl 0 rfl) ?_
          refine lv_ishl hx hb (dg D_X12_refusalOf (i := 38) rfl) ?_
          refine lv_ior hx hb (dg D_X12_refusalOf (i := 39) rfl) ?_
          refine callSi X hW hS hR (c_X12_bits (I := I) ((shu σ y) ||| ((nI 1) <<< ((σ (10 + 5 * x + 0)) &&& 31)))) (by decide) USX12_bits LK_X12_270 rfl rfl (Nat.le_of_ble_eq_true rfl) hl hcs (dg D_X12_refusalOf (i := 40) rfl) (fun r62 I62 L1 R1 H locs hq hW hS => ?_)
          obtain ⟨rfl, rfl, rfl, rfl⟩ := hq
          refine lv_aload_n hx hb (dg D_X12_refusalOf (i := 41) rfl) rfl (lv_at hl 1 rfl) ?_
          refine r_getc (t := 68) X hW FI_X12_7 rfl (by decide) rfl (dg D_X12_refusalOf (i := 42) rfl) ?_
          refine n_iconst (a := 1) hx hb (dg D_X12_refusalOf (i := 43) rfl) rfl ?_
          refine r_ald (j := 1) (v := σ 1) X hW rfl (by decide) rfl (by omega) (by decide) (congrFun hs _) (dg D_X12_refusalOf (i := 44) rfl) ?_
          refine lv_icmp_le (tgt := 76) hx hb (dg D_X12_refusalOf (i := 45) rfl) (by decide) (fun c71 => ?_) (fun c71 => ?_)
          · refine lv_aload_n hx hb (dg D_X12_refusalOf (i := 48) rfl) rfl (lv_at hl 1 rfl) ?_
            refine lv_iload_n hx hb (dg D_X12_refusalOf (i := 49) rfl) rfl (lv_at hl 4 rfl) ?_
            refine lv_iload_n hx hb (dg D_X12_refusalOf (i := 50) rfl) rfl (lv_at hl 2 rfl) ?_
            refine callVi X hW hS hR (c_X12_loadIn (I := I) σ (nI g) y (by first | assumption | omega | decide | exact hP.1) (by first | assumption | omega | decide | exact hP.1) (by first | assumption | omega | decide | exact hP.1)) (by decide) UVX12_loadIn LK_X12_291 rfl (by decide) rfl rfl rfl (Nat.le_of_ble_eq_true rfl) hl hcs (dg D_X12_refusalOf (i := 51) rfl) (fun r79 I79 L1 R1 H locs hq hW hS => ?_)
            obtain ⟨rfl, hT79, rfl, rfl⟩ := hq
            have hF : Fr SL I I79 := Fr.tr hF hT79 (fun _ _ h => h)
            have hs : I79 68 = σ := by rw [Fr.row hT79 (fun _ => rfl)]; exact hs
            refine lv_aload_n hx hb (dg D_X12_refusalOf (i := 52) rfl) rfl (lv_at hl 1 rfl) ?_
            refine lv_iload_n hx hb (dg D_X12_refusalOf (i := 53) rfl) rfl (lv_at hl 3 rfl) ?_
            refine lv_iload_n hx hb (dg D_X12_refusalOf (i := 54) rfl) rfl (lv_at hl 2 rfl) ?_
            refine callVi X hW hS hR (c_X12_effortOf (I := I79) σ x y (by first | assumption | omega | decide | exact hP.1) (by first | assumption | omega | decide | exact hP.1) (by first | assumption | omega | decide | exact hP.1) (by first | assumption | omega | decide | exact hP.1)) (by decide) UVX12_effortOf LK_X12_279 rfl (by decide) rfl rfl rfl (Nat.le_of_ble_eq_true rfl) hl hcs (dg D_X12_refusalOf (i := 55) rfl) (fun r85 I85 L1 R1 H locs hq hW hS => ?_)
            obtain ⟨rfl, hT85, rfl, rfl⟩ := hq
            have hF : Fr SL I I85 := Fr.tr hF hT85 (fun _ _ h => h)
            have hs : I85 68 = σ := by rw [Fr.row hT85 (fun _ => rfl)]; exact hs
            refine lv_iadd hx hb (dg D_X12_refusalOf (i := 56) rfl) ?_
            refine lv_aload_n hx hb (dg D_X12_refusalOf (i := 57) rfl) rfl (lv_at hl 1 rfl) ?_
            refine lv_iload_n hx hb (dg D_X12_refusalOf (i := 58) rfl) rfl (lv_at hl 4 rfl) ?_
            refine lv_iload_n hx hb (dg D_X12_refusalOf (i := 59) rfl) rfl (lv_at hl 2 rfl) ?_
            refine callVi X hW hS hR (c_X12_capacityOf (I := I85) σ g y (by first | assumption | omega | decide | exact hP.1) (by first | assumption | omega | decide | exact hP.1) (by first | assumption | omega | decide | exact hP.1)) (by decide) UVX12_capacityOf LK_X12_288 rfl (by decide) rfl rfl rfl (Nat.le_of_ble_eq_true rfl) hl hcs (dg D_X12_refusalOf (i := 60) rfl) (fun r92 I92 L1 R1 H locs hq hW hS => ?_)
            obtain ⟨rfl, rfl, rfl, rfl⟩ := hq
            refine lv_icmp_le (tgt := 102) hx hb (dg D_X12_refusalOf (i := 61) rfl) (by decide) (fun c95 => ?_) (fun c95 => ?_)
            · refine n_iconst (a := 0) hx hb (dg D_X12_refusalOf (i := 64) rfl) rfl ?_
              exact fin (dg D_X12_refusalOf (i := 65) rfl) hW hS ⟨by first | exact absurd c23 c49 | exact absurd c49 c23 | (unfold rfs; first | rw [if_neg (fun z => z c15), if_neg (nAl c23), if_neg (nAl c49), if_pos (Int32.not_le.mp c95)] | rw [if_neg (fun z => z c15), if_neg (nAl c23), if_neg (nAl c49), if_neg (Int32.not_lt.mpr c95)] | rw [if_neg (fun z => z c15), if_neg (nAl c23), if_neg (nAr (Int32.not_lt.mpr c71)), if_pos (Int32.not_le.mp c95)] | rw [if_neg (fun z => z c15), if_neg (nAl c23), if_neg (nAr (Int32.not_lt.mpr c71)), if_neg (Int32.not_lt.mpr c95)] | rw [if_neg (fun z => z c15), if_neg (nAr c41), if_neg (nAl c49), if_pos (Int32.not_le.mp c95)] | rw [if_neg (fun z => z c15), if_neg (nAr c41), if_neg (nAl c49), if_neg (Int32.not_lt.mpr c95)] | rw [if_neg (fun z => z c15), if_neg (nAr c41), if_neg (nAr (Int32.not_lt.mpr c71)), if_pos (Int32.not_le.mp c95)] | rw [if_neg (fun z => z c15), if_neg (nAr c41), if_neg (nAr (Int32.not_lt.mpr c71)), if_neg (Int32.not_lt.mpr c95)]), hF, rfl, rfl⟩
            · refine n_iconst (a := 4) hx hb (dg D_X12_refusalOf (i := 62) rfl) rfl ?_
              refine lv_goto (tgt := 103) hx hb (dg D_X12_refusalOf (i := 63) rfl) (by decide) ?_
              exact fin (dg D_X12_refusalOf (i := 65) rfl) hW hS ⟨by first | exact absurd c23 c49 | exact absurd c49 c23 | (unfold rfs; first | rw [if_neg (fun z => z c15), if_neg (nAl c23), if_neg (nAl c49), if_pos (Int32.not_le.mp c95)] | rw [if_neg (fun z => z c15), if_neg (nAl c23), if_neg (nAl c49), if_neg (Int32.not_lt.mpr c95)] | rw [if_neg (fun z => z c15), if_neg (nAl c23), if_neg (nAr (Int32.not_lt.mpr c71)), if_pos (Int32.not_le.mp c95)] | rw [if_neg (fun z => z c15), if_neg (nAl c23), if_neg (nAr (Int32.not_lt.mpr c71)), if_neg (Int32.not_lt.mpr c95)] | rw [if_neg (fun z => z c15), if_neg (nAr c41), if_neg (nAl c49), if_pos (Int32.not_le.mp c95)] | rw [if_neg (fun z => z c15), if_neg (nAr c41), if_neg (nAl c49), if_neg (Int32.not_lt.mpr c95)] | rw [if_neg (fun z => z c15), if_neg (nAr c41), if_neg (nAr (Int32.not_lt.mpr c71)), if_pos (Int32.not_le.mp c95)] | rw [if_neg (fun z => z c15), if_neg (nAr c41), if_neg (nAr (Int32.not_lt.mpr c71)), if_neg (Int32.not_lt.mpr c95)]), hF, rfl, rfl⟩
          · refine n_iconst (a := 3) hx hb (dg D_X12_refusalOf (i := 46) rfl) rfl ?_
            exact fin (dg D_X12_refusalOf (i := 47) rfl) hW hS ⟨by first | exact absurd c23 c49 | (unfold rfs; rw [if_neg (fun z => z c15), if_neg (nAr c41), if_pos (And.intro c49 (Int32.not_le.mp c71))]), hF, rfl, rfl⟩
      · refine n_iconst (a := 2) hx hb (dg D_X12_refusalOf (i := 28) rfl) rfl ?_
        exact fin (dg D_X12_refusalOf (i := 29) rfl) hW hS ⟨by unfold rfs; rw [if_neg (fun z => z c15), if_pos (And.intro c23 c41)], hF, rfl, rfl⟩
  · refine n_iconst (a := 1) hx hb (dg D_X12_refusalOf (i := 11) rfl) rfl ?_
    exact fin (dg D_X12_refusalOf (i := 12) rfl) hW hS ⟨by unfold rfs; rw [if_pos c15], hF, rfl, rfl⟩

set_option maxHeartbeats 4000000 in
set_option maxRecDepth 100000 in
theorem c_X12_goodPainting {l : Launch} {G : va_G} {bs : Nat} {cy : Nat → ClassId} {I : CI} {L : CL} {R : CR} (σ : Row) (u : Int32) (v : Int32) (w : Int32) (hs : I 68 = σ) (hi : Inv σ) : MTi l G bs cy MX12_goodPainting 3 [.ref (bs + 67), .int u, .int v, .int w] I L R (fun r I1 L1 R1 => bI (inB u (Yn σ) && inB v (nS σ) && inB w (nG σ)) = r ∧ Fr ST I I1 ∧ I1 67 6 = thr (inB u (Yn σ) && inB v (nS σ) && inB w (nG σ)) ∧ L = L1 ∧ R = R1) := by
  refine MTz.of (own := RX12) pn_RX12 rfl (Nat.le_of_ble_eq_true rfl) ?_
  intro p e s m args below meth c Qf X hW hS fin ls hl
  have hx := X.1
  have hb := X.2.1
  have hR : RmOK (rmL 3 0 0) 3 := ⟨rfl, rfl⟩
  have hcs : 0 ≤ (rmL 3 0 0).cells ∧ 0 ≤ (rmL 3 0 0).slots := ⟨Nat.zero_le _, Nat.zero_le _⟩
  have hl : lv_has ls 4 [(0, .ref (bs + 67)), (1, .int u), (2, .int v), (3, .int w)] := hl
  have hF : Fr ST I I := Fr.rf
  refine lv_aload_n hx hb (dg D_X12_goodPainting (i := 0) rfl) rfl (lv_at hl 0 rfl) ?_
  refine lv_aload_n hx hb (dg D_X12_goodPainting (i := 1) rfl) rfl (lv_at hl 0 rfl) ?_
  refine lv_iload_n hx hb (dg D_X12_goodPainting (i := 2) rfl) rfl (lv_at hl 1 rfl) ?_
  refine callVi X hW hS hR (c_X12_isYear (I := I) σ u (by first | assumption | omega | decide | exact hP.1) (by first | assumption | omega | decide | exact hP.1)) (by decide) UVX12_isYear LK_X12_92 rfl (by decide) rfl rfl rfl (Nat.le_of_ble_eq_true rfl) hl hcs (dg D_X12_goodPainting (i := 3) rfl) (fun r3 I3 L1 R1 H locs hq hW hS => ?_)
  obtain ⟨rfl, rfl, rfl, rfl⟩ := hq
  refine z_if_eq (tgt := 29) hx hb (dg D_X12_goodPainting (i := 4) rfl) (by decide) (fun c6 => ?_) (fun c6 => ?_)
  · refine n_iconst (a := 0) hx hb (dg D_X12_goodPainting (i := 15) rfl) rfl ?_
    refine callVi X hW hS hR (c_X12_good (I := I) false) (by decide) UVX12_good LK_X12_95 rfl (by decide) rfl rfl rfl (Nat.le_of_ble_eq_true rfl) hl hcs (dg D_X12_goodPainting (i := 16) rfl) (fun r30 I30 L1 R1 H locs hq hW hS => ?_)
    obtain ⟨rfl, hT30, hp30_0, rfl, rfl⟩ := hq
    have hF : Fr ST I I30 := Fr.tr hF hT30 (fun _ _ h => h)
    exact fin (dg D_X12_goodPainting (i := 17) rfl) hW hS rfl ⟨by first | rw [c6, c14, c22]; rfl | (rw [c6, c14]; rfl) | (rw [c6]; rfl), hF, by first | (rw [c6, c14, c22]; exact hp30_0) | (rw [c6, c14]; exact hp30_0) | (rw [c6]; exact hp30_0), rfl, rfl⟩
  · refine lv_aload_n hx hb (dg D_X12_goodPainting (i := 5) rfl) rfl (lv_at hl 0 rfl) ?_
    refine lv_iload_n hx hb (dg D_X12_goodPainting (i := 6) rfl) rfl (lv_at hl 2 rfl) ?_
    refine callVi X hW hS hR (c_X12_isSpan (I := I) σ v (by first | assumption | omega | decide | exact hP.1) (by first | assumption | omega | decide | exact hP.1)) (by decide) UVX12_isSpan LK_X12_88 rfl (by decide) rfl rfl rfl (Nat.le_of_ble_eq_true rfl) hl hcs (dg D_X12_goodPainting (i := 7) rfl) (fun r11 I11 L1 R1 H locs hq hW hS => ?_)
    obtain ⟨rfl, rfl, rfl, rfl⟩ := hq
    refine z_if_eq (tgt := 29) hx hb (dg D_X12_goodPainting (i := 8) rfl) (by decide) (fun c14 => ?_) (fun c14 => ?_)
    · refine n_iconst (a := 0) hx hb (dg D_X12_goodPainting (i := 15) rfl) rfl ?_
      refine callVi X hW hS hR (c_X12_good (I := I) false) (by decide) UVX12_good LK_X12_95 rfl (by decide) rfl rfl rfl (Nat.le_of_ble_eq_true rfl) hl hcs (dg D_X12_goodPainting (i := 16) rfl) (fun r30 I30 L1 R1 H locs hq hW hS => ?_)
      obtain ⟨rfl, hT30, hp30_0, rfl, rfl⟩ := hq
      have hF : Fr ST I I30 := Fr.tr hF hT30 (fun _ _ h => h)
      exact fin (dg D_X12_goodPainting (i := 17) rfl) hW hS rfl ⟨by first | rw [c6, c14, c22]; rfl | (rw [c6, c14]; rfl) | (rw [c6]; rfl), hF, by first | (rw [c6, c14, c22]; exact hp30_0) | (rw [c6, c14]; exact hp30_0) | (rw [c6]; exact hp30_0), rfl, rfl⟩
    · refine lv_aload_n hx hb (dg D_X12_goodPainting (i := 9) rfl) rfl (lv_at hl 0 rfl) ?_
      refine lv_iload_n hx hb (dg D_X12_goodPainting (i := 10) rfl) rfl (lv_at hl 3 rfl) ?_
      refine callVi X hW hS hR (c_X12_isGang (I := I) σ w (by first | assumption | omega | decide | exact hP.1) (by first | assumption | omega | decide | exact hP.1)) (by decide) UVX12_isGang LK_X12_282 rfl (by decide) rfl rfl rfl (Nat.le_of_ble_eq_true rfl) hl hcs (dg D_X12_goodPainting (i := 11) rfl) (fun r19 I19 L1 R1 H locs hq hW hS => ?_)
      obtain ⟨rfl, rfl, rfl, rfl⟩ := hq
      refine z_if_eq (tgt := 29) hx hb (dg D_X12_goodPainting (i := 12) rfl) (by decide) (fun c22 => ?_) (fun c22 => ?_)
      · refine n_iconst (a := 0) hx hb (dg D_X12_goodPainting (i := 15) rfl) rfl ?_
        refine callVi X hW hS hR (c_X12_good (I := I) false) (by decide) UVX12_good LK_X12_95 rfl (by decide) rfl rfl rfl (Nat.le_of_ble_eq_true rfl) hl hcs (dg D_X12_goodPainting (i := 16) rfl) (fun r30 I30 L1 R1 H locs hq hW hS => ?_)
        obtain ⟨rfl, hT30, hp30_0, rfl, rfl⟩ := hq
        have hF : Fr ST I I30 := Fr.tr hF hT30 (fun _ _ h => h)
        exact fin (dg D_X12_goodPainting (i := 17) rfl) hW hS rfl ⟨by first | rw [c6, c14, c22]; rfl | (rw [c6, c14]; rfl) | (rw [c6]; rfl), hF, by first | (rw [c6, c14, c22]; exact hp30_0) | (rw [c6, c14]; exact hp30_0) | (rw [c6]; exact hp30_0), rfl, rfl⟩
      · refine n_iconst (a := 1) hx hb (dg D_X12_goodPainting (i := 13) rfl) rfl ?_
        refine lv_goto (tgt := 30) hx hb (dg D_X12_goodPainting (i := 14) rfl) (by decide) ?_
        refine callVi X hW hS hR (c_X12_good (I := I) true) (by decide) UVX12_good LK_X12_95 rfl (by decide) rfl rfl rfl (Nat.le_of_ble_eq_true rfl) hl hcs (dg D_X12_goodPainting (i := 16) rfl) (fun r30 I30 L1 R1 H locs hq hW hS => ?_)
        obtain ⟨rfl, hT30, hp30_0, rfl, rfl⟩ := hq
        have hF : Fr ST I I30 := Fr.tr hF hT30 (fun _ _ h => h)
        exact fin (dg D_X12_goodPainting (i := 17) rfl) hW hS rfl ⟨by first | rw [c6, c14, c22]; rfl | (rw [c6, c14]; rfl) | (rw [c6]; rfl), hF, by first | (rw [c6, c14, c22]; exact hp30_0) | (rw [c6, c14]; exact hp30_0) | (rw [c6]; exact hp30_0), rfl, rfl⟩

set_option maxHeartbeats 4000000 in
set_option maxRecDepth 100000 in
theorem c_X12_refusal {l : Launch} {G : va_G} {bs : Nat} {cy : Nat → ClassId} {I : CI} {L : CL} {R : CR} (σ : Row) (u : Int32) (v : Int32) (w : Int32) (hs : I 68 = σ) (hi : Inv σ) : MTi l G bs cy MX12_refusal 7 [.ref (bs + 67), .int u, .int v, .int w] I L R (fun r I1 L1 R1 => ((inB u (Yn σ) && inB v (nS σ) && inB w (nG σ)) = true → r = rfs σ (tN u) (tN v) (tN w)) ∧ Fr SLT I I1 ∧ I1 67 6 = thr (inB u (Yn σ) && inB v (nS σ) && inB w (nG σ)) ∧ L = L1 ∧ R = R1) := by
  refine MTi.of (own := RX12) pn_RX12 rfl (Nat.le_of_ble_eq_true rfl) ?_
  intro p e s m args below meth c Qf X hW hS fin ls hl
  have hx := X.1
  have hb := X.2.1
  have hR : RmOK (rmL 7 0 0) 7 := ⟨rfl, rfl⟩
  have hcs : 0 ≤ (rmL 7 0 0).cells ∧ 0 ≤ (rmL 7 0 0).slots := ⟨Nat.zero_le _, Nat.zero_le _⟩
  have hl : lv_has ls 4 [(0, .ref (bs + 67)), (1, .int u), (2, .int v), (3, .int w)] := hl
  have hF : Fr SLT I I := Fr.rf
  obtain ⟨hY, hY1, hY12, hLn, hL4, hSn, hS12, hGn, hG5⟩ := id hi
  refine lv_aload_n hx hb (dg D_X12_refusal (i := 0) rfl) rfl (lv_at hl 0 rfl) ?_
  refine lv_iload_n hx hb (dg D_X12_refusal (i := 1) rfl) rfl (lv_at hl 1 rfl) ?_
  refine lv_iload_n hx hb (dg D_X12_refusal (i := 2) rfl) rfl (lv_at hl 2 rfl) ?_
  refine lv_iload_n hx hb (dg D_X12_refusal (i := 3) rfl) rfl (lv_at hl 3 rfl) ?_
  refine callVi X hW hS hR (c_X12_goodPainting (I := I) σ u v w (by first | assumption | omega | decide | exact hP.1) (by first | assumption | omega | decide | exact hP.1)) (by decide) UVX12_goodPainting LK_X12_324 rfl (by decide) rfl rfl rfl (Nat.le_of_ble_eq_true rfl) hl hcs (dg D_X12_refusal (i := 4) rfl) (fun r4 I4 L1 R1 H locs hq hW hS => ?_)
  obtain ⟨rfl, hT4, hp4_0, rfl, rfl⟩ := hq
  have hF : Fr SLT I I4 := Fr.tr hF hT4 (by intro a j h; simp only [ST, SLT, Bool.or_eq_true, Bool.and_eq_true, beq_iff_eq, decide_eq_true_eq] at h ⊢; omega)
  have hs : I4 68 = σ := by rw [Fr.row hT4 (fun _ => rfl)]; exact hs
  have hth : I4 67 6 = thr (inB u (Yn σ) && inB v (nS σ) && inB w (nG σ)) := hp4_0
  refine z_if_eq (tgt := 20) hx hb (dg D_X12_refusal (i := 5) rfl) (by decide) (fun c7 => ?_) (fun c7 => ?_)
  · refine n_iconst (a := 0) hx hb (dg D_X12_refusal (i := 12) rfl) rfl ?_
    exact fin (dg D_X12_refusal (i := 13) rfl) hW hS ⟨fun z => absurd z (by rw [c7]; decide), hF, hth, rfl, rfl⟩
  · obtain ⟨g12, g3⟩ := Bool.and_eq_true_iff.mp c7
    obtain ⟨g1, g2⟩ := Bool.and_eq_true_iff.mp g12
    obtain ⟨ju, hju, rfl⟩ := inB_of g1 (by omega)
    obtain ⟨jv, hjv, rfl⟩ := inB_of g2 (by omega)
    obtain ⟨jw, hjw, rfl⟩ := inB_of g3 (by omega)
    refine lv_aload_n hx hb (dg D_X12_refusal (i := 6) rfl) rfl (lv_at hl 0 rfl) ?_
    refine lv_iload_n hx hb (dg D_X12_refusal (i := 7) rfl) rfl (lv_at hl 1 rfl) ?_
    refine lv_iload_n hx hb (dg D_X12_refusal (i := 8) rfl) rfl (lv_at hl 2 rfl) ?_
    refine lv_iload_n hx hb (dg D_X12_refusal (i := 9) rfl) rfl (lv_at hl 3 rfl) ?_
    refine callVi X hW hS hR (c_X12_refusalOf (I := I4) σ ju jv jw (by first | assumption | omega | decide | exact hP.1) (by first | assumption | omega | decide | exact hP.1) (by first | assumption | omega | decide | exact hP.1) (by first | assumption | omega | decide | exact hP.1) (by first | assumption | omega | decide | exact hP.1)) (by decide) UVX12_refusalOf LK_X12_327 rfl (by decide) rfl rfl rfl (Nat.le_of_ble_eq_true rfl) hl hcs (dg D_X12_refusal (i := 10) rfl) (fun r14 I14 L1 R1 H locs hq hW hS => ?_)
    obtain ⟨rfl, hT14, rfl, rfl⟩ := hq
    have hF : Fr SLT I I14 := Fr.tr hF hT14 (by intro a j h; simp only [SL, SLT, Bool.or_eq_true, Bool.and_eq_true, beq_iff_eq, decide_eq_true_eq] at h ⊢; omega)
    have hs : I14 68 = σ := by rw [Fr.row hT14 (fun _ => rfl)]; exact hs
    have hth : I14 67 6 = thr (inB (nI ju) (Yn σ) && inB (nI jv) (nS σ) && inB (nI jw) (nG σ)) := (hT14 67 6 rfl).trans hth
    refine lv_goto (tgt := 21) hx hb (dg D_X12_refusal (i := 11) rfl) (by decide) ?_
    exact fin (dg D_X12_refusal (i := 13) rfl) hW hS ⟨fun _ => by rw [tN_nI (show ju < 2 ^ 31 by omega), tN_nI (show jv < 2 ^ 31 by omega), tN_nI (show jw < 2 ^ 31 by omega)], hF, hth, rfl, rfl⟩

