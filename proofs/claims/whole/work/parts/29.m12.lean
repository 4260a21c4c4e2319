set_option maxHeartbeats 4000000 in
set_option maxRecDepth 100000 in
theorem c_X12_isLaneFree {l : Launch} {G : va_G} {bs : Nat} {cy : Nat → ClassId} {I : CI} {L : CL} {R : CR} (σ : Row) (y : Nat) (ln : Int32) (w : Int32) (hs : I 68 = σ) (hy5 : y < 12) (hw : I 67 30 = w) : MTi l G bs cy MX12_isLaneFree 2 [.ref (bs + 67), .int (nI y), .int ln] I L R (fun r I1 L1 R1 => bI (lfB σ y ln w) = r ∧ I = I1 ∧ L = L1 ∧ R = R1) := by
  refine MTz.of (own := RX12) pn_RX12 rfl (Nat.le_of_ble_eq_true rfl) ?_
  intro p e s m args below meth c Qf X hW hS fin ls hl
  have hx := X.1
  have hb := X.2.1
  have hR : RmOK (rmL 2 0 0) 2 := ⟨rfl, rfl⟩
  have hcs : 0 ≤ (rmL 2 0 0).cells ∧ 0 ≤ (rmL 2 0 0).slots := ⟨Nat.zero_le _, Nat.zero_le _⟩
  have hl : lv_has ls 4 [(0, .ref (bs + 67)), (1, .int (nI y)), (2, .int ln)] := hl
  refine lv_iload_n hx hb (dg D_X12_isLaneFree (i := 0) rfl) rfl (lv_at hl 2 rfl) ?_
  refine lv_iconst (v := -1) hx hb (dg D_X12_isLaneFree (i := 1) rfl) (by decide) ?_
  refine lv_icmp_eq (tgt := 26) hx hb (dg D_X12_isLaneFree (i := 2) rfl) (by decide) (fun c2 => ?_) (fun c2 => ?_)
  · refine n_iconst (a := 0) hx hb (dg D_X12_isLaneFree (i := 17) rfl) rfl ?_
    refine lv_istore_n (lv' := [(3, .int (nI 0)), (0, .ref (bs + 67)), (1, .int (nI y)), (2, .int ln)]) hx hb (dg D_X12_isLaneFree (i := 18) rfl) rfl hl (by decide) rfl (fun ls hl => ?_)
    refine lv_iload_n hx hb (dg D_X12_isLaneFree (i := 19) rfl) rfl (lv_at hl 3 rfl) ?_
    refine lv_iconst (v := -1) hx hb (dg D_X12_isLaneFree (i := 20) rfl) (by decide) ?_
    refine lv_icmp_eq (tgt := 57) hx hb (dg D_X12_isLaneFree (i := 21) rfl) (by decide) (fun c30 => ?_) (fun c30 => ?_)
    · refine n_iconst (a := 1) hx hb (dg D_X12_isLaneFree (i := 36) rfl) rfl ?_
      refine lv_goto (tgt := 62) hx hb (dg D_X12_isLaneFree (i := 37) rfl) (by decide) ?_
      exact fin (dg D_X12_isLaneFree (i := 39) rfl) hW hS (show _ = bI true from rfl) ⟨lf_a c2, rfl, rfl, rfl⟩
    · refine lv_iload_n hx hb (dg D_X12_isLaneFree (i := 22) rfl) rfl (lv_at hl 0 rfl) ?_
      refine n_if_ne (tgt := 61) hx hb (by omega) (dg D_X12_isLaneFree (i := 23) rfl) (by decide) (fun c34 => ?_) (fun c34 => ?_)
      · exact absurd c34 (by decide)
      · refine lv_aload_n hx hb (dg D_X12_isLaneFree (i := 24) rfl) rfl (lv_at hl 1 rfl) ?_
        refine r_geti (v := w) X hW FI_X12_352 rfl (by decide) rfl hw (dg D_X12_isLaneFree (i := 25) rfl) ?_
        refine n_iconst (a := 1) hx hb (dg D_X12_isLaneFree (i := 26) rfl) rfl ?_
        refine lv_iload_n hx hb (dg D_X12_isLaneFree (i := 27) rfl) rfl (lv_at hl 3 rfl) ?_
        refine lv_ishl hx hb (dg D_X12_isLaneFree (i := 28) rfl) ?_
        refine lv_ior hx hb (dg D_X12_isLaneFree (i := 29) rfl) ?_
        refine callSi X hW hS hR (c_X12_bits (I := I) (w ||| ((nI 1) <<< (ln &&& 31)))) (by decide) USX12_bits LK_X12_270 rfl rfl (Nat.le_of_ble_eq_true rfl) hl hcs (dg D_X12_isLaneFree (i := 30) rfl) (fun r45 I45 L1 R1 H locs hq hW hS => ?_)
        obtain ⟨rfl, rfl, rfl, rfl⟩ := hq
        refine lv_aload_n hx hb (dg D_X12_isLaneFree (i := 31) rfl) rfl (lv_at hl 1 rfl) ?_
        refine r_getc (t := 68) X hW FI_X12_7 rfl (by decide) rfl (dg D_X12_isLaneFree (i := 32) rfl) ?_
        refine n_iconst (a := 1) hx hb (dg D_X12_isLaneFree (i := 33) rfl) rfl ?_
        refine r_ald (j := 1) (v := σ 1) X hW rfl (by decide) rfl (by omega) (by decide) (congrFun hs _) (dg D_X12_isLaneFree (i := 34) rfl) ?_
        refine lv_icmp_gt (tgt := 61) hx hb (dg D_X12_isLaneFree (i := 35) rfl) (by decide) (fun c54 => ?_) (fun c54 => ?_)
        · refine n_iconst (a := 0) hx hb (dg D_X12_isLaneFree (i := 38) rfl) rfl ?_
          exact fin (dg D_X12_isLaneFree (i := 39) rfl) hW hS (show _ = bI false from rfl) ⟨absurd c2 c30, rfl, rfl, rfl⟩
        · refine n_iconst (a := 1) hx hb (dg D_X12_isLaneFree (i := 36) rfl) rfl ?_
          refine lv_goto (tgt := 62) hx hb (dg D_X12_isLaneFree (i := 37) rfl) (by decide) ?_
          exact fin (dg D_X12_isLaneFree (i := 39) rfl) hW hS (show _ = bI true from rfl) ⟨absurd c2 c30, rfl, rfl, rfl⟩
  · refine lv_aload_n hx hb (dg D_X12_isLaneFree (i := 3) rfl) rfl (lv_at hl 0 rfl) ?_
    refine r_getc (t := 68) X hW FI_X12_7 rfl (by decide) rfl (dg D_X12_isLaneFree (i := 4) rfl) ?_
    refine lv_bipush (v := nI 92) hx hb (dg D_X12_isLaneFree (i := 5) rfl) (by decide) ?_
    refine lv_iload_n hx hb (dg D_X12_isLaneFree (i := 6) rfl) rfl (lv_at hl 1 rfl) ?_
    refine n_iadd hx hb (dg D_X12_isLaneFree (i := 7) rfl) ?_
    refine r_ald (j := 92 + y) (v := σ (92 + y)) X hW rfl (by decide) rfl (by omega) (by decide) (congrFun hs _) (dg D_X12_isLaneFree (i := 8) rfl) ?_
    refine lv_iload_n hx hb (dg D_X12_isLaneFree (i := 9) rfl) rfl (lv_at hl 2 rfl) ?_
    refine lv_ishr hx hb (dg D_X12_isLaneFree (i := 10) rfl) ?_
    refine n_iconst (a := 1) hx hb (dg D_X12_isLaneFree (i := 11) rfl) rfl ?_
    refine lv_iand hx hb (dg D_X12_isLaneFree (i := 12) rfl) ?_
    refine n_iconst (a := 1) hx hb (dg D_X12_isLaneFree (i := 13) rfl) rfl ?_
    refine lv_icmp_ne (tgt := 26) hx hb (dg D_X12_isLaneFree (i := 14) rfl) (by decide) (fun c19 => ?_) (fun c19 => ?_)
    · refine n_iconst (a := 0) hx hb (dg D_X12_isLaneFree (i := 17) rfl) rfl ?_
      refine lv_istore_n (lv' := [(3, .int (nI 0)), (0, .ref (bs + 67)), (1, .int (nI y)), (2, .int ln)]) hx hb (dg D_X12_isLaneFree (i := 18) rfl) rfl hl (by decide) rfl (fun ls hl => ?_)
      refine lv_iload_n hx hb (dg D_X12_isLaneFree (i := 19) rfl) rfl (lv_at hl 3 rfl) ?_
      refine lv_iconst (v := -1) hx hb (dg D_X12_isLaneFree (i := 20) rfl) (by decide) ?_
      refine lv_icmp_eq (tgt := 57) hx hb (dg D_X12_isLaneFree (i := 21) rfl) (by decide) (fun c30 => ?_) (fun c30 => ?_)
      · refine n_iconst (a := 1) hx hb (dg D_X12_isLaneFree (i := 36) rfl) rfl ?_
        refine lv_goto (tgt := 62) hx hb (dg D_X12_isLaneFree (i := 37) rfl) (by decide) ?_
        exact fin (dg D_X12_isLaneFree (i := 39) rfl) hW hS (show _ = bI true from rfl) ⟨absurd c30 c2, rfl, rfl, rfl⟩
      · refine lv_iload_n hx hb (dg D_X12_isLaneFree (i := 22) rfl) rfl (lv_at hl 0 rfl) ?_
        refine n_if_ne (tgt := 61) hx hb (by omega) (dg D_X12_isLaneFree (i := 23) rfl) (by decide) (fun c34 => ?_) (fun c34 => ?_)
        · exact absurd c34 (by decide)
        · refine lv_aload_n hx hb (dg D_X12_isLaneFree (i := 24) rfl) rfl (lv_at hl 1 rfl) ?_
          refine r_geti (v := w) X hW FI_X12_352 rfl (by decide) rfl hw (dg D_X12_isLaneFree (i := 25) rfl) ?_
          refine n_iconst (a := 1) hx hb (dg D_X12_isLaneFree (i := 26) rfl) rfl ?_
          refine lv_iload_n hx hb (dg D_X12_isLaneFree (i := 27) rfl) rfl (lv_at hl 3 rfl) ?_
          refine lv_ishl hx hb (dg D_X12_isLaneFree (i := 28) rfl) ?_
          refine lv_ior hx hb (dg D_X12_isLaneFree (i := 29) rfl) ?_
          refine callSi X hW hS hR (c_X12_bits (I := I) (w ||| ((nI 1) <<< (ln &&& 31)))) (by decide) USX12_bits LK_X12_270 rfl rfl (Nat.le_of_ble_eq_true rfl) hl hcs (dg D_X12_isLaneFree (i := 30) rfl) (fun r45 I45 L1 R1 H locs hq hW hS => ?_)
          obtain ⟨rfl, rfl, rfl, rfl⟩ := hq
          refine lv_aload_n hx hb (dg D_X12_isLaneFree (i := 31) rfl) rfl (lv_at hl 1 rfl) ?_
          refine r_getc (t := 68) X hW FI_X12_7 rfl (by decide) rfl (dg D_X12_isLaneFree (i := 32) rfl) ?_
          refine n_iconst (a := 1) hx hb (dg D_X12_isLaneFree (i := 33) rfl) rfl ?_
          refine r_ald (j := 1) (v := σ 1) X hW rfl (by decide) rfl (by omega) (by decide) (congrFun hs _) (dg D_X12_isLaneFree (i := 34) rfl) ?_
          refine lv_icmp_gt (tgt := 61) hx hb (dg D_X12_isLaneFree (i := 35) rfl) (by decide) (fun c54 => ?_) (fun c54 => ?_)
          · refine n_iconst (a := 0) hx hb (dg D_X12_isLaneFree (i := 38) rfl) rfl ?_
            exact fin (dg D_X12_isLaneFree (i := 39) rfl) hW hS (show _ = bI false from rfl) ⟨lf_c c2 c19 c54, rfl, rfl, rfl⟩
          · refine n_iconst (a := 1) hx hb (dg D_X12_isLaneFree (i := 36) rfl) rfl ?_
            refine lv_goto (tgt := 62) hx hb (dg D_X12_isLaneFree (i := 37) rfl) (by decide) ?_
            exact fin (dg D_X12_isLaneFree (i := 39) rfl) hW hS (show _ = bI true from rfl) ⟨lf_d c2 c19 (Int32.not_lt.mp c54), rfl, rfl, rfl⟩
    · refine n_iconst (a := 1) hx hb (dg D_X12_isLaneFree (i := 15) rfl) rfl ?_
      refine lv_goto (tgt := 27) hx hb (dg D_X12_isLaneFree (i := 16) rfl) (by decide) ?_
      refine lv_istore_n (lv' := [(3, .int (nI 1)), (0, .ref (bs + 67)), (1, .int (nI y)), (2, .int ln)]) hx hb (dg D_X12_isLaneFree (i := 18) rfl) rfl hl (by decide) rfl (fun ls hl => ?_)
      refine lv_iload_n hx hb (dg D_X12_isLaneFree (i := 19) rfl) rfl (lv_at hl 3 rfl) ?_
      refine lv_iconst (v := -1) hx hb (dg D_X12_isLaneFree (i := 20) rfl) (by decide) ?_
      refine lv_icmp_eq (tgt := 57) hx hb (dg D_X12_isLaneFree (i := 21) rfl) (by decide) (fun c30 => ?_) (fun c30 => ?_)
      · refine n_iconst (a := 1) hx hb (dg D_X12_isLaneFree (i := 36) rfl) rfl ?_
        refine lv_goto (tgt := 62) hx hb (dg D_X12_isLaneFree (i := 37) rfl) (by decide) ?_
        exact fin (dg D_X12_isLaneFree (i := 39) rfl) hW hS (show _ = bI true from rfl) ⟨absurd c30 c2, rfl, rfl, rfl⟩
      · refine lv_iload_n hx hb (dg D_X12_isLaneFree (i := 22) rfl) rfl (lv_at hl 0 rfl) ?_
        refine n_if_ne (tgt := 61) hx hb (by omega) (dg D_X12_isLaneFree (i := 23) rfl) (by decide) (fun c34 => ?_) (fun c34 => ?_)
        · refine n_iconst (a := 0) hx hb (dg D_X12_isLaneFree (i := 38) rfl) rfl ?_
          exact fin (dg D_X12_isLaneFree (i := 39) rfl) hW hS (show _ = bI false from rfl) ⟨lf_b c2 c19, rfl, rfl, rfl⟩
        · exact absurd c34 (by decide)

set_option maxHeartbeats 4000000 in
set_option maxRecDepth 100000 in
theorem c_X12_chooseGang {l : Launch} {G : va_G} {bs : Nat} {cy : Nat → ClassId} {I : CI} {L : CL} {R : CR} (σ : Row) (y : Nat) (x : Nat) (gs : Int32) (hs : I 68 = σ) (hi : Inv σ) (hd : DR σ) (hx5 : x < nS σ) (hy5 : y < 12) (hu : pnt σ x y = -1) (hw : I 67 30 = shu σ y) (hl8 : rowP I 81 (nG σ) (fun g => lod σ (nI g) y)) (he : rowP I 80 (nS σ) (fun x => eff σ x y)) : MTi l G bs cy MX12_chooseGang 3 [.ref (bs + 67), .int (nI y), .int (nI x), .int gs] I L R (fun r I1 L1 R1 => bgG σ gs y x = r ∧ I = I1 ∧ L = L1 ∧ R = R1) := by
  refine MTi.of (own := RX12) pn_RX12 rfl (Nat.le_of_ble_eq_true rfl) ?_
  intro p e s m args below meth c Qf X hW hS fin ls hl
  have hx := X.1
  have hb := X.2.1
  have hR : RmOK (rmL 3 0 0) 3 := ⟨rfl, rfl⟩
  have hcs : 0 ≤ (rmL 3 0 0).cells ∧ 0 ≤ (rmL 3 0 0).slots := ⟨Nat.zero_le _, Nat.zero_le _⟩
  have hl : lv_has ls 9 [(0, .ref (bs + 67)), (1, .int (nI y)), (2, .int (nI x)), (3, .int gs)] := hl
  obtain ⟨hY, hY1, hY12, hLn, hL4, hSn, hS12, hGn, hG5⟩ := id hi
  refine lv_iconst (v := -1) hx hb (dg D_X12_chooseGang (i := 0) rfl) (by decide) ?_
  refine lv_istore (lv' := [(4, .int ((-1))), (0, .ref (bs + 67)), (1, .int (nI y)), (2, .int (nI x)), (3, .int gs)]) hx hb (dg D_X12_chooseGang (i := 1) rfl) hl (by decide) rfl (fun ls hl => ?_)
  refine n_iconst (a := 0) hx hb (dg D_X12_chooseGang (i := 2) rfl) rfl ?_
  refine lv_istore (lv' := [(5, .int (nI 0)), (4, .int ((-1))), (0, .ref (bs + 67)), (1, .int (nI y)), (2, .int (nI x)), (3, .int gs)]) hx hb (dg D_X12_chooseGang (i := 3) rfl) hl (by decide) rfl (fun ls hl => ?_)
  refine lv_aload_n hx hb (dg D_X12_chooseGang (i := 4) rfl) rfl (lv_at hl 2 rfl) ?_
  refine lv_iload_n hx hb (dg D_X12_chooseGang (i := 5) rfl) rfl (lv_at hl 3 rfl) ?_
  refine lv_aload_n hx hb (dg D_X12_chooseGang (i := 6) rfl) rfl (lv_at hl 2 rfl) ?_
  refine lv_iload_n hx hb (dg D_X12_chooseGang (i := 7) rfl) rfl (lv_at hl 4 rfl) ?_
  refine n_iconst (a := 0) hx hb (dg D_X12_chooseGang (i := 8) rfl) rfl ?_
  refine callVi X hW hS hR (c_X12_spanOf (I := I) σ x 0 (by first | assumption | omega | decide | exact hP.1) (by first | assumption | omega | decide | exact hP.1) (by first | assumption | omega | decide | exact hP.1)) (by decide) UVX12_spanOf LK_X12_224 rfl (by decide) rfl rfl rfl (Nat.le_of_ble_eq_true rfl) hl hcs (dg D_X12_chooseGang (i := 9) rfl) (fun r11 I11 L1 R1 H locs hq hW hS => ?_)
  obtain ⟨rfl, rfl, rfl, rfl⟩ := hq
  refine callVi X hW hS hR (c_X12_isLaneFree (I := I) σ y (σ (10 + 5 * x + 0)) (shu σ y) (by first | assumption | omega | decide | exact hP.1) (by first | assumption | omega | decide | exact hP.1) (by first | assumption | omega | decide | exact hP.1)) (by decide) UVX12_isLaneFree LK_X12_355 rfl (by decide) rfl rfl rfl (Nat.le_of_ble_eq_true rfl) hl hcs (dg D_X12_chooseGang (i := 10) rfl) (fun r14 I14 L1 R1 H locs hq hW hS => ?_)
  obtain ⟨rfl, rfl, rfl, rfl⟩ := hq
  refine lv_istore (lv' := [(6, .int (bI (lfB σ y (σ (10 + 5 * x + 0)) (shu σ y)))), (5, .int (nI 0)), (4, .int ((-1))), (0, .ref (bs + 67)), (1, .int (nI y)), (2, .int (nI x)), (3, .int gs)]) hx hb (dg D_X12_chooseGang (i := 11) rfl) hl (by decide) rfl (fun ls hl => ?_)
  refine n_iconst (a := 0) hx hb (dg D_X12_chooseGang (i := 12) rfl) rfl ?_
  refine lv_istore (lv' := [(7, .int (nI 0)), (6, .int (bI (lfB σ y (σ (10 + 5 * x + 0)) (shu σ y)))), (5, .int (nI 0)), (4, .int ((-1))), (0, .ref (bs + 67)), (1, .int (nI y)), (2, .int (nI x)), (3, .int gs)]) hx hb (dg D_X12_chooseGang (i := 13) rfl) hl (by decide) rfl (fun ls hl => ?_)
  have loop22 := up_ind (P := fun g => ∀ (H : Heap) (locs : List Loc) (ls : Array Slot) (v4 : Int32) (v5 : Int32) (v7 : Int32), v4 = (chL σ gs y x g).1 → v5 = (chL σ gs y x g).2 → v7 = nI g → (g = 0 ∨ lfB σ y (σ (10 + 5 * x + 0)) (shu σ y) = true) → Wd G bs cy I L R H → va_S (Aq bs) s.heap H locs → lv_has ls 9 [(0, .ref (bs + 67)), (1, .int (nI y)), (2, .int (nI x)), (3, .int gs), (4, .int v4), (5, .int v5), (6, .int (bI (lfB σ y (σ (10 + 5 * x + 0)) (shu σ y)))), (7, .int v7)] → W p l e (rmL 3 0 0) s m args below meth c H locs 0 0 Qf (F0 m 22 ls [])) (nG σ) (fun g hx22 ih22 => by
      intro H locs ls v4 v5 v7 q4 q5 q7 hfr hW hS hl
      subst q4
      subst q5
      subst q7
      refine lv_iload hx hb (dg D_X12_chooseGang (i := 14) rfl) (lv_at hl 7 rfl) ?_
      refine lv_aload_n hx hb (dg D_X12_chooseGang (i := 15) rfl) rfl (lv_at hl 0 rfl) ?_
      refine r_getc (t := 68) X hW FI_X12_7 rfl (by decide) rfl (dg D_X12_chooseGang (i := 16) rfl) ?_
      refine n_iconst (a := 5) hx hb (dg D_X12_chooseGang (i := 17) rfl) rfl ?_
      refine r_ald (j := 5) (v := nI (nG σ)) X hW rfl (by decide) rfl (by omega) (by decide) ((congrFun hs _).trans hGn) (dg D_X12_chooseGang (i := 18) rfl) ?_
      refine n_icmp_ge (tgt := 104) hx hb (by omega) (by omega) (dg D_X12_chooseGang (i := 19) rfl) (by decide) (fun c30 => ?_) (fun c30 => ?_)
      · refine lv_iload hx hb (dg D_X12_chooseGang (i := 58) rfl) (lv_at hl 4 rfl) ?_
        exact fin (dg D_X12_chooseGang (i := 59) rfl) hW hS ⟨ch_fin hd hi hx5 hy5 hu hfr (by omega), rfl, rfl, rfl⟩
      · refine lv_iload hx hb (dg D_X12_chooseGang (i := 20) rfl) (lv_at hl 6 rfl) ?_
        refine z_if_eq (tgt := 104) hx hb (dg D_X12_chooseGang (i := 21) rfl) (by decide) (fun c35 => ?_) (fun c35 => ?_)
        · refine lv_iload hx hb (dg D_X12_chooseGang (i := 58) rfl) (lv_at hl 4 rfl) ?_
          exact fin (dg D_X12_chooseGang (i := 59) rfl) hW hS ⟨ch_stop hfr c35, rfl, rfl, rfl⟩
        · refine lv_aload_n hx hb (dg D_X12_chooseGang (i := 22) rfl) rfl (lv_at hl 0 rfl) ?_
          refine lv_iload hx hb (dg D_X12_chooseGang (i := 23) rfl) (lv_at hl 7 rfl) ?_
          refine lv_iload_n hx hb (dg D_X12_chooseGang (i := 24) rfl) rfl (lv_at hl 1 rfl) ?_
          refine callVi X hW hS hR (c_X12_capacityOf (I := I) σ g y (by first | assumption | omega | decide | exact hP.1) (by first | assumption | omega | decide | exact hP.1) (by first | assumption | omega | decide | exact hP.1)) (by decide) UVX12_capacityOf LK_X12_288 rfl (by decide) rfl rfl rfl (Nat.le_of_ble_eq_true rfl) hl hcs (dg D_X12_chooseGang (i := 25) rfl) (fun r42 I42 L1 R1 H locs hq hW hS => ?_)
          obtain ⟨rfl, rfl, rfl, rfl⟩ := hq
          refine lv_aload_n hx hb (dg D_X12_chooseGang (i := 26) rfl) rfl (lv_at hl 0 rfl) ?_
          refine r_getc (t := 81) X hW FI_X12_55 rfl (by decide) rfl (dg D_X12_chooseGang (i := 27) rfl) ?_
          refine lv_iload hx hb (dg D_X12_chooseGang (i := 28) rfl) (lv_at hl 7 rfl) ?_
          refine r_ald (j := g) (v := lod σ (nI g) y) X hW rfl (by decide) rfl (by omega) (by decide) (hl8 _ (by omega)) (dg D_X12_chooseGang (i := 29) rfl) ?_
          refine lv_isub hx hb (dg D_X12_chooseGang (i := 30) rfl) ?_
          refine lv_aload_n hx hb (dg D_X12_chooseGang (i := 31) rfl) rfl (lv_at hl 0 rfl) ?_
          refine r_getc (t := 80) X hW FI_X12_52 rfl (by decide) rfl (dg D_X12_chooseGang (i := 32) rfl) ?_
          refine lv_iload_n hx hb (dg D_X12_chooseGang (i := 33) rfl) rfl (lv_at hl 2 rfl) ?_
          refine r_ald (j := x) (v := eff σ x y) X hW rfl (by decide) rfl (by omega) (by decide) (he _ (by omega)) (dg D_X12_chooseGang (i := 34) rfl) ?_
          refine lv_isub hx hb (dg D_X12_chooseGang (i := 35) rfl) ?_
          rw [show ((cap σ g y) - (lod σ (nI g) y)) - (eff σ x y) = lefT σ y x g from rfl]
          refine lv_istore (lv' := [(8, .int (lefT σ y x g)), (0, .ref (bs + 67)), (1, .int (nI y)), (2, .int (nI x)), (3, .int gs), (4, .int ((chL σ gs y x g).1)), (5, .int ((chL σ gs y x g).2)), (6, .int (bI (lfB σ y (σ (10 + 5 * x + 0)) (shu σ y)))), (7, .int (nI g))]) hx hb (dg D_X12_chooseGang (i := 36) rfl) hl (by decide) rfl (fun ls hl => ?_)
          refine lv_iload_n hx hb (dg D_X12_chooseGang (i := 37) rfl) rfl (lv_at hl 4 rfl) ?_
          refine lv_iload hx hb (dg D_X12_chooseGang (i := 38) rfl) (lv_at hl 8 rfl) ?_
          refine lv_ishr hx hb (dg D_X12_chooseGang (i := 39) rfl) ?_
          refine n_iconst (a := 1) hx hb (dg D_X12_chooseGang (i := 40) rfl) rfl ?_
          refine lv_iand hx hb (dg D_X12_chooseGang (i := 41) rfl) ?_
          refine n_iconst (a := 1) hx hb (dg D_X12_chooseGang (i := 42) rfl) rfl ?_
          refine lv_icmp_ne (tgt := 98) hx hb (dg D_X12_chooseGang (i := 43) rfl) (by decide) (fun c69 => ?_) (fun c69 => ?_)
          · refine lv_iinc (v := nI (g + 1)) (lv' := [(7, .int (nI (g + 1))), (8, .int (lefT σ y x g)), (0, .ref (bs + 67)), (1, .int (nI y)), (2, .int (nI x)), (3, .int gs), (4, .int ((chL σ gs y x g).1)), (5, .int ((chL σ gs y x g).2)), (6, .int (bI (lfB σ y (σ (10 + 5 * x + 0)) (shu σ y))))]) hx hb (dg D_X12_chooseGang (i := 56) rfl) hl (k := 8) rfl (nI_add _ _) (by decide) rfl (fun ls hl => ?_)
            refine lv_goto (tgt := 22) hx hb (dg D_X12_chooseGang (i := 57) rfl) (by decide) ?_
            have hch : chL σ gs y x (g + 1) = _ := if_neg (fun z => c69 ((bit_eq1 (by omega)).mpr z.1))
            exact ih22 (by omega) _ _ _ _ _ _ (by rw [hch]) (by rw [hch]) (congrArg nI (by omega)) (Or.inr c35) hW hS (lv_sub hl [2, 3, 4, 5, 6, 7, 8, 0] rfl)
          · refine lv_iload hx hb (dg D_X12_chooseGang (i := 44) rfl) (lv_at hl 0 rfl) ?_
            refine lv_if_lt (tgt := 98) hx hb (dg D_X12_chooseGang (i := 45) rfl) (by decide) (fun c74 => ?_) (fun c74 => ?_)
            · refine lv_iinc (v := nI (g + 1)) (lv' := [(7, .int (nI (g + 1))), (8, .int (lefT σ y x g)), (0, .ref (bs + 67)), (1, .int (nI y)), (2, .int (nI x)), (3, .int gs), (4, .int ((chL σ gs y x g).1)), (5, .int ((chL σ gs y x g).2)), (6, .int (bI (lfB σ y (σ (10 + 5 * x + 0)) (shu σ y))))]) hx hb (dg D_X12_chooseGang (i := 56) rfl) hl (k := 8) rfl (nI_add _ _) (by decide) rfl (fun ls hl => ?_)
              refine lv_goto (tgt := 22) hx hb (dg D_X12_chooseGang (i := 57) rfl) (by decide) ?_
              have hch : chL σ gs y x (g + 1) = _ := if_neg (fun z => z.2.1 c74)
              exact ih22 (by omega) _ _ _ _ _ _ (by rw [hch]) (by rw [hch]) (congrArg nI (by omega)) (Or.inr c35) hW hS (lv_sub hl [2, 3, 4, 5, 6, 7, 8, 0] rfl)
            · refine lv_iload hx hb (dg D_X12_chooseGang (i := 46) rfl) (lv_at hl 5 rfl) ?_
              refine lv_iconst (v := -1) hx hb (dg D_X12_chooseGang (i := 47) rfl) (by decide) ?_
              refine lv_icmp_eq (tgt := 90) hx hb (dg D_X12_chooseGang (i := 48) rfl) (by decide) (fun c80 => ?_) (fun c80 => ?_)
              · refine lv_iload hx hb (dg D_X12_chooseGang (i := 52) rfl) (lv_at hl 8 rfl) ?_
                refine lv_istore (lv' := [(4, .int (nI g)), (8, .int (lefT σ y x g)), (0, .ref (bs + 67)), (1, .int (nI y)), (2, .int (nI x)), (3, .int gs), (5, .int ((chL σ gs y x g).2)), (6, .int (bI (lfB σ y (σ (10 + 5 * x + 0)) (shu σ y)))), (7, .int (nI g))]) hx hb (dg D_X12_chooseGang (i := 53) rfl) hl (by decide) rfl (fun ls hl => ?_)
                refine lv_iload hx hb (dg D_X12_chooseGang (i := 54) rfl) (lv_at hl 1 rfl) ?_
                refine lv_istore (lv' := [(5, .int (lefT σ y x g)), (4, .int (nI g)), (8, .int (lefT σ y x g)), (0, .ref (bs + 67)), (1, .int (nI y)), (2, .int (nI x)), (3, .int gs), (6, .int (bI (lfB σ y (σ (10 + 5 * x + 0)) (shu σ y)))), (7, .int (nI g))]) hx hb (dg D_X12_chooseGang (i := 55) rfl) hl (by decide) rfl (fun ls hl => ?_)
                refine lv_iinc (v := nI (g + 1)) (lv' := [(7, .int (nI (g + 1))), (5, .int (lefT σ y x g)), (4, .int (nI g)), (8, .int (lefT σ y x g)), (0, .ref (bs + 67)), (1, .int (nI y)), (2, .int (nI x)), (3, .int gs), (6, .int (bI (lfB σ y (σ (10 + 5 * x + 0)) (shu σ y))))]) hx hb (dg D_X12_chooseGang (i := 56) rfl) hl (k := 8) rfl (nI_add _ _) (by decide) rfl (fun ls hl => ?_)
                refine lv_goto (tgt := 22) hx hb (dg D_X12_chooseGang (i := 57) rfl) (by decide) ?_
                have hch : chL σ gs y x (g + 1) = _ := if_pos (And.intro ((bit_eq1 (by omega)).mp c69) (And.intro c74 (Or.inl c80)))
                exact ih22 (by omega) _ _ _ _ _ _ (by rw [hch]) (by rw [hch]) (congrArg nI (by omega)) (Or.inr c35) hW hS (lv_sub hl [4, 5, 6, 7, 2, 1, 8, 0] rfl)
              · refine lv_iload hx hb (dg D_X12_chooseGang (i := 49) rfl) (lv_at hl 0 rfl) ?_
                refine lv_iload hx hb (dg D_X12_chooseGang (i := 50) rfl) (lv_at hl 6 rfl) ?_
                refine lv_icmp_ge (tgt := 98) hx hb (dg D_X12_chooseGang (i := 51) rfl) (by decide) (fun c87 => ?_) (fun c87 => ?_)
                · refine lv_iinc (v := nI (g + 1)) (lv' := [(7, .int (nI (g + 1))), (8, .int (lefT σ y x g)), (0, .ref (bs + 67)), (1, .int (nI y)), (2, .int (nI x)), (3, .int gs), (4, .int ((chL σ gs y x g).1)), (5, .int ((chL σ gs y x g).2)), (6, .int (bI (lfB σ y (σ (10 + 5 * x + 0)) (shu σ y))))]) hx hb (dg D_X12_chooseGang (i := 56) rfl) hl (k := 8) rfl (nI_add _ _) (by decide) rfl (fun ls hl => ?_)
                  refine lv_goto (tgt := 22) hx hb (dg D_X12_chooseGang (i := 57) rfl) (by decide) ?_
                  have hch : chL σ gs y x (g + 1) = _ := if_neg (fun z => z.2.2.elim c80 (Int32.not_lt.mpr c87))
                  exact ih22 (by omega) _ _ _ _ _ _ (by rw [hch]) (by rw [hch]) (congrArg nI (by omega)) (Or.inr c35) hW hS (lv_sub hl [2, 3, 4, 5, 6, 7, 8, 0] rfl)
                · refine lv_iload hx hb (dg D_X12_chooseGang (i := 52) rfl) (lv_at hl 8 rfl) ?_
                  refine lv_istore (lv' := [(4, .int (nI g)), (8, .int (lefT σ y x g)), (0, .ref (bs + 67)), (1, .int (nI y)), (2, .int (nI x)), (3, .int gs), (5, .int ((chL σ gs y x g).2)), (6, .int (bI (lfB σ y (σ (10 + 5 * x + 0)) (shu σ y)))), (7, .int (nI g))]) hx hb (dg D_X12_chooseGang (i := 53) rfl) hl (by decide) rfl (fun ls hl => ?_)
                  refine lv_iload hx hb (dg D_X12_chooseGang (i := 54) rfl) (lv_at hl 1 rfl) ?_
                  refine lv_istore (lv' := [(5, .int (lefT σ y x g)), (4, .int (nI g)), (8, .int (lefT σ y x g)), (0, .ref (bs + 67)), (1, .int (nI y)), (2, .int (nI x)), (3, .int gs), (6, .int (bI (lfB σ y (σ (10 + 5 * x + 0)) (shu σ y)))), (7, .int (nI g))]) hx hb (dg D_X12_chooseGang (i := 55) rfl) hl (by decide) rfl (fun ls hl => ?_)
                  refine lv_iinc (v := nI (g + 1)) (lv' := [(7, .int (nI (g + 1))), (5, .int (lefT σ y x g)), (4, .int (nI g)), (8, .int (lefT σ y x g)), (0, .ref (bs + 67)), (1, .int (nI y)), (2, .int (nI x)), (3, .int gs), (6, .int (bI (lfB σ y (σ (10 + 5 * x + 0)) (shu σ y))))]) hx hb (dg D_X12_chooseGang (i := 56) rfl) hl (k := 8) rfl (nI_add _ _) (by decide) rfl (fun ls hl => ?_)
                  refine lv_goto (tgt := 22) hx hb (dg D_X12_chooseGang (i := 57) rfl) (by decide) ?_
                  have hch : chL σ gs y x (g + 1) = _ := if_pos (And.intro ((bit_eq1 (by omega)).mp c69) (And.intro c74 (Or.inr (Int32.not_le.mp c87))))
                  exact ih22 (by omega) _ _ _ _ _ _ (by rw [hch]) (by rw [hch]) (congrArg nI (by omega)) (Or.inr c35) hW hS (lv_sub hl [4, 5, 6, 7, 2, 1, 8, 0] rfl))
  exact loop22 0 (Nat.zero_le _) _ _ _ _ _ _ (rfl) (rfl) (congrArg nI (by omega)) (Or.inl rfl) hW hS (lv_sub hl [4, 5, 6, 7, 3, 2, 1, 0] rfl)

set_option maxHeartbeats 4000000 in
set_option maxRecDepth 100000 in
theorem c_X12_startYear {l : Launch} {G : va_G} {bs : Nat} {cy : Nat → ClassId} {I : CI} {L : CL} {R : CR} (σ : Row) (y : Nat) (hs : I 68 = σ) (hi : Inv σ) (hlr : rowP I 79 (nS σ) (lrY σ y)) : MTv l G bs cy MX12_startYear 2 [.ref (bs + 67)] I L R (fun I1 L1 R1 => Fr SZ I I1 ∧ rowP I1 81 (nG σ) (fun _ => nI 0) ∧ rowP I1 80 (nS σ) (fun x => eff σ x y) ∧ I1 67 30 = nI 0 ∧ L = L1 ∧ R = R1) := by
  refine MTv.of (own := RX12) pn_RX12 rfl (Nat.le_of_ble_eq_true rfl) ?_
  intro p e s m args below meth c Qf X hW hS fin ls hl
  have hx := X.1
  have hb := X.2.1
  have hR : RmOK (rmL 2 0 0) 2 := ⟨rfl, rfl⟩
  have hcs : 0 ≤ (rmL 2 0 0).cells ∧ 0 ≤ (rmL 2 0 0).slots := ⟨Nat.zero_le _, Nat.zero_le _⟩
  have hl : lv_has ls 2 [(0, .ref (bs + 67))] := hl
  have hF : Fr SZ I I := Fr.rf
  obtain ⟨hY, hY1, hY12, hLn, hL4, hSn, hS12, hGn, hG5⟩ := id hi
  refine lv_aload_n hx hb (dg D_X12_startYear (i := 0) rfl) rfl (lv_at hl 0 rfl) ?_
  refine n_iconst (a := 0) hx hb (dg D_X12_startYear (i := 1) rfl) rfl ?_
  refine r_puti (v := nI 0) (ty := .int) X hW hS FI_X12_352 rfl (by decide) rfl rfl (by decide +kernel) rfl rfl (dg D_X12_startYear (i := 2) rfl) (fun H locs hW hS => ?_)
  have hF : Fr SZ I (u2 I 67 30 (nI 0)) := Fr.put hF rfl
  have hs : (u2 I 67 30 (nI 0)) 68 = σ := hs
  obtain ⟨J2, eJ2⟩ : ∃ J, J = u2 I 67 30 (nI 0) := ⟨_, rfl⟩
  rw [← eJ2] at hW hF hs
  have hlr : rowP J2 79 (nS σ) (lrY σ y) := by rw [eJ2]; exact hlr.keep (by decide)
  have hsh : J2 67 30 = nI 0 := by rw [eJ2]; exact u2_at
  refine n_iconst (a := 0) hx hb (dg D_X12_startYear (i := 3) rfl) rfl ?_
  refine lv_istore_n (lv' := [(1, .int (nI 0)), (0, .ref (bs + 67))]) hx hb (dg D_X12_startYear (i := 4) rfl) rfl hl (by decide) rfl (fun ls hl => ?_)
  have loop7 := up_ind (P := fun g => ∀ (K7 : CI) (H : Heap) (locs : List Loc) (ls : Array Slot) (v1 : Int32), v1 = nI g → (Fr SZ I K7) → (K7 68 = σ) → (K7 67 30 = nI 0) → (rowP K7 81 g (fun _ => nI 0)) → (rowP K7 79 (nS σ) (lrY σ y)) → Wd G bs cy K7 L R H → va_S (Aq bs) s.heap H locs → lv_has ls 2 [(0, .ref (bs + 67)), (1, .int v1)] → W p l e (rmL 2 0 0) s m args below meth c H locs 0 0 Qf (F0 m 7 ls [])) (nG σ) (fun g hx7 ih7 => by
      intro K7 H locs ls v1 q1 hF hs hsh hLd hlr hW hS hl
      subst q1
      refine lv_iload_n hx hb (dg D_X12_startYear (i := 5) rfl) rfl (lv_at hl 1 rfl) ?_
      refine lv_aload_n hx hb (dg D_X12_startYear (i := 6) rfl) rfl (lv_at hl 0 rfl) ?_
      refine r_getc (t := 68) X hW FI_X12_7 rfl (by decide) rfl (dg D_X12_startYear (i := 7) rfl) ?_
      refine n_iconst (a := 5) hx hb (dg D_X12_startYear (i := 8) rfl) rfl ?_
      refine r_ald (j := 5) (v := nI (nG σ)) X hW rfl (by decide) rfl (by omega) (by decide) ((congrFun hs _).trans hGn) (dg D_X12_startYear (i := 9) rfl) ?_
      refine n_icmp_ge (tgt := 30) hx hb (by omega) (by omega) (dg D_X12_startYear (i := 10) rfl) (by decide) (fun c14 => ?_) (fun c14 => ?_)
      · have hLd : rowP K7 81 (nG σ) (fun _ => nI 0) := by rw [show nG σ = g by omega]; exact hLd
        refine n_iconst (a := 0) hx hb (dg D_X12_startYear (i := 18) rfl) rfl ?_
        refine lv_istore_n (lv' := [(1, .int (nI 0)), (0, .ref (bs + 67))]) hx hb (dg D_X12_startYear (i := 19) rfl) rfl hl (by decide) rfl (fun ls hl => ?_)
        have loop32 := up_ind (P := fun x => ∀ (K32 : CI) (H : Heap) (locs : List Loc) (ls : Array Slot) (v1 : Int32), v1 = nI x → (Fr SZ I K32) → (K32 68 = σ) → (K32 67 30 = nI 0) → (rowP K32 80 x (fun x => eff σ x y)) → (rowP K32 81 (nG σ) (fun _ => nI 0)) → (rowP K32 79 (nS σ) (lrY σ y)) → Wd G bs cy K32 L R H → va_S (Aq bs) s.heap H locs → lv_has ls 2 [(0, .ref (bs + 67)), (1, .int v1)] → W p l e (rmL 2 0 0) s m args below meth c H locs 0 0 Qf (F0 m 32 ls [])) (nS σ) (fun x hx32 ih32 => by
            intro K32 H locs ls v1 q1 hF hs hsh hEf hLd hlr hW hS hl
            subst q1
            refine lv_iload_n hx hb (dg D_X12_startYear (i := 20) rfl) rfl (lv_at hl 1 rfl) ?_
            refine lv_aload_n hx hb (dg D_X12_startYear (i := 21) rfl) rfl (lv_at hl 0 rfl) ?_
            refine r_getc (t := 68) X hW FI_X12_7 rfl (by decide) rfl (dg D_X12_startYear (i := 22) rfl) ?_
            refine n_iconst (a := 4) hx hb (dg D_X12_startYear (i := 23) rfl) rfl ?_
            refine r_ald (j := 4) (v := nI (nS σ)) X hW rfl (by decide) rfl (by omega) (by decide) ((congrFun hs _).trans hSn) (dg D_X12_startYear (i := 24) rfl) ?_
            refine n_icmp_ge (tgt := 73) hx hb (by omega) (by omega) (dg D_X12_startYear (i := 25) rfl) (by decide) (fun c39 => ?_) (fun c39 => ?_)
            · have hEf : rowP K32 80 (nS σ) (fun x => eff σ x y) := by rw [show nS σ = x by omega]; exact hEf
              exact fin (dg D_X12_startYear (i := 45) rfl) hW hS ⟨hF, hLd, hEf, hsh, rfl, rfl⟩
            · refine lv_aload_n hx hb (dg D_X12_startYear (i := 26) rfl) rfl (lv_at hl 0 rfl) ?_
              refine r_getc (t := 80) X hW FI_X12_52 rfl (by decide) rfl (dg D_X12_startYear (i := 27) rfl) ?_
              refine lv_iload_n hx hb (dg D_X12_startYear (i := 28) rfl) rfl (lv_at hl 1 rfl) ?_
              refine lv_aload_n hx hb (dg D_X12_startYear (i := 29) rfl) rfl (lv_at hl 0 rfl) ?_
              refine lv_iload_n hx hb (dg D_X12_startYear (i := 30) rfl) rfl (lv_at hl 1 rfl) ?_
              refine n_iconst (a := 1) hx hb (dg D_X12_startYear (i := 31) rfl) rfl ?_
              refine callVi X hW hS hR (c_X12_spanOf (I := K32) σ x 1 (by first | assumption | omega | decide | exact hP.1) (by first | assumption | omega | decide | exact hP.1) (by first | assumption | omega | decide | exact hP.1)) (by decide) UVX12_spanOf LK_X12_224 rfl (by decide) rfl rfl rfl (Nat.le_of_ble_eq_true rfl) hl hcs (dg D_X12_startYear (i := 32) rfl) (fun r50 I50 L1 R1 H locs hq hW hS => ?_)
              obtain ⟨rfl, rfl, rfl, rfl⟩ := hq
              refine lv_bipush (v := nI 100) hx hb (dg D_X12_startYear (i := 33) rfl) (by decide) ?_
              refine lv_aload_n hx hb (dg D_X12_startYear (i := 34) rfl) rfl (lv_at hl 0 rfl) ?_
              refine r_getc (t := 79) X hW FI_X12_49 rfl (by decide) rfl (dg D_X12_startYear (i := 35) rfl) ?_
              refine lv_iload_n hx hb (dg D_X12_startYear (i := 36) rfl) rfl (lv_at hl 1 rfl) ?_
              refine r_ald (j := x) (v := lrY σ y x) X hW rfl (by decide) rfl (by omega) (by decide) (hlr _ (by omega)) (dg D_X12_startYear (i := 37) rfl) ?_
              refine lv_iadd hx hb (dg D_X12_startYear (i := 38) rfl) ?_
              refine lv_imul hx hb (dg D_X12_startYear (i := 39) rfl) ?_
              refine lv_bipush (v := nI 100) hx hb (dg D_X12_startYear (i := 40) rfl) (by decide) ?_
              refine lv_idiv hx hb (dg D_X12_startYear (i := 41) rfl) (by decide) ?_
              refine r_ast (j := x) (v := ((σ (10 + 5 * x + 1)) * ((nI 100) + (lrY σ y x))) / (nI 100)) X hW hS rfl (by decide) rfl (by omega) (by decide) (dg D_X12_startYear (i := 42) rfl) (fun H locs hW hS => ?_)
              have hF : Fr SZ I (u2 K32 80 x (((σ (10 + 5 * x + 1)) * ((nI 100) + (lrY σ y x))) / (nI 100))) := Fr.put hF rfl
              have hs : (u2 K32 80 x (((σ (10 + 5 * x + 1)) * ((nI 100) + (lrY σ y x))) / (nI 100))) 68 = σ := hs
              obtain ⟨J66, eJ66⟩ : ∃ J, J = u2 K32 80 x (((σ (10 + 5 * x + 1)) * ((nI 100) + (lrY σ y x))) / (nI 100)) := ⟨_, rfl⟩
              rw [← eJ66] at hW hF hs
              have hsh : J66 67 30 = nI 0 := by rw [eJ66, u2_off (Or.inl (by decide))]; exact hsh
              have hEf : rowP J66 80 (x + 1) (fun x => eff σ x y) := by rw [eJ66]; exact hEf.ext rfl
              have hLd : rowP J66 81 (nG σ) (fun _ => nI 0) := by rw [eJ66]; exact hLd.keep (by decide)
              have hlr : rowP J66 79 (nS σ) (lrY σ y) := by rw [eJ66]; exact hlr.keep (by decide)
              refine lv_iinc (v := nI (x + 1)) (lv' := [(1, .int (nI (x + 1))), (0, .ref (bs + 67))]) hx hb (dg D_X12_startYear (i := 43) rfl) hl (k := 1) rfl (nI_add _ _) (by decide) rfl (fun ls hl => ?_)
              refine lv_goto (tgt := 32) hx hb (dg D_X12_startYear (i := 44) rfl) (by decide) ?_
              exact ih32 (by omega) J66 _ _ _ _ (congrArg nI (by omega)) hF hs hsh hEf hLd hlr hW hS (lv_sub hl [1, 0] rfl))
        exact loop32 0 (Nat.zero_le _) K7 _ _ _ _ (congrArg nI (by omega)) hF hs hsh rowP.zero hLd hlr hW hS (lv_sub hl [1, 0] rfl)
      · refine lv_aload_n hx hb (dg D_X12_startYear (i := 11) rfl) rfl (lv_at hl 0 rfl) ?_
        refine r_getc (t := 81) X hW FI_X12_55 rfl (by decide) rfl (dg D_X12_startYear (i := 12) rfl) ?_
        refine lv_iload_n hx hb (dg D_X12_startYear (i := 13) rfl) rfl (lv_at hl 1 rfl) ?_
        refine n_iconst (a := 0) hx hb (dg D_X12_startYear (i := 14) rfl) rfl ?_
        refine r_ast (j := g) (v := nI 0) X hW hS rfl (by decide) rfl (by omega) (by decide) (dg D_X12_startYear (i := 15) rfl) (fun H locs hW hS => ?_)
        have hF : Fr SZ I (u2 K7 81 g (nI 0)) := Fr.put hF rfl
        have hs : (u2 K7 81 g (nI 0)) 68 = σ := hs
        obtain ⟨J23, eJ23⟩ : ∃ J, J = u2 K7 81 g (nI 0) := ⟨_, rfl⟩
        rw [← eJ23] at hW hF hs
        have hsh : J23 67 30 = nI 0 := by rw [eJ23, u2_off (Or.inl (by decide))]; exact hsh
        have hLd : rowP J23 81 (g + 1) (fun _ => nI 0) := by rw [eJ23]; exact hLd.ext rfl
        have hlr : rowP J23 79 (nS σ) (lrY σ y) := by rw [eJ23]; exact hlr.keep (by decide)
        refine lv_iinc (v := nI (g + 1)) (lv' := [(1, .int (nI (g + 1))), (0, .ref (bs + 67))]) hx hb (dg D_X12_startYear (i := 16) rfl) hl (k := 1) rfl (nI_add _ _) (by decide) rfl (fun ls hl => ?_)
        refine lv_goto (tgt := 7) hx hb (dg D_X12_startYear (i := 17) rfl) (by decide) ?_
        exact ih7 (by omega) J23 _ _ _ _ (congrArg nI (by omega)) hF hs hsh hLd hlr hW hS (lv_sub hl [1, 0] rfl))
  exact loop7 0 (Nat.zero_le _) J2 _ _ _ _ (congrArg nI (by omega)) hF hs hsh rowP.zero hlr hW hS (lv_sub hl [1, 0] rfl)

set_option maxHeartbeats 4000000 in
set_option maxRecDepth 100000 in
theorem c_X12_paintNow {l : Launch} {G : va_G} {bs : Nat} {cy : Nat → ClassId} {I : CI} {L : CL} {R : CR} (σ : Row) (y : Nat) (x : Nat) (g : Nat) (hs : I 68 = σ) (hi : Inv σ) (hx5 : x < nS σ) (hy5 : y < 12) (hg5 : g < nG σ) (hu : pnt σ x y = -1) (hw : I 67 30 = shu σ y) (hl8 : rowP I 81 (nG σ) (fun g => lod σ (nI g) y)) (he : rowP I 80 (nS σ) (fun x => eff σ x y)) : MTv l G bs cy MX12_paintNow 2 [.ref (bs + 67), .int (nI y), .int (nI x), .int (nI g)] I L R (fun I1 L1 R1 => Fr SY I I1 ∧ I1 68 = setP σ x y (nI g) ∧ rowP I1 81 (nG σ) (fun h => lod (setP σ x y (nI g)) (nI h) y) ∧ rowP I1 80 (nS σ) (fun x9 => eff (setP σ x y (nI g)) x9 y) ∧ I1 67 30 = shu (setP σ x y (nI g)) y ∧ L = L1 ∧ R = R1) := by
  refine MTv.of (own := RX12) pn_RX12 rfl (Nat.le_of_ble_eq_true rfl) ?_
  intro p e s m args below meth c Qf X hW hS fin ls hl
  have hx := X.1
  have hb := X.2.1
  have hR : RmOK (rmL 2 0 0) 2 := ⟨rfl, rfl⟩
  have hcs : 0 ≤ (rmL 2 0 0).cells ∧ 0 ≤ (rmL 2 0 0).slots := ⟨Nat.zero_le _, Nat.zero_le _⟩
  have hl : lv_has ls 4 [(0, .ref (bs + 67)), (1, .int (nI y)), (2, .int (nI x)), (3, .int (nI g))] := hl
  have hF : Fr SY I I := Fr.rf
  obtain ⟨hY, hY1, hY12, hLn, hL4, hSn, hS12, hGn, hG5⟩ := id hi
  have h81 : I 81 = I 81 := rfl
  have h80 : I 80 = I 80 := rfl
  refine lv_aload_n hx hb (dg D_X12_paintNow (i := 0) rfl) rfl (lv_at hl 0 rfl) ?_
  refine lv_iload_n hx hb (dg D_X12_paintNow (i := 1) rfl) rfl (lv_at hl 2 rfl) ?_
  refine lv_iload_n hx hb (dg D_X12_paintNow (i := 2) rfl) rfl (lv_at hl 1 rfl) ?_
  refine lv_iload_n hx hb (dg D_X12_paintNow (i := 3) rfl) rfl (lv_at hl 3 rfl) ?_
  refine callVv X hW hS hR (c_X12_setPainter (I := I) x y (nI g) (by first | assumption | omega | decide | exact hP.1) (by first | assumption | omega | decide | exact hP.1)) (by decide) UVX12_setPainter LK_X12_331 rfl (by decide) rfl rfl rfl (Nat.le_of_ble_eq_true rfl) hl hcs (dg D_X12_paintNow (i := 4) rfl) (fun I4 L1 R1 H locs hq hW hS => ?_)
  obtain ⟨hT4, hp4_0, rfl, rfl⟩ := hq
  have hF : Fr SY I I4 := Fr.tr hF hT4 (by intro a j h; simp only [SP, SY, Bool.or_eq_true, Bool.and_eq_true, beq_iff_eq, decide_eq_true_eq] at h ⊢; omega)
  have hs : I4 68 = setP σ x y (nI g) := by rw [hp4_0, hs]; rfl
  have h81 : I4 81 = I 81 := (Fr.row hT4 (fun _ => rfl)).trans h81
  have h80 : I4 80 = I 80 := (Fr.row hT4 (fun _ => rfl)).trans h80
  have hw : I4 67 30 = shu σ y := (hT4 67 30 rfl).trans hw
  refine lv_aload_n hx hb (dg D_X12_paintNow (i := 5) rfl) rfl (lv_at hl 0 rfl) ?_
  refine r_getc (t := 81) X hW FI_X12_55 rfl (by decide) rfl (dg D_X12_paintNow (i := 6) rfl) ?_
  refine lv_iload_n hx hb (dg D_X12_paintNow (i := 7) rfl) rfl (lv_at hl 3 rfl) ?_
  refine lv_dup2_11 hx hb (dg D_X12_paintNow (i := 8) rfl) rfl rfl ?_
  refine r_ald (j := g) (v := lod σ (nI g) y) X hW rfl (by decide) rfl (by omega) (by decide) (by rw [h81]; exact hl8 _ (by omega)) (dg D_X12_paintNow (i := 9) rfl) ?_
  refine lv_aload_n hx hb (dg D_X12_paintNow (i := 10) rfl) rfl (lv_at hl 0 rfl) ?_
  refine r_getc (t := 80) X hW FI_X12_52 rfl (by decide) rfl (dg D_X12_paintNow (i := 11) rfl) ?_
  refine lv_iload_n hx hb (dg D_X12_paintNow (i := 12) rfl) rfl (lv_at hl 2 rfl) ?_
  refine r_ald (j := x) (v := eff σ x y) X hW rfl (by decide) rfl (by omega) (by decide) (by rw [h80]; exact he _ (by omega)) (dg D_X12_paintNow (i := 13) rfl) ?_
  refine lv_iadd hx hb (dg D_X12_paintNow (i := 14) rfl) ?_
  refine r_ast (j := g) (v := (lod σ (nI g) y) + (eff σ x y)) X hW hS rfl (by decide) rfl (by omega) (by decide) (dg D_X12_paintNow (i := 15) rfl) (fun H locs hW hS => ?_)
  have hF : Fr SY I (u2 I4 81 g ((lod σ (nI g) y) + (eff σ x y))) := Fr.put hF rfl
  have hs : (u2 I4 81 g ((lod σ (nI g) y) + (eff σ x y))) 68 = setP σ x y (nI g) := hs
  have h81 : (u2 I4 81 g ((lod σ (nI g) y) + (eff σ x y))) 81 = upd (I 81) g ((lod σ (nI g) y) + (eff σ x y)) := by rw [u2_eq, h81]
  have h80 : (u2 I4 81 g ((lod σ (nI g) y) + (eff σ x y))) 80 = I 80 := h80
  obtain ⟨J21, eJ21⟩ : ∃ J, J = u2 I4 81 g ((lod σ (nI g) y) + (eff σ x y)) := ⟨_, rfl⟩
  rw [← eJ21] at hW hF hs h81 h80
  have hw : J21 67 30 = shu σ y := by rw [eJ21, u2_off (Or.inl (by decide))]; exact hw
  refine lv_aload_n hx hb (dg D_X12_paintNow (i := 16) rfl) rfl (lv_at hl 0 rfl) ?_
  refine lv_dup hx hb (dg D_X12_paintNow (i := 17) rfl) rfl ?_
  refine r_geti (v := shu σ y) X hW FI_X12_352 rfl (by decide) rfl hw (dg D_X12_paintNow (i := 18) rfl) ?_
  refine lv_aload_n hx hb (dg D_X12_paintNow (i := 19) rfl) rfl (lv_at hl 0 rfl) ?_
  refine lv_iload_n hx hb (dg D_X12_paintNow (i := 20) rfl) rfl (lv_at hl 2 rfl) ?_
  refine n_iconst (a := 0) hx hb (dg D_X12_paintNow (i := 21) rfl) rfl ?_
  refine callVi X hW hS hR (c_X12_spanOf (I := J21) (setP σ x y (nI g)) x 0 (by first | assumption | omega | decide | exact hP.1) (by first | assumption | omega | decide | exact hP.1) (by first | assumption | omega | decide | exact hP.1)) (by decide) UVX12_spanOf LK_X12_224 rfl (by decide) rfl rfl rfl (Nat.le_of_ble_eq_true rfl) hl hcs (dg D_X12_paintNow (i := 22) rfl) (fun r30 I30 L1 R1 H locs hq hW hS => ?_)
  obtain ⟨rfl, rfl, rfl, rfl⟩ := hq
  rw [show (setP σ x y (nI g)) (10 + 5 * x + 0) = σ (10 + 5 * x + 0) from Sm_setP _ (by omega)]
  refine lv_iconst (v := -1) hx hb (dg D_X12_paintNow (i := 23) rfl) (by decide) ?_
  refine lv_icmp_eq (tgt := 48) hx hb (dg D_X12_paintNow (i := 24) rfl) (by decide) (fun c34 => ?_) (fun c34 => ?_)
  · refine n_iconst (a := 0) hx hb (dg D_X12_paintNow (i := 32) rfl) rfl ?_
    refine lv_ior hx hb (dg D_X12_paintNow (i := 33) rfl) ?_
    refine r_puti (v := (shu σ y) ||| (nI 0)) (ty := .int) X hW hS FI_X12_352 rfl (by decide) rfl rfl (by decide +kernel) rfl rfl (dg D_X12_paintNow (i := 34) rfl) (fun H locs hW hS => ?_)
    have hF : Fr SY I (u2 J21 67 30 ((shu σ y) ||| (nI 0))) := Fr.put hF rfl
    have hs : (u2 J21 67 30 ((shu σ y) ||| (nI 0))) 68 = setP σ x y (nI g) := hs
    have h81 : (u2 J21 67 30 ((shu σ y) ||| (nI 0))) 81 = upd (I 81) g ((lod σ (nI g) y) + (eff σ x y)) := h81
    have h80 : (u2 J21 67 30 ((shu σ y) ||| (nI 0))) 80 = I 80 := h80
    obtain ⟨J50, eJ50⟩ : ∃ J, J = u2 J21 67 30 ((shu σ y) ||| (nI 0)) := ⟨_, rfl⟩
    rw [← eJ50] at hW hF hs h81 h80
    have hw : J50 67 30 = (shu σ y) ||| (nI 0) := by rw [eJ50]; exact u2_at
    exact fin (dg D_X12_paintNow (i := 35) rfl) hW hS ⟨hF, hs, fun z hz => by rw [h81]; exact ld_step hl8 hx5 hS12 hg5 hG5 hu z hz, fun z hz => by rw [h80]; show I 80 z = eff (setP σ x y (nI g)) z y; rw [eff_setP (by omega) (by omega)]; exact he z hz, by rw [hw, shu_setP hx5 hS12 (by omega) hu]; unfold lnB; rw [if_pos c34], rfl, rfl⟩
  · refine n_iconst (a := 1) hx hb (dg D_X12_paintNow (i := 25) rfl) rfl ?_
    refine lv_aload_n hx hb (dg D_X12_paintNow (i := 26) rfl) rfl (lv_at hl 0 rfl) ?_
    refine lv_iload_n hx hb (dg D_X12_paintNow (i := 27) rfl) rfl (lv_at hl 2 rfl) ?_
    refine n_iconst (a := 0) hx hb (dg D_X12_paintNow (i := 28) rfl) rfl ?_
    refine callVi X hW hS hR (c_X12_spanOf (I := J21) (setP σ x y (nI g)) x 0 (by first | assumption | omega | decide | exact hP.1) (by first | assumption | omega | decide | exact hP.1) (by first | assumption | omega | decide | exact hP.1)) (by decide) UVX12_spanOf LK_X12_224 rfl (by decide) rfl rfl rfl (Nat.le_of_ble_eq_true rfl) hl hcs (dg D_X12_paintNow (i := 29) rfl) (fun r41 I41 L1 R1 H locs hq hW hS => ?_)
    obtain ⟨rfl, rfl, rfl, rfl⟩ := hq
    rw [show (setP σ x y (nI g)) (10 + 5 * x + 0) = σ (10 + 5 * x + 0) from Sm_setP _ (by omega)]
    refine lv_ishl hx hb (dg D_X12_paintNow (i := 30) rfl) ?_
    refine lv_goto (tgt := 49) hx hb (dg D_X12_paintNow (i := 31) rfl) (by decide) ?_
    refine lv_ior hx hb (dg D_X12_paintNow (i := 33) rfl) ?_
    refine r_puti (v := (shu σ y) ||| ((nI 1) <<< ((σ (10 + 5 * x + 0)) &&& 31))) (ty := .int) X hW hS FI_X12_352 rfl (by decide) rfl rfl (by decide +kernel) rfl rfl (dg D_X12_paintNow (i := 34) rfl) (fun H locs hW hS => ?_)
    have hF : Fr SY I (u2 J21 67 30 ((shu σ y) ||| ((nI 1) <<< ((σ (10 + 5 * x + 0)) &&& 31)))) := Fr.put hF rfl
    have hs : (u2 J21 67 30 ((shu σ y) ||| ((nI 1) <<< ((σ (10 + 5 * x + 0)) &&& 31)))) 68 = setP σ x y (nI g) := hs
    have h81 : (u2 J21 67 30 ((shu σ y) ||| ((nI 1) <<< ((σ (10 + 5 * x + 0)) &&& 31)))) 81 = upd (I 81) g ((lod σ (nI g) y) + (eff σ x y)) := h81
    have h80 : (u2 J21 67 30 ((shu σ y) ||| ((nI 1) <<< ((σ (10 + 5 * x + 0)) &&& 31)))) 80 = I 80 := h80
    obtain ⟨J50, eJ50⟩ : ∃ J, J = u2 J21 67 30 ((shu σ y) ||| ((nI 1) <<< ((σ (10 + 5 * x + 0)) &&& 31))) := ⟨_, rfl⟩
    rw [← eJ50] at hW hF hs h81 h80
    have hw : J50 67 30 = (shu σ y) ||| ((nI 1) <<< ((σ (10 + 5 * x + 0)) &&& 31)) := by rw [eJ50]; exact u2_at
    exact fin (dg D_X12_paintNow (i := 35) rfl) hW hS ⟨hF, hs, fun z hz => by rw [h81]; exact ld_step hl8 hx5 hS12 hg5 hG5 hu z hz, fun z hz => by rw [h80]; show I 80 z = eff (setP σ x y (nI g)) z y; rw [eff_setP (by omega) (by omega)]; exact he z hz, by rw [hw, shu_setP hx5 hS12 (by omega) hu]; unfold lnB; rw [if_neg c34], rfl, rfl⟩

