set_option maxHeartbeats 4000000 in
set_option maxRecDepth 100000 in
theorem c_X12_latest {l : Launch} {G : va_G} {bs : Nat} {cy : Nat → ClassId} {I : CI} {L : CL} {R : CR} (σ : Row) (x : Nat) (hs : I 68 = σ) (hi : Inv σ) (hd : DR σ) (hx5 : x < nS σ) : MTi l G bs cy MX12_latest 4 [.ref (bs + 67), .int (nI x)] I L R (fun r I1 L1 R1 => orT (setF (gzB σ x)) (Yn σ) = r ∧ Fr SL I I1 ∧ L = L1 ∧ R = R1) := by
  refine MTi.of (own := RX12) pn_RX12 rfl (Nat.le_of_ble_eq_true rfl) ?_
  intro p e s m args below meth c Qf X hW hS fin ls hl
  have hx := X.1
  have hb := X.2.1
  have hR : RmOK (rmL 4 0 0) 4 := ⟨rfl, rfl⟩
  have hcs : 0 ≤ (rmL 4 0 0).cells ∧ 0 ≤ (rmL 4 0 0).slots := ⟨Nat.zero_le _, Nat.zero_le _⟩
  have hl : lv_has ls 4 [(0, .ref (bs + 67)), (1, .int (nI x))] := hl
  have hF : Fr SL I I := Fr.rf
  obtain ⟨hY, hY1, hY12, hLn, hL4, hSn, hS12, hGn, hG5⟩ := id hi
  refine n_iconst (a := 0) hx hb (dg D_X12_latest (i := 0) rfl) rfl ?_
  refine lv_istore_n (lv' := [(2, .int (nI 0)), (0, .ref (bs + 67)), (1, .int (nI x))]) hx hb (dg D_X12_latest (i := 1) rfl) rfl hl (by decide) rfl (fun ls hl => ?_)
  refine lv_aload_n hx hb (dg D_X12_latest (i := 2) rfl) rfl (lv_at hl 1 rfl) ?_
  refine lv_iload_n hx hb (dg D_X12_latest (i := 3) rfl) rfl (lv_at hl 2 rfl) ?_
  refine n_iconst (a := 0) hx hb (dg D_X12_latest (i := 4) rfl) rfl ?_
  refine callVi X hW hS hR (c_X12_pastBy (I := I) σ x (nI 0) (by first | assumption | omega | decide | exact hP.1) (by first | assumption | omega | decide | exact hP.1) (by first | assumption | omega | decide | exact hP.1)) (by decide) UVX12_pastBy LK_X12_267 rfl (by decide) rfl rfl rfl (Nat.le_of_ble_eq_true rfl) hl hcs (dg D_X12_latest (i := 5) rfl) (fun r5 I5 L1 R1 H locs hq hW hS => ?_)
  obtain ⟨rfl, hT5, rfl, rfl⟩ := hq
  have hF : Fr SL I I5 := Fr.tr hF hT5 (fun _ _ h => h)
  have hs : I5 68 = σ := by rw [Fr.row hT5 (fun _ => rfl)]; exact hs
  refine lv_istore_n (lv' := [(3, .int (fpB σ x (bitB (nI 0)))), (2, .int (nI 0)), (0, .ref (bs + 67)), (1, .int (nI x))]) hx hb (dg D_X12_latest (i := 6) rfl) rfl hl (by decide) rfl (fun ls hl => ?_)
  have loop9 := up_ind2 (P := fun p9 => ∀ (K9 : CI) (H : Heap) (locs : List Loc) (ls : Array Slot) (v2 : Int32) (v3 : Int32), v2 = orT (setF (gzB σ x)) p9 → v3 = fpB σ x (bitB (orT (setF (gzB σ x)) p9)) → (Fr SL I K9) → (K9 68 = σ) → Wd G bs cy K9 L R H → va_S (Aq bs) s.heap H locs → lv_has ls 4 [(0, .ref (bs + 67)), (1, .int (nI x)), (2, .int v2), (3, .int v3)] → W p l e (rmL 4 0 0) s m args below meth c H locs 0 0 Qf (F0 m 9 ls [])) (Yn σ) (fun p9 hx9 ih9 => by
      intro K9 H locs ls v2 v3 q2 q3 hF hs hW hS hl
      subst q2
      subst q3
      refine lv_iload_n hx hb (dg D_X12_latest (i := 7) rfl) rfl (lv_at hl 3 rfl) ?_
      refine r_ldc X CK_X12_28 (dg D_X12_latest (i := 8) rfl) ?_
      refine lv_icmp_eq (tgt := 31) hx hb (dg D_X12_latest (i := 9) rfl) (by decide) (fun c12 => ?_) (fun c12 => ?_)
      · refine lv_iload_n hx hb (dg D_X12_latest (i := 22) rfl) rfl (lv_at hl 2 rfl) ?_
        exact fin (dg D_X12_latest (i := 23) rfl) hW hS ⟨(gz_last hd hi hx5 (by omega) c12).symm, hF, rfl, rfl⟩
      · obtain ⟨q9, hq1, hq2, hq3, hq4⟩ := gz_hop hd hi hx5 (by omega) c12
        rw [hq3] at hl
        refine lv_iload_n hx hb (dg D_X12_latest (i := 10) rfl) rfl (lv_at hl 2 rfl) ?_
        refine n_iconst (a := 1) hx hb (dg D_X12_latest (i := 11) rfl) rfl ?_
        refine lv_iload_n hx hb (dg D_X12_latest (i := 12) rfl) rfl (lv_at hl 3 rfl) ?_
        refine lv_ishl hx hb (dg D_X12_latest (i := 13) rfl) ?_
        refine lv_ior hx hb (dg D_X12_latest (i := 14) rfl) ?_
        rw [show (orT (setF (gzB σ x)) p9) ||| ((nI 1) <<< ((nI q9) &&& 31)) = orT (setF (gzB σ x)) (q9 + 1) from hq4]
        refine lv_istore_n (lv' := [(2, .int (orT (setF (gzB σ x)) (q9 + 1))), (0, .ref (bs + 67)), (1, .int (nI x)), (3, .int (nI q9))]) hx hb (dg D_X12_latest (i := 15) rfl) rfl hl (by decide) rfl (fun ls hl => ?_)
        refine lv_aload_n hx hb (dg D_X12_latest (i := 16) rfl) rfl (lv_at hl 1 rfl) ?_
        refine lv_iload_n hx hb (dg D_X12_latest (i := 17) rfl) rfl (lv_at hl 2 rfl) ?_
        refine lv_iload_n hx hb (dg D_X12_latest (i := 18) rfl) rfl (lv_at hl 0 rfl) ?_
        refine callVi X hW hS hR (c_X12_pastBy (I := K9) σ x (orT (setF (gzB σ x)) (q9 + 1)) (by first | assumption | omega | decide | exact hP.1) (by first | assumption | omega | decide | exact hP.1) (by first | assumption | omega | decide | exact hP.1)) (by decide) UVX12_pastBy LK_X12_267 rfl (by decide) rfl rfl rfl (Nat.le_of_ble_eq_true rfl) hl hcs (dg D_X12_latest (i := 19) rfl) (fun r24 I24 L1 R1 H locs hq hW hS => ?_)
        obtain ⟨rfl, hT24, rfl, rfl⟩ := hq
        have hF : Fr SL I I24 := Fr.tr hF hT24 (fun _ _ h => h)
        have hs : I24 68 = σ := by rw [Fr.row hT24 (fun _ => rfl)]; exact hs
        refine lv_istore_n (lv' := [(3, .int (fpB σ x (bitB (orT (setF (gzB σ x)) (q9 + 1))))), (2, .int (orT (setF (gzB σ x)) (q9 + 1))), (0, .ref (bs + 67)), (1, .int (nI x))]) hx hb (dg D_X12_latest (i := 20) rfl) rfl hl (by decide) rfl (fun ls hl => ?_)
        refine lv_goto (tgt := 9) hx hb (dg D_X12_latest (i := 21) rfl) (by decide) ?_
        exact ih9 (q9 + 1) (by omega) (by omega) I24 _ _ _ _ _ (rfl) (rfl) hF hs hW hS (lv_sub hl [2, 3, 1, 0] rfl))
  exact loop9 0 (Nat.zero_le _) I5 _ _ _ _ _ (rfl) (rfl) hF hs hW hS (lv_sub hl [2, 3, 1, 0] rfl)

set_option maxHeartbeats 4000000 in
set_option maxRecDepth 100000 in
theorem c_X12_latestPainting {l : Launch} {G : va_G} {bs : Nat} {cy : Nat → ClassId} {I : CI} {L : CL} {R : CR} (σ : Row) (v : Int32) (w : Int32) (hs : I 68 = σ) (hi : Inv σ) (hd : DR σ) : MTi l G bs cy MX12_latestPainting 5 [.ref (bs + 67), .int v, .int w] I L R (fun r I1 L1 R1 => (inB v (nS σ) = true → r = lpY σ (tN v) w) ∧ Fr SLT I I1 ∧ I1 67 6 = thr (inB v (nS σ)) ∧ L = L1 ∧ R = R1) := by
  refine MTi.of (own := RX12) pn_RX12 rfl (Nat.le_of_ble_eq_true rfl) ?_
  intro p e s m args below meth c Qf X hW hS fin ls hl
  have hx := X.1
  have hb := X.2.1
  have hR : RmOK (rmL 5 0 0) 5 := ⟨rfl, rfl⟩
  have hcs : 0 ≤ (rmL 5 0 0).cells ∧ 0 ≤ (rmL 5 0 0).slots := ⟨Nat.zero_le _, Nat.zero_le _⟩
  have hl : lv_has ls 6 [(0, .ref (bs + 67)), (1, .int v), (2, .int w)] := hl
  have hF : Fr SLT I I := Fr.rf
  obtain ⟨hY, hY1, hY12, hLn, hL4, hSn, hS12, hGn, hG5⟩ := id hi
  refine lv_aload_n hx hb (dg D_X12_latestPainting (i := 0) rfl) rfl (lv_at hl 0 rfl) ?_
  refine lv_aload_n hx hb (dg D_X12_latestPainting (i := 1) rfl) rfl (lv_at hl 0 rfl) ?_
  refine lv_iload_n hx hb (dg D_X12_latestPainting (i := 2) rfl) rfl (lv_at hl 1 rfl) ?_
  refine callVi X hW hS hR (c_X12_isSpan (I := I) σ v (by first | assumption | omega | decide | exact hP.1) (by first | assumption | omega | decide | exact hP.1)) (by decide) UVX12_isSpan LK_X12_88 rfl (by decide) rfl rfl rfl (Nat.le_of_ble_eq_true rfl) hl hcs (dg D_X12_latestPainting (i := 3) rfl) (fun r3 I3 L1 R1 H locs hq hW hS => ?_)
  obtain ⟨rfl, rfl, rfl, rfl⟩ := hq
  refine callVi X hW hS hR (c_X12_good (I := I) (inB v (nS σ))) (by decide) UVX12_good LK_X12_95 rfl (by decide) rfl rfl rfl (Nat.le_of_ble_eq_true rfl) hl hcs (dg D_X12_latestPainting (i := 4) rfl) (fun r6 I6 L1 R1 H locs hq hW hS => ?_)
  obtain ⟨rfl, hT6, hp6_0, rfl, rfl⟩ := hq
  have hF : Fr SLT I I6 := Fr.tr hF hT6 (by intro a j h; simp only [ST, SLT, Bool.or_eq_true, Bool.and_eq_true, beq_iff_eq, decide_eq_true_eq] at h ⊢; omega)
  have hs : I6 68 = σ := by rw [Fr.row hT6 (fun _ => rfl)]; exact hs
  have hth : I6 67 6 = thr (inB v (nS σ)) := hp6_0
  refine z_if_ne (tgt := 14) hx hb (dg D_X12_latestPainting (i := 5) rfl) (by decide) (fun c9 => ?_) (fun c9 => ?_)
  · obtain ⟨jv, hjv, rfl⟩ := inB_of c9 (by omega)
    refine lv_aload_n hx hb (dg D_X12_latestPainting (i := 8) rfl) rfl (lv_at hl 0 rfl) ?_
    refine lv_iload_n hx hb (dg D_X12_latestPainting (i := 9) rfl) rfl (lv_at hl 1 rfl) ?_
    refine callVi X hW hS hR (c_X12_latest (I := I6) σ jv (by first | assumption | omega | decide | exact hP.1) (by first | assumption | omega | decide | exact hP.1) (by first | assumption | omega | decide | exact hP.1) (by first | assumption | omega | decide | exact hP.1)) (by decide) UVX12_latest LK_X12_273 rfl (by decide) rfl rfl rfl (Nat.le_of_ble_eq_true rfl) hl hcs (dg D_X12_latestPainting (i := 10) rfl) (fun r16 I16 L1 R1 H locs hq hW hS => ?_)
    obtain ⟨rfl, hT16, rfl, rfl⟩ := hq
    have hF : Fr SLT I I16 := Fr.tr hF hT16 (by intro a j h; simp only [SL, SLT, Bool.or_eq_true, Bool.and_eq_true, beq_iff_eq, decide_eq_true_eq] at h ⊢; omega)
    have hs : I16 68 = σ := by rw [Fr.row hT16 (fun _ => rfl)]; exact hs
    have hth : I16 67 6 = thr (inB (nI jv) (nS σ)) := (hT16 67 6 rfl).trans hth
    refine lv_istore_n (lv' := [(3, .int (orT (setF (gzB σ jv)) (Yn σ))), (0, .ref (bs + 67)), (1, .int (nI jv)), (2, .int w)]) hx hb (dg D_X12_latestPainting (i := 11) rfl) rfl hl (by decide) rfl (fun ls hl => ?_)
    refine n_iconst (a := 0) hx hb (dg D_X12_latestPainting (i := 12) rfl) rfl ?_
    refine lv_istore (lv' := [(4, .int (nI 0)), (3, .int (orT (setF (gzB σ jv)) (Yn σ))), (0, .ref (bs + 67)), (1, .int (nI jv)), (2, .int w)]) hx hb (dg D_X12_latestPainting (i := 13) rfl) hl (by decide) rfl (fun ls hl => ?_)
    refine n_iconst (a := 0) hx hb (dg D_X12_latestPainting (i := 14) rfl) rfl ?_
    refine lv_istore (lv' := [(5, .int (nI 0)), (4, .int (nI 0)), (3, .int (orT (setF (gzB σ jv)) (Yn σ))), (0, .ref (bs + 67)), (1, .int (nI jv)), (2, .int w)]) hx hb (dg D_X12_latestPainting (i := 15) rfl) hl (by decide) rfl (fun ls hl => ?_)
    have loop26 := up_ind (P := fun y => ∀ (H : Heap) (locs : List Loc) (ls : Array Slot) (v4 : Int32) (v5 : Int32), v4 = nI (cntB (gzB σ jv) y) → v5 = nI y → (∀ z, z < y → (gzB σ jv z && decide (nI (cntB (gzB σ jv) z) = w)) = false) → Wd G bs cy I16 L R H → va_S (Aq bs) s.heap H locs → lv_has ls 6 [(0, .ref (bs + 67)), (1, .int (nI jv)), (2, .int w), (3, .int (orT (setF (gzB σ jv)) (Yn σ))), (4, .int v4), (5, .int v5)] → W p l e (rmL 5 0 0) s m args below meth c H locs 0 0 Qf (F0 m 26 ls [])) (Yn σ) (fun y hx26 ih26 => by
        intro H locs ls v4 v5 q4 q5 hn hW hS hl
        subst q4
        subst q5
        refine lv_iload hx hb (dg D_X12_latestPainting (i := 16) rfl) (lv_at hl 5 rfl) ?_
        refine lv_aload_n hx hb (dg D_X12_latestPainting (i := 17) rfl) rfl (lv_at hl 0 rfl) ?_
        refine r_getc (t := 68) X hW FI_X12_7 rfl (by decide) rfl (dg D_X12_latestPainting (i := 18) rfl) ?_
        refine n_iconst (a := 0) hx hb (dg D_X12_latestPainting (i := 19) rfl) rfl ?_
        refine r_ald (j := 0) (v := nI (Yn σ)) X hW rfl (by decide) rfl (by omega) (by decide) ((congrFun hs _).trans hY) (dg D_X12_latestPainting (i := 20) rfl) ?_
        refine n_icmp_ge (tgt := 67) hx hb (by omega) (by omega) (dg D_X12_latestPainting (i := 21) rfl) (by decide) (fun c34 => ?_) (fun c34 => ?_)
        · refine r_ldc X CK_X12_28 (dg D_X12_latestPainting (i := 37) rfl) ?_
          exact fin (dg D_X12_latestPainting (i := 38) rfl) hW hS ⟨fun _ => by rw [tN_nI (show jv < 2 ^ 31 by omega)]; exact (fstI_none (p := fun z => gzB σ jv z && decide (nI (cntB (gzB σ jv) z) = w)) (fun z hz => hn z (by omega))).symm, hF, hth, rfl, rfl⟩
        · refine lv_iload_n hx hb (dg D_X12_latestPainting (i := 22) rfl) rfl (lv_at hl 3 rfl) ?_
          refine lv_iload hx hb (dg D_X12_latestPainting (i := 23) rfl) (lv_at hl 5 rfl) ?_
          refine lv_ishr hx hb (dg D_X12_latestPainting (i := 24) rfl) ?_
          refine n_iconst (a := 1) hx hb (dg D_X12_latestPainting (i := 25) rfl) rfl ?_
          refine lv_iand hx hb (dg D_X12_latestPainting (i := 26) rfl) ?_
          refine lv_if_ne (tgt := 49) hx hb (dg D_X12_latestPainting (i := 27) rfl) (by decide) (fun c43 => ?_) (fun c43 => ?_)
          · have hgb : gzB σ jv y = true := (Bool.eq_false_or_eq_true _).resolve_right (fun hq => c43 ((bit_eq0 (k := y) (by omega)).mpr (by rw [bitB_setF (gzB σ jv) hY12 (by omega)]; exact hq)))
            refine lv_iload hx hb (dg D_X12_latestPainting (i := 29) rfl) (lv_at hl 4 rfl) ?_
            refine lv_iload_n hx hb (dg D_X12_latestPainting (i := 30) rfl) rfl (lv_at hl 2 rfl) ?_
            refine lv_icmp_ne (tgt := 58) hx hb (dg D_X12_latestPainting (i := 31) rfl) (by decide) (fun c52 => ?_) (fun c52 => ?_)
            · refine lv_iinc (v := nI (cntB (gzB σ jv) y + 1)) (lv' := [(4, .int (nI (cntB (gzB σ jv) y + 1))), (0, .ref (bs + 67)), (1, .int (nI jv)), (2, .int w), (3, .int (orT (setF (gzB σ jv)) (Yn σ))), (5, .int (nI y))]) hx hb (dg D_X12_latestPainting (i := 34) rfl) hl (k := 4) rfl (nI_add _ _) (by decide) rfl (fun ls hl => ?_)
              refine lv_iinc (v := nI (y + 1)) (lv' := [(5, .int (nI (y + 1))), (4, .int (nI (cntB (gzB σ jv) y + 1))), (0, .ref (bs + 67)), (1, .int (nI jv)), (2, .int w), (3, .int (orT (setF (gzB σ jv)) (Yn σ)))]) hx hb (dg D_X12_latestPainting (i := 35) rfl) hl (k := 5) rfl (nI_add _ _) (by decide) rfl (fun ls hl => ?_)
              refine lv_goto (tgt := 26) hx hb (dg D_X12_latestPainting (i := 36) rfl) (by decide) ?_
              exact ih26 (by omega) _ _ _ _ _ (congrArg nI (by show _ = cntB (gzB σ jv) y + _; rw [hgb]; rfl)) (congrArg nI (by omega)) (all_lt_succ (p := fun z => gzB σ jv z && decide (nI (cntB (gzB σ jv) z) = w)) hn (by show (gzB σ jv y && _) = false; rw [hgb, decide_eq_false c52]; rfl)) hW hS (lv_sub hl [2, 3, 4, 5, 1, 0] rfl)
            · refine lv_iload hx hb (dg D_X12_latestPainting (i := 32) rfl) (lv_at hl 5 rfl) ?_
              exact fin (dg D_X12_latestPainting (i := 33) rfl) hW hS ⟨fun _ => by rw [tN_nI (show jv < 2 ^ 31 by omega)]; exact (fstI_hit (p := fun z => gzB σ jv z && decide (nI (cntB (gzB σ jv) z) = w)) (by omega) (by show (gzB σ jv y && _) = true; rw [hgb, decide_eq_true c52]; rfl) hn).symm, hF, hth, rfl, rfl⟩
          · have hgb : gzB σ jv y = false := by have h := (bit_eq0 (k := y) (by omega)).mp c43; rw [bitB_setF (gzB σ jv) hY12 (by omega)] at h; exact h
            refine lv_goto (tgt := 61) hx hb (dg D_X12_latestPainting (i := 28) rfl) (by decide) ?_
            refine lv_iinc (v := nI (y + 1)) (lv' := [(5, .int (nI (y + 1))), (0, .ref (bs + 67)), (1, .int (nI jv)), (2, .int w), (3, .int (orT (setF (gzB σ jv)) (Yn σ))), (4, .int (nI (cntB (gzB σ jv) y)))]) hx hb (dg D_X12_latestPainting (i := 35) rfl) hl (k := 5) rfl (nI_add _ _) (by decide) rfl (fun ls hl => ?_)
            refine lv_goto (tgt := 26) hx hb (dg D_X12_latestPainting (i := 36) rfl) (by decide) ?_
            exact ih26 (by omega) _ _ _ _ _ (congrArg nI (by show _ = cntB (gzB σ jv) y + _; rw [hgb]; rfl)) (congrArg nI (by omega)) (all_lt_succ (p := fun z => gzB σ jv z && decide (nI (cntB (gzB σ jv) z) = w)) hn (by show (gzB σ jv y && _) = false; rw [hgb]; rfl)) hW hS (lv_sub hl [1, 2, 3, 4, 5, 0] rfl))
    exact loop26 0 (Nat.zero_le _) _ _ _ _ _ (rfl) (congrArg nI (by omega)) (fun z hz => absurd hz (Nat.not_lt_zero z)) hW hS (lv_sub hl [3, 4, 5, 2, 1, 0] rfl)
  · refine n_iconst (a := 0) hx hb (dg D_X12_latestPainting (i := 6) rfl) rfl ?_
    exact fin (dg D_X12_latestPainting (i := 7) rfl) hW hS ⟨fun z => absurd z (by rw [c9]; decide), hF, hth, rfl, rfl⟩

set_option maxHeartbeats 4000000 in
set_option maxRecDepth 100000 in
theorem c_X12_coatsNeeded {l : Launch} {G : va_G} {bs : Nat} {cy : Nat → ClassId} {I : CI} {L : CL} {R : CR} (σ : Row) (v : Int32) (hs : I 68 = σ) (hi : Inv σ) (hd : DR σ) : MTi l G bs cy MX12_coatsNeeded 4 [.ref (bs + 67), .int v] I L R (fun r I1 L1 R1 => ((inB v (nS σ)) = true → r = nI (coN σ (tN v))) ∧ Fr SLT I I1 ∧ I1 67 6 = thr (inB v (nS σ)) ∧ L = L1 ∧ R = R1) := by
  refine MTi.of (own := RX12) pn_RX12 rfl (Nat.le_of_ble_eq_true rfl) ?_
  intro p e s m args below meth c Qf X hW hS fin ls hl
  have hx := X.1
  have hb := X.2.1
  have hR : RmOK (rmL 4 0 0) 4 := ⟨rfl, rfl⟩
  have hcs : 0 ≤ (rmL 4 0 0).cells ∧ 0 ≤ (rmL 4 0 0).slots := ⟨Nat.zero_le _, Nat.zero_le _⟩
  have hl : lv_has ls 4 [(0, .ref (bs + 67)), (1, .int v)] := hl
  have hF : Fr SLT I I := Fr.rf
  obtain ⟨hY, hY1, hY12, hLn, hL4, hSn, hS12, hGn, hG5⟩ := id hi
  refine lv_aload_n hx hb (dg D_X12_coatsNeeded (i := 0) rfl) rfl (lv_at hl 0 rfl) ?_
  refine lv_aload_n hx hb (dg D_X12_coatsNeeded (i := 1) rfl) rfl (lv_at hl 0 rfl) ?_
  refine lv_iload_n hx hb (dg D_X12_coatsNeeded (i := 2) rfl) rfl (lv_at hl 1 rfl) ?_
  refine callVi X hW hS hR (c_X12_isSpan (I := I) σ v (by first | assumption | omega | decide | exact hP.1) (by first | assumption | omega | decide | exact hP.1)) (by decide) UVX12_isSpan LK_X12_88 rfl (by decide) rfl rfl rfl (Nat.le_of_ble_eq_true rfl) hl hcs (dg D_X12_coatsNeeded (i := 3) rfl) (fun r3 I3 L1 R1 H locs hq hW hS => ?_)
  obtain ⟨rfl, rfl, rfl, rfl⟩ := hq
  refine callVi X hW hS hR (c_X12_good (I := I) (inB v (nS σ))) (by decide) UVX12_good LK_X12_95 rfl (by decide) rfl rfl rfl (Nat.le_of_ble_eq_true rfl) hl hcs (dg D_X12_coatsNeeded (i := 4) rfl) (fun r6 I6 L1 R1 H locs hq hW hS => ?_)
  obtain ⟨rfl, hT6, hp6_0, rfl, rfl⟩ := hq
  have hF : Fr SLT I I6 := Fr.tr hF hT6 (by intro a j h; simp only [ST, SLT, Bool.or_eq_true, Bool.and_eq_true, beq_iff_eq, decide_eq_true_eq] at h ⊢; omega)
  have hs : I6 68 = σ := by rw [Fr.row hT6 (fun _ => rfl)]; exact hs
  have hth : I6 67 6 = thr (inB v (nS σ)) := hp6_0
  refine z_if_ne (tgt := 14) hx hb (dg D_X12_coatsNeeded (i := 5) rfl) (by decide) (fun c9 => ?_) (fun c9 => ?_)
  · obtain ⟨jv, hjv, rfl⟩ := inB_of c9 (by omega)
    have h2Y := two_le hi
    refine n_iconst (a := 0) hx hb (dg D_X12_coatsNeeded (i := 8) rfl) rfl ?_
    refine lv_istore_n (lv' := [(2, .int (nI 0)), (0, .ref (bs + 67)), (1, .int (nI jv))]) hx hb (dg D_X12_coatsNeeded (i := 9) rfl) rfl hl (by decide) rfl (fun ls hl => ?_)
    have loop16 := up_ind (P := fun n => ∀ (K16 : CI) (H : Heap) (locs : List Loc) (ls : Array Slot) (v2 : Int32), v2 = nI n → (Fr SLT I K16) → (K16 68 = σ) → (K16 67 6 = thr (inB (nI jv) (nS σ))) → (∀ z, z < n → ∀ k, k < 2 ^ Yn σ → ¬ cnOK σ jv z k) → Wd G bs cy K16 L R H → va_S (Aq bs) s.heap H locs → lv_has ls 4 [(0, .ref (bs + 67)), (1, .int (nI jv)), (2, .int v2)] → W p l e (rmL 4 0 0) s m args below meth c H locs 0 0 Qf (F0 m 16 ls [])) (Yn σ) (fun n hx16 ih16 => by
        intro K16 H locs ls v2 q2 hF hs hth hn hW hS hl
        subst q2
        refine lv_iload_n hx hb (dg D_X12_coatsNeeded (i := 10) rfl) rfl (lv_at hl 2 rfl) ?_
        refine lv_aload_n hx hb (dg D_X12_coatsNeeded (i := 11) rfl) rfl (lv_at hl 0 rfl) ?_
        refine r_getc (t := 68) X hW FI_X12_7 rfl (by decide) rfl (dg D_X12_coatsNeeded (i := 12) rfl) ?_
        refine n_iconst (a := 0) hx hb (dg D_X12_coatsNeeded (i := 13) rfl) rfl ?_
        refine r_ald (j := 0) (v := nI (Yn σ)) X hW rfl (by decide) rfl (by omega) (by decide) ((congrFun hs _).trans hY) (dg D_X12_coatsNeeded (i := 14) rfl) ?_
        refine n_icmp_ge (tgt := 73) hx hb (by omega) (by omega) (dg D_X12_coatsNeeded (i := 15) rfl) (by decide) (fun c23 => ?_) (fun c23 => ?_)
        · refine lv_aload_n hx hb (dg D_X12_coatsNeeded (i := 42) rfl) rfl (lv_at hl 0 rfl) ?_
          refine r_getc (t := 68) X hW FI_X12_7 rfl (by decide) rfl (dg D_X12_coatsNeeded (i := 43) rfl) ?_
          refine n_iconst (a := 0) hx hb (dg D_X12_coatsNeeded (i := 44) rfl) rfl ?_
          refine r_ald (j := 0) (v := nI (Yn σ)) X hW rfl (by decide) rfl (by omega) (by decide) ((congrFun hs _).trans hY) (dg D_X12_coatsNeeded (i := 45) rfl) ?_
          exact fin (dg D_X12_coatsNeeded (i := 46) rfl) hW hS ⟨fun _ => by rw [tN_nI (show jv < 2 ^ 31 by omega)]; exact coz_none hd hi hjv (fun z hz => hn z (by omega)), hF, hth, rfl, rfl⟩
        · refine n_iconst (a := 0) hx hb (dg D_X12_coatsNeeded (i := 16) rfl) rfl ?_
          refine lv_istore_n (lv' := [(3, .int (nI 0)), (0, .ref (bs + 67)), (1, .int (nI jv)), (2, .int (nI n))]) hx hb (dg D_X12_coatsNeeded (i := 17) rfl) rfl hl (by decide) rfl (fun ls hl => ?_)
          have loop28 := up_ind (P := fun k => ∀ (K28 : CI) (H : Heap) (locs : List Loc) (ls : Array Slot) (v3 : Int32), v3 = nI k → (Fr SLT I K28) → (K28 68 = σ) → (K28 67 6 = thr (inB (nI jv) (nS σ))) → (∀ q, q < k → ¬ cnOK σ jv n q) → Wd G bs cy K28 L R H → va_S (Aq bs) s.heap H locs → lv_has ls 4 [(0, .ref (bs + 67)), (1, .int (nI jv)), (2, .int (nI n)), (3, .int v3)] → W p l e (rmL 4 0 0) s m args below meth c H locs 0 0 Qf (F0 m 28 ls [])) (2 ^ Yn σ) (fun k hx28 ih28 => by
              intro K28 H locs ls v3 q3 hF hs hth hm hW hS hl
              subst q3
              refine lv_iload_n hx hb (dg D_X12_coatsNeeded (i := 18) rfl) rfl (lv_at hl 3 rfl) ?_
              refine n_iconst (a := 1) hx hb (dg D_X12_coatsNeeded (i := 19) rfl) rfl ?_
              refine lv_aload_n hx hb (dg D_X12_coatsNeeded (i := 20) rfl) rfl (lv_at hl 0 rfl) ?_
              refine r_getc (t := 68) X hW FI_X12_7 rfl (by decide) rfl (dg D_X12_coatsNeeded (i := 21) rfl) ?_
              refine n_iconst (a := 0) hx hb (dg D_X12_coatsNeeded (i := 22) rfl) rfl ?_
              refine r_ald (j := 0) (v := nI (Yn σ)) X hW rfl (by decide) rfl (by omega) (by decide) ((congrFun hs _).trans hY) (dg D_X12_coatsNeeded (i := 23) rfl) ?_
              refine lv_ishl hx hb (dg D_X12_coatsNeeded (i := 24) rfl) ?_
              rw [show (nI 1) <<< ((nI (Yn σ)) &&& 31) = nI (2 ^ Yn σ) from two_Y hi]
              refine n_icmp_ge (tgt := 67) hx hb (by omega) (by omega) (dg D_X12_coatsNeeded (i := 25) rfl) (by decide) (fun c37 => ?_) (fun c37 => ?_)
              · refine lv_iinc (v := nI (n + 1)) (lv' := [(2, .int (nI (n + 1))), (0, .ref (bs + 67)), (1, .int (nI jv)), (3, .int (nI k))]) hx hb (dg D_X12_coatsNeeded (i := 40) rfl) hl (k := 2) rfl (nI_add _ _) (by decide) rfl (fun ls hl => ?_)
                refine lv_goto (tgt := 16) hx hb (dg D_X12_coatsNeeded (i := 41) rfl) (by decide) ?_
                exact ih16 (by omega) K28 _ _ _ _ (congrArg nI (by omega)) hF hs hth (fun z hz => by rcases Nat.lt_succ_iff_lt_or_eq.mp hz with q | q; exact hn z q; rw [q]; exact fun k2 hk2 => hm k2 (by omega)) hW hS (lv_sub hl [1, 2, 0] rfl)
              · refine lv_iload_n hx hb (dg D_X12_coatsNeeded (i := 26) rfl) rfl (lv_at hl 3 rfl) ?_
                refine callSi X hW hS hR (c_X12_bits (I := K28) (nI k)) (by decide) USX12_bits LK_X12_270 rfl rfl (Nat.le_of_ble_eq_true rfl) hl hcs (dg D_X12_coatsNeeded (i := 27) rfl) (fun r41 I41 L1 R1 H locs hq hW hS => ?_)
                obtain ⟨rfl, rfl, rfl, rfl⟩ := hq
                refine lv_iload_n hx hb (dg D_X12_coatsNeeded (i := 28) rfl) rfl (lv_at hl 2 rfl) ?_
                refine lv_icmp_ne (tgt := 61) hx hb (dg D_X12_coatsNeeded (i := 29) rfl) (by decide) (fun c45 => ?_) (fun c45 => ?_)
                · refine lv_iinc (v := nI (k + 1)) (lv' := [(3, .int (nI (k + 1))), (0, .ref (bs + 67)), (1, .int (nI jv)), (2, .int (nI n))]) hx hb (dg D_X12_coatsNeeded (i := 38) rfl) hl (k := 3) rfl (nI_add _ _) (by decide) rfl (fun ls hl => ?_)
                  refine lv_goto (tgt := 28) hx hb (dg D_X12_coatsNeeded (i := 39) rfl) (by decide) ?_
                  exact ih28 (by omega) K28 _ _ _ _ (congrArg nI (by omega)) hF hs hth (fun z hz => by rcases Nat.lt_succ_iff_lt_or_eq.mp hz with q | q; exact hm z q; rw [q]; exact fun u => c45 u.1) hW hS (lv_sub hl [1, 2, 3, 0] rfl)
                · refine lv_aload_n hx hb (dg D_X12_coatsNeeded (i := 30) rfl) rfl (lv_at hl 0 rfl) ?_
                  refine lv_iload_n hx hb (dg D_X12_coatsNeeded (i := 31) rfl) rfl (lv_at hl 1 rfl) ?_
                  refine lv_iload_n hx hb (dg D_X12_coatsNeeded (i := 32) rfl) rfl (lv_at hl 3 rfl) ?_
                  refine callVi X hW hS hR (c_X12_pastBy (I := K28) σ jv (nI k) (by first | assumption | omega | decide | exact hP.1) (by first | assumption | omega | decide | exact hP.1) (by first | assumption | omega | decide | exact hP.1)) (by decide) UVX12_pastBy LK_X12_267 rfl (by decide) rfl rfl rfl (Nat.le_of_ble_eq_true rfl) hl hcs (dg D_X12_coatsNeeded (i := 33) rfl) (fun r51 I51 L1 R1 H locs hq hW hS => ?_)
                  obtain ⟨rfl, hT51, rfl, rfl⟩ := hq
                  have hF : Fr SLT I I51 := Fr.tr hF hT51 (by intro a j h; simp only [SL, SLT, Bool.or_eq_true, Bool.and_eq_true, beq_iff_eq, decide_eq_true_eq] at h ⊢; omega)
                  have hs : I51 68 = σ := by rw [Fr.row hT51 (fun _ => rfl)]; exact hs
                  have hth : I51 67 6 = thr (inB (nI jv) (nS σ)) := (hT51 67 6 rfl).trans hth
                  refine r_ldc X CK_X12_28 (dg D_X12_coatsNeeded (i := 34) rfl) ?_
                  refine lv_icmp_ne (tgt := 61) hx hb (dg D_X12_coatsNeeded (i := 35) rfl) (by decide) (fun c56 => ?_) (fun c56 => ?_)
                  · refine lv_iinc (v := nI (k + 1)) (lv' := [(3, .int (nI (k + 1))), (0, .ref (bs + 67)), (1, .int (nI jv)), (2, .int (nI n))]) hx hb (dg D_X12_coatsNeeded (i := 38) rfl) hl (k := 3) rfl (nI_add _ _) (by decide) rfl (fun ls hl => ?_)
                    refine lv_goto (tgt := 28) hx hb (dg D_X12_coatsNeeded (i := 39) rfl) (by decide) ?_
                    exact ih28 (by omega) I51 _ _ _ _ (congrArg nI (by omega)) hF hs hth (fun z hz => by rcases Nat.lt_succ_iff_lt_or_eq.mp hz with q | q; exact hm z q; rw [q]; exact fun u => c56 u.2) hW hS (lv_sub hl [1, 2, 3, 0] rfl)
                  · refine lv_iload_n hx hb (dg D_X12_coatsNeeded (i := 36) rfl) rfl (lv_at hl 2 rfl) ?_
                    exact fin (dg D_X12_coatsNeeded (i := 37) rfl) hW hS ⟨fun _ => by rw [tN_nI (show jv < 2 ^ 31 by omega)]; exact coz_hit hd hi hjv (by omega) (by omega) (And.intro c45 c56) hn, hF, hth, rfl, rfl⟩)
          exact loop28 0 (Nat.zero_le _) K16 _ _ _ _ (congrArg nI (by omega)) hF hs hth (fun z hz => absurd hz (Nat.not_lt_zero z)) hW hS (lv_sub hl [1, 2, 3, 0] rfl))
    exact loop16 0 (Nat.zero_le _) I6 _ _ _ _ (congrArg nI (by omega)) hF hs hth (fun z hz => absurd hz (Nat.not_lt_zero z)) hW hS (lv_sub hl [1, 2, 0] rfl)
  · refine n_iconst (a := 0) hx hb (dg D_X12_coatsNeeded (i := 6) rfl) rfl ?_
    exact fin (dg D_X12_coatsNeeded (i := 7) rfl) hW hS ⟨fun z => absurd z (by rw [c9]; decide), hF, hth, rfl, rfl⟩

set_option maxHeartbeats 4000000 in
set_option maxRecDepth 100000 in
theorem c_X12_averageRust {l : Launch} {G : va_G} {bs : Nat} {cy : Nat → ClassId} {I : CI} {L : CL} {R : CR} (σ : Row) (v : Int32) (hs : I 68 = σ) (hi : Inv σ) (hd : DR σ) : MTd l G bs cy MX12_averageRust 4 [.ref (bs + 67), .int v] I L R (fun r I1 L1 R1 => ((inB v (Yn σ)) = true → r = avR σ (tN v)) ∧ Fr SLT I I1 ∧ I1 67 6 = thr (inB v (Yn σ)) ∧ L = L1 ∧ R = R1) := by
  refine MTd.of (own := RX12) pn_RX12 rfl (Nat.le_of_ble_eq_true rfl) ?_
  intro p e s m args below meth c Qf X hW hS fin ls hl
  have hx := X.1
  have hb := X.2.1
  have hR : RmOK (rmL 4 0 0) 4 := ⟨rfl, rfl⟩
  have hcs : 0 ≤ (rmL 4 0 0).cells ∧ 0 ≤ (rmL 4 0 0).slots := ⟨Nat.zero_le _, Nat.zero_le _⟩
  have hl : lv_has ls 5 [(0, .ref (bs + 67)), (1, .int v)] := hl
  have hF : Fr SLT I I := Fr.rf
  obtain ⟨hY, hY1, hY12, hLn, hL4, hSn, hS12, hGn, hG5⟩ := id hi
  refine lv_aload_n hx hb (dg D_X12_averageRust (i := 0) rfl) rfl (lv_at hl 0 rfl) ?_
  refine lv_aload_n hx hb (dg D_X12_averageRust (i := 1) rfl) rfl (lv_at hl 0 rfl) ?_
  refine lv_iload_n hx hb (dg D_X12_averageRust (i := 2) rfl) rfl (lv_at hl 1 rfl) ?_
  refine callVi X hW hS hR (c_X12_isYear (I := I) σ v (by first | assumption | omega | decide | exact hP.1) (by first | assumption | omega | decide | exact hP.1)) (by decide) UVX12_isYear LK_X12_92 rfl (by decide) rfl rfl rfl (Nat.le_of_ble_eq_true rfl) hl hcs (dg D_X12_averageRust (i := 3) rfl) (fun r3 I3 L1 R1 H locs hq hW hS => ?_)
  obtain ⟨rfl, rfl, rfl, rfl⟩ := hq
  refine callVi X hW hS hR (c_X12_good (I := I) (inB v (Yn σ))) (by decide) UVX12_good LK_X12_95 rfl (by decide) rfl rfl rfl (Nat.le_of_ble_eq_true rfl) hl hcs (dg D_X12_averageRust (i := 4) rfl) (fun r6 I6 L1 R1 H locs hq hW hS => ?_)
  obtain ⟨rfl, hT6, hp6_0, rfl, rfl⟩ := hq
  have hF : Fr SLT I I6 := Fr.tr hF hT6 (by intro a j h; simp only [ST, SLT, Bool.or_eq_true, Bool.and_eq_true, beq_iff_eq, decide_eq_true_eq] at h ⊢; omega)
  have hs : I6 68 = σ := by rw [Fr.row hT6 (fun _ => rfl)]; exact hs
  have hth : I6 67 6 = thr (inB v (Yn σ)) := hp6_0
  refine z_if_ne (tgt := 14) hx hb (dg D_X12_averageRust (i := 5) rfl) (by decide) (fun c9 => ?_) (fun c9 => ?_)
  · obtain ⟨jv, hjv, rfl⟩ := inB_of c9 (by omega)
    refine n_iconst (a := 0) hx hb (dg D_X12_averageRust (i := 8) rfl) rfl ?_
    refine lv_istore_n (lv' := [(2, .int (nI 0)), (0, .ref (bs + 67)), (1, .int (nI jv))]) hx hb (dg D_X12_averageRust (i := 9) rfl) rfl hl (by decide) rfl (fun ls hl => ?_)
    refine n_iconst (a := 0) hx hb (dg D_X12_averageRust (i := 10) rfl) rfl ?_
    refine lv_istore_n (lv' := [(3, .int (nI 0)), (2, .int (nI 0)), (0, .ref (bs + 67)), (1, .int (nI jv))]) hx hb (dg D_X12_averageRust (i := 11) rfl) rfl hl (by decide) rfl (fun ls hl => ?_)
    refine n_iconst (a := 0) hx hb (dg D_X12_averageRust (i := 12) rfl) rfl ?_
    refine lv_istore (lv' := [(4, .int (nI 0)), (3, .int (nI 0)), (2, .int (nI 0)), (0, .ref (bs + 67)), (1, .int (nI jv))]) hx hb (dg D_X12_averageRust (i := 13) rfl) hl (by decide) rfl (fun ls hl => ?_)
    have loop21 := up_ind (P := fun x => ∀ (K21 : CI) (H : Heap) (locs : List Loc) (ls : Array Slot) (v2 : Int32) (v3 : Int32) (v4 : Int32), v2 = sumT (fun x => σ (10 + 5 * x + 1) * (rgS σ x (jv + 1)).1) x → v3 = sumT (fun x => σ (10 + 5 * x + 1)) x → v4 = nI x → (Fr SLT I K21) → (K21 68 = σ) → (K21 67 6 = thr (inB (nI jv) (Yn σ))) → Wd G bs cy K21 L R H → va_S (Aq bs) s.heap H locs → lv_has ls 5 [(0, .ref (bs + 67)), (1, .int (nI jv)), (2, .int v2), (3, .int v3), (4, .int v4)] → W p l e (rmL 4 0 0) s m args below meth c H locs 0 0 Qf (F0 m 21 ls [])) (nS σ) (fun x hx21 ih21 => by
        intro K21 H locs ls v2 v3 v4 q2 q3 q4 hF hs hth hW hS hl
        subst q2
        subst q3
        subst q4
        refine lv_iload hx hb (dg D_X12_averageRust (i := 14) rfl) (lv_at hl 4 rfl) ?_
        refine lv_aload_n hx hb (dg D_X12_averageRust (i := 15) rfl) rfl (lv_at hl 0 rfl) ?_
        refine r_getc (t := 68) X hW FI_X12_7 rfl (by decide) rfl (dg D_X12_averageRust (i := 16) rfl) ?_
        refine n_iconst (a := 4) hx hb (dg D_X12_averageRust (i := 17) rfl) rfl ?_
        refine r_ald (j := 4) (v := nI (nS σ)) X hW rfl (by decide) rfl (by omega) (by decide) ((congrFun hs _).trans hSn) (dg D_X12_averageRust (i := 18) rfl) ?_
        refine n_icmp_ge (tgt := 71) hx hb (by omega) (by omega) (dg D_X12_averageRust (i := 19) rfl) (by decide) (fun c29 => ?_) (fun c29 => ?_)
        · refine lv_iload_n hx hb (dg D_X12_averageRust (i := 44) rfl) rfl (lv_at hl 3 rfl) ?_
          refine lv_if_ne (tgt := 79) hx hb (dg D_X12_averageRust (i := 45) rfl) (by decide) (fun c72 => ?_) (fun c72 => ?_)
          · refine lv_iload_n hx hb (dg D_X12_averageRust (i := 48) rfl) rfl (lv_at hl 2 rfl) ?_
            refine lv_i2d hx hb (dg D_X12_averageRust (i := 49) rfl) ?_
            refine lv_iload_n hx hb (dg D_X12_averageRust (i := 50) rfl) rfl (lv_at hl 3 rfl) ?_
            refine lv_i2d hx hb (dg D_X12_averageRust (i := 51) rfl) ?_
            refine lv_ddiv hx hb (dg D_X12_averageRust (i := 52) rfl) (by rw [show x = nS σ by omega] at c72 ⊢; exact avA_nn hd hi c72) ?_
            exact fin (dg D_X12_averageRust (i := 53) rfl) hW hS ⟨fun _ => by rw [show x = nS σ by omega] at c72; rw [tN_nI (show jv < 2 ^ 31 by omega)]; unfold avR avA; rw [if_neg c72]; rw [show x = nS σ by omega]; rfl, hF, hth, rfl, rfl⟩
          · refine lv_dconst0 hx hb (dg D_X12_averageRust (i := 46) rfl) ?_
            refine lv_goto (tgt := 84) hx hb (dg D_X12_averageRust (i := 47) rfl) (by decide) ?_
            exact fin (dg D_X12_averageRust (i := 53) rfl) hW hS ⟨fun _ => by rw [show x = nS σ by omega] at c72; rw [tN_nI (show jv < 2 ^ 31 by omega)]; unfold avR avA; rw [if_pos c72], hF, hth, rfl, rfl⟩
        · refine lv_aload_n hx hb (dg D_X12_averageRust (i := 20) rfl) rfl (lv_at hl 0 rfl) ?_
          refine lv_iload hx hb (dg D_X12_averageRust (i := 21) rfl) (lv_at hl 4 rfl) ?_
          refine callVv X hW hS hR (c_X12_lay (I := K21) σ x (by first | assumption | omega | decide | exact hP.1) (by first | assumption | omega | decide | exact hP.1) (by first | assumption | omega | decide | exact hP.1)) (by decide) UVX12_lay LK_X12_243 rfl (by decide) rfl rfl rfl (Nat.le_of_ble_eq_true rfl) hl hcs (dg D_X12_averageRust (i := 22) rfl) (fun I35 L1 R1 H locs hq hW hS => ?_)
          obtain ⟨hT35, hp35_0, hp35_1, hp35_2, rfl, rfl⟩ := hq
          have hF : Fr SLT I I35 := Fr.tr hF hT35 (by intro a j h; simp only [SL, SLT, Bool.or_eq_true, Bool.and_eq_true, beq_iff_eq, decide_eq_true_eq] at h ⊢; omega)
          have hs : I35 68 = σ := by rw [Fr.row hT35 (fun _ => rfl)]; exact hs
          have hth : I35 67 6 = thr (inB (nI jv) (Yn σ)) := (hT35 67 6 rfl).trans hth
          refine lv_iload_n hx hb (dg D_X12_averageRust (i := 23) rfl) rfl (lv_at hl 2 rfl) ?_
          refine lv_aload_n hx hb (dg D_X12_averageRust (i := 24) rfl) rfl (lv_at hl 0 rfl) ?_
          refine lv_iload hx hb (dg D_X12_averageRust (i := 25) rfl) (lv_at hl 4 rfl) ?_
          refine n_iconst (a := 1) hx hb (dg D_X12_averageRust (i := 26) rfl) rfl ?_
          refine callVi X hW hS hR (c_X12_spanOf (I := I35) σ x 1 (by first | assumption | omega | decide | exact hP.1) (by first | assumption | omega | decide | exact hP.1) (by first | assumption | omega | decide | exact hP.1)) (by decide) UVX12_spanOf LK_X12_224 rfl (by decide) rfl rfl rfl (Nat.le_of_ble_eq_true rfl) hl hcs (dg D_X12_averageRust (i := 27) rfl) (fun r43 I43 L1 R1 H locs hq hW hS => ?_)
          obtain ⟨rfl, rfl, rfl, rfl⟩ := hq
          refine lv_aload_n hx hb (dg D_X12_averageRust (i := 28) rfl) rfl (lv_at hl 0 rfl) ?_
          refine r_getc (t := 76) X hW FI_X12_40 rfl (by decide) rfl (dg D_X12_averageRust (i := 29) rfl) ?_
          refine lv_iload_n hx hb (dg D_X12_averageRust (i := 30) rfl) rfl (lv_at hl 1 rfl) ?_
          refine r_ald (j := jv) (v := (rgS σ x (jv + 1)).1) X hW rfl (by decide) rfl (by omega) (by decide) (hp35_2 _ (by omega)) (dg D_X12_averageRust (i := 31) rfl) ?_
          refine lv_imul hx hb (dg D_X12_averageRust (i := 32) rfl) ?_
          refine lv_iadd hx hb (dg D_X12_averageRust (i := 33) rfl) ?_
          refine lv_istore_n (lv' := [(2, .int ((sumT (fun x => σ (10 + 5 * x + 1) * (rgS σ x (jv + 1)).1) x) + ((σ (10 + 5 * x + 1)) * ((rgS σ x (jv + 1)).1)))), (0, .ref (bs + 67)), (1, .int (nI jv)), (3, .int (sumT (fun x => σ (10 + 5 * x + 1)) x)), (4, .int (nI x))]) hx hb (dg D_X12_averageRust (i := 34) rfl) rfl hl (by decide) rfl (fun ls hl => ?_)
          refine lv_iload_n hx hb (dg D_X12_averageRust (i := 35) rfl) rfl (lv_at hl 3 rfl) ?_
          refine lv_aload_n hx hb (dg D_X12_averageRust (i := 36) rfl) rfl (lv_at hl 1 rfl) ?_
          refine lv_iload hx hb (dg D_X12_averageRust (i := 37) rfl) (lv_at hl 4 rfl) ?_
          refine n_iconst (a := 1) hx hb (dg D_X12_averageRust (i := 38) rfl) rfl ?_
          refine callVi X hW hS hR (c_X12_spanOf (I := I35) σ x 1 (by first | assumption | omega | decide | exact hP.1) (by first | assumption | omega | decide | exact hP.1) (by first | assumption | omega | decide | exact hP.1)) (by decide) UVX12_spanOf LK_X12_224 rfl (by decide) rfl rfl rfl (Nat.le_of_ble_eq_true rfl) hl hcs (dg D_X12_averageRust (i := 39) rfl) (fun r60 I60 L1 R1 H locs hq hW hS => ?_)
          obtain ⟨rfl, rfl, rfl, rfl⟩ := hq
          refine lv_iadd hx hb (dg D_X12_averageRust (i := 40) rfl) ?_
          refine lv_istore_n (lv' := [(3, .int ((sumT (fun x => σ (10 + 5 * x + 1)) x) + (σ (10 + 5 * x + 1)))), (2, .int ((sumT (fun x => σ (10 + 5 * x + 1) * (rgS σ x (jv + 1)).1) x) + ((σ (10 + 5 * x + 1)) * ((rgS σ x (jv + 1)).1)))), (0, .ref (bs + 67)), (1, .int (nI jv)), (4, .int (nI x))]) hx hb (dg D_X12_averageRust (i := 41) rfl) rfl hl (by decide) rfl (fun ls hl => ?_)
          refine lv_iinc (v := nI (x + 1)) (lv' := [(4, .int (nI (x + 1))), (3, .int ((sumT (fun x => σ (10 + 5 * x + 1)) x) + (σ (10 + 5 * x + 1)))), (2, .int ((sumT (fun x => σ (10 + 5 * x + 1) * (rgS σ x (jv + 1)).1) x) + ((σ (10 + 5 * x + 1)) * ((rgS σ x (jv + 1)).1)))), (0, .ref (bs + 67)), (1, .int (nI jv))]) hx hb (dg D_X12_averageRust (i := 42) rfl) hl (k := 4) rfl (nI_add _ _) (by decide) rfl (fun ls hl => ?_)
          refine lv_goto (tgt := 21) hx hb (dg D_X12_averageRust (i := 43) rfl) (by decide) ?_
          exact ih21 (by omega) I35 _ _ _ _ _ _ (rfl) (rfl) (congrArg nI (by omega)) hF hs hth hW hS (lv_sub hl [3, 4, 2, 1, 0] rfl))
    exact loop21 0 (Nat.zero_le _) I6 _ _ _ _ _ _ (rfl) (rfl) (congrArg nI (by omega)) hF hs hth hW hS (lv_sub hl [3, 4, 2, 1, 0] rfl)
  · refine lv_dconst0 hx hb (dg D_X12_averageRust (i := 6) rfl) ?_
    exact fin (dg D_X12_averageRust (i := 7) rfl) hW hS ⟨fun z => absurd z (by rw [c9]; decide), hF, hth, rfl, rfl⟩

