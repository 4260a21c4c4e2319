set_option maxHeartbeats 4000000 in
set_option maxRecDepth 100000 in
theorem c_X12_possibleGangs {l : Launch} {G : va_G} {bs : Nat} {cy : Nat → ClassId} {I : CI} {L : CL} {R : CR} (σ : Row) (v : Int32) (w : Int32) (hs : I 68 = σ) (hi : Inv σ) : MTi l G bs cy MX12_possibleGangs 7 [.ref (bs + 67), .int v, .int w] I L R (fun r I1 L1 R1 => ((inB w (nS σ) && inB v (Yn σ)) = true → r = orT (setF (fun g => decide (rfs σ (tN v) (tN w) g = 0))) (nG σ)) ∧ Fr SLT I I1 ∧ I1 67 6 = thr (inB w (nS σ) && inB v (Yn σ)) ∧ L = L1 ∧ R = R1) := by
  refine MTi.of (own := RX12) pn_RX12 rfl (Nat.le_of_ble_eq_true rfl) ?_
  intro p e s m args below meth c Qf X hW hS fin ls hl
  have hx := X.1
  have hb := X.2.1
  have hR : RmOK (rmL 7 0 0) 7 := ⟨rfl, rfl⟩
  have hcs : 0 ≤ (rmL 7 0 0).cells ∧ 0 ≤ (rmL 7 0 0).slots := ⟨Nat.zero_le _, Nat.zero_le _⟩
  have hl : lv_has ls 5 [(0, .ref (bs + 67)), (1, .int v), (2, .int w)] := hl
  have hF : Fr SLT I I := Fr.rf
  obtain ⟨hY, hY1, hY12, hLn, hL4, hSn, hS12, hGn, hG5⟩ := id hi
  refine lv_aload_n hx hb (dg D_X12_possibleGangs (i := 0) rfl) rfl (lv_at hl 0 rfl) ?_
  refine lv_iload_n hx hb (dg D_X12_possibleGangs (i := 1) rfl) rfl (lv_at hl 2 rfl) ?_
  refine lv_iload_n hx hb (dg D_X12_possibleGangs (i := 2) rfl) rfl (lv_at hl 1 rfl) ?_
  refine callVi X hW hS hR (c_X12_goodSpan (I := I) σ w v (by first | assumption | omega | decide | exact hP.1) (by first | assumption | omega | decide | exact hP.1)) (by decide) UVX12_goodSpan LK_X12_252 rfl (by decide) rfl rfl rfl (Nat.le_of_ble_eq_true rfl) hl hcs (dg D_X12_possibleGangs (i := 3) rfl) (fun r3 I3 L1 R1 H locs hq hW hS => ?_)
  obtain ⟨rfl, hT3, hp3_0, rfl, rfl⟩ := hq
  have hF : Fr SLT I I3 := Fr.tr hF hT3 (by intro a j h; simp only [ST, SLT, Bool.or_eq_true, Bool.and_eq_true, beq_iff_eq, decide_eq_true_eq] at h ⊢; omega)
  have hs : I3 68 = σ := by rw [Fr.row hT3 (fun _ => rfl)]; exact hs
  have hth : I3 67 6 = thr (inB w (nS σ) && inB v (Yn σ)) := hp3_0
  refine z_if_ne (tgt := 11) hx hb (dg D_X12_possibleGangs (i := 4) rfl) (by decide) (fun c6 => ?_) (fun c6 => ?_)
  · obtain ⟨g1, g2⟩ := Bool.and_eq_true_iff.mp c6
    obtain ⟨jv, hjv, rfl⟩ := inB_of g2 (by omega)
    obtain ⟨jw, hjw, rfl⟩ := inB_of g1 (by omega)
    refine n_iconst (a := 0) hx hb (dg D_X12_possibleGangs (i := 7) rfl) rfl ?_
    refine lv_istore_n (lv' := [(3, .int (nI 0)), (0, .ref (bs + 67)), (1, .int (nI jv)), (2, .int (nI jw))]) hx hb (dg D_X12_possibleGangs (i := 8) rfl) rfl hl (by decide) rfl (fun ls hl => ?_)
    refine n_iconst (a := 0) hx hb (dg D_X12_possibleGangs (i := 9) rfl) rfl ?_
    refine lv_istore (lv' := [(4, .int (nI 0)), (3, .int (nI 0)), (0, .ref (bs + 67)), (1, .int (nI jv)), (2, .int (nI jw))]) hx hb (dg D_X12_possibleGangs (i := 10) rfl) hl (by decide) rfl (fun ls hl => ?_)
    have loop16 := up_ind (P := fun g => ∀ (K16 : CI) (H : Heap) (locs : List Loc) (ls : Array Slot) (v3 : Int32) (v4 : Int32), v3 = orT (setF (fun g => decide (rfs σ jv jw g = 0))) g → v4 = nI g → (Fr SLT I K16) → (K16 68 = σ) → (K16 67 6 = thr (inB (nI jw) (nS σ) && inB (nI jv) (Yn σ))) → Wd G bs cy K16 L R H → va_S (Aq bs) s.heap H locs → lv_has ls 5 [(0, .ref (bs + 67)), (1, .int (nI jv)), (2, .int (nI jw)), (3, .int v3), (4, .int v4)] → W p l e (rmL 7 0 0) s m args below meth c H locs 0 0 Qf (F0 m 16 ls [])) (nG σ) (fun g hx16 ih16 => by
        intro K16 H locs ls v3 v4 q3 q4 hF hs hth hW hS hl
        subst q3
        subst q4
        refine lv_iload hx hb (dg D_X12_possibleGangs (i := 11) rfl) (lv_at hl 4 rfl) ?_
        refine lv_aload_n hx hb (dg D_X12_possibleGangs (i := 12) rfl) rfl (lv_at hl 0 rfl) ?_
        refine r_getc (t := 68) X hW FI_X12_7 rfl (by decide) rfl (dg D_X12_possibleGangs (i := 13) rfl) ?_
        refine n_iconst (a := 5) hx hb (dg D_X12_possibleGangs (i := 14) rfl) rfl ?_
        refine r_ald (j := 5) (v := nI (nG σ)) X hW rfl (by decide) rfl (by omega) (by decide) ((congrFun hs _).trans hGn) (dg D_X12_possibleGangs (i := 15) rfl) ?_
        refine n_icmp_ge (tgt := 55) hx hb (by omega) (by omega) (dg D_X12_possibleGangs (i := 16) rfl) (by decide) (fun c24 => ?_) (fun c24 => ?_)
        · refine lv_iload_n hx hb (dg D_X12_possibleGangs (i := 33) rfl) rfl (lv_at hl 3 rfl) ?_
          exact fin (dg D_X12_possibleGangs (i := 34) rfl) hW hS ⟨fun _ => by rw [tN_nI (show jv < 2 ^ 31 by omega), tN_nI (show jw < 2 ^ 31 by omega), show g = nG σ by omega], hF, hth, rfl, rfl⟩
        · refine lv_iload_n hx hb (dg D_X12_possibleGangs (i := 17) rfl) rfl (lv_at hl 3 rfl) ?_
          refine lv_aload_n hx hb (dg D_X12_possibleGangs (i := 18) rfl) rfl (lv_at hl 0 rfl) ?_
          refine lv_iload_n hx hb (dg D_X12_possibleGangs (i := 19) rfl) rfl (lv_at hl 1 rfl) ?_
          refine lv_iload_n hx hb (dg D_X12_possibleGangs (i := 20) rfl) rfl (lv_at hl 2 rfl) ?_
          refine lv_iload hx hb (dg D_X12_possibleGangs (i := 21) rfl) (lv_at hl 4 rfl) ?_
          refine callVi X hW hS hR (c_X12_refusalOf (I := K16) σ jv jw g (by first | assumption | omega | decide | exact hP.1) (by first | assumption | omega | decide | exact hP.1) (by first | assumption | omega | decide | exact hP.1) (by first | assumption | omega | decide | exact hP.1) (by first | assumption | omega | decide | exact hP.1)) (by decide) UVX12_refusalOf LK_X12_327 rfl (by decide) rfl rfl rfl (Nat.le_of_ble_eq_true rfl) hl hcs (dg D_X12_possibleGangs (i := 22) rfl) (fun r33 I33 L1 R1 H locs hq hW hS => ?_)
          obtain ⟨rfl, hT33, rfl, rfl⟩ := hq
          have hF : Fr SLT I I33 := Fr.tr hF hT33 (by intro a j h; simp only [SL, SLT, Bool.or_eq_true, Bool.and_eq_true, beq_iff_eq, decide_eq_true_eq] at h ⊢; omega)
          have hs : I33 68 = σ := by rw [Fr.row hT33 (fun _ => rfl)]; exact hs
          have hth : I33 67 6 = thr (inB (nI jw) (nS σ) && inB (nI jv) (Yn σ)) := (hT33 67 6 rfl).trans hth
          refine lv_if_ne (tgt := 46) hx hb (dg D_X12_possibleGangs (i := 23) rfl) (by decide) (fun c36 => ?_) (fun c36 => ?_)
          · refine n_iconst (a := 0) hx hb (dg D_X12_possibleGangs (i := 28) rfl) rfl ?_
            refine lv_ior hx hb (dg D_X12_possibleGangs (i := 29) rfl) ?_
            refine lv_istore_n (lv' := [(3, .int ((orT (setF (fun g => decide (rfs σ jv jw g = 0))) g) ||| (nI 0))), (0, .ref (bs + 67)), (1, .int (nI jv)), (2, .int (nI jw)), (4, .int (nI g))]) hx hb (dg D_X12_possibleGangs (i := 30) rfl) rfl hl (by decide) rfl (fun ls hl => ?_)
            refine lv_iinc (v := nI (g + 1)) (lv' := [(4, .int (nI (g + 1))), (3, .int ((orT (setF (fun g => decide (rfs σ jv jw g = 0))) g) ||| (nI 0))), (0, .ref (bs + 67)), (1, .int (nI jv)), (2, .int (nI jw))]) hx hb (dg D_X12_possibleGangs (i := 31) rfl) hl (k := 4) rfl (nI_add _ _) (by decide) rfl (fun ls hl => ?_)
            refine lv_goto (tgt := 16) hx hb (dg D_X12_possibleGangs (i := 32) rfl) (by decide) ?_
            exact ih16 (by omega) I33 _ _ _ _ _ (by show _ = _ ||| setF (fun g => decide (rfs σ jv jw g = 0)) g; first | rw [setF_t (decide_eq_true c36)] | rw [setF_f (decide_eq_false c36)]) (congrArg nI (by omega)) hF hs hth hW hS (lv_sub hl [2, 3, 4, 1, 0] rfl)
          · refine n_iconst (a := 1) hx hb (dg D_X12_possibleGangs (i := 24) rfl) rfl ?_
            refine lv_iload hx hb (dg D_X12_possibleGangs (i := 25) rfl) (lv_at hl 4 rfl) ?_
            refine lv_ishl hx hb (dg D_X12_possibleGangs (i := 26) rfl) ?_
            refine lv_goto (tgt := 47) hx hb (dg D_X12_possibleGangs (i := 27) rfl) (by decide) ?_
            refine lv_ior hx hb (dg D_X12_possibleGangs (i := 29) rfl) ?_
            refine lv_istore_n (lv' := [(3, .int ((orT (setF (fun g => decide (rfs σ jv jw g = 0))) g) ||| ((nI 1) <<< ((nI g) &&& 31)))), (0, .ref (bs + 67)), (1, .int (nI jv)), (2, .int (nI jw)), (4, .int (nI g))]) hx hb (dg D_X12_possibleGangs (i := 30) rfl) rfl hl (by decide) rfl (fun ls hl => ?_)
            refine lv_iinc (v := nI (g + 1)) (lv' := [(4, .int (nI (g + 1))), (3, .int ((orT (setF (fun g => decide (rfs σ jv jw g = 0))) g) ||| ((nI 1) <<< ((nI g) &&& 31)))), (0, .ref (bs + 67)), (1, .int (nI jv)), (2, .int (nI jw))]) hx hb (dg D_X12_possibleGangs (i := 31) rfl) hl (k := 4) rfl (nI_add _ _) (by decide) rfl (fun ls hl => ?_)
            refine lv_goto (tgt := 16) hx hb (dg D_X12_possibleGangs (i := 32) rfl) (by decide) ?_
            exact ih16 (by omega) I33 _ _ _ _ _ (by show _ = _ ||| setF (fun g => decide (rfs σ jv jw g = 0)) g; first | rw [setF_t (decide_eq_true c36)] | rw [setF_f (decide_eq_false c36)]) (congrArg nI (by omega)) hF hs hth hW hS (lv_sub hl [2, 3, 4, 1, 0] rfl))
    exact loop16 0 (Nat.zero_le _) I3 _ _ _ _ _ (rfl) (congrArg nI (by omega)) hF hs hth hW hS (lv_sub hl [2, 3, 4, 1, 0] rfl)
  · refine n_iconst (a := 0) hx hb (dg D_X12_possibleGangs (i := 5) rfl) rfl ?_
    exact fin (dg D_X12_possibleGangs (i := 6) rfl) hW hS ⟨fun z => absurd z (by rw [c6]; decide), hF, hth, rfl, rfl⟩

set_option maxHeartbeats 4000000 in
set_option maxRecDepth 100000 in
theorem c_X12_firstPossible {l : Launch} {G : va_G} {bs : Nat} {cy : Nat → ClassId} {I : CI} {L : CL} {R : CR} (σ : Row) (v : Int32) (hs : I 68 = σ) (hi : Inv σ) : MTi l G bs cy MX12_firstPossible 7 [.ref (bs + 67), .int v] I L R (fun r I1 L1 R1 => ((inB v (nS σ)) = true → r = fpos σ (tN v)) ∧ Fr SLT I I1 ∧ I1 67 6 = thr (inB v (nS σ)) ∧ L = L1 ∧ R = R1) := by
  refine MTi.of (own := RX12) pn_RX12 rfl (Nat.le_of_ble_eq_true rfl) ?_
  intro p e s m args below meth c Qf X hW hS fin ls hl
  have hx := X.1
  have hb := X.2.1
  have hR : RmOK (rmL 7 0 0) 7 := ⟨rfl, rfl⟩
  have hcs : 0 ≤ (rmL 7 0 0).cells ∧ 0 ≤ (rmL 7 0 0).slots := ⟨Nat.zero_le _, Nat.zero_le _⟩
  have hl : lv_has ls 4 [(0, .ref (bs + 67)), (1, .int v)] := hl
  have hF : Fr SLT I I := Fr.rf
  obtain ⟨hY, hY1, hY12, hLn, hL4, hSn, hS12, hGn, hG5⟩ := id hi
  refine lv_aload_n hx hb (dg D_X12_firstPossible (i := 0) rfl) rfl (lv_at hl 0 rfl) ?_
  refine lv_aload_n hx hb (dg D_X12_firstPossible (i := 1) rfl) rfl (lv_at hl 0 rfl) ?_
  refine lv_iload_n hx hb (dg D_X12_firstPossible (i := 2) rfl) rfl (lv_at hl 1 rfl) ?_
  refine callVi X hW hS hR (c_X12_isSpan (I := I) σ v (by first | assumption | omega | decide | exact hP.1) (by first | assumption | omega | decide | exact hP.1)) (by decide) UVX12_isSpan LK_X12_88 rfl (by decide) rfl rfl rfl (Nat.le_of_ble_eq_true rfl) hl hcs (dg D_X12_firstPossible (i := 3) rfl) (fun r3 I3 L1 R1 H locs hq hW hS => ?_)
  obtain ⟨rfl, rfl, rfl, rfl⟩ := hq
  refine callVi X hW hS hR (c_X12_good (I := I) (inB v (nS σ))) (by decide) UVX12_good LK_X12_95 rfl (by decide) rfl rfl rfl (Nat.le_of_ble_eq_true rfl) hl hcs (dg D_X12_firstPossible (i := 4) rfl) (fun r6 I6 L1 R1 H locs hq hW hS => ?_)
  obtain ⟨rfl, hT6, hp6_0, rfl, rfl⟩ := hq
  have hF : Fr SLT I I6 := Fr.tr hF hT6 (by intro a j h; simp only [ST, SLT, Bool.or_eq_true, Bool.and_eq_true, beq_iff_eq, decide_eq_true_eq] at h ⊢; omega)
  have hs : I6 68 = σ := by rw [Fr.row hT6 (fun _ => rfl)]; exact hs
  have hth : I6 67 6 = thr (inB v (nS σ)) := hp6_0
  refine z_if_ne (tgt := 14) hx hb (dg D_X12_firstPossible (i := 5) rfl) (by decide) (fun c9 => ?_) (fun c9 => ?_)
  · obtain ⟨jv, hjv, rfl⟩ := inB_of c9 (by omega)
    refine n_iconst (a := 0) hx hb (dg D_X12_firstPossible (i := 8) rfl) rfl ?_
    refine lv_istore_n (lv' := [(2, .int (nI 0)), (0, .ref (bs + 67)), (1, .int (nI jv))]) hx hb (dg D_X12_firstPossible (i := 9) rfl) rfl hl (by decide) rfl (fun ls hl => ?_)
    have loop16 := up_ind (P := fun y => ∀ (K16 : CI) (H : Heap) (locs : List Loc) (ls : Array Slot) (v2 : Int32), v2 = nI y → (Fr SLT I K16) → (K16 68 = σ) → (K16 67 6 = thr (inB (nI jv) (nS σ))) → (∀ z, z < y → ∀ g, g < nG σ → rfs σ z jv g ≠ 0) → Wd G bs cy K16 L R H → va_S (Aq bs) s.heap H locs → lv_has ls 4 [(0, .ref (bs + 67)), (1, .int (nI jv)), (2, .int v2)] → W p l e (rmL 7 0 0) s m args below meth c H locs 0 0 Qf (F0 m 16 ls [])) (Yn σ) (fun y hx16 ih16 => by
        intro K16 H locs ls v2 q2 hF hs hth hn hW hS hl
        subst q2
        refine lv_iload_n hx hb (dg D_X12_firstPossible (i := 10) rfl) rfl (lv_at hl 2 rfl) ?_
        refine lv_aload_n hx hb (dg D_X12_firstPossible (i := 11) rfl) rfl (lv_at hl 0 rfl) ?_
        refine r_getc (t := 68) X hW FI_X12_7 rfl (by decide) rfl (dg D_X12_firstPossible (i := 12) rfl) ?_
        refine n_iconst (a := 0) hx hb (dg D_X12_firstPossible (i := 13) rfl) rfl ?_
        refine r_ald (j := 0) (v := nI (Yn σ)) X hW rfl (by decide) rfl (by omega) (by decide) ((congrFun hs _).trans hY) (dg D_X12_firstPossible (i := 14) rfl) ?_
        refine n_icmp_ge (tgt := 67) hx hb (by omega) (by omega) (dg D_X12_firstPossible (i := 15) rfl) (by decide) (fun c23 => ?_) (fun c23 => ?_)
        · refine r_ldc X CK_X12_28 (dg D_X12_firstPossible (i := 40) rfl) ?_
          exact fin (dg D_X12_firstPossible (i := 41) rfl) hW hS ⟨fun _ => by rw [tN_nI (show jv < 2 ^ 31 by omega)]; exact (fpos_none (fun z hz g hg => hn z (by omega) g hg)).symm, hF, hth, rfl, rfl⟩
        · refine n_iconst (a := 0) hx hb (dg D_X12_firstPossible (i := 16) rfl) rfl ?_
          refine lv_istore_n (lv' := [(3, .int (nI 0)), (0, .ref (bs + 67)), (1, .int (nI jv)), (2, .int (nI y))]) hx hb (dg D_X12_firstPossible (i := 17) rfl) rfl hl (by decide) rfl (fun ls hl => ?_)
          have loop28 := up_ind (P := fun k => ∀ (K28 : CI) (H : Heap) (locs : List Loc) (ls : Array Slot) (v3 : Int32), v3 = nI k → (Fr SLT I K28) → (K28 68 = σ) → (K28 67 6 = thr (inB (nI jv) (nS σ))) → (∀ g, g < k → rfs σ y jv g ≠ 0) → Wd G bs cy K28 L R H → va_S (Aq bs) s.heap H locs → lv_has ls 4 [(0, .ref (bs + 67)), (1, .int (nI jv)), (2, .int (nI y)), (3, .int v3)] → W p l e (rmL 7 0 0) s m args below meth c H locs 0 0 Qf (F0 m 28 ls [])) (nG σ) (fun k hx28 ih28 => by
              intro K28 H locs ls v3 q3 hF hs hth hm hW hS hl
              subst q3
              refine lv_iload_n hx hb (dg D_X12_firstPossible (i := 18) rfl) rfl (lv_at hl 3 rfl) ?_
              refine lv_aload_n hx hb (dg D_X12_firstPossible (i := 19) rfl) rfl (lv_at hl 0 rfl) ?_
              refine r_getc (t := 68) X hW FI_X12_7 rfl (by decide) rfl (dg D_X12_firstPossible (i := 20) rfl) ?_
              refine n_iconst (a := 5) hx hb (dg D_X12_firstPossible (i := 21) rfl) rfl ?_
              refine r_ald (j := 5) (v := nI (nG σ)) X hW rfl (by decide) rfl (by omega) (by decide) ((congrFun hs _).trans hGn) (dg D_X12_firstPossible (i := 22) rfl) ?_
              refine n_icmp_ge (tgt := 61) hx hb (by omega) (by omega) (dg D_X12_firstPossible (i := 23) rfl) (by decide) (fun c35 => ?_) (fun c35 => ?_)
              · refine lv_iinc (v := nI (y + 1)) (lv' := [(2, .int (nI (y + 1))), (0, .ref (bs + 67)), (1, .int (nI jv)), (3, .int (nI k))]) hx hb (dg D_X12_firstPossible (i := 38) rfl) hl (k := 2) rfl (nI_add _ _) (by decide) rfl (fun ls hl => ?_)
                refine lv_goto (tgt := 16) hx hb (dg D_X12_firstPossible (i := 39) rfl) (by decide) ?_
                exact ih16 (by omega) K28 _ _ _ _ (congrArg nI (by omega)) hF hs hth (fun z hz g hg => by rcases Nat.lt_succ_iff_lt_or_eq.mp hz with q | q; exact hn z q g hg; rw [q]; exact hm g (by omega)) hW hS (lv_sub hl [1, 2, 0] rfl)
              · refine lv_aload_n hx hb (dg D_X12_firstPossible (i := 24) rfl) rfl (lv_at hl 0 rfl) ?_
                refine lv_iload_n hx hb (dg D_X12_firstPossible (i := 25) rfl) rfl (lv_at hl 2 rfl) ?_
                refine lv_iload_n hx hb (dg D_X12_firstPossible (i := 26) rfl) rfl (lv_at hl 1 rfl) ?_
                refine lv_iload_n hx hb (dg D_X12_firstPossible (i := 27) rfl) rfl (lv_at hl 3 rfl) ?_
                refine callVi X hW hS hR (c_X12_refusalOf (I := K28) σ y jv k (by first | assumption | omega | decide | exact hP.1) (by first | assumption | omega | decide | exact hP.1) (by first | assumption | omega | decide | exact hP.1) (by first | assumption | omega | decide | exact hP.1) (by first | assumption | omega | decide | exact hP.1)) (by decide) UVX12_refusalOf LK_X12_327 rfl (by decide) rfl rfl rfl (Nat.le_of_ble_eq_true rfl) hl hcs (dg D_X12_firstPossible (i := 28) rfl) (fun r42 I42 L1 R1 H locs hq hW hS => ?_)
                obtain ⟨rfl, hT42, rfl, rfl⟩ := hq
                have hF : Fr SLT I I42 := Fr.tr hF hT42 (by intro a j h; simp only [SL, SLT, Bool.or_eq_true, Bool.and_eq_true, beq_iff_eq, decide_eq_true_eq] at h ⊢; omega)
                have hs : I42 68 = σ := by rw [Fr.row hT42 (fun _ => rfl)]; exact hs
                have hth : I42 67 6 = thr (inB (nI jv) (nS σ)) := (hT42 67 6 rfl).trans hth
                refine lv_if_ne (tgt := 55) hx hb (dg D_X12_firstPossible (i := 29) rfl) (by decide) (fun c45 => ?_) (fun c45 => ?_)
                · refine lv_iinc (v := nI (k + 1)) (lv' := [(3, .int (nI (k + 1))), (0, .ref (bs + 67)), (1, .int (nI jv)), (2, .int (nI y))]) hx hb (dg D_X12_firstPossible (i := 36) rfl) hl (k := 3) rfl (nI_add _ _) (by decide) rfl (fun ls hl => ?_)
                  refine lv_goto (tgt := 28) hx hb (dg D_X12_firstPossible (i := 37) rfl) (by decide) ?_
                  exact ih28 (by omega) I42 _ _ _ _ (congrArg nI (by omega)) hF hs hth (fun z hz => by rcases Nat.lt_succ_iff_lt_or_eq.mp hz with q | q; exact hm z q; rw [q]; exact c45) hW hS (lv_sub hl [1, 2, 3, 0] rfl)
                · refine lv_bipush (v := nI 10) hx hb (dg D_X12_firstPossible (i := 30) rfl) (by decide) ?_
                  refine lv_iload_n hx hb (dg D_X12_firstPossible (i := 31) rfl) rfl (lv_at hl 2 rfl) ?_
                  refine n_imul hx hb (dg D_X12_firstPossible (i := 32) rfl) ?_
                  refine lv_iload_n hx hb (dg D_X12_firstPossible (i := 33) rfl) rfl (lv_at hl 3 rfl) ?_
                  refine n_iadd hx hb (dg D_X12_firstPossible (i := 34) rfl) ?_
                  exact fin (dg D_X12_firstPossible (i := 35) rfl) hW hS ⟨fun _ => by rw [tN_nI (show jv < 2 ^ 31 by omega)]; exact (fpos_hit (by omega) (by omega) c45 hn hm).symm, hF, hth, rfl, rfl⟩)
          exact loop28 0 (Nat.zero_le _) K16 _ _ _ _ (congrArg nI (by omega)) hF hs hth (fun z hz => absurd hz (Nat.not_lt_zero z)) hW hS (lv_sub hl [1, 2, 3, 0] rfl))
    exact loop16 0 (Nat.zero_le _) I6 _ _ _ _ (congrArg nI (by omega)) hF hs hth (fun z hz => absurd hz (Nat.not_lt_zero z)) hW hS (lv_sub hl [1, 2, 0] rfl)
  · refine n_iconst (a := 0) hx hb (dg D_X12_firstPossible (i := 6) rfl) rfl ?_
    exact fin (dg D_X12_firstPossible (i := 7) rfl) hW hS ⟨fun z => absurd z (by rw [c9]; decide), hF, hth, rfl, rfl⟩

set_option maxHeartbeats 4000000 in
set_option maxRecDepth 100000 in
theorem c_X12_shutYears {l : Launch} {G : va_G} {bs : Nat} {cy : Nat → ClassId} {I : CI} {L : CL} {R : CR} (σ : Row) (v : Int32) (hs : I 68 = σ) (hi : Inv σ) : MTi l G bs cy MX12_shutYears 3 [.ref (bs + 67), .int v] I L R (fun r I1 L1 R1 => ((inB v (nLn σ)) = true → r = orT (shy σ (tN v)) (Yn σ)) ∧ Fr SLT I I1 ∧ I1 67 6 = thr (inB v (nLn σ)) ∧ L = L1 ∧ R = R1) := by
  refine MTi.of (own := RX12) pn_RX12 rfl (Nat.le_of_ble_eq_true rfl) ?_
  intro p e s m args below meth c Qf X hW hS fin ls hl
  have hx := X.1
  have hb := X.2.1
  have hR : RmOK (rmL 3 0 0) 3 := ⟨rfl, rfl⟩
  have hcs : 0 ≤ (rmL 3 0 0).cells ∧ 0 ≤ (rmL 3 0 0).slots := ⟨Nat.zero_le _, Nat.zero_le _⟩
  have hl : lv_has ls 4 [(0, .ref (bs + 67)), (1, .int v)] := hl
  have hF : Fr SLT I I := Fr.rf
  obtain ⟨hY, hY1, hY12, hLn, hL4, hSn, hS12, hGn, hG5⟩ := id hi
  refine lv_aload_n hx hb (dg D_X12_shutYears (i := 0) rfl) rfl (lv_at hl 0 rfl) ?_
  refine lv_aload_n hx hb (dg D_X12_shutYears (i := 1) rfl) rfl (lv_at hl 0 rfl) ?_
  refine lv_iload_n hx hb (dg D_X12_shutYears (i := 2) rfl) rfl (lv_at hl 1 rfl) ?_
  refine callVi X hW hS hR (c_X12_isLane (I := I) σ v (by first | assumption | omega | decide | exact hP.1) (by first | assumption | omega | decide | exact hP.1)) (by decide) UVX12_isLane LK_X12_306 rfl (by decide) rfl rfl rfl (Nat.le_of_ble_eq_true rfl) hl hcs (dg D_X12_shutYears (i := 3) rfl) (fun r3 I3 L1 R1 H locs hq hW hS => ?_)
  obtain ⟨rfl, rfl, rfl, rfl⟩ := hq
  refine callVi X hW hS hR (c_X12_good (I := I) (inB v (nLn σ))) (by decide) UVX12_good LK_X12_95 rfl (by decide) rfl rfl rfl (Nat.le_of_ble_eq_true rfl) hl hcs (dg D_X12_shutYears (i := 4) rfl) (fun r6 I6 L1 R1 H locs hq hW hS => ?_)
  obtain ⟨rfl, hT6, hp6_0, rfl, rfl⟩ := hq
  have hF : Fr SLT I I6 := Fr.tr hF hT6 (by intro a j h; simp only [ST, SLT, Bool.or_eq_true, Bool.and_eq_true, beq_iff_eq, decide_eq_true_eq] at h ⊢; omega)
  have hs : I6 68 = σ := by rw [Fr.row hT6 (fun _ => rfl)]; exact hs
  have hth : I6 67 6 = thr (inB v (nLn σ)) := hp6_0
  refine z_if_ne (tgt := 14) hx hb (dg D_X12_shutYears (i := 5) rfl) (by decide) (fun c9 => ?_) (fun c9 => ?_)
  · obtain ⟨jv, hjv, rfl⟩ := inB_of c9 (by omega)
    refine n_iconst (a := 0) hx hb (dg D_X12_shutYears (i := 8) rfl) rfl ?_
    refine lv_istore_n (lv' := [(2, .int (nI 0)), (0, .ref (bs + 67)), (1, .int (nI jv))]) hx hb (dg D_X12_shutYears (i := 9) rfl) rfl hl (by decide) rfl (fun ls hl => ?_)
    refine n_iconst (a := 0) hx hb (dg D_X12_shutYears (i := 10) rfl) rfl ?_
    refine lv_istore_n (lv' := [(3, .int (nI 0)), (2, .int (nI 0)), (0, .ref (bs + 67)), (1, .int (nI jv))]) hx hb (dg D_X12_shutYears (i := 11) rfl) rfl hl (by decide) rfl (fun ls hl => ?_)
    have loop18 := up_ind (P := fun y => ∀ (K18 : CI) (H : Heap) (locs : List Loc) (ls : Array Slot) (v2 : Int32) (v3 : Int32), v2 = orT (shy σ jv) y → v3 = nI y → (Fr SLT I K18) → (K18 68 = σ) → (K18 67 6 = thr (inB (nI jv) (nLn σ))) → Wd G bs cy K18 L R H → va_S (Aq bs) s.heap H locs → lv_has ls 4 [(0, .ref (bs + 67)), (1, .int (nI jv)), (2, .int v2), (3, .int v3)] → W p l e (rmL 3 0 0) s m args below meth c H locs 0 0 Qf (F0 m 18 ls [])) (Yn σ) (fun y hx18 ih18 => by
        intro K18 H locs ls v2 v3 q2 q3 hF hs hth hW hS hl
        subst q2
        subst q3
        refine lv_iload_n hx hb (dg D_X12_shutYears (i := 12) rfl) rfl (lv_at hl 3 rfl) ?_
        refine lv_aload_n hx hb (dg D_X12_shutYears (i := 13) rfl) rfl (lv_at hl 0 rfl) ?_
        refine r_getc (t := 68) X hW FI_X12_7 rfl (by decide) rfl (dg D_X12_shutYears (i := 14) rfl) ?_
        refine n_iconst (a := 0) hx hb (dg D_X12_shutYears (i := 15) rfl) rfl ?_
        refine r_ald (j := 0) (v := nI (Yn σ)) X hW rfl (by decide) rfl (by omega) (by decide) ((congrFun hs _).trans hY) (dg D_X12_shutYears (i := 16) rfl) ?_
        refine n_icmp_ge (tgt := 48) hx hb (by omega) (by omega) (dg D_X12_shutYears (i := 17) rfl) (by decide) (fun c25 => ?_) (fun c25 => ?_)
        · refine lv_iload_n hx hb (dg D_X12_shutYears (i := 32) rfl) rfl (lv_at hl 2 rfl) ?_
          exact fin (dg D_X12_shutYears (i := 33) rfl) hW hS ⟨fun _ => by rw [tN_nI (show jv < 2 ^ 31 by omega), show y = Yn σ by omega], hF, hth, rfl, rfl⟩
        · refine lv_iload_n hx hb (dg D_X12_shutYears (i := 18) rfl) rfl (lv_at hl 2 rfl) ?_
          refine lv_aload_n hx hb (dg D_X12_shutYears (i := 19) rfl) rfl (lv_at hl 0 rfl) ?_
          refine lv_iload_n hx hb (dg D_X12_shutYears (i := 20) rfl) rfl (lv_at hl 3 rfl) ?_
          refine callVi X hW hS hR (c_X12_shutIn (I := K18) σ y (by first | assumption | omega | decide | exact hP.1) (by first | assumption | omega | decide | exact hP.1) (by first | assumption | omega | decide | exact hP.1)) (by decide) UVX12_shutIn LK_X12_297 rfl (by decide) rfl rfl rfl (Nat.le_of_ble_eq_true rfl) hl hcs (dg D_X12_shutYears (i := 21) rfl) (fun r31 I31 L1 R1 H locs hq hW hS => ?_)
          obtain ⟨rfl, rfl, rfl, rfl⟩ := hq
          refine lv_iload_n hx hb (dg D_X12_shutYears (i := 22) rfl) rfl (lv_at hl 1 rfl) ?_
          refine lv_ishr hx hb (dg D_X12_shutYears (i := 23) rfl) ?_
          refine n_iconst (a := 1) hx hb (dg D_X12_shutYears (i := 24) rfl) rfl ?_
          refine lv_iand hx hb (dg D_X12_shutYears (i := 25) rfl) ?_
          refine lv_iload_n hx hb (dg D_X12_shutYears (i := 26) rfl) rfl (lv_at hl 3 rfl) ?_
          refine lv_ishl hx hb (dg D_X12_shutYears (i := 27) rfl) ?_
          refine lv_ior hx hb (dg D_X12_shutYears (i := 28) rfl) ?_
          refine lv_istore_n (lv' := [(2, .int ((orT (shy σ jv) y) ||| ((((shu σ y) >>> ((nI jv) &&& 31)) &&& (nI 1)) <<< ((nI y) &&& 31)))), (0, .ref (bs + 67)), (1, .int (nI jv)), (3, .int (nI y))]) hx hb (dg D_X12_shutYears (i := 29) rfl) rfl hl (by decide) rfl (fun ls hl => ?_)
          refine lv_iinc (v := nI (y + 1)) (lv' := [(3, .int (nI (y + 1))), (2, .int ((orT (shy σ jv) y) ||| ((((shu σ y) >>> ((nI jv) &&& 31)) &&& (nI 1)) <<< ((nI y) &&& 31)))), (0, .ref (bs + 67)), (1, .int (nI jv))]) hx hb (dg D_X12_shutYears (i := 30) rfl) hl (k := 3) rfl (nI_add _ _) (by decide) rfl (fun ls hl => ?_)
          refine lv_goto (tgt := 18) hx hb (dg D_X12_shutYears (i := 31) rfl) (by decide) ?_
          exact ih18 (by omega) K18 _ _ _ _ _ (rfl) (congrArg nI (by omega)) hF hs hth hW hS (lv_sub hl [2, 3, 1, 0] rfl))
    exact loop18 0 (Nat.zero_le _) I6 _ _ _ _ _ (rfl) (congrArg nI (by omega)) hF hs hth hW hS (lv_sub hl [2, 3, 1, 0] rfl)
  · refine n_iconst (a := 0) hx hb (dg D_X12_shutYears (i := 6) rfl) rfl ?_
    exact fin (dg D_X12_shutYears (i := 7) rfl) hW hS ⟨fun z => absurd z (by rw [c9]; decide), hF, hth, rfl, rfl⟩

set_option maxHeartbeats 4000000 in
set_option maxRecDepth 100000 in
theorem c_X12_bestPainting {l : Launch} {G : va_G} {bs : Nat} {cy : Nat → ClassId} {I : CI} {L : CL} {R : CR} (σ : Row) (v : Int32) (hs : I 68 = σ) (hi : Inv σ) : MTi l G bs cy MX12_bestPainting 7 [.ref (bs + 67), .int v] I L R (fun r I1 L1 R1 => ((inB v (nS σ)) = true → r = (bsY σ (tN v) (Yn σ)).1) ∧ Fr SQ I I1 ∧ I1 67 6 = thr (inB v (nS σ)) ∧ I1 68 = σ ∧ L = L1 ∧ R = R1) := by
  refine MTi.of (own := RX12) pn_RX12 rfl (Nat.le_of_ble_eq_true rfl) ?_
  intro p e s m args below meth c Qf X hW hS fin ls hl
  have hx := X.1
  have hb := X.2.1
  have hR : RmOK (rmL 7 0 0) 7 := ⟨rfl, rfl⟩
  have hcs : 0 ≤ (rmL 7 0 0).cells ∧ 0 ≤ (rmL 7 0 0).slots := ⟨Nat.zero_le _, Nat.zero_le _⟩
  have hl : lv_has ls 7 [(0, .ref (bs + 67)), (1, .int v)] := hl
  have hF : Fr SQ I I := Fr.rf
  obtain ⟨hY, hY1, hY12, hLn, hL4, hSn, hS12, hGn, hG5⟩ := id hi
  refine lv_aload_n hx hb (dg D_X12_bestPainting (i := 0) rfl) rfl (lv_at hl 0 rfl) ?_
  refine lv_aload_n hx hb (dg D_X12_bestPainting (i := 1) rfl) rfl (lv_at hl 0 rfl) ?_
  refine lv_iload_n hx hb (dg D_X12_bestPainting (i := 2) rfl) rfl (lv_at hl 1 rfl) ?_
  refine callVi X hW hS hR (c_X12_isSpan (I := I) σ v (by first | assumption | omega | decide | exact hP.1) (by first | assumption | omega | decide | exact hP.1)) (by decide) UVX12_isSpan LK_X12_88 rfl (by decide) rfl rfl rfl (Nat.le_of_ble_eq_true rfl) hl hcs (dg D_X12_bestPainting (i := 3) rfl) (fun r3 I3 L1 R1 H locs hq hW hS => ?_)
  obtain ⟨rfl, rfl, rfl, rfl⟩ := hq
  refine callVi X hW hS hR (c_X12_good (I := I) (inB v (nS σ))) (by decide) UVX12_good LK_X12_95 rfl (by decide) rfl rfl rfl (Nat.le_of_ble_eq_true rfl) hl hcs (dg D_X12_bestPainting (i := 4) rfl) (fun r6 I6 L1 R1 H locs hq hW hS => ?_)
  obtain ⟨rfl, hT6, hp6_0, rfl, rfl⟩ := hq
  have hF : Fr SQ I I6 := Fr.tr hF hT6 (by intro a j h; simp only [ST, SQ, Bool.or_eq_true, Bool.and_eq_true, beq_iff_eq, decide_eq_true_eq] at h ⊢; omega)
  have hs : I6 68 = σ := by rw [Fr.row hT6 (fun _ => rfl)]; exact hs
  have hth : I6 67 6 = thr (inB v (nS σ)) := hp6_0
  refine z_if_ne (tgt := 14) hx hb (dg D_X12_bestPainting (i := 5) rfl) (by decide) (fun c9 => ?_) (fun c9 => ?_)
  · obtain ⟨jv, hjv, rfl⟩ := inB_of c9 (by omega)
    refine r_ldc X CK_X12_28 (dg D_X12_bestPainting (i := 8) rfl) ?_
    refine lv_istore_n (lv' := [(2, .int ((-1000004))), (0, .ref (bs + 67)), (1, .int (nI jv))]) hx hb (dg D_X12_bestPainting (i := 9) rfl) rfl hl (by decide) rfl (fun ls hl => ?_)
    refine n_iconst (a := 0) hx hb (dg D_X12_bestPainting (i := 10) rfl) rfl ?_
    refine lv_istore_n (lv' := [(3, .int (nI 0)), (2, .int ((-1000004))), (0, .ref (bs + 67)), (1, .int (nI jv))]) hx hb (dg D_X12_bestPainting (i := 11) rfl) rfl hl (by decide) rfl (fun ls hl => ?_)
    refine n_iconst (a := 0) hx hb (dg D_X12_bestPainting (i := 12) rfl) rfl ?_
    refine lv_istore (lv' := [(4, .int (nI 0)), (3, .int (nI 0)), (2, .int ((-1000004))), (0, .ref (bs + 67)), (1, .int (nI jv))]) hx hb (dg D_X12_bestPainting (i := 13) rfl) hl (by decide) rfl (fun ls hl => ?_)
    have loop22 := up_ind (P := fun y => ∀ (K22 : CI) (H : Heap) (locs : List Loc) (ls : Array Slot) (v2 : Int32) (v3 : Int32) (v4 : Int32), v2 = (bsY σ jv y).1 → v3 = (bsY σ jv y).2 → v4 = nI y → (Fr SQ I K22) → (K22 68 = σ) → (K22 67 6 = thr (inB (nI jv) (nS σ))) → Wd G bs cy K22 L R H → va_S (Aq bs) s.heap H locs → lv_has ls 7 [(0, .ref (bs + 67)), (1, .int (nI jv)), (2, .int v2), (3, .int v3), (4, .int v4)] → W p l e (rmL 7 0 0) s m args below meth c H locs 0 0 Qf (F0 m 22 ls [])) (Yn σ) (fun y hx22 ih22 => by
        intro K22 H locs ls v2 v3 v4 q2 q3 q4 hF hs hth hW hS hl
        subst q2
        subst q3
        subst q4
        refine lv_iload hx hb (dg D_X12_bestPainting (i := 14) rfl) (lv_at hl 4 rfl) ?_
        refine lv_aload_n hx hb (dg D_X12_bestPainting (i := 15) rfl) rfl (lv_at hl 0 rfl) ?_
        refine r_getc (t := 68) X hW FI_X12_7 rfl (by decide) rfl (dg D_X12_bestPainting (i := 16) rfl) ?_
        refine n_iconst (a := 0) hx hb (dg D_X12_bestPainting (i := 17) rfl) rfl ?_
        refine r_ald (j := 0) (v := nI (Yn σ)) X hW rfl (by decide) rfl (by omega) (by decide) ((congrFun hs _).trans hY) (dg D_X12_bestPainting (i := 18) rfl) ?_
        refine n_icmp_ge (tgt := 121) hx hb (by omega) (by omega) (dg D_X12_bestPainting (i := 19) rfl) (by decide) (fun c30 => ?_) (fun c30 => ?_)
        · refine lv_iload_n hx hb (dg D_X12_bestPainting (i := 66) rfl) rfl (lv_at hl 2 rfl) ?_
          exact fin (dg D_X12_bestPainting (i := 67) rfl) hW hS ⟨fun _ => by rw [tN_nI (show jv < 2 ^ 31 by omega), show y = Yn σ by omega], hF, hth, hs, rfl, rfl⟩
        · refine n_iconst (a := 0) hx hb (dg D_X12_bestPainting (i := 20) rfl) rfl ?_
          refine lv_istore (lv' := [(5, .int (nI 0)), (0, .ref (bs + 67)), (1, .int (nI jv)), (2, .int ((bsY σ jv y).1)), (3, .int ((bsY σ jv y).2)), (4, .int (nI y))]) hx hb (dg D_X12_bestPainting (i := 21) rfl) hl (by decide) rfl (fun ls hl => ?_)
          have loop36 := up_ind (P := fun g => ∀ (K36 : CI) (H : Heap) (locs : List Loc) (ls : Array Slot) (v2 : Int32) (v3 : Int32) (v5 : Int32), v2 = (bsG σ jv y (bsY σ jv y) g).1 → v3 = (bsG σ jv y (bsY σ jv y) g).2 → v5 = nI g → (Fr SQ I K36) → (K36 68 = σ) → (K36 67 6 = thr (inB (nI jv) (nS σ))) → Wd G bs cy K36 L R H → va_S (Aq bs) s.heap H locs → lv_has ls 7 [(0, .ref (bs + 67)), (1, .int (nI jv)), (2, .int v2), (3, .int v3), (4, .int (nI y)), (5, .int v5)] → W p l e (rmL 7 0 0) s m args below meth c H locs 0 0 Qf (F0 m 36 ls [])) (nG σ) (fun g hx36 ih36 => by
              intro K36 H locs ls v2 v3 v5 q2 q3 q5 hF hs hth hW hS hl
              subst q2
              subst q3
              subst q5
              refine lv_iload hx hb (dg D_X12_bestPainting (i := 22) rfl) (lv_at hl 5 rfl) ?_
              refine lv_aload_n hx hb (dg D_X12_bestPainting (i := 23) rfl) rfl (lv_at hl 0 rfl) ?_
              refine r_getc (t := 68) X hW FI_X12_7 rfl (by decide) rfl (dg D_X12_bestPainting (i := 24) rfl) ?_
              refine n_iconst (a := 5) hx hb (dg D_X12_bestPainting (i := 25) rfl) rfl ?_
              refine r_ald (j := 5) (v := nI (nG σ)) X hW rfl (by decide) rfl (by omega) (by decide) ((congrFun hs _).trans hGn) (dg D_X12_bestPainting (i := 26) rfl) ?_
              refine n_icmp_ge (tgt := 115) hx hb (by omega) (by omega) (dg D_X12_bestPainting (i := 27) rfl) (by decide) (fun c44 => ?_) (fun c44 => ?_)
              · refine lv_iinc (v := nI (y + 1)) (lv' := [(4, .int (nI (y + 1))), (0, .ref (bs + 67)), (1, .int (nI jv)), (2, .int ((bsG σ jv y (bsY σ jv y) g).1)), (3, .int ((bsG σ jv y (bsY σ jv y) g).2)), (5, .int (nI g))]) hx hb (dg D_X12_bestPainting (i := 64) rfl) hl (k := 4) rfl (nI_add _ _) (by decide) rfl (fun ls hl => ?_)
                refine lv_goto (tgt := 22) hx hb (dg D_X12_bestPainting (i := 65) rfl) (by decide) ?_
                exact ih22 (by omega) K36 _ _ _ _ _ _ (by rw [show g = nG σ by omega]; rfl) (by rw [show g = nG σ by omega]; rfl) (congrArg nI (by omega)) hF hs hth hW hS (lv_sub hl [1, 2, 3, 4, 0] rfl)
              · refine lv_aload_n hx hb (dg D_X12_bestPainting (i := 28) rfl) rfl (lv_at hl 0 rfl) ?_
                refine lv_iload hx hb (dg D_X12_bestPainting (i := 29) rfl) (lv_at hl 4 rfl) ?_
                refine lv_iload_n hx hb (dg D_X12_bestPainting (i := 30) rfl) rfl (lv_at hl 1 rfl) ?_
                refine lv_iload hx hb (dg D_X12_bestPainting (i := 31) rfl) (lv_at hl 5 rfl) ?_
                refine callVi X hW hS hR (c_X12_refusalOf (I := K36) σ y jv g (by first | assumption | omega | decide | exact hP.1) (by first | assumption | omega | decide | exact hP.1) (by first | assumption | omega | decide | exact hP.1) (by first | assumption | omega | decide | exact hP.1) (by first | assumption | omega | decide | exact hP.1)) (by decide) UVX12_refusalOf LK_X12_327 rfl (by decide) rfl rfl rfl (Nat.le_of_ble_eq_true rfl) hl hcs (dg D_X12_bestPainting (i := 32) rfl) (fun r53 I53 L1 R1 H locs hq hW hS => ?_)
                obtain ⟨rfl, hT53, rfl, rfl⟩ := hq
                have hF : Fr SQ I I53 := Fr.tr hF hT53 (by intro a j h; simp only [SL, SQ, Bool.or_eq_true, Bool.and_eq_true, beq_iff_eq, decide_eq_true_eq] at h ⊢; omega)
                have hs : I53 68 = σ := by rw [Fr.row hT53 (fun _ => rfl)]; exact hs
                have hth : I53 67 6 = thr (inB (nI jv) (nS σ)) := (hT53 67 6 rfl).trans hth
                refine lv_if_eq (tgt := 62) hx hb (dg D_X12_bestPainting (i := 33) rfl) (by decide) (fun c56 => ?_) (fun c56 => ?_)
                · refine lv_aload_n hx hb (dg D_X12_bestPainting (i := 35) rfl) rfl (lv_at hl 0 rfl) ?_
                  refine lv_iload_n hx hb (dg D_X12_bestPainting (i := 36) rfl) rfl (lv_at hl 1 rfl) ?_
                  refine lv_iload hx hb (dg D_X12_bestPainting (i := 37) rfl) (lv_at hl 4 rfl) ?_
                  refine lv_iload hx hb (dg D_X12_bestPainting (i := 38) rfl) (lv_at hl 5 rfl) ?_
                  refine callVv X hW hS hR (c_X12_setPainter (I := I53) jv y (nI g) (by first | assumption | omega | decide | exact hP.1) (by first | assumption | omega | decide | exact hP.1)) (by decide) UVX12_setPainter LK_X12_331 rfl (by decide) rfl rfl rfl (Nat.le_of_ble_eq_true rfl) hl hcs (dg D_X12_bestPainting (i := 39) rfl) (fun I68 L1 R1 H locs hq hW hS => ?_)
                  obtain ⟨hT68, hp68_0, rfl, rfl⟩ := hq
                  have hF : Fr SQ I I68 := Fr.tr hF hT68 (by intro a j h; simp only [SP, SQ, Bool.or_eq_true, Bool.and_eq_true, beq_iff_eq, decide_eq_true_eq] at h ⊢; omega)
                  have hs : I68 68 = setP σ jv y (nI g) := by rw [hp68_0, hs]; rfl
                  have hth : I68 67 6 = thr (inB (nI jv) (nS σ)) := (hT68 67 6 rfl).trans hth
                  refine lv_aload_n hx hb (dg D_X12_bestPainting (i := 40) rfl) rfl (lv_at hl 0 rfl) ?_
                  refine callVi X hW hS hR (c_X12_countPast (I := I68) (setP σ jv y (nI g)) (by first | assumption | omega | decide | exact hP.1) (Inv_setP hi)) (by decide) UVX12_countPast LK_X12_255 rfl (by decide) rfl rfl rfl (Nat.le_of_ble_eq_true rfl) hl hcs (dg D_X12_bestPainting (i := 41) rfl) (fun r72 I72 L1 R1 H locs hq hW hS => ?_)
                  obtain ⟨rfl, hT72, rfl, rfl⟩ := hq
                  have hF : Fr SQ I I72 := Fr.tr hF hT72 (by intro a j h; simp only [SL, SQ, Bool.or_eq_true, Bool.and_eq_true, beq_iff_eq, decide_eq_true_eq] at h ⊢; omega)
                  have hs : I72 68 = setP σ jv y (nI g) := by rw [Fr.row hT72 (fun _ => rfl)]; exact hs
                  have hth : I72 67 6 = thr (inB (nI jv) (nS σ)) := (hT72 67 6 rfl).trans hth
                  refine lv_istore (lv' := [(6, .int (cntP (setP σ jv y (nI g)))), (0, .ref (bs + 67)), (1, .int (nI jv)), (2, .int ((bsG σ jv y (bsY σ jv y) g).1)), (3, .int ((bsG σ jv y (bsY σ jv y) g).2)), (4, .int (nI y)), (5, .int (nI g))]) hx hb (dg D_X12_bestPainting (i := 42) rfl) hl (by decide) rfl (fun ls hl => ?_)
                  refine lv_aload_n hx hb (dg D_X12_bestPainting (i := 43) rfl) rfl (lv_at hl 1 rfl) ?_
                  refine lv_iload_n hx hb (dg D_X12_bestPainting (i := 44) rfl) rfl (lv_at hl 2 rfl) ?_
                  refine lv_iload hx hb (dg D_X12_bestPainting (i := 45) rfl) (lv_at hl 5 rfl) ?_
                  refine lv_iconst (v := -1) hx hb (dg D_X12_bestPainting (i := 46) rfl) (by decide) ?_
                  refine callVv X hW hS hR (c_X12_setPainter (I := I72) jv y ((-1)) (by first | assumption | omega | decide | exact hP.1) (by first | assumption | omega | decide | exact hP.1)) (by decide) UVX12_setPainter LK_X12_331 rfl (by decide) rfl rfl rfl (Nat.le_of_ble_eq_true rfl) hl hcs (dg D_X12_bestPainting (i := 47) rfl) (fun I82 L1 R1 H locs hq hW hS => ?_)
                  obtain ⟨hT82, hp82_0, rfl, rfl⟩ := hq
                  have hF : Fr SQ I I82 := Fr.tr hF hT82 (by intro a j h; simp only [SP, SQ, Bool.or_eq_true, Bool.and_eq_true, beq_iff_eq, decide_eq_true_eq] at h ⊢; omega)
                  have hs : I82 68 = σ := by rw [hp82_0, hs]; exact setP_back (rfs_pn c56).symm
                  have hth : I82 67 6 = thr (inB (nI jv) (nS σ)) := (hT82 67 6 rfl).trans hth
                  refine lv_iload_n hx hb (dg D_X12_bestPainting (i := 48) rfl) rfl (lv_at hl 3 rfl) ?_
                  refine r_ldc X CK_X12_28 (dg D_X12_bestPainting (i := 49) rfl) ?_
                  refine lv_icmp_eq (tgt := 97) hx hb (dg D_X12_bestPainting (i := 50) rfl) (by decide) (fun c88 => ?_) (fun c88 => ?_)
                  · refine lv_bipush (v := nI 10) hx hb (dg D_X12_bestPainting (i := 54) rfl) (by decide) ?_
                    refine lv_iload hx hb (dg D_X12_bestPainting (i := 55) rfl) (lv_at hl 5 rfl) ?_
                    refine n_imul hx hb (dg D_X12_bestPainting (i := 56) rfl) ?_
                    refine lv_iload hx hb (dg D_X12_bestPainting (i := 57) rfl) (lv_at hl 6 rfl) ?_
                    refine n_iadd hx hb (dg D_X12_bestPainting (i := 58) rfl) ?_
                    refine lv_istore_n (lv' := [(2, .int (nI ((10 * y) + g))), (6, .int (cntP (setP σ jv y (nI g)))), (0, .ref (bs + 67)), (1, .int (nI jv)), (3, .int ((bsG σ jv y (bsY σ jv y) g).2)), (4, .int (nI y)), (5, .int (nI g))]) hx hb (dg D_X12_bestPainting (i := 59) rfl) rfl hl (by decide) rfl (fun ls hl => ?_)
                    refine lv_iload hx hb (dg D_X12_bestPainting (i := 60) rfl) (lv_at hl 1 rfl) ?_
                    refine lv_istore_n (lv' := [(3, .int (cntP (setP σ jv y (nI g)))), (2, .int (nI ((10 * y) + g))), (6, .int (cntP (setP σ jv y (nI g)))), (0, .ref (bs + 67)), (1, .int (nI jv)), (4, .int (nI y)), (5, .int (nI g))]) hx hb (dg D_X12_bestPainting (i := 61) rfl) rfl hl (by decide) rfl (fun ls hl => ?_)
                    refine lv_iinc (v := nI (g + 1)) (lv' := [(5, .int (nI (g + 1))), (3, .int (cntP (setP σ jv y (nI g)))), (2, .int (nI ((10 * y) + g))), (6, .int (cntP (setP σ jv y (nI g)))), (0, .ref (bs + 67)), (1, .int (nI jv)), (4, .int (nI y))]) hx hb (dg D_X12_bestPainting (i := 62) rfl) hl (k := 6) rfl (nI_add _ _) (by decide) rfl (fun ls hl => ?_)
                    refine lv_goto (tgt := 36) hx hb (dg D_X12_bestPainting (i := 63) rfl) (by decide) ?_
                    exact ih36 (by omega) I82 _ _ _ _ _ _ (by show _ = (bsS σ jv y g (bsG σ jv y (bsY σ jv y) g)).1; unfold bsS; first | rw [if_pos c56] | rw [if_neg (fun z => z c56), if_pos (Or.inl c88)] | rw [if_neg (fun z => z c56), if_pos (Or.inr (Int32.not_le.mp c94))] | rw [if_neg (fun z => z c56), if_neg (orN c88 (Int32.not_lt.mpr c94))]) (by show _ = (bsS σ jv y g (bsG σ jv y (bsY σ jv y) g)).2; unfold bsS; first | rw [if_pos c56] | rw [if_neg (fun z => z c56), if_pos (Or.inl c88)] | rw [if_neg (fun z => z c56), if_pos (Or.inr (Int32.not_le.mp c94))] | rw [if_neg (fun z => z c56), if_neg (orN c88 (Int32.not_lt.mpr c94))]) (congrArg nI (by omega)) hF hs hth hW hS (lv_sub hl [4, 5, 2, 1, 6, 0] rfl)
                  · refine lv_iload hx hb (dg D_X12_bestPainting (i := 51) rfl) (lv_at hl 0 rfl) ?_
                    refine lv_iload_n hx hb (dg D_X12_bestPainting (i := 52) rfl) rfl (lv_at hl 4 rfl) ?_
                    refine lv_icmp_ge (tgt := 109) hx hb (dg D_X12_bestPainting (i := 53) rfl) (by decide) (fun c94 => ?_) (fun c94 => ?_)
                    · refine lv_iinc (v := nI (g + 1)) (lv' := [(5, .int (nI (g + 1))), (6, .int (cntP (setP σ jv y (nI g)))), (0, .ref (bs + 67)), (1, .int (nI jv)), (2, .int ((bsG σ jv y (bsY σ jv y) g).1)), (3, .int ((bsG σ jv y (bsY σ jv y) g).2)), (4, .int (nI y))]) hx hb (dg D_X12_bestPainting (i := 62) rfl) hl (k := 6) rfl (nI_add _ _) (by decide) rfl (fun ls hl => ?_)
                      refine lv_goto (tgt := 36) hx hb (dg D_X12_bestPainting (i := 63) rfl) (by decide) ?_
                      exact ih36 (by omega) I82 _ _ _ _ _ _ (by show _ = (bsS σ jv y g (bsG σ jv y (bsY σ jv y) g)).1; unfold bsS; first | rw [if_pos c56] | rw [if_neg (fun z => z c56), if_pos (Or.inl c88)] | rw [if_neg (fun z => z c56), if_pos (Or.inr (Int32.not_le.mp c94))] | rw [if_neg (fun z => z c56), if_neg (orN c88 (Int32.not_lt.mpr c94))]) (by show _ = (bsS σ jv y g (bsG σ jv y (bsY σ jv y) g)).2; unfold bsS; first | rw [if_pos c56] | rw [if_neg (fun z => z c56), if_pos (Or.inl c88)] | rw [if_neg (fun z => z c56), if_pos (Or.inr (Int32.not_le.mp c94))] | rw [if_neg (fun z => z c56), if_neg (orN c88 (Int32.not_lt.mpr c94))]) (congrArg nI (by omega)) hF hs hth hW hS (lv_sub hl [2, 3, 4, 5, 6, 0] rfl)
                    · refine lv_bipush (v := nI 10) hx hb (dg D_X12_bestPainting (i := 54) rfl) (by decide) ?_
                      refine lv_iload hx hb (dg D_X12_bestPainting (i := 55) rfl) (lv_at hl 5 rfl) ?_
                      refine n_imul hx hb (dg D_X12_bestPainting (i := 56) rfl) ?_
                      refine lv_iload hx hb (dg D_X12_bestPainting (i := 57) rfl) (lv_at hl 6 rfl) ?_
                      refine n_iadd hx hb (dg D_X12_bestPainting (i := 58) rfl) ?_
                      refine lv_istore_n (lv' := [(2, .int (nI ((10 * y) + g))), (6, .int (cntP (setP σ jv y (nI g)))), (0, .ref (bs + 67)), (1, .int (nI jv)), (3, .int ((bsG σ jv y (bsY σ jv y) g).2)), (4, .int (nI y)), (5, .int (nI g))]) hx hb (dg D_X12_bestPainting (i := 59) rfl) rfl hl (by decide) rfl (fun ls hl => ?_)
                      refine lv_iload hx hb (dg D_X12_bestPainting (i := 60) rfl) (lv_at hl 1 rfl) ?_
                      refine lv_istore_n (lv' := [(3, .int (cntP (setP σ jv y (nI g)))), (2, .int (nI ((10 * y) + g))), (6, .int (cntP (setP σ jv y (nI g)))), (0, .ref (bs + 67)), (1, .int (nI jv)), (4, .int (nI y)), (5, .int (nI g))]) hx hb (dg D_X12_bestPainting (i := 61) rfl) rfl hl (by decide) rfl (fun ls hl => ?_)
                      refine lv_iinc (v := nI (g + 1)) (lv' := [(5, .int (nI (g + 1))), (3, .int (cntP (setP σ jv y (nI g)))), (2, .int (nI ((10 * y) + g))), (6, .int (cntP (setP σ jv y (nI g)))), (0, .ref (bs + 67)), (1, .int (nI jv)), (4, .int (nI y))]) hx hb (dg D_X12_bestPainting (i := 62) rfl) hl (k := 6) rfl (nI_add _ _) (by decide) rfl (fun ls hl => ?_)
                      refine lv_goto (tgt := 36) hx hb (dg D_X12_bestPainting (i := 63) rfl) (by decide) ?_
                      exact ih36 (by omega) I82 _ _ _ _ _ _ (by show _ = (bsS σ jv y g (bsG σ jv y (bsY σ jv y) g)).1; unfold bsS; first | rw [if_pos c56] | rw [if_neg (fun z => z c56), if_pos (Or.inl c88)] | rw [if_neg (fun z => z c56), if_pos (Or.inr (Int32.not_le.mp c94))] | rw [if_neg (fun z => z c56), if_neg (orN c88 (Int32.not_lt.mpr c94))]) (by show _ = (bsS σ jv y g (bsG σ jv y (bsY σ jv y) g)).2; unfold bsS; first | rw [if_pos c56] | rw [if_neg (fun z => z c56), if_pos (Or.inl c88)] | rw [if_neg (fun z => z c56), if_pos (Or.inr (Int32.not_le.mp c94))] | rw [if_neg (fun z => z c56), if_neg (orN c88 (Int32.not_lt.mpr c94))]) (congrArg nI (by omega)) hF hs hth hW hS (lv_sub hl [4, 5, 2, 1, 6, 0] rfl)
                · refine lv_goto (tgt := 109) hx hb (dg D_X12_bestPainting (i := 34) rfl) (by decide) ?_
                  refine lv_iinc (v := nI (g + 1)) (lv' := [(5, .int (nI (g + 1))), (0, .ref (bs + 67)), (1, .int (nI jv)), (2, .int ((bsG σ jv y (bsY σ jv y) g).1)), (3, .int ((bsG σ jv y (bsY σ jv y) g).2)), (4, .int (nI y))]) hx hb (dg D_X12_bestPainting (i := 62) rfl) hl (k := 5) rfl (nI_add _ _) (by decide) rfl (fun ls hl => ?_)
                  refine lv_goto (tgt := 36) hx hb (dg D_X12_bestPainting (i := 63) rfl) (by decide) ?_
                  exact ih36 (by omega) I53 _ _ _ _ _ _ (by show _ = (bsS σ jv y g (bsG σ jv y (bsY σ jv y) g)).1; unfold bsS; first | rw [if_pos c56] | rw [if_neg (fun z => z c56), if_pos (Or.inl c88)] | rw [if_neg (fun z => z c56), if_pos (Or.inr (Int32.not_le.mp c94))] | rw [if_neg (fun z => z c56), if_neg (orN c88 (Int32.not_lt.mpr c94))]) (by show _ = (bsS σ jv y g (bsG σ jv y (bsY σ jv y) g)).2; unfold bsS; first | rw [if_pos c56] | rw [if_neg (fun z => z c56), if_pos (Or.inl c88)] | rw [if_neg (fun z => z c56), if_pos (Or.inr (Int32.not_le.mp c94))] | rw [if_neg (fun z => z c56), if_neg (orN c88 (Int32.not_lt.mpr c94))]) (congrArg nI (by omega)) hF hs hth hW hS (lv_sub hl [1, 2, 3, 4, 5, 0] rfl))
          exact loop36 0 (Nat.zero_le _) K22 _ _ _ _ _ _ (rfl) (rfl) (congrArg nI (by omega)) hF hs hth hW hS (lv_sub hl [1, 2, 3, 4, 5, 0] rfl))
    exact loop22 0 (Nat.zero_le _) I6 _ _ _ _ _ _ (rfl) (rfl) (congrArg nI (by omega)) hF hs hth hW hS (lv_sub hl [3, 4, 2, 1, 0] rfl)
  · refine n_iconst (a := 0) hx hb (dg D_X12_bestPainting (i := 6) rfl) rfl ?_
    exact fin (dg D_X12_bestPainting (i := 7) rfl) hW hS ⟨fun z => absurd z (by rw [c9]; decide), hF, hth, hs, rfl, rfl⟩

set_option maxHeartbeats 4000000 in
set_option maxRecDepth 100000 in
theorem c_X12_needlessPaintings {l : Launch} {G : va_G} {bs : Nat} {cy : Nat → ClassId} {I : CI} {L : CL} {R : CR} (σ : Row) (v : Int32) (hs : I 68 = σ) (hi : Inv σ) : MTi l G bs cy MX12_needlessPaintings 6 [.ref (bs + 67), .int v] I L R (fun r I1 L1 R1 => ((inB v (Yn σ)) = true → r = orT (setF (ndl σ (tN v))) (nS σ)) ∧ Fr SQ I I1 ∧ I1 67 6 = thr (inB v (Yn σ)) ∧ I1 68 = σ ∧ L = L1 ∧ R = R1) := by
  refine MTi.of (own := RX12) pn_RX12 rfl (Nat.le_of_ble_eq_true rfl) ?_
  intro p e s m args below meth c Qf X hW hS fin ls hl
  have hx := X.1
  have hb := X.2.1
  have hR : RmOK (rmL 6 0 0) 6 := ⟨rfl, rfl⟩
  have hcs : 0 ≤ (rmL 6 0 0).cells ∧ 0 ≤ (rmL 6 0 0).slots := ⟨Nat.zero_le _, Nat.zero_le _⟩
  have hl : lv_has ls 6 [(0, .ref (bs + 67)), (1, .int v)] := hl
  have hF : Fr SQ I I := Fr.rf
  obtain ⟨hY, hY1, hY12, hLn, hL4, hSn, hS12, hGn, hG5⟩ := id hi
  refine lv_aload_n hx hb (dg D_X12_needlessPaintings (i := 0) rfl) rfl (lv_at hl 0 rfl) ?_
  refine lv_aload_n hx hb (dg D_X12_needlessPaintings (i := 1) rfl) rfl (lv_at hl 0 rfl) ?_
  refine lv_iload_n hx hb (dg D_X12_needlessPaintings (i := 2) rfl) rfl (lv_at hl 1 rfl) ?_
  refine callVi X hW hS hR (c_X12_isYear (I := I) σ v (by first | assumption | omega | decide | exact hP.1) (by first | assumption | omega | decide | exact hP.1)) (by decide) UVX12_isYear LK_X12_92 rfl (by decide) rfl rfl rfl (Nat.le_of_ble_eq_true rfl) hl hcs (dg D_X12_needlessPaintings (i := 3) rfl) (fun r3 I3 L1 R1 H locs hq hW hS => ?_)
  obtain ⟨rfl, rfl, rfl, rfl⟩ := hq
  refine callVi X hW hS hR (c_X12_good (I := I) (inB v (Yn σ))) (by decide) UVX12_good LK_X12_95 rfl (by decide) rfl rfl rfl (Nat.le_of_ble_eq_true rfl) hl hcs (dg D_X12_needlessPaintings (i := 4) rfl) (fun r6 I6 L1 R1 H locs hq hW hS => ?_)
  obtain ⟨rfl, hT6, hp6_0, rfl, rfl⟩ := hq
  have hF : Fr SQ I I6 := Fr.tr hF hT6 (by intro a j h; simp only [ST, SQ, Bool.or_eq_true, Bool.and_eq_true, beq_iff_eq, decide_eq_true_eq] at h ⊢; omega)
  have hs : I6 68 = σ := by rw [Fr.row hT6 (fun _ => rfl)]; exact hs
  have hth : I6 67 6 = thr (inB v (Yn σ)) := hp6_0
  refine z_if_ne (tgt := 14) hx hb (dg D_X12_needlessPaintings (i := 5) rfl) (by decide) (fun c9 => ?_) (fun c9 => ?_)
  · obtain ⟨jv, hjv, rfl⟩ := inB_of c9 (by omega)
    refine lv_aload_n hx hb (dg D_X12_needlessPaintings (i := 8) rfl) rfl (lv_at hl 0 rfl) ?_
    refine callVi X hW hS hR (c_X12_countPast (I := I6) σ (by first | assumption | omega | decide | exact hP.1) (by first | assumption | omega | decide | exact hP.1)) (by decide) UVX12_countPast LK_X12_255 rfl (by decide) rfl rfl rfl (Nat.le_of_ble_eq_true rfl) hl hcs (dg D_X12_needlessPaintings (i := 9) rfl) (fun r15 I15 L1 R1 H locs hq hW hS => ?_)
    obtain ⟨rfl, hT15, rfl, rfl⟩ := hq
    have hF : Fr SQ I I15 := Fr.tr hF hT15 (by intro a j h; simp only [SL, SQ, Bool.or_eq_true, Bool.and_eq_true, beq_iff_eq, decide_eq_true_eq] at h ⊢; omega)
    have hs : I15 68 = σ := by rw [Fr.row hT15 (fun _ => rfl)]; exact hs
    have hth : I15 67 6 = thr (inB (nI jv) (Yn σ)) := (hT15 67 6 rfl).trans hth
    refine lv_istore_n (lv' := [(2, .int (cntP σ)), (0, .ref (bs + 67)), (1, .int (nI jv))]) hx hb (dg D_X12_needlessPaintings (i := 10) rfl) rfl hl (by decide) rfl (fun ls hl => ?_)
    refine n_iconst (a := 0) hx hb (dg D_X12_needlessPaintings (i := 11) rfl) rfl ?_
    refine lv_istore_n (lv' := [(3, .int (nI 0)), (2, .int (cntP σ)), (0, .ref (bs + 67)), (1, .int (nI jv))]) hx hb (dg D_X12_needlessPaintings (i := 12) rfl) rfl hl (by decide) rfl (fun ls hl => ?_)
    refine n_iconst (a := 0) hx hb (dg D_X12_needlessPaintings (i := 13) rfl) rfl ?_
    refine lv_istore (lv' := [(4, .int (nI 0)), (3, .int (nI 0)), (2, .int (cntP σ)), (0, .ref (bs + 67)), (1, .int (nI jv))]) hx hb (dg D_X12_needlessPaintings (i := 14) rfl) hl (by decide) rfl (fun ls hl => ?_)
    have loop24 := up_ind (P := fun x => ∀ (K24 : CI) (H : Heap) (locs : List Loc) (ls : Array Slot) (v3 : Int32) (v4 : Int32), v3 = orT (setF (ndl σ jv)) x → v4 = nI x → (Fr SQ I K24) → (K24 68 = σ) → (K24 67 6 = thr (inB (nI jv) (Yn σ))) → Wd G bs cy K24 L R H → va_S (Aq bs) s.heap H locs → lv_has ls 6 [(0, .ref (bs + 67)), (1, .int (nI jv)), (2, .int (cntP σ)), (3, .int v3), (4, .int v4)] → W p l e (rmL 6 0 0) s m args below meth c H locs 0 0 Qf (F0 m 24 ls [])) (nS σ) (fun x hx24 ih24 => by
        intro K24 H locs ls v3 v4 q3 q4 hF hs hth hW hS hl
        subst q3
        subst q4
        refine lv_iload hx hb (dg D_X12_needlessPaintings (i := 15) rfl) (lv_at hl 4 rfl) ?_
        refine lv_aload_n hx hb (dg D_X12_needlessPaintings (i := 16) rfl) rfl (lv_at hl 0 rfl) ?_
        refine r_getc (t := 68) X hW FI_X12_7 rfl (by decide) rfl (dg D_X12_needlessPaintings (i := 17) rfl) ?_
        refine n_iconst (a := 4) hx hb (dg D_X12_needlessPaintings (i := 18) rfl) rfl ?_
        refine r_ald (j := 4) (v := nI (nS σ)) X hW rfl (by decide) rfl (by omega) (by decide) ((congrFun hs _).trans hSn) (dg D_X12_needlessPaintings (i := 19) rfl) ?_
        refine n_icmp_ge (tgt := 95) hx hb (by omega) (by omega) (dg D_X12_needlessPaintings (i := 20) rfl) (by decide) (fun c32 => ?_) (fun c32 => ?_)
        · refine lv_iload_n hx hb (dg D_X12_needlessPaintings (i := 54) rfl) rfl (lv_at hl 3 rfl) ?_
          exact fin (dg D_X12_needlessPaintings (i := 55) rfl) hW hS ⟨fun _ => by rw [tN_nI (show jv < 2 ^ 31 by omega), show x = nS σ by omega], hF, hth, hs, rfl, rfl⟩
        · refine lv_aload_n hx hb (dg D_X12_needlessPaintings (i := 21) rfl) rfl (lv_at hl 0 rfl) ?_
          refine lv_iload hx hb (dg D_X12_needlessPaintings (i := 22) rfl) (lv_at hl 4 rfl) ?_
          refine lv_iload_n hx hb (dg D_X12_needlessPaintings (i := 23) rfl) rfl (lv_at hl 1 rfl) ?_
          refine callVi X hW hS hR (c_X12_painter (I := K24) σ x jv (by first | assumption | omega | decide | exact hP.1) (by first | assumption | omega | decide | exact hP.1) (by first | assumption | omega | decide | exact hP.1)) (by decide) UVX12_painter LK_X12_233 rfl (by decide) rfl rfl rfl (Nat.le_of_ble_eq_true rfl) hl hcs (dg D_X12_needlessPaintings (i := 24) rfl) (fun r39 I39 L1 R1 H locs hq hW hS => ?_)
          obtain ⟨rfl, rfl, rfl, rfl⟩ := hq
          refine lv_istore (lv' := [(5, .int (pnt σ x jv)), (0, .ref (bs + 67)), (1, .int (nI jv)), (2, .int (cntP σ)), (3, .int (orT (setF (ndl σ jv)) x)), (4, .int (nI x))]) hx hb (dg D_X12_needlessPaintings (i := 25) rfl) hl (by decide) rfl (fun ls hl => ?_)
          refine lv_iload hx hb (dg D_X12_needlessPaintings (i := 26) rfl) (lv_at hl 0 rfl) ?_
          refine lv_iconst (v := -1) hx hb (dg D_X12_needlessPaintings (i := 27) rfl) (by decide) ?_
          refine lv_icmp_ne (tgt := 53) hx hb (dg D_X12_needlessPaintings (i := 28) rfl) (by decide) (fun c47 => ?_) (fun c47 => ?_)
          · refine lv_aload_n hx hb (dg D_X12_needlessPaintings (i := 30) rfl) rfl (lv_at hl 1 rfl) ?_
            refine lv_iload hx hb (dg D_X12_needlessPaintings (i := 31) rfl) (lv_at hl 5 rfl) ?_
            refine lv_iload_n hx hb (dg D_X12_needlessPaintings (i := 32) rfl) rfl (lv_at hl 2 rfl) ?_
            refine lv_iconst (v := -1) hx hb (dg D_X12_needlessPaintings (i := 33) rfl) (by decide) ?_
            refine callVv X hW hS hR (c_X12_setPainter (I := K24) x jv ((-1)) (by first | assumption | omega | decide | exact hP.1) (by first | assumption | omega | decide | exact hP.1)) (by decide) UVX12_setPainter LK_X12_331 rfl (by decide) rfl rfl rfl (Nat.le_of_ble_eq_true rfl) hl hcs (dg D_X12_needlessPaintings (i := 34) rfl) (fun I58 L1 R1 H locs hq hW hS => ?_)
            obtain ⟨hT58, hp58_0, rfl, rfl⟩ := hq
            have hF : Fr SQ I I58 := Fr.tr hF hT58 (by intro a j h; simp only [SP, SQ, Bool.or_eq_true, Bool.and_eq_true, beq_iff_eq, decide_eq_true_eq] at h ⊢; omega)
            have hs : I58 68 = setP σ x jv (-1) := by rw [hp58_0, hs]; rfl
            have hth : I58 67 6 = thr (inB (nI jv) (Yn σ)) := (hT58 67 6 rfl).trans hth
            refine lv_iload_n hx hb (dg D_X12_needlessPaintings (i := 35) rfl) rfl (lv_at hl 4 rfl) ?_
            refine lv_aload_n hx hb (dg D_X12_needlessPaintings (i := 36) rfl) rfl (lv_at hl 1 rfl) ?_
            refine callVi X hW hS hR (c_X12_countPast (I := I58) (setP σ x jv (-1)) (by first | assumption | omega | decide | exact hP.1) (Inv_setP hi)) (by decide) UVX12_countPast LK_X12_255 rfl (by decide) rfl rfl rfl (Nat.le_of_ble_eq_true rfl) hl hcs (dg D_X12_needlessPaintings (i := 37) rfl) (fun r63 I63 L1 R1 H locs hq hW hS => ?_)
            obtain ⟨rfl, hT63, rfl, rfl⟩ := hq
            have hF : Fr SQ I I63 := Fr.tr hF hT63 (by intro a j h; simp only [SL, SQ, Bool.or_eq_true, Bool.and_eq_true, beq_iff_eq, decide_eq_true_eq] at h ⊢; omega)
            have hs : I63 68 = setP σ x jv (-1) := by rw [Fr.row hT63 (fun _ => rfl)]; exact hs
            have hth : I63 67 6 = thr (inB (nI jv) (Yn σ)) := (hT63 67 6 rfl).trans hth
            refine lv_iload_n hx hb (dg D_X12_needlessPaintings (i := 38) rfl) rfl (lv_at hl 3 rfl) ?_
            refine lv_icmp_gt (tgt := 77) hx hb (dg D_X12_needlessPaintings (i := 39) rfl) (by decide) (fun c67 => ?_) (fun c67 => ?_)
            · refine n_iconst (a := 0) hx hb (dg D_X12_needlessPaintings (i := 44) rfl) rfl ?_
              refine lv_ior hx hb (dg D_X12_needlessPaintings (i := 45) rfl) ?_
              refine lv_istore_n (lv' := [(3, .int ((orT (setF (ndl σ jv)) x) ||| (nI 0))), (5, .int (pnt σ x jv)), (0, .ref (bs + 67)), (1, .int (nI jv)), (2, .int (cntP σ)), (4, .int (nI x))]) hx hb (dg D_X12_needlessPaintings (i := 46) rfl) rfl hl (by decide) rfl (fun ls hl => ?_)
              refine lv_aload_n hx hb (dg D_X12_needlessPaintings (i := 47) rfl) rfl (lv_at hl 2 rfl) ?_
              refine lv_iload hx hb (dg D_X12_needlessPaintings (i := 48) rfl) (lv_at hl 5 rfl) ?_
              refine lv_iload_n hx hb (dg D_X12_needlessPaintings (i := 49) rfl) rfl (lv_at hl 3 rfl) ?_
              refine lv_iload hx hb (dg D_X12_needlessPaintings (i := 50) rfl) (lv_at hl 1 rfl) ?_
              refine callVv X hW hS hR (c_X12_setPainter (I := I63) x jv (pnt σ x jv) (by first | assumption | omega | decide | exact hP.1) (by first | assumption | omega | decide | exact hP.1)) (by decide) UVX12_setPainter LK_X12_331 rfl (by decide) rfl rfl rfl (Nat.le_of_ble_eq_true rfl) hl hcs (dg D_X12_needlessPaintings (i := 51) rfl) (fun I86 L1 R1 H locs hq hW hS => ?_)
              obtain ⟨hT86, hp86_0, rfl, rfl⟩ := hq
              have hF : Fr SQ I I86 := Fr.tr hF hT86 (by intro a j h; simp only [SP, SQ, Bool.or_eq_true, Bool.and_eq_true, beq_iff_eq, decide_eq_true_eq] at h ⊢; omega)
              have hs : I86 68 = σ := by rw [hp86_0, hs]; exact setP_back rfl
              have hth : I86 67 6 = thr (inB (nI jv) (Yn σ)) := (hT86 67 6 rfl).trans hth
              refine lv_iinc (v := nI (x + 1)) (lv' := [(4, .int (nI (x + 1))), (3, .int ((orT (setF (ndl σ jv)) x) ||| (nI 0))), (5, .int (pnt σ x jv)), (0, .ref (bs + 67)), (1, .int (nI jv)), (2, .int (cntP σ))]) hx hb (dg D_X12_needlessPaintings (i := 52) rfl) hl (k := 5) rfl (nI_add _ _) (by decide) rfl (fun ls hl => ?_)
              refine lv_goto (tgt := 24) hx hb (dg D_X12_needlessPaintings (i := 53) rfl) (by decide) ?_
              exact ih24 (by omega) I86 _ _ _ _ _ (by show _ = _ ||| setF (ndl σ jv) x; rw [setF_f (ndl_2 c67)]) (congrArg nI (by omega)) hF hs hth hW hS (lv_sub hl [3, 4, 5, 1, 0] rfl)
            · refine n_iconst (a := 1) hx hb (dg D_X12_needlessPaintings (i := 40) rfl) rfl ?_
              refine lv_iload hx hb (dg D_X12_needlessPaintings (i := 41) rfl) (lv_at hl 5 rfl) ?_
              refine lv_ishl hx hb (dg D_X12_needlessPaintings (i := 42) rfl) ?_
              refine lv_goto (tgt := 78) hx hb (dg D_X12_needlessPaintings (i := 43) rfl) (by decide) ?_
              refine lv_ior hx hb (dg D_X12_needlessPaintings (i := 45) rfl) ?_
              refine lv_istore_n (lv' := [(3, .int ((orT (setF (ndl σ jv)) x) ||| ((nI 1) <<< ((nI x) &&& 31)))), (5, .int (pnt σ x jv)), (0, .ref (bs + 67)), (1, .int (nI jv)), (2, .int (cntP σ)), (4, .int (nI x))]) hx hb (dg D_X12_needlessPaintings (i := 46) rfl) rfl hl (by decide) rfl (fun ls hl => ?_)
              refine lv_aload_n hx hb (dg D_X12_needlessPaintings (i := 47) rfl) rfl (lv_at hl 2 rfl) ?_
              refine lv_iload hx hb (dg D_X12_needlessPaintings (i := 48) rfl) (lv_at hl 5 rfl) ?_
              refine lv_iload_n hx hb (dg D_X12_needlessPaintings (i := 49) rfl) rfl (lv_at hl 3 rfl) ?_
              refine lv_iload hx hb (dg D_X12_needlessPaintings (i := 50) rfl) (lv_at hl 1 rfl) ?_
              refine callVv X hW hS hR (c_X12_setPainter (I := I63) x jv (pnt σ x jv) (by first | assumption | omega | decide | exact hP.1) (by first | assumption | omega | decide | exact hP.1)) (by decide) UVX12_setPainter LK_X12_331 rfl (by decide) rfl rfl rfl (Nat.le_of_ble_eq_true rfl) hl hcs (dg D_X12_needlessPaintings (i := 51) rfl) (fun I86 L1 R1 H locs hq hW hS => ?_)
              obtain ⟨hT86, hp86_0, rfl, rfl⟩ := hq
              have hF : Fr SQ I I86 := Fr.tr hF hT86 (by intro a j h; simp only [SP, SQ, Bool.or_eq_true, Bool.and_eq_true, beq_iff_eq, decide_eq_true_eq] at h ⊢; omega)
              have hs : I86 68 = σ := by rw [hp86_0, hs]; exact setP_back rfl
              have hth : I86 67 6 = thr (inB (nI jv) (Yn σ)) := (hT86 67 6 rfl).trans hth
              refine lv_iinc (v := nI (x + 1)) (lv' := [(4, .int (nI (x + 1))), (3, .int ((orT (setF (ndl σ jv)) x) ||| ((nI 1) <<< ((nI x) &&& 31)))), (5, .int (pnt σ x jv)), (0, .ref (bs + 67)), (1, .int (nI jv)), (2, .int (cntP σ))]) hx hb (dg D_X12_needlessPaintings (i := 52) rfl) hl (k := 5) rfl (nI_add _ _) (by decide) rfl (fun ls hl => ?_)
              refine lv_goto (tgt := 24) hx hb (dg D_X12_needlessPaintings (i := 53) rfl) (by decide) ?_
              exact ih24 (by omega) I86 _ _ _ _ _ (by show _ = _ ||| setF (ndl σ jv) x; rw [setF_t (ndl_3 c47 c67)]) (congrArg nI (by omega)) hF hs hth hW hS (lv_sub hl [3, 4, 5, 1, 0] rfl)
          · refine lv_goto (tgt := 89) hx hb (dg D_X12_needlessPaintings (i := 29) rfl) (by decide) ?_
            refine lv_iinc (v := nI (x + 1)) (lv' := [(4, .int (nI (x + 1))), (5, .int (pnt σ x jv)), (0, .ref (bs + 67)), (1, .int (nI jv)), (2, .int (cntP σ)), (3, .int (orT (setF (ndl σ jv)) x))]) hx hb (dg D_X12_needlessPaintings (i := 52) rfl) hl (k := 5) rfl (nI_add _ _) (by decide) rfl (fun ls hl => ?_)
            refine lv_goto (tgt := 24) hx hb (dg D_X12_needlessPaintings (i := 53) rfl) (by decide) ?_
            exact ih24 (by omega) K24 _ _ _ _ _ (by show _ = _ ||| setF (ndl σ jv) x; rw [setF_f (ndl_1 c47), or_n0]) (congrArg nI (by omega)) hF hs hth hW hS (lv_sub hl [2, 3, 4, 5, 0] rfl))
    exact loop24 0 (Nat.zero_le _) I15 _ _ _ _ _ (rfl) (congrArg nI (by omega)) hF hs hth hW hS (lv_sub hl [3, 4, 2, 1, 0] rfl)
  · refine n_iconst (a := 0) hx hb (dg D_X12_needlessPaintings (i := 6) rfl) rfl ?_
    exact fin (dg D_X12_needlessPaintings (i := 7) rfl) hW hS ⟨fun z => absurd z (by rw [c9]; decide), hF, hth, hs, rfl, rfl⟩

set_option maxHeartbeats 4000000 in
set_option maxRecDepth 100000 in
theorem c_X12_sufficientSpeed {l : Launch} {G : va_G} {bs : Nat} {cy : Nat → ClassId} {I : CI} {L : CL} {R : CR} (σ : Row) (v : Int32) (hs : I 68 = σ) (hi : Inv σ) : MTi l G bs cy MX12_sufficientSpeed 6 [.ref (bs + 67), .int v] I L R (fun r I1 L1 R1 => ((inB v (nG σ)) = true → r = fstI (spOK σ v) 51) ∧ Fr SLT I I1 ∧ I1 67 6 = thr (inB v (nG σ)) ∧ L = L1 ∧ R = R1) := by
  refine MTi.of (own := RX12) pn_RX12 rfl (Nat.le_of_ble_eq_true rfl) ?_
  intro p e s m args below meth c Qf X hW hS fin ls hl
  have hx := X.1
  have hb := X.2.1
  have hR : RmOK (rmL 6 0 0) 6 := ⟨rfl, rfl⟩
  have hcs : 0 ≤ (rmL 6 0 0).cells ∧ 0 ≤ (rmL 6 0 0).slots := ⟨Nat.zero_le _, Nat.zero_le _⟩
  have hl : lv_has ls 5 [(0, .ref (bs + 67)), (1, .int v)] := hl
  have hF : Fr SLT I I := Fr.rf
  obtain ⟨hY, hY1, hY12, hLn, hL4, hSn, hS12, hGn, hG5⟩ := id hi
  refine lv_aload_n hx hb (dg D_X12_sufficientSpeed (i := 0) rfl) rfl (lv_at hl 0 rfl) ?_
  refine lv_aload_n hx hb (dg D_X12_sufficientSpeed (i := 1) rfl) rfl (lv_at hl 0 rfl) ?_
  refine lv_iload_n hx hb (dg D_X12_sufficientSpeed (i := 2) rfl) rfl (lv_at hl 1 rfl) ?_
  refine callVi X hW hS hR (c_X12_isGang (I := I) σ v (by first | assumption | omega | decide | exact hP.1) (by first | assumption | omega | decide | exact hP.1)) (by decide) UVX12_isGang LK_X12_282 rfl (by decide) rfl rfl rfl (Nat.le_of_ble_eq_true rfl) hl hcs (dg D_X12_sufficientSpeed (i := 3) rfl) (fun r3 I3 L1 R1 H locs hq hW hS => ?_)
  obtain ⟨rfl, rfl, rfl, rfl⟩ := hq
  refine callVi X hW hS hR (c_X12_good (I := I) (inB v (nG σ))) (by decide) UVX12_good LK_X12_95 rfl (by decide) rfl rfl rfl (Nat.le_of_ble_eq_true rfl) hl hcs (dg D_X12_sufficientSpeed (i := 4) rfl) (fun r6 I6 L1 R1 H locs hq hW hS => ?_)
  obtain ⟨rfl, hT6, hp6_0, rfl, rfl⟩ := hq
  have hF : Fr SLT I I6 := Fr.tr hF hT6 (by intro a j h; simp only [ST, SLT, Bool.or_eq_true, Bool.and_eq_true, beq_iff_eq, decide_eq_true_eq] at h ⊢; omega)
  have hs : I6 68 = σ := by rw [Fr.row hT6 (fun _ => rfl)]; exact hs
  have hth : I6 67 6 = thr (inB v (nG σ)) := hp6_0
  refine z_if_ne (tgt := 14) hx hb (dg D_X12_sufficientSpeed (i := 5) rfl) (by decide) (fun c9 => ?_) (fun c9 => ?_)
  · obtain ⟨jv, hjv, rfl⟩ := inB_of c9 (by omega)
    refine n_iconst (a := 1) hx hb (dg D_X12_sufficientSpeed (i := 8) rfl) rfl ?_
    refine lv_istore_n (lv' := [(2, .int (nI 1)), (0, .ref (bs + 67)), (1, .int (nI jv))]) hx hb (dg D_X12_sufficientSpeed (i := 9) rfl) rfl hl (by decide) rfl (fun ls hl => ?_)
    have loop16 := up_ind (P := fun k => ∀ (K16 : CI) (H : Heap) (locs : List Loc) (ls : Array Slot) (v2 : Int32), v2 = nI k → (Fr SLT I K16) → (K16 68 = σ) → (K16 67 6 = thr (inB (nI jv) (nG σ))) → (1 ≤ k) → (∀ z, z < k → spOK σ (nI jv) z = false) → Wd G bs cy K16 L R H → va_S (Aq bs) s.heap H locs → lv_has ls 5 [(0, .ref (bs + 67)), (1, .int (nI jv)), (2, .int v2)] → W p l e (rmL 6 0 0) s m args below meth c H locs 0 0 Qf (F0 m 16 ls [])) 51 (fun k hx16 ih16 => by
        intro K16 H locs ls v2 q2 hF hs hth hk1 hn hW hS hl
        subst q2
        refine lv_iload_n hx hb (dg D_X12_sufficientSpeed (i := 10) rfl) rfl (lv_at hl 2 rfl) ?_
        refine lv_bipush (v := nI 50) hx hb (dg D_X12_sufficientSpeed (i := 11) rfl) (by decide) ?_
        refine n_icmp_gt (tgt := 88) hx hb (by omega) (by omega) (dg D_X12_sufficientSpeed (i := 12) rfl) (by decide) (fun c19 => ?_) (fun c19 => ?_)
        · refine r_ldc X CK_X12_28 (dg D_X12_sufficientSpeed (i := 50) rfl) ?_
          exact fin (dg D_X12_sufficientSpeed (i := 51) rfl) hW hS ⟨fun _ => (fstI_none (p := spOK σ (nI jv)) (n := 51) (fun z hz => hn z (by omega))).symm, hF, hth, rfl, rfl⟩
        · refine n_iconst (a := 1) hx hb (dg D_X12_sufficientSpeed (i := 13) rfl) rfl ?_
          refine lv_istore_n (lv' := [(3, .int (nI 1)), (0, .ref (bs + 67)), (1, .int (nI jv)), (2, .int (nI k))]) hx hb (dg D_X12_sufficientSpeed (i := 14) rfl) rfl hl (by decide) rfl (fun ls hl => ?_)
          refine n_iconst (a := 0) hx hb (dg D_X12_sufficientSpeed (i := 15) rfl) rfl ?_
          refine lv_istore (lv' := [(4, .int (nI 0)), (3, .int (nI 1)), (0, .ref (bs + 67)), (1, .int (nI jv)), (2, .int (nI k))]) hx hb (dg D_X12_sufficientSpeed (i := 16) rfl) hl (by decide) rfl (fun ls hl => ?_)
          have loop27 := up_ind (P := fun y => ∀ (K27 : CI) (H : Heap) (locs : List Loc) (ls : Array Slot) (v3 : Int32) (v4 : Int32), v3 = bI (allB (fun y => decide (lod σ (nI jv) y ≤ nI k * σ (80 + y))) y) → v4 = nI y → (Fr SLT I K27) → (K27 68 = σ) → (K27 67 6 = thr (inB (nI jv) (nG σ))) → Wd G bs cy K27 L R H → va_S (Aq bs) s.heap H locs → lv_has ls 5 [(0, .ref (bs + 67)), (1, .int (nI jv)), (2, .int (nI k)), (3, .int v3), (4, .int v4)] → W p l e (rmL 6 0 0) s m args below meth c H locs 0 0 Qf (F0 m 27 ls [])) (Yn σ) (fun y hx27 ih27 => by
              intro K27 H locs ls v3 v4 q3 q4 hF hs hth hW hS hl
              subst q3
              subst q4
              refine lv_iload hx hb (dg D_X12_sufficientSpeed (i := 17) rfl) (lv_at hl 4 rfl) ?_
              refine lv_aload_n hx hb (dg D_X12_sufficientSpeed (i := 18) rfl) rfl (lv_at hl 0 rfl) ?_
              refine r_getc (t := 68) X hW FI_X12_7 rfl (by decide) rfl (dg D_X12_sufficientSpeed (i := 19) rfl) ?_
              refine n_iconst (a := 0) hx hb (dg D_X12_sufficientSpeed (i := 20) rfl) rfl ?_
              refine r_ald (j := 0) (v := nI (Yn σ)) X hW rfl (by decide) rfl (by omega) (by decide) ((congrFun hs _).trans hY) (dg D_X12_sufficientSpeed (i := 21) rfl) ?_
              refine n_icmp_ge (tgt := 76) hx hb (by omega) (by omega) (dg D_X12_sufficientSpeed (i := 22) rfl) (by decide) (fun c35 => ?_) (fun c35 => ?_)
              · refine lv_iload_n hx hb (dg D_X12_sufficientSpeed (i := 44) rfl) rfl (lv_at hl 3 rfl) ?_
                refine z_if_eq (tgt := 82) hx hb (dg D_X12_sufficientSpeed (i := 45) rfl) (by decide) (fun c77 => ?_) (fun c77 => ?_)
                · refine lv_iinc (v := nI (k + 1)) (lv' := [(2, .int (nI (k + 1))), (0, .ref (bs + 67)), (1, .int (nI jv)), (3, .int (bI (allB (fun y => decide (lod σ (nI jv) y ≤ nI k * σ (80 + y))) y))), (4, .int (nI y))]) hx hb (dg D_X12_sufficientSpeed (i := 48) rfl) hl (k := 2) rfl (nI_add _ _) (by decide) rfl (fun ls hl => ?_)
                  refine lv_goto (tgt := 16) hx hb (dg D_X12_sufficientSpeed (i := 49) rfl) (by decide) ?_
                  exact ih16 (by omega) K27 _ _ _ _ (congrArg nI (by omega)) hF hs hth (by omega) (all_lt_succ hn (by unfold spOK; rw [← show y = Yn σ by omega, c77, Bool.and_false])) hW hS (lv_sub hl [1, 2, 0] rfl)
                · refine lv_iload_n hx hb (dg D_X12_sufficientSpeed (i := 46) rfl) rfl (lv_at hl 2 rfl) ?_
                  exact fin (dg D_X12_sufficientSpeed (i := 47) rfl) hW hS ⟨fun _ => (fstI_hit (p := spOK σ (nI jv)) (n := 51) (by omega) (by unfold spOK; rw [← show y = Yn σ by omega, c77, Bool.and_true]; exact decide_eq_true hk1) hn).symm, hF, hth, rfl, rfl⟩
              · refine lv_iload_n hx hb (dg D_X12_sufficientSpeed (i := 23) rfl) rfl (lv_at hl 3 rfl) ?_
                refine z_if_eq (tgt := 68) hx hb (dg D_X12_sufficientSpeed (i := 24) rfl) (by decide) (fun c39 => ?_) (fun c39 => ?_)
                · refine n_iconst (a := 0) hx hb (dg D_X12_sufficientSpeed (i := 40) rfl) rfl ?_
                  refine lv_istore_n (lv' := [(3, .int (nI 0)), (0, .ref (bs + 67)), (1, .int (nI jv)), (2, .int (nI k)), (4, .int (nI y))]) hx hb (dg D_X12_sufficientSpeed (i := 41) rfl) rfl hl (by decide) rfl (fun ls hl => ?_)
                  refine lv_iinc (v := nI (y + 1)) (lv' := [(4, .int (nI (y + 1))), (3, .int (nI 0)), (0, .ref (bs + 67)), (1, .int (nI jv)), (2, .int (nI k))]) hx hb (dg D_X12_sufficientSpeed (i := 42) rfl) hl (k := 4) rfl (nI_add _ _) (by decide) rfl (fun ls hl => ?_)
                  refine lv_goto (tgt := 27) hx hb (dg D_X12_sufficientSpeed (i := 43) rfl) (by decide) ?_
                  exact ih27 (by omega) K27 _ _ _ _ _ (bI_f (allB_1 c39)) (congrArg nI (by omega)) hF hs hth hW hS (lv_sub hl [2, 3, 4, 1, 0] rfl)
                · refine lv_aload_n hx hb (dg D_X12_sufficientSpeed (i := 25) rfl) rfl (lv_at hl 0 rfl) ?_
                  refine lv_iload_n hx hb (dg D_X12_sufficientSpeed (i := 26) rfl) rfl (lv_at hl 1 rfl) ?_
                  refine lv_iload hx hb (dg D_X12_sufficientSpeed (i := 27) rfl) (lv_at hl 4 rfl) ?_
                  refine callVi X hW hS hR (c_X12_loadIn (I := K27) σ (nI jv) y (by first | assumption | omega | decide | exact hP.1) (by first | assumption | omega | decide | exact hP.1) (by first | assumption | omega | decide | exact hP.1)) (by decide) UVX12_loadIn LK_X12_291 rfl (by decide) rfl rfl rfl (Nat.le_of_ble_eq_true rfl) hl hcs (dg D_X12_sufficientSpeed (i := 28) rfl) (fun r46 I46 L1 R1 H locs hq hW hS => ?_)
                  obtain ⟨rfl, hT46, rfl, rfl⟩ := hq
                  have hF : Fr SLT I I46 := Fr.tr hF hT46 (by intro a j h; simp only [SL, SLT, Bool.or_eq_true, Bool.and_eq_true, beq_iff_eq, decide_eq_true_eq] at h ⊢; omega)
                  have hs : I46 68 = σ := by rw [Fr.row hT46 (fun _ => rfl)]; exact hs
                  have hth : I46 67 6 = thr (inB (nI jv) (nG σ)) := (hT46 67 6 rfl).trans hth
                  refine lv_iload_n hx hb (dg D_X12_sufficientSpeed (i := 29) rfl) rfl (lv_at hl 2 rfl) ?_
                  refine lv_aload_n hx hb (dg D_X12_sufficientSpeed (i := 30) rfl) rfl (lv_at hl 0 rfl) ?_
                  refine r_getc (t := 68) X hW FI_X12_7 rfl (by decide) rfl (dg D_X12_sufficientSpeed (i := 31) rfl) ?_
                  refine lv_bipush (v := nI 80) hx hb (dg D_X12_sufficientSpeed (i := 32) rfl) (by decide) ?_
                  refine lv_iload hx hb (dg D_X12_sufficientSpeed (i := 33) rfl) (lv_at hl 4 rfl) ?_
                  refine n_iadd hx hb (dg D_X12_sufficientSpeed (i := 34) rfl) ?_
                  refine r_ald (j := 80 + y) (v := σ (80 + y)) X hW rfl (by decide) rfl (by omega) (by decide) (congrFun hs _) (dg D_X12_sufficientSpeed (i := 35) rfl) ?_
                  refine lv_imul hx hb (dg D_X12_sufficientSpeed (i := 36) rfl) ?_
                  refine lv_icmp_gt (tgt := 68) hx hb (dg D_X12_sufficientSpeed (i := 37) rfl) (by decide) (fun c61 => ?_) (fun c61 => ?_)
                  · refine n_iconst (a := 0) hx hb (dg D_X12_sufficientSpeed (i := 40) rfl) rfl ?_
                    refine lv_istore_n (lv' := [(3, .int (nI 0)), (0, .ref (bs + 67)), (1, .int (nI jv)), (2, .int (nI k)), (4, .int (nI y))]) hx hb (dg D_X12_sufficientSpeed (i := 41) rfl) rfl hl (by decide) rfl (fun ls hl => ?_)
                    refine lv_iinc (v := nI (y + 1)) (lv' := [(4, .int (nI (y + 1))), (3, .int (nI 0)), (0, .ref (bs + 67)), (1, .int (nI jv)), (2, .int (nI k))]) hx hb (dg D_X12_sufficientSpeed (i := 42) rfl) hl (k := 4) rfl (nI_add _ _) (by decide) rfl (fun ls hl => ?_)
                    refine lv_goto (tgt := 27) hx hb (dg D_X12_sufficientSpeed (i := 43) rfl) (by decide) ?_
                    exact ih27 (by omega) I46 _ _ _ _ _ (bI_f (allB_2 (decide_eq_false (Int32.not_le.mpr c61)))) (congrArg nI (by omega)) hF hs hth hW hS (lv_sub hl [2, 3, 4, 1, 0] rfl)
                  · refine n_iconst (a := 1) hx hb (dg D_X12_sufficientSpeed (i := 38) rfl) rfl ?_
                    refine lv_goto (tgt := 69) hx hb (dg D_X12_sufficientSpeed (i := 39) rfl) (by decide) ?_
                    refine lv_istore_n (lv' := [(3, .int (nI 1)), (0, .ref (bs + 67)), (1, .int (nI jv)), (2, .int (nI k)), (4, .int (nI y))]) hx hb (dg D_X12_sufficientSpeed (i := 41) rfl) rfl hl (by decide) rfl (fun ls hl => ?_)
                    refine lv_iinc (v := nI (y + 1)) (lv' := [(4, .int (nI (y + 1))), (3, .int (nI 1)), (0, .ref (bs + 67)), (1, .int (nI jv)), (2, .int (nI k))]) hx hb (dg D_X12_sufficientSpeed (i := 42) rfl) hl (k := 4) rfl (nI_add _ _) (by decide) rfl (fun ls hl => ?_)
                    refine lv_goto (tgt := 27) hx hb (dg D_X12_sufficientSpeed (i := 43) rfl) (by decide) ?_
                    exact ih27 (by omega) I46 _ _ _ _ _ (bI_t (allB_3 c39 (decide_eq_true (Int32.not_lt.mp c61)))) (congrArg nI (by omega)) hF hs hth hW hS (lv_sub hl [2, 3, 4, 1, 0] rfl))
          exact loop27 0 (Nat.zero_le _) K16 _ _ _ _ _ (rfl) (congrArg nI (by omega)) hF hs hth hW hS (lv_sub hl [2, 3, 4, 1, 0] rfl))
    exact loop16 1 (by decide) I6 _ _ _ _ (congrArg nI (by omega)) hF hs hth (Nat.le_refl 1) (fun z hz => by rw [show z = 0 by omega]; rfl) hW hS (lv_sub hl [1, 2, 0] rfl)
  · refine n_iconst (a := 0) hx hb (dg D_X12_sufficientSpeed (i := 6) rfl) rfl ?_
    exact fin (dg D_X12_sufficientSpeed (i := 7) rfl) hW hS ⟨fun z => absurd z (by rw [c9]; decide), hF, hth, rfl, rfl⟩

set_option maxHeartbeats 4000000 in
set_option maxRecDepth 100000 in
theorem c_X12_urgent {l : Launch} {G : va_G} {bs : Nat} {cy : Nat → ClassId} {I : CI} {L : CL} {R : CR} (σ : Row) (v : Int32) (hs : I 68 = σ) (hi : Inv σ) : MTi l G bs cy MX12_urgent 5 [.ref (bs + 67), .int v] I L R (fun r I1 L1 R1 => ((inB v (nS σ)) = true → r = rkd (urF σ) (urL σ) (nS σ) v) ∧ Fr SQ I I1 ∧ I1 67 6 = thr (inB v (nS σ)) ∧ L = L1 ∧ R = R1) := by
  refine MTi.of (own := RX12) pn_RX12 rfl (Nat.le_of_ble_eq_true rfl) ?_
  intro p e s m args below meth c Qf X hW hS fin ls hl
  have hx := X.1
  have hb := X.2.1
  have hR : RmOK (rmL 5 0 0) 5 := ⟨rfl, rfl⟩
  have hcs : 0 ≤ (rmL 5 0 0).cells ∧ 0 ≤ (rmL 5 0 0).slots := ⟨Nat.zero_le _, Nat.zero_le _⟩
  have hl : lv_has ls 4 [(0, .ref (bs + 67)), (1, .int v)] := hl
  have hF : Fr SQ I I := Fr.rf
  obtain ⟨hY, hY1, hY12, hLn, hL4, hSn, hS12, hGn, hG5⟩ := id hi
  refine lv_aload_n hx hb (dg D_X12_urgent (i := 0) rfl) rfl (lv_at hl 0 rfl) ?_
  refine lv_aload_n hx hb (dg D_X12_urgent (i := 1) rfl) rfl (lv_at hl 0 rfl) ?_
  refine lv_iload_n hx hb (dg D_X12_urgent (i := 2) rfl) rfl (lv_at hl 1 rfl) ?_
  refine callVi X hW hS hR (c_X12_isSpan (I := I) σ v (by first | assumption | omega | decide | exact hP.1) (by first | assumption | omega | decide | exact hP.1)) (by decide) UVX12_isSpan LK_X12_88 rfl (by decide) rfl rfl rfl (Nat.le_of_ble_eq_true rfl) hl hcs (dg D_X12_urgent (i := 3) rfl) (fun r3 I3 L1 R1 H locs hq hW hS => ?_)
  obtain ⟨rfl, rfl, rfl, rfl⟩ := hq
  refine callVi X hW hS hR (c_X12_good (I := I) (inB v (nS σ))) (by decide) UVX12_good LK_X12_95 rfl (by decide) rfl rfl rfl (Nat.le_of_ble_eq_true rfl) hl hcs (dg D_X12_urgent (i := 4) rfl) (fun r6 I6 L1 R1 H locs hq hW hS => ?_)
  obtain ⟨rfl, hT6, hp6_0, rfl, rfl⟩ := hq
  have hF : Fr SQ I I6 := Fr.tr hF hT6 (by intro a j h; simp only [ST, SQ, Bool.or_eq_true, Bool.and_eq_true, beq_iff_eq, decide_eq_true_eq] at h ⊢; omega)
  have hs : I6 68 = σ := by rw [Fr.row hT6 (fun _ => rfl)]; exact hs
  have hth : I6 67 6 = thr (inB v (nS σ)) := hp6_0
  refine z_if_ne (tgt := 14) hx hb (dg D_X12_urgent (i := 5) rfl) (by decide) (fun c9 => ?_) (fun c9 => ?_)
  · obtain ⟨jv, hjv, rfl⟩ := inB_of c9 (by omega)
    refine n_iconst (a := 0) hx hb (dg D_X12_urgent (i := 8) rfl) rfl ?_
    refine lv_istore_n (lv' := [(2, .int (nI 0)), (0, .ref (bs + 67)), (1, .int (nI jv))]) hx hb (dg D_X12_urgent (i := 9) rfl) rfl hl (by decide) rfl (fun ls hl => ?_)
    have loop16 := up_ind (P := fun x => ∀ (K16 : CI) (H : Heap) (locs : List Loc) (ls : Array Slot) (v2 : Int32), v2 = nI x → (Fr SQ I K16) → (K16 68 = σ) → (K16 67 6 = thr (inB (nI jv) (nS σ))) → (rowP K16 78 x (urF σ)) → (rowP K16 79 x (urL σ)) → Wd G bs cy K16 L R H → va_S (Aq bs) s.heap H locs → lv_has ls 4 [(0, .ref (bs + 67)), (1, .int (nI jv)), (2, .int v2)] → W p l e (rmL 5 0 0) s m args below meth c H locs 0 0 Qf (F0 m 16 ls [])) (nS σ) (fun x hx16 ih16 => by
        intro K16 H locs ls v2 q2 hF hs hth hFy hLr hW hS hl
        subst q2
        refine lv_iload_n hx hb (dg D_X12_urgent (i := 10) rfl) rfl (lv_at hl 2 rfl) ?_
        refine lv_aload_n hx hb (dg D_X12_urgent (i := 11) rfl) rfl (lv_at hl 0 rfl) ?_
        refine r_getc (t := 68) X hW FI_X12_7 rfl (by decide) rfl (dg D_X12_urgent (i := 12) rfl) ?_
        refine n_iconst (a := 4) hx hb (dg D_X12_urgent (i := 13) rfl) rfl ?_
        refine r_ald (j := 4) (v := nI (nS σ)) X hW rfl (by decide) rfl (by omega) (by decide) ((congrFun hs _).trans hSn) (dg D_X12_urgent (i := 14) rfl) ?_
        refine n_icmp_ge (tgt := 79) hx hb (by omega) (by omega) (dg D_X12_urgent (i := 15) rfl) (by decide) (fun c23 => ?_) (fun c23 => ?_)
        · refine lv_aload_n hx hb (dg D_X12_urgent (i := 48) rfl) rfl (lv_at hl 0 rfl) ?_
          refine lv_iload_n hx hb (dg D_X12_urgent (i := 49) rfl) rfl (lv_at hl 1 rfl) ?_
          refine callVi X hW hS hR (c_X12_ranked (I := K16) σ (urF σ) (urL σ) (nI jv) (by first | assumption | omega | decide | exact hP.1) (by first | assumption | omega | decide | exact hP.1) (by rw [← show x = nS σ by omega]; exact hFy) (by rw [← show x = nS σ by omega]; exact hLr)) (by decide) UVX12_ranked LK_X12_261 rfl (by decide) rfl rfl rfl (Nat.le_of_ble_eq_true rfl) hl hcs (dg D_X12_urgent (i := 50) rfl) (fun r81 I81 L1 R1 H locs hq hW hS => ?_)
          obtain ⟨rfl, rfl, rfl, rfl⟩ := hq
          exact fin (dg D_X12_urgent (i := 51) rfl) hW hS ⟨fun _ => rfl, hF, hth, rfl, rfl⟩
        · refine lv_aload_n hx hb (dg D_X12_urgent (i := 16) rfl) rfl (lv_at hl 0 rfl) ?_
          refine lv_iload_n hx hb (dg D_X12_urgent (i := 17) rfl) rfl (lv_at hl 2 rfl) ?_
          refine callVi X hW hS hR (c_X12_firstPast (I := K16) σ x (by first | assumption | omega | decide | exact hP.1) (by first | assumption | omega | decide | exact hP.1) (by first | assumption | omega | decide | exact hP.1)) (by decide) UVX12_firstPast LK_X12_249 rfl (by decide) rfl rfl rfl (Nat.le_of_ble_eq_true rfl) hl hcs (dg D_X12_urgent (i := 18) rfl) (fun r28 I28 L1 R1 H locs hq hW hS => ?_)
          obtain ⟨rfl, hT28, hp28_0, hp28_1, rfl, rfl⟩ := hq
          have hF : Fr SQ I I28 := Fr.tr hF hT28 (by intro a j h; simp only [SL, SQ, Bool.or_eq_true, Bool.and_eq_true, beq_iff_eq, decide_eq_true_eq] at h ⊢; omega)
          have hs : I28 68 = σ := by rw [Fr.row hT28 (fun _ => rfl)]; exact hs
          have hth : I28 67 6 = thr (inB (nI jv) (nS σ)) := (hT28 67 6 rfl).trans hth
          have hFy : rowP I28 78 x (urF σ) := hFy.fr hT28 (fun _ => rfl)
          have hLr : rowP I28 79 x (urL σ) := hLr.fr hT28 (fun _ => rfl)
          have hA9 : rowP I28 76 (Yn σ) (fun z => (rgS σ x (z + 1)).1) := hp28_1
          refine lv_istore_n (lv' := [(3, .int (fp σ x)), (0, .ref (bs + 67)), (1, .int (nI jv)), (2, .int (nI x))]) hx hb (dg D_X12_urgent (i := 19) rfl) rfl hl (by decide) rfl (fun ls hl => ?_)
          refine lv_aload_n hx hb (dg D_X12_urgent (i := 20) rfl) rfl (lv_at hl 1 rfl) ?_
          refine r_getc (t := 78) X hW FI_X12_46 rfl (by decide) rfl (dg D_X12_urgent (i := 21) rfl) ?_
          refine lv_iload_n hx hb (dg D_X12_urgent (i := 22) rfl) rfl (lv_at hl 3 rfl) ?_
          refine lv_iload_n hx hb (dg D_X12_urgent (i := 23) rfl) rfl (lv_at hl 0 rfl) ?_
          refine r_ldc X CK_X12_28 (dg D_X12_urgent (i := 24) rfl) ?_
          refine lv_icmp_ne (tgt := 52) hx hb (dg D_X12_urgent (i := 25) rfl) (by decide) (fun c40 => ?_) (fun c40 => ?_)
          · refine lv_iload_n hx hb (dg D_X12_urgent (i := 31) rfl) rfl (lv_at hl 0 rfl) ?_
            refine r_ast (j := x) (v := fp σ x) X hW hS rfl (by decide) rfl (by omega) (by decide) (dg D_X12_urgent (i := 32) rfl) (fun H locs hW hS => ?_)
            have hF : Fr SQ I (u2 I28 78 x (fp σ x)) := Fr.put hF rfl
            have hs : (u2 I28 78 x (fp σ x)) 68 = σ := hs
            obtain ⟨J53, eJ53⟩ : ∃ J, J = u2 I28 78 x (fp σ x) := ⟨_, rfl⟩
            rw [← eJ53] at hW hF hs
            have hth : J53 67 6 = thr (inB (nI jv) (nS σ)) := by rw [eJ53, u2_off (Or.inl (by decide))]; exact hth
            have hFy : rowP J53 78 (x + 1) (urF σ) := by rw [eJ53]; exact hFy.ext (by unfold urF; first | rw [if_pos c40] | rw [if_neg c40])
            have hLr : rowP J53 79 x (urL σ) := by rw [eJ53]; exact hLr.keep (by decide)
            have hA9 : rowP J53 76 (Yn σ) (fun z => (rgS σ x (z + 1)).1) := by rw [eJ53]; exact hA9.keep (by decide)
            refine lv_aload_n hx hb (dg D_X12_urgent (i := 33) rfl) rfl (lv_at hl 1 rfl) ?_
            refine r_getc (t := 79) X hW FI_X12_49 rfl (by decide) rfl (dg D_X12_urgent (i := 34) rfl) ?_
            refine lv_iload_n hx hb (dg D_X12_urgent (i := 35) rfl) rfl (lv_at hl 3 rfl) ?_
            refine lv_aload_n hx hb (dg D_X12_urgent (i := 36) rfl) rfl (lv_at hl 1 rfl) ?_
            refine r_getc (t := 76) X hW FI_X12_40 rfl (by decide) rfl (dg D_X12_urgent (i := 37) rfl) ?_
            refine lv_aload_n hx hb (dg D_X12_urgent (i := 38) rfl) rfl (lv_at hl 1 rfl) ?_
            refine r_getc (t := 68) X hW FI_X12_7 rfl (by decide) rfl (dg D_X12_urgent (i := 39) rfl) ?_
            refine n_iconst (a := 0) hx hb (dg D_X12_urgent (i := 40) rfl) rfl ?_
            refine r_ald (j := 0) (v := nI (Yn σ)) X hW rfl (by decide) rfl (by omega) (by decide) ((congrFun hs _).trans hY) (dg D_X12_urgent (i := 41) rfl) ?_
            refine n_iconst (a := 1) hx hb (dg D_X12_urgent (i := 42) rfl) rfl ?_
            refine n_isub hx hb (dg D_X12_urgent (i := 43) rfl) (by omega) ?_
            refine r_ald (j := (Yn σ) - 1) (v := (rgS σ x (((Yn σ) - 1) + 1)).1) X hW rfl (by decide) rfl (by omega) (by decide) (hA9 _ (by omega)) (dg D_X12_urgent (i := 44) rfl) ?_
            refine r_ast (j := x) (v := (rgS σ x (((Yn σ) - 1) + 1)).1) X hW hS rfl (by decide) rfl (by omega) (by decide) (dg D_X12_urgent (i := 45) rfl) (fun H locs hW hS => ?_)
            have hF : Fr SQ I (u2 J53 79 x ((rgS σ x (((Yn σ) - 1) + 1)).1)) := Fr.put hF rfl
            have hs : (u2 J53 79 x ((rgS σ x (((Yn σ) - 1) + 1)).1)) 68 = σ := hs
            obtain ⟨J72, eJ72⟩ : ∃ J, J = u2 J53 79 x ((rgS σ x (((Yn σ) - 1) + 1)).1) := ⟨_, rfl⟩
            rw [← eJ72] at hW hF hs
            have hth : J72 67 6 = thr (inB (nI jv) (nS σ)) := by rw [eJ72, u2_off (Or.inl (by decide))]; exact hth
            have hFy : rowP J72 78 (x + 1) (urF σ) := by rw [eJ72]; exact hFy.keep (by decide)
            have hLr : rowP J72 79 (x + 1) (urL σ) := by rw [eJ72]; exact hLr.ext (by rw [show Yn σ - 1 + 1 = Yn σ by omega]; rfl)
            have hA9 : rowP J72 76 (Yn σ) (fun z => (rgS σ x (z + 1)).1) := by rw [eJ72]; exact hA9.keep (by decide)
            refine lv_iinc (v := nI (x + 1)) (lv' := [(2, .int (nI (x + 1))), (3, .int (fp σ x)), (0, .ref (bs + 67)), (1, .int (nI jv))]) hx hb (dg D_X12_urgent (i := 46) rfl) hl (k := 3) rfl (nI_add _ _) (by decide) rfl (fun ls hl => ?_)
            refine lv_goto (tgt := 16) hx hb (dg D_X12_urgent (i := 47) rfl) (by decide) ?_
            exact ih16 (by omega) J72 _ _ _ _ (congrArg nI (by omega)) hF hs hth hFy hLr hW hS (lv_sub hl [2, 3, 0] rfl)
          · refine lv_aload_n hx hb (dg D_X12_urgent (i := 26) rfl) rfl (lv_at hl 1 rfl) ?_
            refine r_getc (t := 68) X hW FI_X12_7 rfl (by decide) rfl (dg D_X12_urgent (i := 27) rfl) ?_
            refine n_iconst (a := 0) hx hb (dg D_X12_urgent (i := 28) rfl) rfl ?_
            refine r_ald (j := 0) (v := nI (Yn σ)) X hW rfl (by decide) rfl (by omega) (by decide) ((congrFun hs _).trans hY) (dg D_X12_urgent (i := 29) rfl) ?_
            refine lv_goto (tgt := 53) hx hb (dg D_X12_urgent (i := 30) rfl) (by decide) ?_
            refine r_ast (j := x) (v := nI (Yn σ)) X hW hS rfl (by decide) rfl (by omega) (by decide) (dg D_X12_urgent (i := 32) rfl) (fun H locs hW hS => ?_)
            have hF : Fr SQ I (u2 I28 78 x (nI (Yn σ))) := Fr.put hF rfl
            have hs : (u2 I28 78 x (nI (Yn σ))) 68 = σ := hs
            obtain ⟨J53, eJ53⟩ : ∃ J, J = u2 I28 78 x (nI (Yn σ)) := ⟨_, rfl⟩
            rw [← eJ53] at hW hF hs
            have hth : J53 67 6 = thr (inB (nI jv) (nS σ)) := by rw [eJ53, u2_off (Or.inl (by decide))]; exact hth
            have hFy : rowP J53 78 (x + 1) (urF σ) := by rw [eJ53]; exact hFy.ext (by unfold urF; first | rw [if_pos c40] | rw [if_neg c40])
            have hLr : rowP J53 79 x (urL σ) := by rw [eJ53]; exact hLr.keep (by decide)
            have hA9 : rowP J53 76 (Yn σ) (fun z => (rgS σ x (z + 1)).1) := by rw [eJ53]; exact hA9.keep (by decide)
            refine lv_aload_n hx hb (dg D_X12_urgent (i := 33) rfl) rfl (lv_at hl 1 rfl) ?_
            refine r_getc (t := 79) X hW FI_X12_49 rfl (by decide) rfl (dg D_X12_urgent (i := 34) rfl) ?_
            refine lv_iload_n hx hb (dg D_X12_urgent (i := 35) rfl) rfl (lv_at hl 3 rfl) ?_
            refine lv_aload_n hx hb (dg D_X12_urgent (i := 36) rfl) rfl (lv_at hl 1 rfl) ?_
            refine r_getc (t := 76) X hW FI_X12_40 rfl (by decide) rfl (dg D_X12_urgent (i := 37) rfl) ?_
            refine lv_aload_n hx hb (dg D_X12_urgent (i := 38) rfl) rfl (lv_at hl 1 rfl) ?_
            refine r_getc (t := 68) X hW FI_X12_7 rfl (by decide) rfl (dg D_X12_urgent (i := 39) rfl) ?_
            refine n_iconst (a := 0) hx hb (dg D_X12_urgent (i := 40) rfl) rfl ?_
            refine r_ald (j := 0) (v := nI (Yn σ)) X hW rfl (by decide) rfl (by omega) (by decide) ((congrFun hs _).trans hY) (dg D_X12_urgent (i := 41) rfl) ?_
            refine n_iconst (a := 1) hx hb (dg D_X12_urgent (i := 42) rfl) rfl ?_
            refine n_isub hx hb (dg D_X12_urgent (i := 43) rfl) (by omega) ?_
            refine r_ald (j := (Yn σ) - 1) (v := (rgS σ x (((Yn σ) - 1) + 1)).1) X hW rfl (by decide) rfl (by omega) (by decide) (hA9 _ (by omega)) (dg D_X12_urgent (i := 44) rfl) ?_
            refine r_ast (j := x) (v := (rgS σ x (((Yn σ) - 1) + 1)).1) X hW hS rfl (by decide) rfl (by omega) (by decide) (dg D_X12_urgent (i := 45) rfl) (fun H locs hW hS => ?_)
            have hF : Fr SQ I (u2 J53 79 x ((rgS σ x (((Yn σ) - 1) + 1)).1)) := Fr.put hF rfl
            have hs : (u2 J53 79 x ((rgS σ x (((Yn σ) - 1) + 1)).1)) 68 = σ := hs
            obtain ⟨J72, eJ72⟩ : ∃ J, J = u2 J53 79 x ((rgS σ x (((Yn σ) - 1) + 1)).1) := ⟨_, rfl⟩
            rw [← eJ72] at hW hF hs
            have hth : J72 67 6 = thr (inB (nI jv) (nS σ)) := by rw [eJ72, u2_off (Or.inl (by decide))]; exact hth
            have hFy : rowP J72 78 (x + 1) (urF σ) := by rw [eJ72]; exact hFy.keep (by decide)
            have hLr : rowP J72 79 (x + 1) (urL σ) := by rw [eJ72]; exact hLr.ext (by rw [show Yn σ - 1 + 1 = Yn σ by omega]; rfl)
            have hA9 : rowP J72 76 (Yn σ) (fun z => (rgS σ x (z + 1)).1) := by rw [eJ72]; exact hA9.keep (by decide)
            refine lv_iinc (v := nI (x + 1)) (lv' := [(2, .int (nI (x + 1))), (3, .int (fp σ x)), (0, .ref (bs + 67)), (1, .int (nI jv))]) hx hb (dg D_X12_urgent (i := 46) rfl) hl (k := 3) rfl (nI_add _ _) (by decide) rfl (fun ls hl => ?_)
            refine lv_goto (tgt := 16) hx hb (dg D_X12_urgent (i := 47) rfl) (by decide) ?_
            exact ih16 (by omega) J72 _ _ _ _ (congrArg nI (by omega)) hF hs hth hFy hLr hW hS (lv_sub hl [2, 3, 0] rfl))
    exact loop16 0 (Nat.zero_le _) I6 _ _ _ _ (congrArg nI (by omega)) hF hs hth rowP.zero rowP.zero hW hS (lv_sub hl [1, 2, 0] rfl)
  · refine n_iconst (a := 0) hx hb (dg D_X12_urgent (i := 6) rfl) rfl ?_
    exact fin (dg D_X12_urgent (i := 7) rfl) hW hS ⟨fun z => absurd z (by rw [c9]; decide), hF, hth, rfl, rfl⟩

