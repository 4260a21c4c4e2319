set_option maxHeartbeats 4000000 in
set_option maxRecDepth 100000 in
theorem c_X12_rustBefore {l : Launch} {G : va_G} {bs : Nat} {cy : Nat → ClassId} {I : CI} {L : CL} {R : CR} (σ : Row) (v : Int32) (w : Int32) (hs : I 68 = σ) (hi : Inv σ) : MTi l G bs cy MX12_rustBefore 4 [.ref (bs + 67), .int v, .int w] I L R (fun r I1 L1 R1 => ((inB v (nS σ) && inB w (Yn σ)) = true → r = (rgS σ (tN v) (tN w)).1) ∧ Fr SLT I I1 ∧ I1 67 6 = thr (inB v (nS σ) && inB w (Yn σ)) ∧ L = L1 ∧ R = R1) := by
  refine MTi.of (own := RX12) pn_RX12 rfl (Nat.le_of_ble_eq_true rfl) ?_
  intro p e s m args below meth c Qf X hW hS fin ls hl
  have hx := X.1
  have hb := X.2.1
  have hR : RmOK (rmL 4 0 0) 4 := ⟨rfl, rfl⟩
  have hcs : 0 ≤ (rmL 4 0 0).cells ∧ 0 ≤ (rmL 4 0 0).slots := ⟨Nat.zero_le _, Nat.zero_le _⟩
  have hl : lv_has ls 3 [(0, .ref (bs + 67)), (1, .int v), (2, .int w)] := hl
  have hF : Fr SLT I I := Fr.rf
  obtain ⟨hY, hY1, hY12, hLn, hL4, hSn, hS12, hGn, hG5⟩ := id hi
  refine lv_aload_n hx hb (dg D_X12_rustBefore (i := 0) rfl) rfl (lv_at hl 0 rfl) ?_
  refine lv_iload_n hx hb (dg D_X12_rustBefore (i := 1) rfl) rfl (lv_at hl 1 rfl) ?_
  refine lv_iload_n hx hb (dg D_X12_rustBefore (i := 2) rfl) rfl (lv_at hl 2 rfl) ?_
  refine callVi X hW hS hR (c_X12_goodSpan (I := I) σ v w (by first | assumption | omega | decide | exact hP.1) (by first | assumption | omega | decide | exact hP.1)) (by decide) UVX12_goodSpan LK_X12_252 rfl (by decide) rfl rfl rfl (Nat.le_of_ble_eq_true rfl) hl hcs (dg D_X12_rustBefore (i := 3) rfl) (fun r3 I3 L1 R1 H locs hq hW hS => ?_)
  obtain ⟨rfl, hT3, hp3_0, rfl, rfl⟩ := hq
  have hF : Fr SLT I I3 := Fr.tr hF hT3 (by intro a j h; simp only [ST, SLT, Bool.or_eq_true, Bool.and_eq_true, beq_iff_eq, decide_eq_true_eq] at h ⊢; omega)
  have hs : I3 68 = σ := by rw [Fr.row hT3 (fun _ => rfl)]; exact hs
  have hth : I3 67 6 = thr (inB v (nS σ) && inB w (Yn σ)) := hp3_0
  refine z_if_ne (tgt := 11) hx hb (dg D_X12_rustBefore (i := 4) rfl) (by decide) (fun c6 => ?_) (fun c6 => ?_)
  · obtain ⟨g1, g2⟩ := Bool.and_eq_true_iff.mp c6
    obtain ⟨jv, hjv, rfl⟩ := inB_of g1 (by omega)
    obtain ⟨jw, hjw, rfl⟩ := inB_of g2 (by omega)
    refine lv_aload_n hx hb (dg D_X12_rustBefore (i := 7) rfl) rfl (lv_at hl 0 rfl) ?_
    refine lv_iload_n hx hb (dg D_X12_rustBefore (i := 8) rfl) rfl (lv_at hl 1 rfl) ?_
    refine callVv X hW hS hR (c_X12_lay (I := I3) σ jv (by first | assumption | omega | decide | exact hP.1) (by first | assumption | omega | decide | exact hP.1) (by first | assumption | omega | decide | exact hP.1)) (by decide) UVX12_lay LK_X12_243 rfl (by decide) rfl rfl rfl (Nat.le_of_ble_eq_true rfl) hl hcs (dg D_X12_rustBefore (i := 9) rfl) (fun I13 L1 R1 H locs hq hW hS => ?_)
    obtain ⟨hT13, hp13_0, hp13_1, hp13_2, rfl, rfl⟩ := hq
    have hF : Fr SLT I I13 := Fr.tr hF hT13 (by intro a j h; simp only [SL, SLT, Bool.or_eq_true, Bool.and_eq_true, beq_iff_eq, decide_eq_true_eq] at h ⊢; omega)
    have hs : I13 68 = σ := by rw [Fr.row hT13 (fun _ => rfl)]; exact hs
    have hth : I13 67 6 = thr (inB (nI jv) (nS σ) && inB (nI jw) (Yn σ)) := (hT13 67 6 rfl).trans hth
    refine lv_aload_n hx hb (dg D_X12_rustBefore (i := 10) rfl) rfl (lv_at hl 0 rfl) ?_
    refine r_getc (t := 75) X hW FI_X12_37 rfl (by decide) rfl (dg D_X12_rustBefore (i := 11) rfl) ?_
    refine lv_iload_n hx hb (dg D_X12_rustBefore (i := 12) rfl) rfl (lv_at hl 2 rfl) ?_
    refine r_ald (j := jw) (v := (rgS σ jv jw).1) X hW rfl (by decide) rfl (by omega) (by decide) (hp13_0 _ (by omega)) (dg D_X12_rustBefore (i := 13) rfl) ?_
    exact fin (dg D_X12_rustBefore (i := 14) rfl) hW hS ⟨fun _ => by rw [tN_nI (show jv < 2 ^ 31 by omega), tN_nI (show jw < 2 ^ 31 by omega)], hF, hth, rfl, rfl⟩
  · refine n_iconst (a := 0) hx hb (dg D_X12_rustBefore (i := 5) rfl) rfl ?_
    exact fin (dg D_X12_rustBefore (i := 6) rfl) hW hS ⟨fun z => absurd z (by rw [c6]; decide), hF, hth, rfl, rfl⟩

set_option maxHeartbeats 4000000 in
set_option maxRecDepth 100000 in
theorem c_X12_rustAfter {l : Launch} {G : va_G} {bs : Nat} {cy : Nat → ClassId} {I : CI} {L : CL} {R : CR} (σ : Row) (v : Int32) (w : Int32) (hs : I 68 = σ) (hi : Inv σ) : MTi l G bs cy MX12_rustAfter 4 [.ref (bs + 67), .int v, .int w] I L R (fun r I1 L1 R1 => ((inB v (nS σ) && inB w (Yn σ)) = true → r = (rgS σ (tN v) (tN w + 1)).1) ∧ Fr SLT I I1 ∧ I1 67 6 = thr (inB v (nS σ) && inB w (Yn σ)) ∧ L = L1 ∧ R = R1) := by
  refine MTi.of (own := RX12) pn_RX12 rfl (Nat.le_of_ble_eq_true rfl) ?_
  intro p e s m args below meth c Qf X hW hS fin ls hl
  have hx := X.1
  have hb := X.2.1
  have hR : RmOK (rmL 4 0 0) 4 := ⟨rfl, rfl⟩
  have hcs : 0 ≤ (rmL 4 0 0).cells ∧ 0 ≤ (rmL 4 0 0).slots := ⟨Nat.zero_le _, Nat.zero_le _⟩
  have hl : lv_has ls 3 [(0, .ref (bs + 67)), (1, .int v), (2, .int w)] := hl
  have hF : Fr SLT I I := Fr.rf
  obtain ⟨hY, hY1, hY12, hLn, hL4, hSn, hS12, hGn, hG5⟩ := id hi
  refine lv_aload_n hx hb (dg D_X12_rustAfter (i := 0) rfl) rfl (lv_at hl 0 rfl) ?_
  refine lv_iload_n hx hb (dg D_X12_rustAfter (i := 1) rfl) rfl (lv_at hl 1 rfl) ?_
  refine lv_iload_n hx hb (dg D_X12_rustAfter (i := 2) rfl) rfl (lv_at hl 2 rfl) ?_
  refine callVi X hW hS hR (c_X12_goodSpan (I := I) σ v w (by first | assumption | omega | decide | exact hP.1) (by first | assumption | omega | decide | exact hP.1)) (by decide) UVX12_goodSpan LK_X12_252 rfl (by decide) rfl rfl rfl (Nat.le_of_ble_eq_true rfl) hl hcs (dg D_X12_rustAfter (i := 3) rfl) (fun r3 I3 L1 R1 H locs hq hW hS => ?_)
  obtain ⟨rfl, hT3, hp3_0, rfl, rfl⟩ := hq
  have hF : Fr SLT I I3 := Fr.tr hF hT3 (by intro a j h; simp only [ST, SLT, Bool.or_eq_true, Bool.and_eq_true, beq_iff_eq, decide_eq_true_eq] at h ⊢; omega)
  have hs : I3 68 = σ := by rw [Fr.row hT3 (fun _ => rfl)]; exact hs
  have hth : I3 67 6 = thr (inB v (nS σ) && inB w (Yn σ)) := hp3_0
  refine z_if_ne (tgt := 11) hx hb (dg D_X12_rustAfter (i := 4) rfl) (by decide) (fun c6 => ?_) (fun c6 => ?_)
  · obtain ⟨g1, g2⟩ := Bool.and_eq_true_iff.mp c6
    obtain ⟨jv, hjv, rfl⟩ := inB_of g1 (by omega)
    obtain ⟨jw, hjw, rfl⟩ := inB_of g2 (by omega)
    refine lv_aload_n hx hb (dg D_X12_rustAfter (i := 7) rfl) rfl (lv_at hl 0 rfl) ?_
    refine lv_iload_n hx hb (dg D_X12_rustAfter (i := 8) rfl) rfl (lv_at hl 1 rfl) ?_
    refine callVv X hW hS hR (c_X12_lay (I := I3) σ jv (by first | assumption | omega | decide | exact hP.1) (by first | assumption | omega | decide | exact hP.1) (by first | assumption | omega | decide | exact hP.1)) (by decide) UVX12_lay LK_X12_243 rfl (by decide) rfl rfl rfl (Nat.le_of_ble_eq_true rfl) hl hcs (dg D_X12_rustAfter (i := 9) rfl) (fun I13 L1 R1 H locs hq hW hS => ?_)
    obtain ⟨hT13, hp13_0, hp13_1, hp13_2, rfl, rfl⟩ := hq
    have hF : Fr SLT I I13 := Fr.tr hF hT13 (by intro a j h; simp only [SL, SLT, Bool.or_eq_true, Bool.and_eq_true, beq_iff_eq, decide_eq_true_eq] at h ⊢; omega)
    have hs : I13 68 = σ := by rw [Fr.row hT13 (fun _ => rfl)]; exact hs
    have hth : I13 67 6 = thr (inB (nI jv) (nS σ) && inB (nI jw) (Yn σ)) := (hT13 67 6 rfl).trans hth
    refine lv_aload_n hx hb (dg D_X12_rustAfter (i := 10) rfl) rfl (lv_at hl 0 rfl) ?_
    refine r_getc (t := 76) X hW FI_X12_40 rfl (by decide) rfl (dg D_X12_rustAfter (i := 11) rfl) ?_
    refine lv_iload_n hx hb (dg D_X12_rustAfter (i := 12) rfl) rfl (lv_at hl 2 rfl) ?_
    refine r_ald (j := jw) (v := (rgS σ jv (jw + 1)).1) X hW rfl (by decide) rfl (by omega) (by decide) (hp13_2 _ (by omega)) (dg D_X12_rustAfter (i := 13) rfl) ?_
    exact fin (dg D_X12_rustAfter (i := 14) rfl) hW hS ⟨fun _ => by rw [tN_nI (show jv < 2 ^ 31 by omega), tN_nI (show jw < 2 ^ 31 by omega)], hF, hth, rfl, rfl⟩
  · refine n_iconst (a := 0) hx hb (dg D_X12_rustAfter (i := 5) rfl) rfl ?_
    exact fin (dg D_X12_rustAfter (i := 6) rfl) hW hS ⟨fun z => absurd z (by rw [c6]; decide), hF, hth, rfl, rfl⟩

set_option maxHeartbeats 4000000 in
set_option maxRecDepth 100000 in
theorem c_X12_guardLeft {l : Launch} {G : va_G} {bs : Nat} {cy : Nat → ClassId} {I : CI} {L : CL} {R : CR} (σ : Row) (v : Int32) (w : Int32) (hs : I 68 = σ) (hi : Inv σ) : MTi l G bs cy MX12_guardLeft 4 [.ref (bs + 67), .int v, .int w] I L R (fun r I1 L1 R1 => ((inB v (nS σ) && inB w (Yn σ)) = true → r = (rgS σ (tN v) (tN w)).2) ∧ Fr SLT I I1 ∧ I1 67 6 = thr (inB v (nS σ) && inB w (Yn σ)) ∧ L = L1 ∧ R = R1) := by
  refine MTi.of (own := RX12) pn_RX12 rfl (Nat.le_of_ble_eq_true rfl) ?_
  intro p e s m args below meth c Qf X hW hS fin ls hl
  have hx := X.1
  have hb := X.2.1
  have hR : RmOK (rmL 4 0 0) 4 := ⟨rfl, rfl⟩
  have hcs : 0 ≤ (rmL 4 0 0).cells ∧ 0 ≤ (rmL 4 0 0).slots := ⟨Nat.zero_le _, Nat.zero_le _⟩
  have hl : lv_has ls 3 [(0, .ref (bs + 67)), (1, .int v), (2, .int w)] := hl
  have hF : Fr SLT I I := Fr.rf
  obtain ⟨hY, hY1, hY12, hLn, hL4, hSn, hS12, hGn, hG5⟩ := id hi
  refine lv_aload_n hx hb (dg D_X12_guardLeft (i := 0) rfl) rfl (lv_at hl 0 rfl) ?_
  refine lv_iload_n hx hb (dg D_X12_guardLeft (i := 1) rfl) rfl (lv_at hl 1 rfl) ?_
  refine lv_iload_n hx hb (dg D_X12_guardLeft (i := 2) rfl) rfl (lv_at hl 2 rfl) ?_
  refine callVi X hW hS hR (c_X12_goodSpan (I := I) σ v w (by first | assumption | omega | decide | exact hP.1) (by first | assumption | omega | decide | exact hP.1)) (by decide) UVX12_goodSpan LK_X12_252 rfl (by decide) rfl rfl rfl (Nat.le_of_ble_eq_true rfl) hl hcs (dg D_X12_guardLeft (i := 3) rfl) (fun r3 I3 L1 R1 H locs hq hW hS => ?_)
  obtain ⟨rfl, hT3, hp3_0, rfl, rfl⟩ := hq
  have hF : Fr SLT I I3 := Fr.tr hF hT3 (by intro a j h; simp only [ST, SLT, Bool.or_eq_true, Bool.and_eq_true, beq_iff_eq, decide_eq_true_eq] at h ⊢; omega)
  have hs : I3 68 = σ := by rw [Fr.row hT3 (fun _ => rfl)]; exact hs
  have hth : I3 67 6 = thr (inB v (nS σ) && inB w (Yn σ)) := hp3_0
  refine z_if_ne (tgt := 11) hx hb (dg D_X12_guardLeft (i := 4) rfl) (by decide) (fun c6 => ?_) (fun c6 => ?_)
  · obtain ⟨g1, g2⟩ := Bool.and_eq_true_iff.mp c6
    obtain ⟨jv, hjv, rfl⟩ := inB_of g1 (by omega)
    obtain ⟨jw, hjw, rfl⟩ := inB_of g2 (by omega)
    refine lv_aload_n hx hb (dg D_X12_guardLeft (i := 7) rfl) rfl (lv_at hl 0 rfl) ?_
    refine lv_iload_n hx hb (dg D_X12_guardLeft (i := 8) rfl) rfl (lv_at hl 1 rfl) ?_
    refine callVv X hW hS hR (c_X12_lay (I := I3) σ jv (by first | assumption | omega | decide | exact hP.1) (by first | assumption | omega | decide | exact hP.1) (by first | assumption | omega | decide | exact hP.1)) (by decide) UVX12_lay LK_X12_243 rfl (by decide) rfl rfl rfl (Nat.le_of_ble_eq_true rfl) hl hcs (dg D_X12_guardLeft (i := 9) rfl) (fun I13 L1 R1 H locs hq hW hS => ?_)
    obtain ⟨hT13, hp13_0, hp13_1, hp13_2, rfl, rfl⟩ := hq
    have hF : Fr SLT I I13 := Fr.tr hF hT13 (by intro a j h; simp only [SL, SLT, Bool.or_eq_true, Bool.and_eq_true, beq_iff_eq, decide_eq_true_eq] at h ⊢; omega)
    have hs : I13 68 = σ := by rw [Fr.row hT13 (fun _ => rfl)]; exact hs
    have hth : I13 67 6 = thr (inB (nI jv) (nS σ) && inB (nI jw) (Yn σ)) := (hT13 67 6 rfl).trans hth
    refine lv_aload_n hx hb (dg D_X12_guardLeft (i := 10) rfl) rfl (lv_at hl 0 rfl) ?_
    refine r_getc (t := 77) X hW FI_X12_43 rfl (by decide) rfl (dg D_X12_guardLeft (i := 11) rfl) ?_
    refine lv_iload_n hx hb (dg D_X12_guardLeft (i := 12) rfl) rfl (lv_at hl 2 rfl) ?_
    refine r_ald (j := jw) (v := (rgS σ jv jw).2) X hW rfl (by decide) rfl (by omega) (by decide) (hp13_1 _ (by omega)) (dg D_X12_guardLeft (i := 13) rfl) ?_
    exact fin (dg D_X12_guardLeft (i := 14) rfl) hW hS ⟨fun _ => by rw [tN_nI (show jv < 2 ^ 31 by omega), tN_nI (show jw < 2 ^ 31 by omega)], hF, hth, rfl, rfl⟩
  · refine n_iconst (a := 0) hx hb (dg D_X12_guardLeft (i := 5) rfl) rfl ?_
    exact fin (dg D_X12_guardLeft (i := 6) rfl) hW hS ⟨fun z => absurd z (by rw [c6]; decide), hF, hth, rfl, rfl⟩

set_option maxHeartbeats 4000000 in
set_option maxRecDepth 100000 in
theorem c_X12_pastYear {l : Launch} {G : va_G} {bs : Nat} {cy : Nat → ClassId} {I : CI} {L : CL} {R : CR} (σ : Row) (v : Int32) (hs : I 68 = σ) (hi : Inv σ) : MTi l G bs cy MX12_pastYear 5 [.ref (bs + 67), .int v] I L R (fun r I1 L1 R1 => ((inB v (nS σ)) = true → r = fp σ (tN v)) ∧ Fr SLT I I1 ∧ I1 67 6 = thr (inB v (nS σ)) ∧ L = L1 ∧ R = R1) := by
  refine MTi.of (own := RX12) pn_RX12 rfl (Nat.le_of_ble_eq_true rfl) ?_
  intro p e s m args below meth c Qf X hW hS fin ls hl
  have hx := X.1
  have hb := X.2.1
  have hR : RmOK (rmL 5 0 0) 5 := ⟨rfl, rfl⟩
  have hcs : 0 ≤ (rmL 5 0 0).cells ∧ 0 ≤ (rmL 5 0 0).slots := ⟨Nat.zero_le _, Nat.zero_le _⟩
  have hl : lv_has ls 2 [(0, .ref (bs + 67)), (1, .int v)] := hl
  have hF : Fr SLT I I := Fr.rf
  obtain ⟨hY, hY1, hY12, hLn, hL4, hSn, hS12, hGn, hG5⟩ := id hi
  refine lv_aload_n hx hb (dg D_X12_pastYear (i := 0) rfl) rfl (lv_at hl 0 rfl) ?_
  refine lv_aload_n hx hb (dg D_X12_pastYear (i := 1) rfl) rfl (lv_at hl 0 rfl) ?_
  refine lv_iload_n hx hb (dg D_X12_pastYear (i := 2) rfl) rfl (lv_at hl 1 rfl) ?_
  refine callVi X hW hS hR (c_X12_isSpan (I := I) σ v (by first | assumption | omega | decide | exact hP.1) (by first | assumption | omega | decide | exact hP.1)) (by decide) UVX12_isSpan LK_X12_88 rfl (by decide) rfl rfl rfl (Nat.le_of_ble_eq_true rfl) hl hcs (dg D_X12_pastYear (i := 3) rfl) (fun r3 I3 L1 R1 H locs hq hW hS => ?_)
  obtain ⟨rfl, rfl, rfl, rfl⟩ := hq
  refine callVi X hW hS hR (c_X12_good (I := I) (inB v (nS σ))) (by decide) UVX12_good LK_X12_95 rfl (by decide) rfl rfl rfl (Nat.le_of_ble_eq_true rfl) hl hcs (dg D_X12_pastYear (i := 4) rfl) (fun r6 I6 L1 R1 H locs hq hW hS => ?_)
  obtain ⟨rfl, hT6, hp6_0, rfl, rfl⟩ := hq
  have hF : Fr SLT I I6 := Fr.tr hF hT6 (by intro a j h; simp only [ST, SLT, Bool.or_eq_true, Bool.and_eq_true, beq_iff_eq, decide_eq_true_eq] at h ⊢; omega)
  have hs : I6 68 = σ := by rw [Fr.row hT6 (fun _ => rfl)]; exact hs
  have hth : I6 67 6 = thr (inB v (nS σ)) := hp6_0
  refine z_if_eq (tgt := 20) hx hb (dg D_X12_pastYear (i := 5) rfl) (by decide) (fun c9 => ?_) (fun c9 => ?_)
  · refine n_iconst (a := 0) hx hb (dg D_X12_pastYear (i := 10) rfl) rfl ?_
    exact fin (dg D_X12_pastYear (i := 11) rfl) hW hS ⟨fun z => absurd z (by rw [c9]; decide), hF, hth, rfl, rfl⟩
  · obtain ⟨jv, hjv, rfl⟩ := inB_of c9 (by omega)
    refine lv_aload_n hx hb (dg D_X12_pastYear (i := 6) rfl) rfl (lv_at hl 0 rfl) ?_
    refine lv_iload_n hx hb (dg D_X12_pastYear (i := 7) rfl) rfl (lv_at hl 1 rfl) ?_
    refine callVi X hW hS hR (c_X12_firstPast (I := I6) σ jv (by first | assumption | omega | decide | exact hP.1) (by first | assumption | omega | decide | exact hP.1) (by first | assumption | omega | decide | exact hP.1)) (by decide) UVX12_firstPast LK_X12_249 rfl (by decide) rfl rfl rfl (Nat.le_of_ble_eq_true rfl) hl hcs (dg D_X12_pastYear (i := 8) rfl) (fun r14 I14 L1 R1 H locs hq hW hS => ?_)
    obtain ⟨rfl, hT14, hp14_0, hp14_1, rfl, rfl⟩ := hq
    have hF : Fr SLT I I14 := Fr.tr hF hT14 (by intro a j h; simp only [SL, SLT, Bool.or_eq_true, Bool.and_eq_true, beq_iff_eq, decide_eq_true_eq] at h ⊢; omega)
    have hs : I14 68 = σ := by rw [Fr.row hT14 (fun _ => rfl)]; exact hs
    have hth : I14 67 6 = thr (inB (nI jv) (nS σ)) := (hT14 67 6 rfl).trans hth
    refine lv_goto (tgt := 21) hx hb (dg D_X12_pastYear (i := 9) rfl) (by decide) ?_
    exact fin (dg D_X12_pastYear (i := 11) rfl) hW hS ⟨fun _ => by rw [tN_nI (show jv < 2 ^ 31 by omega)], hF, hth, rfl, rfl⟩

set_option maxHeartbeats 4000000 in
set_option maxRecDepth 100000 in
theorem c_X12_pastCount {l : Launch} {G : va_G} {bs : Nat} {cy : Nat → ClassId} {I : CI} {L : CL} {R : CR} (σ : Row) (hs : I 68 = σ) (hi : Inv σ) : MTi l G bs cy MX12_pastCount 6 [.ref (bs + 67)] I L R (fun r I1 L1 R1 => cntP σ = r ∧ Fr SLT I I1 ∧ I1 67 6 = nI 0 ∧ L = L1 ∧ R = R1) := by
  refine MTi.of (own := RX12) pn_RX12 rfl (Nat.le_of_ble_eq_true rfl) ?_
  intro p e s m args below meth c Qf X hW hS fin ls hl
  have hx := X.1
  have hb := X.2.1
  have hR : RmOK (rmL 6 0 0) 6 := ⟨rfl, rfl⟩
  have hcs : 0 ≤ (rmL 6 0 0).cells ∧ 0 ≤ (rmL 6 0 0).slots := ⟨Nat.zero_le _, Nat.zero_le _⟩
  have hl : lv_has ls 1 [(0, .ref (bs + 67))] := hl
  have hF : Fr SLT I I := Fr.rf
  obtain ⟨hY, hY1, hY12, hLn, hL4, hSn, hS12, hGn, hG5⟩ := id hi
  have hth0 : True := trivial
  refine lv_aload_n hx hb (dg D_X12_pastCount (i := 0) rfl) rfl (lv_at hl 0 rfl) ?_
  refine n_iconst (a := 0) hx hb (dg D_X12_pastCount (i := 1) rfl) rfl ?_
  refine r_puti (v := nI 0) (ty := .int) X hW hS FI_X12_74 rfl (by decide) rfl rfl (by decide +kernel) rfl rfl (dg D_X12_pastCount (i := 2) rfl) (fun H locs hW hS => ?_)
  have hF : Fr SLT I (u2 I 67 6 (nI 0)) := Fr.put hF rfl
  have hs : (u2 I 67 6 (nI 0)) 68 = σ := hs
  obtain ⟨J2, eJ2⟩ : ∃ J, J = u2 I 67 6 (nI 0) := ⟨_, rfl⟩
  rw [← eJ2] at hW hF hs
  have hth : J2 67 6 = nI 0 := by rw [eJ2]; exact u2_at
  refine lv_aload_n hx hb (dg D_X12_pastCount (i := 3) rfl) rfl (lv_at hl 0 rfl) ?_
  refine callVi X hW hS hR (c_X12_countPast (I := J2) σ (by first | assumption | omega | decide | exact hP.1) (by first | assumption | omega | decide | exact hP.1)) (by decide) UVX12_countPast LK_X12_255 rfl (by decide) rfl rfl rfl (Nat.le_of_ble_eq_true rfl) hl hcs (dg D_X12_pastCount (i := 4) rfl) (fun r6 I6 L1 R1 H locs hq hW hS => ?_)
  obtain ⟨rfl, hT6, rfl, rfl⟩ := hq
  have hF : Fr SLT I I6 := Fr.tr hF hT6 (by intro a j h; simp only [SL, SLT, Bool.or_eq_true, Bool.and_eq_true, beq_iff_eq, decide_eq_true_eq] at h ⊢; omega)
  have hs : I6 68 = σ := by rw [Fr.row hT6 (fun _ => rfl)]; exact hs
  have hth : I6 67 6 = nI 0 := (hT6 67 6 rfl).trans hth
  exact fin (dg D_X12_pastCount (i := 5) rfl) hW hS ⟨rfl, hF, hth, rfl, rfl⟩

set_option maxHeartbeats 4000000 in
set_option maxRecDepth 100000 in
theorem c_X12_pastSpans {l : Launch} {G : va_G} {bs : Nat} {cy : Nat → ClassId} {I : CI} {L : CL} {R : CR} (σ : Row) (v : Int32) (hs : I 68 = σ) (hi : Inv σ) : MTi l G bs cy MX12_pastSpans 4 [.ref (bs + 67), .int v] I L R (fun r I1 L1 R1 => ((inB v (Yn σ)) = true → r = psp σ (tN v)) ∧ Fr SLT I I1 ∧ I1 67 6 = thr (inB v (Yn σ)) ∧ L = L1 ∧ R = R1) := by
  refine MTi.of (own := RX12) pn_RX12 rfl (Nat.le_of_ble_eq_true rfl) ?_
  intro p e s m args below meth c Qf X hW hS fin ls hl
  have hx := X.1
  have hb := X.2.1
  have hR : RmOK (rmL 4 0 0) 4 := ⟨rfl, rfl⟩
  have hcs : 0 ≤ (rmL 4 0 0).cells ∧ 0 ≤ (rmL 4 0 0).slots := ⟨Nat.zero_le _, Nat.zero_le _⟩
  have hl : lv_has ls 4 [(0, .ref (bs + 67)), (1, .int v)] := hl
  have hF : Fr SLT I I := Fr.rf
  obtain ⟨hY, hY1, hY12, hLn, hL4, hSn, hS12, hGn, hG5⟩ := id hi
  refine lv_aload_n hx hb (dg D_X12_pastSpans (i := 0) rfl) rfl (lv_at hl 0 rfl) ?_
  refine lv_aload_n hx hb (dg D_X12_pastSpans (i := 1) rfl) rfl (lv_at hl 0 rfl) ?_
  refine lv_iload_n hx hb (dg D_X12_pastSpans (i := 2) rfl) rfl (lv_at hl 1 rfl) ?_
  refine callVi X hW hS hR (c_X12_isYear (I := I) σ v (by first | assumption | omega | decide | exact hP.1) (by first | assumption | omega | decide | exact hP.1)) (by decide) UVX12_isYear LK_X12_92 rfl (by decide) rfl rfl rfl (Nat.le_of_ble_eq_true rfl) hl hcs (dg D_X12_pastSpans (i := 3) rfl) (fun r3 I3 L1 R1 H locs hq hW hS => ?_)
  obtain ⟨rfl, rfl, rfl, rfl⟩ := hq
  refine callVi X hW hS hR (c_X12_good (I := I) (inB v (Yn σ))) (by decide) UVX12_good LK_X12_95 rfl (by decide) rfl rfl rfl (Nat.le_of_ble_eq_true rfl) hl hcs (dg D_X12_pastSpans (i := 4) rfl) (fun r6 I6 L1 R1 H locs hq hW hS => ?_)
  obtain ⟨rfl, hT6, hp6_0, rfl, rfl⟩ := hq
  have hF : Fr SLT I I6 := Fr.tr hF hT6 (by intro a j h; simp only [ST, SLT, Bool.or_eq_true, Bool.and_eq_true, beq_iff_eq, decide_eq_true_eq] at h ⊢; omega)
  have hs : I6 68 = σ := by rw [Fr.row hT6 (fun _ => rfl)]; exact hs
  have hth : I6 67 6 = thr (inB v (Yn σ)) := hp6_0
  refine z_if_ne (tgt := 14) hx hb (dg D_X12_pastSpans (i := 5) rfl) (by decide) (fun c9 => ?_) (fun c9 => ?_)
  · obtain ⟨jv, hjv, rfl⟩ := inB_of c9 (by omega)
    refine n_iconst (a := 0) hx hb (dg D_X12_pastSpans (i := 8) rfl) rfl ?_
    refine lv_istore_n (lv' := [(2, .int (nI 0)), (0, .ref (bs + 67)), (1, .int (nI jv))]) hx hb (dg D_X12_pastSpans (i := 9) rfl) rfl hl (by decide) rfl (fun ls hl => ?_)
    refine n_iconst (a := 0) hx hb (dg D_X12_pastSpans (i := 10) rfl) rfl ?_
    refine lv_istore_n (lv' := [(3, .int (nI 0)), (2, .int (nI 0)), (0, .ref (bs + 67)), (1, .int (nI jv))]) hx hb (dg D_X12_pastSpans (i := 11) rfl) rfl hl (by decide) rfl (fun ls hl => ?_)
    have loop18 := up_ind (P := fun x => ∀ (K18 : CI) (H : Heap) (locs : List Loc) (ls : Array Slot) (v2 : Int32) (v3 : Int32), v2 = orT (setF (fun x => decide (σ (10 + 5 * x + 4) < (rgS σ x (jv + 1)).1))) x → v3 = nI x → (Fr SLT I K18) → (K18 68 = σ) → (K18 67 6 = thr (inB (nI jv) (Yn σ))) → Wd G bs cy K18 L R H → va_S (Aq bs) s.heap H locs → lv_has ls 4 [(0, .ref (bs + 67)), (1, .int (nI jv)), (2, .int v2), (3, .int v3)] → W p l e (rmL 4 0 0) s m args below meth c H locs 0 0 Qf (F0 m 18 ls [])) (nS σ) (fun x hx18 ih18 => by
        intro K18 H locs ls v2 v3 q2 q3 hF hs hth hW hS hl
        subst q2
        subst q3
        refine lv_iload_n hx hb (dg D_X12_pastSpans (i := 12) rfl) rfl (lv_at hl 3 rfl) ?_
        refine lv_aload_n hx hb (dg D_X12_pastSpans (i := 13) rfl) rfl (lv_at hl 0 rfl) ?_
        refine r_getc (t := 68) X hW FI_X12_7 rfl (by decide) rfl (dg D_X12_pastSpans (i := 14) rfl) ?_
        refine n_iconst (a := 4) hx hb (dg D_X12_pastSpans (i := 15) rfl) rfl ?_
        refine r_ald (j := 4) (v := nI (nS σ)) X hW rfl (by decide) rfl (by omega) (by decide) ((congrFun hs _).trans hSn) (dg D_X12_pastSpans (i := 16) rfl) ?_
        refine n_icmp_ge (tgt := 64) hx hb (by omega) (by omega) (dg D_X12_pastSpans (i := 17) rfl) (by decide) (fun c25 => ?_) (fun c25 => ?_)
        · refine lv_iload_n hx hb (dg D_X12_pastSpans (i := 40) rfl) rfl (lv_at hl 2 rfl) ?_
          exact fin (dg D_X12_pastSpans (i := 41) rfl) hW hS ⟨fun _ => by rw [tN_nI (show jv < 2 ^ 31 by omega), show x = nS σ by omega]; rfl, hF, hth, rfl, rfl⟩
        · refine lv_aload_n hx hb (dg D_X12_pastSpans (i := 18) rfl) rfl (lv_at hl 0 rfl) ?_
          refine lv_iload_n hx hb (dg D_X12_pastSpans (i := 19) rfl) rfl (lv_at hl 3 rfl) ?_
          refine callVv X hW hS hR (c_X12_lay (I := K18) σ x (by first | assumption | omega | decide | exact hP.1) (by first | assumption | omega | decide | exact hP.1) (by first | assumption | omega | decide | exact hP.1)) (by decide) UVX12_lay LK_X12_243 rfl (by decide) rfl rfl rfl (Nat.le_of_ble_eq_true rfl) hl hcs (dg D_X12_pastSpans (i := 20) rfl) (fun I30 L1 R1 H locs hq hW hS => ?_)
          obtain ⟨hT30, hp30_0, hp30_1, hp30_2, rfl, rfl⟩ := hq
          have hF : Fr SLT I I30 := Fr.tr hF hT30 (by intro a j h; simp only [SL, SLT, Bool.or_eq_true, Bool.and_eq_true, beq_iff_eq, decide_eq_true_eq] at h ⊢; omega)
          have hs : I30 68 = σ := by rw [Fr.row hT30 (fun _ => rfl)]; exact hs
          have hth : I30 67 6 = thr (inB (nI jv) (Yn σ)) := (hT30 67 6 rfl).trans hth
          refine lv_iload_n hx hb (dg D_X12_pastSpans (i := 21) rfl) rfl (lv_at hl 2 rfl) ?_
          refine lv_aload_n hx hb (dg D_X12_pastSpans (i := 22) rfl) rfl (lv_at hl 0 rfl) ?_
          refine r_getc (t := 76) X hW FI_X12_40 rfl (by decide) rfl (dg D_X12_pastSpans (i := 23) rfl) ?_
          refine lv_iload_n hx hb (dg D_X12_pastSpans (i := 24) rfl) rfl (lv_at hl 1 rfl) ?_
          refine r_ald (j := jv) (v := (rgS σ x (jv + 1)).1) X hW rfl (by decide) rfl (by omega) (by decide) (hp30_2 _ (by omega)) (dg D_X12_pastSpans (i := 25) rfl) ?_
          refine lv_aload_n hx hb (dg D_X12_pastSpans (i := 26) rfl) rfl (lv_at hl 0 rfl) ?_
          refine lv_iload_n hx hb (dg D_X12_pastSpans (i := 27) rfl) rfl (lv_at hl 3 rfl) ?_
          refine n_iconst (a := 4) hx hb (dg D_X12_pastSpans (i := 28) rfl) rfl ?_
          refine callVi X hW hS hR (c_X12_spanOf (I := I30) σ x 4 (by first | assumption | omega | decide | exact hP.1) (by first | assumption | omega | decide | exact hP.1) (by first | assumption | omega | decide | exact hP.1)) (by decide) UVX12_spanOf LK_X12_224 rfl (by decide) rfl rfl rfl (Nat.le_of_ble_eq_true rfl) hl hcs (dg D_X12_pastSpans (i := 29) rfl) (fun r43 I43 L1 R1 H locs hq hW hS => ?_)
          obtain ⟨rfl, rfl, rfl, rfl⟩ := hq
          refine lv_icmp_le (tgt := 55) hx hb (dg D_X12_pastSpans (i := 30) rfl) (by decide) (fun c46 => ?_) (fun c46 => ?_)
          · refine n_iconst (a := 0) hx hb (dg D_X12_pastSpans (i := 35) rfl) rfl ?_
            refine lv_ior hx hb (dg D_X12_pastSpans (i := 36) rfl) ?_
            refine lv_istore_n (lv' := [(2, .int ((orT (setF (fun x => decide (σ (10 + 5 * x + 4) < (rgS σ x (jv + 1)).1))) x) ||| (nI 0))), (0, .ref (bs + 67)), (1, .int (nI jv)), (3, .int (nI x))]) hx hb (dg D_X12_pastSpans (i := 37) rfl) rfl hl (by decide) rfl (fun ls hl => ?_)
            refine lv_iinc (v := nI (x + 1)) (lv' := [(3, .int (nI (x + 1))), (2, .int ((orT (setF (fun x => decide (σ (10 + 5 * x + 4) < (rgS σ x (jv + 1)).1))) x) ||| (nI 0))), (0, .ref (bs + 67)), (1, .int (nI jv))]) hx hb (dg D_X12_pastSpans (i := 38) rfl) hl (k := 3) rfl (nI_add _ _) (by decide) rfl (fun ls hl => ?_)
            refine lv_goto (tgt := 18) hx hb (dg D_X12_pastSpans (i := 39) rfl) (by decide) ?_
            exact ih18 (by omega) I30 _ _ _ _ _ (by show _ = _ ||| setF (fun x => decide (σ (10 + 5 * x + 4) < (rgS σ x (jv + 1)).1)) x; first | rw [setF_t (decide_eq_true (Int32.not_le.mp c46))] | rw [setF_f (decide_eq_false (Int32.not_lt.mpr c46))]) (congrArg nI (by omega)) hF hs hth hW hS (lv_sub hl [2, 3, 1, 0] rfl)
          · refine n_iconst (a := 1) hx hb (dg D_X12_pastSpans (i := 31) rfl) rfl ?_
            refine lv_iload_n hx hb (dg D_X12_pastSpans (i := 32) rfl) rfl (lv_at hl 3 rfl) ?_
            refine lv_ishl hx hb (dg D_X12_pastSpans (i := 33) rfl) ?_
            refine lv_goto (tgt := 56) hx hb (dg D_X12_pastSpans (i := 34) rfl) (by decide) ?_
            refine lv_ior hx hb (dg D_X12_pastSpans (i := 36) rfl) ?_
            refine lv_istore_n (lv' := [(2, .int ((orT (setF (fun x => decide (σ (10 + 5 * x + 4) < (rgS σ x (jv + 1)).1))) x) ||| ((nI 1) <<< ((nI x) &&& 31)))), (0, .ref (bs + 67)), (1, .int (nI jv)), (3, .int (nI x))]) hx hb (dg D_X12_pastSpans (i := 37) rfl) rfl hl (by decide) rfl (fun ls hl => ?_)
            refine lv_iinc (v := nI (x + 1)) (lv' := [(3, .int (nI (x + 1))), (2, .int ((orT (setF (fun x => decide (σ (10 + 5 * x + 4) < (rgS σ x (jv + 1)).1))) x) ||| ((nI 1) <<< ((nI x) &&& 31)))), (0, .ref (bs + 67)), (1, .int (nI jv))]) hx hb (dg D_X12_pastSpans (i := 38) rfl) hl (k := 3) rfl (nI_add _ _) (by decide) rfl (fun ls hl => ?_)
            refine lv_goto (tgt := 18) hx hb (dg D_X12_pastSpans (i := 39) rfl) (by decide) ?_
            exact ih18 (by omega) I30 _ _ _ _ _ (by show _ = _ ||| setF (fun x => decide (σ (10 + 5 * x + 4) < (rgS σ x (jv + 1)).1)) x; first | rw [setF_t (decide_eq_true (Int32.not_le.mp c46))] | rw [setF_f (decide_eq_false (Int32.not_lt.mpr c46))]) (congrArg nI (by omega)) hF hs hth hW hS (lv_sub hl [2, 3, 1, 0] rfl))
    exact loop18 0 (Nat.zero_le _) I6 _ _ _ _ _ (rfl) (congrArg nI (by omega)) hF hs hth hW hS (lv_sub hl [2, 3, 1, 0] rfl)
  · refine n_iconst (a := 0) hx hb (dg D_X12_pastSpans (i := 6) rfl) rfl ?_
    exact fin (dg D_X12_pastSpans (i := 7) rfl) hW hS ⟨fun z => absurd z (by rw [c9]; decide), hF, hth, rfl, rfl⟩

set_option maxHeartbeats 4000000 in
set_option maxRecDepth 100000 in
theorem c_X12_rustiest {l : Launch} {G : va_G} {bs : Nat} {cy : Nat → ClassId} {I : CI} {L : CL} {R : CR} (σ : Row) (v : Int32) (hs : I 68 = σ) (hi : Inv σ) : MTi l G bs cy MX12_rustiest 4 [.ref (bs + 67), .int v] I L R (fun r I1 L1 R1 => ((inB v (Yn σ)) = true → r = rst σ (tN v)) ∧ Fr SLT I I1 ∧ I1 67 6 = thr (inB v (Yn σ)) ∧ L = L1 ∧ R = R1) := by
  refine MTi.of (own := RX12) pn_RX12 rfl (Nat.le_of_ble_eq_true rfl) ?_
  intro p e s m args below meth c Qf X hW hS fin ls hl
  have hx := X.1
  have hb := X.2.1
  have hR : RmOK (rmL 4 0 0) 4 := ⟨rfl, rfl⟩
  have hcs : 0 ≤ (rmL 4 0 0).cells ∧ 0 ≤ (rmL 4 0 0).slots := ⟨Nat.zero_le _, Nat.zero_le _⟩
  have hl : lv_has ls 5 [(0, .ref (bs + 67)), (1, .int v)] := hl
  have hF : Fr SLT I I := Fr.rf
  obtain ⟨hY, hY1, hY12, hLn, hL4, hSn, hS12, hGn, hG5⟩ := id hi
  refine lv_aload_n hx hb (dg D_X12_rustiest (i := 0) rfl) rfl (lv_at hl 0 rfl) ?_
  refine lv_aload_n hx hb (dg D_X12_rustiest (i := 1) rfl) rfl (lv_at hl 0 rfl) ?_
  refine lv_iload_n hx hb (dg D_X12_rustiest (i := 2) rfl) rfl (lv_at hl 1 rfl) ?_
  refine callVi X hW hS hR (c_X12_isYear (I := I) σ v (by first | assumption | omega | decide | exact hP.1) (by first | assumption | omega | decide | exact hP.1)) (by decide) UVX12_isYear LK_X12_92 rfl (by decide) rfl rfl rfl (Nat.le_of_ble_eq_true rfl) hl hcs (dg D_X12_rustiest (i := 3) rfl) (fun r3 I3 L1 R1 H locs hq hW hS => ?_)
  obtain ⟨rfl, rfl, rfl, rfl⟩ := hq
  refine callVi X hW hS hR (c_X12_good (I := I) (inB v (Yn σ))) (by decide) UVX12_good LK_X12_95 rfl (by decide) rfl rfl rfl (Nat.le_of_ble_eq_true rfl) hl hcs (dg D_X12_rustiest (i := 4) rfl) (fun r6 I6 L1 R1 H locs hq hW hS => ?_)
  obtain ⟨rfl, hT6, hp6_0, rfl, rfl⟩ := hq
  have hF : Fr SLT I I6 := Fr.tr hF hT6 (by intro a j h; simp only [ST, SLT, Bool.or_eq_true, Bool.and_eq_true, beq_iff_eq, decide_eq_true_eq] at h ⊢; omega)
  have hs : I6 68 = σ := by rw [Fr.row hT6 (fun _ => rfl)]; exact hs
  have hth : I6 67 6 = thr (inB v (Yn σ)) := hp6_0
  refine z_if_ne (tgt := 14) hx hb (dg D_X12_rustiest (i := 5) rfl) (by decide) (fun c9 => ?_) (fun c9 => ?_)
  · obtain ⟨jv, hjv, rfl⟩ := inB_of c9 (by omega)
    refine r_ldc X CK_X12_28 (dg D_X12_rustiest (i := 8) rfl) ?_
    refine lv_istore_n (lv' := [(2, .int ((-1000004))), (0, .ref (bs + 67)), (1, .int (nI jv))]) hx hb (dg D_X12_rustiest (i := 9) rfl) rfl hl (by decide) rfl (fun ls hl => ?_)
    refine lv_iconst (v := -1) hx hb (dg D_X12_rustiest (i := 10) rfl) (by decide) ?_
    refine lv_istore_n (lv' := [(3, .int ((-1))), (2, .int ((-1000004))), (0, .ref (bs + 67)), (1, .int (nI jv))]) hx hb (dg D_X12_rustiest (i := 11) rfl) rfl hl (by decide) rfl (fun ls hl => ?_)
    refine n_iconst (a := 0) hx hb (dg D_X12_rustiest (i := 12) rfl) rfl ?_
    refine lv_istore (lv' := [(4, .int (nI 0)), (3, .int ((-1))), (2, .int ((-1000004))), (0, .ref (bs + 67)), (1, .int (nI jv))]) hx hb (dg D_X12_rustiest (i := 13) rfl) hl (by decide) rfl (fun ls hl => ?_)
    have loop22 := up_ind (P := fun x => ∀ (K22 : CI) (H : Heap) (locs : List Loc) (ls : Array Slot) (v2 : Int32) (v3 : Int32) (v4 : Int32), v2 = (amx (fun x => (rgS σ x (jv + 1)).1) NOTF (-1) x).1 → v3 = (amx (fun x => (rgS σ x (jv + 1)).1) NOTF (-1) x).2 → v4 = nI x → (Fr SLT I K22) → (K22 68 = σ) → (K22 67 6 = thr (inB (nI jv) (Yn σ))) → Wd G bs cy K22 L R H → va_S (Aq bs) s.heap H locs → lv_has ls 5 [(0, .ref (bs + 67)), (1, .int (nI jv)), (2, .int v2), (3, .int v3), (4, .int v4)] → W p l e (rmL 4 0 0) s m args below meth c H locs 0 0 Qf (F0 m 22 ls [])) (nS σ) (fun x hx22 ih22 => by
        intro K22 H locs ls v2 v3 v4 q2 q3 q4 hF hs hth hW hS hl
        subst q2
        subst q3
        subst q4
        refine lv_iload hx hb (dg D_X12_rustiest (i := 14) rfl) (lv_at hl 4 rfl) ?_
        refine lv_aload_n hx hb (dg D_X12_rustiest (i := 15) rfl) rfl (lv_at hl 0 rfl) ?_
        refine r_getc (t := 68) X hW FI_X12_7 rfl (by decide) rfl (dg D_X12_rustiest (i := 16) rfl) ?_
        refine n_iconst (a := 4) hx hb (dg D_X12_rustiest (i := 17) rfl) rfl ?_
        refine r_ald (j := 4) (v := nI (nS σ)) X hW rfl (by decide) rfl (by omega) (by decide) ((congrFun hs _).trans hSn) (dg D_X12_rustiest (i := 18) rfl) ?_
        refine n_icmp_ge (tgt := 73) hx hb (by omega) (by omega) (dg D_X12_rustiest (i := 19) rfl) (by decide) (fun c30 => ?_) (fun c30 => ?_)
        · refine lv_iload_n hx hb (dg D_X12_rustiest (i := 42) rfl) rfl (lv_at hl 2 rfl) ?_
          exact fin (dg D_X12_rustiest (i := 43) rfl) hW hS ⟨fun _ => by rw [tN_nI (show jv < 2 ^ 31 by omega), show x = nS σ by omega]; rfl, hF, hth, rfl, rfl⟩
        · refine lv_aload_n hx hb (dg D_X12_rustiest (i := 20) rfl) rfl (lv_at hl 0 rfl) ?_
          refine lv_iload hx hb (dg D_X12_rustiest (i := 21) rfl) (lv_at hl 4 rfl) ?_
          refine callVv X hW hS hR (c_X12_lay (I := K22) σ x (by first | assumption | omega | decide | exact hP.1) (by first | assumption | omega | decide | exact hP.1) (by first | assumption | omega | decide | exact hP.1)) (by decide) UVX12_lay LK_X12_243 rfl (by decide) rfl rfl rfl (Nat.le_of_ble_eq_true rfl) hl hcs (dg D_X12_rustiest (i := 22) rfl) (fun I36 L1 R1 H locs hq hW hS => ?_)
          obtain ⟨hT36, hp36_0, hp36_1, hp36_2, rfl, rfl⟩ := hq
          have hF : Fr SLT I I36 := Fr.tr hF hT36 (by intro a j h; simp only [SL, SLT, Bool.or_eq_true, Bool.and_eq_true, beq_iff_eq, decide_eq_true_eq] at h ⊢; omega)
          have hs : I36 68 = σ := by rw [Fr.row hT36 (fun _ => rfl)]; exact hs
          have hth : I36 67 6 = thr (inB (nI jv) (Yn σ)) := (hT36 67 6 rfl).trans hth
          refine lv_aload_n hx hb (dg D_X12_rustiest (i := 23) rfl) rfl (lv_at hl 0 rfl) ?_
          refine r_getc (t := 76) X hW FI_X12_40 rfl (by decide) rfl (dg D_X12_rustiest (i := 24) rfl) ?_
          refine lv_iload_n hx hb (dg D_X12_rustiest (i := 25) rfl) rfl (lv_at hl 1 rfl) ?_
          refine r_ald (j := jv) (v := (rgS σ x (jv + 1)).1) X hW rfl (by decide) rfl (by omega) (by decide) (hp36_2 _ (by omega)) (dg D_X12_rustiest (i := 26) rfl) ?_
          refine lv_iload_n hx hb (dg D_X12_rustiest (i := 27) rfl) rfl (lv_at hl 3 rfl) ?_
          refine lv_icmp_le (tgt := 54) hx hb (dg D_X12_rustiest (i := 28) rfl) (by decide) (fun c46 => ?_) (fun c46 => ?_)
          · refine lv_iload_n hx hb (dg D_X12_rustiest (i := 31) rfl) rfl (lv_at hl 2 rfl) ?_
            refine lv_istore_n (lv' := [(2, .int ((amx (fun x => (rgS σ x (jv + 1)).1) NOTF (-1) x).1)), (0, .ref (bs + 67)), (1, .int (nI jv)), (3, .int ((amx (fun x => (rgS σ x (jv + 1)).1) NOTF (-1) x).2)), (4, .int (nI x))]) hx hb (dg D_X12_rustiest (i := 32) rfl) rfl hl (by decide) rfl (fun ls hl => ?_)
            refine lv_iload_n hx hb (dg D_X12_rustiest (i := 33) rfl) rfl (lv_at hl 3 rfl) ?_
            refine lv_aload_n hx hb (dg D_X12_rustiest (i := 34) rfl) rfl (lv_at hl 1 rfl) ?_
            refine r_getc (t := 76) X hW FI_X12_40 rfl (by decide) rfl (dg D_X12_rustiest (i := 35) rfl) ?_
            refine lv_iload_n hx hb (dg D_X12_rustiest (i := 36) rfl) rfl (lv_at hl 2 rfl) ?_
            refine r_ald (j := jv) (v := (rgS σ x (jv + 1)).1) X hW rfl (by decide) rfl (by omega) (by decide) (hp36_2 _ (by omega)) (dg D_X12_rustiest (i := 37) rfl) ?_
            refine r_max (v := if ((amx (fun x => (rgS σ x (jv + 1)).1) NOTF (-1) x).2) < ((rgS σ x (jv + 1)).1) then ((rgS σ x (jv + 1)).1) else ((amx (fun x => (rgS σ x (jv + 1)).1) NOTF (-1) x).2)) X hR (by decide) LK_X12_258 (Nat.le_of_ble_eq_true rfl) hl hcs rfl (dg D_X12_rustiest (i := 38) rfl) ?_
            refine lv_istore_n (lv' := [(3, .int (if ((amx (fun x => (rgS σ x (jv + 1)).1) NOTF (-1) x).2) < ((rgS σ x (jv + 1)).1) then ((rgS σ x (jv + 1)).1) else ((amx (fun x => (rgS σ x (jv + 1)).1) NOTF (-1) x).2))), (2, .int ((amx (fun x => (rgS σ x (jv + 1)).1) NOTF (-1) x).1)), (0, .ref (bs + 67)), (1, .int (nI jv)), (4, .int (nI x))]) hx hb (dg D_X12_rustiest (i := 39) rfl) rfl hl (by decide) rfl (fun ls hl => ?_)
            refine lv_iinc (v := nI (x + 1)) (lv' := [(4, .int (nI (x + 1))), (3, .int (if ((amx (fun x => (rgS σ x (jv + 1)).1) NOTF (-1) x).2) < ((rgS σ x (jv + 1)).1) then ((rgS σ x (jv + 1)).1) else ((amx (fun x => (rgS σ x (jv + 1)).1) NOTF (-1) x).2))), (2, .int ((amx (fun x => (rgS σ x (jv + 1)).1) NOTF (-1) x).1)), (0, .ref (bs + 67)), (1, .int (nI jv))]) hx hb (dg D_X12_rustiest (i := 40) rfl) hl (k := 4) rfl (nI_add _ _) (by decide) rfl (fun ls hl => ?_)
            refine lv_goto (tgt := 22) hx hb (dg D_X12_rustiest (i := 41) rfl) (by decide) ?_
            exact ih22 (by omega) I36 _ _ _ _ _ _ (by first | rw [amx_y c46] | rw [amx_n c46]) (by first | rw [amx_y c46, if_pos (Int32.not_le.mp c46)] | rw [amx_n c46, if_neg (Int32.not_lt.mpr c46)]) (congrArg nI (by omega)) hF hs hth hW hS (lv_sub hl [3, 4, 2, 1, 0] rfl)
          · refine lv_iload hx hb (dg D_X12_rustiest (i := 29) rfl) (lv_at hl 4 rfl) ?_
            refine lv_goto (tgt := 55) hx hb (dg D_X12_rustiest (i := 30) rfl) (by decide) ?_
            refine lv_istore_n (lv' := [(2, .int (nI x)), (0, .ref (bs + 67)), (1, .int (nI jv)), (3, .int ((amx (fun x => (rgS σ x (jv + 1)).1) NOTF (-1) x).2)), (4, .int (nI x))]) hx hb (dg D_X12_rustiest (i := 32) rfl) rfl hl (by decide) rfl (fun ls hl => ?_)
            refine lv_iload_n hx hb (dg D_X12_rustiest (i := 33) rfl) rfl (lv_at hl 3 rfl) ?_
            refine lv_aload_n hx hb (dg D_X12_rustiest (i := 34) rfl) rfl (lv_at hl 1 rfl) ?_
            refine r_getc (t := 76) X hW FI_X12_40 rfl (by decide) rfl (dg D_X12_rustiest (i := 35) rfl) ?_
            refine lv_iload_n hx hb (dg D_X12_rustiest (i := 36) rfl) rfl (lv_at hl 2 rfl) ?_
            refine r_ald (j := jv) (v := (rgS σ x (jv + 1)).1) X hW rfl (by decide) rfl (by omega) (by decide) (hp36_2 _ (by omega)) (dg D_X12_rustiest (i := 37) rfl) ?_
            refine r_max (v := if ((amx (fun x => (rgS σ x (jv + 1)).1) NOTF (-1) x).2) < ((rgS σ x (jv + 1)).1) then ((rgS σ x (jv + 1)).1) else ((amx (fun x => (rgS σ x (jv + 1)).1) NOTF (-1) x).2)) X hR (by decide) LK_X12_258 (Nat.le_of_ble_eq_true rfl) hl hcs rfl (dg D_X12_rustiest (i := 38) rfl) ?_
            refine lv_istore_n (lv' := [(3, .int (if ((amx (fun x => (rgS σ x (jv + 1)).1) NOTF (-1) x).2) < ((rgS σ x (jv + 1)).1) then ((rgS σ x (jv + 1)).1) else ((amx (fun x => (rgS σ x (jv + 1)).1) NOTF (-1) x).2))), (2, .int (nI x)), (0, .ref (bs + 67)), (1, .int (nI jv)), (4, .int (nI x))]) hx hb (dg D_X12_rustiest (i := 39) rfl) rfl hl (by decide) rfl (fun ls hl => ?_)
            refine lv_iinc (v := nI (x + 1)) (lv' := [(4, .int (nI (x + 1))), (3, .int (if ((amx (fun x => (rgS σ x (jv + 1)).1) NOTF (-1) x).2) < ((rgS σ x (jv + 1)).1) then ((rgS σ x (jv + 1)).1) else ((amx (fun x => (rgS σ x (jv + 1)).1) NOTF (-1) x).2))), (2, .int (nI x)), (0, .ref (bs + 67)), (1, .int (nI jv))]) hx hb (dg D_X12_rustiest (i := 40) rfl) hl (k := 4) rfl (nI_add _ _) (by decide) rfl (fun ls hl => ?_)
            refine lv_goto (tgt := 22) hx hb (dg D_X12_rustiest (i := 41) rfl) (by decide) ?_
            exact ih22 (by omega) I36 _ _ _ _ _ _ (by first | rw [amx_y c46] | rw [amx_n c46]) (by first | rw [amx_y c46, if_pos (Int32.not_le.mp c46)] | rw [amx_n c46, if_neg (Int32.not_lt.mpr c46)]) (congrArg nI (by omega)) hF hs hth hW hS (lv_sub hl [3, 4, 2, 1, 0] rfl))
    exact loop22 0 (Nat.zero_le _) I6 _ _ _ _ _ _ (rfl) (rfl) (congrArg nI (by omega)) hF hs hth hW hS (lv_sub hl [3, 4, 2, 1, 0] rfl)
  · refine n_iconst (a := 0) hx hb (dg D_X12_rustiest (i := 6) rfl) rfl ?_
    exact fin (dg D_X12_rustiest (i := 7) rfl) hW hS ⟨fun z => absurd z (by rw [c9]; decide), hF, hth, rfl, rfl⟩

set_option maxHeartbeats 4000000 in
set_option maxRecDepth 100000 in
theorem c_X12_isAhead {l : Launch} {G : va_G} {bs : Nat} {cy : Nat → ClassId} {I : CI} {L : CL} {R : CR} (fy : Nat → Int32) (lr : Nat → Int32) (n : Nat) (a : Nat) (b : Nat) (hfy : rowP I 78 n fy) (hlr : rowP I 79 n lr) (hn : n ≤ 12) (ha : a < n) (hb5 : b < n) : MTi l G bs cy MX12_isAhead 1 [.ref (bs + 67), .int (nI a), .int (nI b)] I L R (fun r I1 L1 R1 => bI (ahd fy lr a b) = r ∧ I = I1 ∧ L = L1 ∧ R = R1) := by
  refine MTz.of (own := RX12) pn_RX12 rfl (Nat.le_of_ble_eq_true rfl) ?_
  intro p e s m args below meth c Qf X hW hS fin ls hl
  have hx := X.1
  have hb := X.2.1
  have hR : RmOK (rmL 1 0 0) 1 := ⟨rfl, rfl⟩
  have hcs : 0 ≤ (rmL 1 0 0).cells ∧ 0 ≤ (rmL 1 0 0).slots := ⟨Nat.zero_le _, Nat.zero_le _⟩
  have hl : lv_has ls 3 [(0, .ref (bs + 67)), (1, .int (nI a)), (2, .int (nI b))] := hl
  refine lv_aload_n hx hb (dg D_X12_isAhead (i := 0) rfl) rfl (lv_at hl 0 rfl) ?_
  refine r_getc (t := 78) X hW FI_X12_46 rfl (by decide) rfl (dg D_X12_isAhead (i := 1) rfl) ?_
  refine lv_iload_n hx hb (dg D_X12_isAhead (i := 2) rfl) rfl (lv_at hl 1 rfl) ?_
  refine r_ald (j := a) (v := fy a) X hW rfl (by decide) rfl (by omega) (by decide) (hfy _ (by omega)) (dg D_X12_isAhead (i := 3) rfl) ?_
  refine lv_aload_n hx hb (dg D_X12_isAhead (i := 4) rfl) rfl (lv_at hl 0 rfl) ?_
  refine r_getc (t := 78) X hW FI_X12_46 rfl (by decide) rfl (dg D_X12_isAhead (i := 5) rfl) ?_
  refine lv_iload_n hx hb (dg D_X12_isAhead (i := 6) rfl) rfl (lv_at hl 2 rfl) ?_
  refine r_ald (j := b) (v := fy b) X hW rfl (by decide) rfl (by omega) (by decide) (hfy _ (by omega)) (dg D_X12_isAhead (i := 7) rfl) ?_
  refine lv_icmp_eq (tgt := 36) hx hb (dg D_X12_isAhead (i := 8) rfl) (by decide) (fun c12 => ?_) (fun c12 => ?_)
  · refine lv_aload_n hx hb (dg D_X12_isAhead (i := 22) rfl) rfl (lv_at hl 0 rfl) ?_
    refine r_getc (t := 79) X hW FI_X12_49 rfl (by decide) rfl (dg D_X12_isAhead (i := 23) rfl) ?_
    refine lv_iload_n hx hb (dg D_X12_isAhead (i := 24) rfl) rfl (lv_at hl 1 rfl) ?_
    refine r_ald (j := a) (v := lr a) X hW rfl (by decide) rfl (by omega) (by decide) (hlr _ (by omega)) (dg D_X12_isAhead (i := 25) rfl) ?_
    refine lv_aload_n hx hb (dg D_X12_isAhead (i := 26) rfl) rfl (lv_at hl 0 rfl) ?_
    refine r_getc (t := 79) X hW FI_X12_49 rfl (by decide) rfl (dg D_X12_isAhead (i := 27) rfl) ?_
    refine lv_iload_n hx hb (dg D_X12_isAhead (i := 28) rfl) rfl (lv_at hl 2 rfl) ?_
    refine r_ald (j := b) (v := lr b) X hW rfl (by decide) rfl (by omega) (by decide) (hlr _ (by omega)) (dg D_X12_isAhead (i := 29) rfl) ?_
    refine lv_icmp_eq (tgt := 74) hx hb (dg D_X12_isAhead (i := 30) rfl) (by decide) (fun c48 => ?_) (fun c48 => ?_)
    · refine lv_iload_n hx hb (dg D_X12_isAhead (i := 44) rfl) rfl (lv_at hl 1 rfl) ?_
      refine lv_iload_n hx hb (dg D_X12_isAhead (i := 45) rfl) rfl (lv_at hl 2 rfl) ?_
      refine n_icmp_ge (tgt := 83) hx hb (by omega) (by omega) (dg D_X12_isAhead (i := 46) rfl) (by decide) (fun c76 => ?_) (fun c76 => ?_)
      · refine n_iconst (a := 0) hx hb (dg D_X12_isAhead (i := 49) rfl) rfl ?_
        exact fin (dg D_X12_isAhead (i := 50) rfl) hW hS (show _ = bI false from rfl) ⟨congrArg bI (by unfold ahd; first | rw [if_pos c12, decide_eq_true (Int32.not_le.mp c27)] | rw [if_pos c12, decide_eq_false (Int32.not_lt.mpr c27)] | rw [if_neg (fun z => z c12), if_neg (fun z => z c48), decide_eq_true c76] | rw [if_neg (fun z => z c12), if_neg (fun z => z c48), decide_eq_false (by omega)] | rw [if_neg (fun z => z c12), if_pos c48, decide_eq_true (Int32.not_le.mp c63)] | rw [if_neg (fun z => z c12), if_pos c48, decide_eq_false (Int32.not_lt.mpr c63)]), rfl, rfl, rfl⟩
      · refine n_iconst (a := 1) hx hb (dg D_X12_isAhead (i := 47) rfl) rfl ?_
        refine lv_goto (tgt := 84) hx hb (dg D_X12_isAhead (i := 48) rfl) (by decide) ?_
        exact fin (dg D_X12_isAhead (i := 50) rfl) hW hS (show _ = bI true from rfl) ⟨congrArg bI (by unfold ahd; first | rw [if_pos c12, decide_eq_true (Int32.not_le.mp c27)] | rw [if_pos c12, decide_eq_false (Int32.not_lt.mpr c27)] | rw [if_neg (fun z => z c12), if_neg (fun z => z c48), decide_eq_true c76] | rw [if_neg (fun z => z c12), if_neg (fun z => z c48), decide_eq_false (by omega)] | rw [if_neg (fun z => z c12), if_pos c48, decide_eq_true (Int32.not_le.mp c63)] | rw [if_neg (fun z => z c12), if_pos c48, decide_eq_false (Int32.not_lt.mpr c63)]), rfl, rfl, rfl⟩
    · refine lv_aload_n hx hb (dg D_X12_isAhead (i := 31) rfl) rfl (lv_at hl 0 rfl) ?_
      refine r_getc (t := 79) X hW FI_X12_49 rfl (by decide) rfl (dg D_X12_isAhead (i := 32) rfl) ?_
      refine lv_iload_n hx hb (dg D_X12_isAhead (i := 33) rfl) rfl (lv_at hl 1 rfl) ?_
      refine r_ald (j := a) (v := lr a) X hW rfl (by decide) rfl (by omega) (by decide) (hlr _ (by omega)) (dg D_X12_isAhead (i := 34) rfl) ?_
      refine lv_aload_n hx hb (dg D_X12_isAhead (i := 35) rfl) rfl (lv_at hl 0 rfl) ?_
      refine r_getc (t := 79) X hW FI_X12_49 rfl (by decide) rfl (dg D_X12_isAhead (i := 36) rfl) ?_
      refine lv_iload_n hx hb (dg D_X12_isAhead (i := 37) rfl) rfl (lv_at hl 2 rfl) ?_
      refine r_ald (j := b) (v := lr b) X hW rfl (by decide) rfl (by omega) (by decide) (hlr _ (by omega)) (dg D_X12_isAhead (i := 38) rfl) ?_
      refine lv_icmp_le (tgt := 70) hx hb (dg D_X12_isAhead (i := 39) rfl) (by decide) (fun c63 => ?_) (fun c63 => ?_)
      · refine n_iconst (a := 0) hx hb (dg D_X12_isAhead (i := 42) rfl) rfl ?_
        refine lv_goto (tgt := 84) hx hb (dg D_X12_isAhead (i := 43) rfl) (by decide) ?_
        exact fin (dg D_X12_isAhead (i := 50) rfl) hW hS (show _ = bI false from rfl) ⟨congrArg bI (by unfold ahd; first | rw [if_pos c12, decide_eq_true (Int32.not_le.mp c27)] | rw [if_pos c12, decide_eq_false (Int32.not_lt.mpr c27)] | rw [if_neg (fun z => z c12), if_neg (fun z => z c48), decide_eq_true c76] | rw [if_neg (fun z => z c12), if_neg (fun z => z c48), decide_eq_false (by omega)] | rw [if_neg (fun z => z c12), if_pos c48, decide_eq_true (Int32.not_le.mp c63)] | rw [if_neg (fun z => z c12), if_pos c48, decide_eq_false (Int32.not_lt.mpr c63)]), rfl, rfl, rfl⟩
      · refine n_iconst (a := 1) hx hb (dg D_X12_isAhead (i := 40) rfl) rfl ?_
        refine lv_goto (tgt := 84) hx hb (dg D_X12_isAhead (i := 41) rfl) (by decide) ?_
        exact fin (dg D_X12_isAhead (i := 50) rfl) hW hS (show _ = bI true from rfl) ⟨congrArg bI (by unfold ahd; first | rw [if_pos c12, decide_eq_true (Int32.not_le.mp c27)] | rw [if_pos c12, decide_eq_false (Int32.not_lt.mpr c27)] | rw [if_neg (fun z => z c12), if_neg (fun z => z c48), decide_eq_true c76] | rw [if_neg (fun z => z c12), if_neg (fun z => z c48), decide_eq_false (by omega)] | rw [if_neg (fun z => z c12), if_pos c48, decide_eq_true (Int32.not_le.mp c63)] | rw [if_neg (fun z => z c12), if_pos c48, decide_eq_false (Int32.not_lt.mpr c63)]), rfl, rfl, rfl⟩
  · refine lv_aload_n hx hb (dg D_X12_isAhead (i := 9) rfl) rfl (lv_at hl 0 rfl) ?_
    refine r_getc (t := 78) X hW FI_X12_46 rfl (by decide) rfl (dg D_X12_isAhead (i := 10) rfl) ?_
    refine lv_iload_n hx hb (dg D_X12_isAhead (i := 11) rfl) rfl (lv_at hl 1 rfl) ?_
    refine r_ald (j := a) (v := fy a) X hW rfl (by decide) rfl (by omega) (by decide) (hfy _ (by omega)) (dg D_X12_isAhead (i := 12) rfl) ?_
    refine lv_aload_n hx hb (dg D_X12_isAhead (i := 13) rfl) rfl (lv_at hl 0 rfl) ?_
    refine r_getc (t := 78) X hW FI_X12_46 rfl (by decide) rfl (dg D_X12_isAhead (i := 14) rfl) ?_
    refine lv_iload_n hx hb (dg D_X12_isAhead (i := 15) rfl) rfl (lv_at hl 2 rfl) ?_
    refine r_ald (j := b) (v := fy b) X hW rfl (by decide) rfl (by omega) (by decide) (hfy _ (by omega)) (dg D_X12_isAhead (i := 16) rfl) ?_
    refine lv_icmp_ge (tgt := 34) hx hb (dg D_X12_isAhead (i := 17) rfl) (by decide) (fun c27 => ?_) (fun c27 => ?_)
    · refine n_iconst (a := 0) hx hb (dg D_X12_isAhead (i := 20) rfl) rfl ?_
      exact fin (dg D_X12_isAhead (i := 21) rfl) hW hS (show _ = bI false from rfl) ⟨congrArg bI (by unfold ahd; first | rw [if_pos c12, decide_eq_true (Int32.not_le.mp c27)] | rw [if_pos c12, decide_eq_false (Int32.not_lt.mpr c27)] | rw [if_neg (fun z => z c12), if_neg (fun z => z c48), decide_eq_true c76] | rw [if_neg (fun z => z c12), if_neg (fun z => z c48), decide_eq_false (by omega)] | rw [if_neg (fun z => z c12), if_pos c48, decide_eq_true (Int32.not_le.mp c63)] | rw [if_neg (fun z => z c12), if_pos c48, decide_eq_false (Int32.not_lt.mpr c63)]), rfl, rfl, rfl⟩
    · refine n_iconst (a := 1) hx hb (dg D_X12_isAhead (i := 18) rfl) rfl ?_
      refine lv_goto (tgt := 35) hx hb (dg D_X12_isAhead (i := 19) rfl) (by decide) ?_
      exact fin (dg D_X12_isAhead (i := 21) rfl) hW hS (show _ = bI true from rfl) ⟨congrArg bI (by unfold ahd; first | rw [if_pos c12, decide_eq_true (Int32.not_le.mp c27)] | rw [if_pos c12, decide_eq_false (Int32.not_lt.mpr c27)] | rw [if_neg (fun z => z c12), if_neg (fun z => z c48), decide_eq_true c76] | rw [if_neg (fun z => z c12), if_neg (fun z => z c48), decide_eq_false (by omega)] | rw [if_neg (fun z => z c12), if_pos c48, decide_eq_true (Int32.not_le.mp c63)] | rw [if_neg (fun z => z c12), if_pos c48, decide_eq_false (Int32.not_lt.mpr c63)]), rfl, rfl, rfl⟩

set_option maxHeartbeats 4000000 in
set_option maxRecDepth 100000 in
theorem c_X12_ranked {l : Launch} {G : va_G} {bs : Nat} {cy : Nat → ClassId} {I : CI} {L : CL} {R : CR} (σ : Row) (fy : Nat → Int32) (lr : Nat → Int32) (k : Int32) (hs : I 68 = σ) (hi : Inv σ) (hfy : rowP I 78 (nS σ) fy) (hlr : rowP I 79 (nS σ) lr) : MTi l G bs cy MX12_ranked 2 [.ref (bs + 67), .int k] I L R (fun r I1 L1 R1 => rkd fy lr (nS σ) k = r ∧ I = I1 ∧ L = L1 ∧ R = R1) := by
  refine MTi.of (own := RX12) pn_RX12 rfl (Nat.le_of_ble_eq_true rfl) ?_
  intro p e s m args below meth c Qf X hW hS fin ls hl
  have hx := X.1
  have hb := X.2.1
  have hR : RmOK (rmL 2 0 0) 2 := ⟨rfl, rfl⟩
  have hcs : 0 ≤ (rmL 2 0 0).cells ∧ 0 ≤ (rmL 2 0 0).slots := ⟨Nat.zero_le _, Nat.zero_le _⟩
  have hl : lv_has ls 5 [(0, .ref (bs + 67)), (1, .int k)] := hl
  obtain ⟨hY, hY1, hY12, hLn, hL4, hSn, hS12, hGn, hG5⟩ := id hi
  refine n_iconst (a := 0) hx hb (dg D_X12_ranked (i := 0) rfl) rfl ?_
  refine lv_istore_n (lv' := [(2, .int (nI 0)), (0, .ref (bs + 67)), (1, .int k)]) hx hb (dg D_X12_ranked (i := 1) rfl) rfl hl (by decide) rfl (fun ls hl => ?_)
  have loop2 := up_ind (P := fun x => ∀ (H : Heap) (locs : List Loc) (ls : Array Slot) (v2 : Int32), v2 = nI x → (∀ z, z < x → decide (sumT (fun k => if ahd fy lr k z = true then nI 1 else nI 0) (nS σ) = k) = false) → Wd G bs cy I L R H → va_S (Aq bs) s.heap H locs → lv_has ls 5 [(0, .ref (bs + 67)), (1, .int k), (2, .int v2)] → W p l e (rmL 2 0 0) s m args below meth c H locs 0 0 Qf (F0 m 2 ls [])) (nS σ) (fun x hx2 ih2 => by
      intro H locs ls v2 q2 hn hW hS hl
      subst q2
      refine lv_iload_n hx hb (dg D_X12_ranked (i := 2) rfl) rfl (lv_at hl 2 rfl) ?_
      refine lv_aload_n hx hb (dg D_X12_ranked (i := 3) rfl) rfl (lv_at hl 0 rfl) ?_
      refine r_getc (t := 68) X hW FI_X12_7 rfl (by decide) rfl (dg D_X12_ranked (i := 4) rfl) ?_
      refine n_iconst (a := 4) hx hb (dg D_X12_ranked (i := 5) rfl) rfl ?_
      refine r_ald (j := 4) (v := nI (nS σ)) X hW rfl (by decide) rfl (by omega) (by decide) ((congrFun hs _).trans hSn) (dg D_X12_ranked (i := 6) rfl) ?_
      refine n_icmp_ge (tgt := 65) hx hb (by omega) (by omega) (dg D_X12_ranked (i := 7) rfl) (by decide) (fun c9 => ?_) (fun c9 => ?_)
      · refine r_ldc X CK_X12_28 (dg D_X12_ranked (i := 38) rfl) ?_
        exact fin (dg D_X12_ranked (i := 39) rfl) hW hS ⟨fstI_none (fun z hz => hn z (by omega)), rfl, rfl, rfl⟩
      · refine n_iconst (a := 0) hx hb (dg D_X12_ranked (i := 8) rfl) rfl ?_
        refine lv_istore_n (lv' := [(3, .int (nI 0)), (0, .ref (bs + 67)), (1, .int k), (2, .int (nI x))]) hx hb (dg D_X12_ranked (i := 9) rfl) rfl hl (by decide) rfl (fun ls hl => ?_)
        refine n_iconst (a := 0) hx hb (dg D_X12_ranked (i := 10) rfl) rfl ?_
        refine lv_istore (lv' := [(4, .int (nI 0)), (3, .int (nI 0)), (0, .ref (bs + 67)), (1, .int k), (2, .int (nI x))]) hx hb (dg D_X12_ranked (i := 11) rfl) hl (by decide) rfl (fun ls hl => ?_)
        have loop17 := up_ind (P := fun y => ∀ (H : Heap) (locs : List Loc) (ls : Array Slot) (v3 : Int32) (v4 : Int32), v3 = sumT (fun k => if ahd fy lr k x = true then nI 1 else nI 0) y → v4 = nI y → Wd G bs cy I L R H → va_S (Aq bs) s.heap H locs → lv_has ls 5 [(0, .ref (bs + 67)), (1, .int k), (2, .int (nI x)), (3, .int v3), (4, .int v4)] → W p l e (rmL 2 0 0) s m args below meth c H locs 0 0 Qf (F0 m 17 ls [])) (nS σ) (fun y hx17 ih17 => by
            intro H locs ls v3 v4 q3 q4 hW hS hl
            subst q3
            subst q4
            refine lv_iload hx hb (dg D_X12_ranked (i := 12) rfl) (lv_at hl 4 rfl) ?_
            refine lv_aload_n hx hb (dg D_X12_ranked (i := 13) rfl) rfl (lv_at hl 0 rfl) ?_
            refine r_getc (t := 68) X hW FI_X12_7 rfl (by decide) rfl (dg D_X12_ranked (i := 14) rfl) ?_
            refine n_iconst (a := 4) hx hb (dg D_X12_ranked (i := 15) rfl) rfl ?_
            refine r_ald (j := 4) (v := nI (nS σ)) X hW rfl (by decide) rfl (by omega) (by decide) ((congrFun hs _).trans hSn) (dg D_X12_ranked (i := 16) rfl) ?_
            refine n_icmp_ge (tgt := 52) hx hb (by omega) (by omega) (dg D_X12_ranked (i := 17) rfl) (by decide) (fun c25 => ?_) (fun c25 => ?_)
            · refine lv_iload_n hx hb (dg D_X12_ranked (i := 31) rfl) rfl (lv_at hl 3 rfl) ?_
              refine lv_iload_n hx hb (dg D_X12_ranked (i := 32) rfl) rfl (lv_at hl 1 rfl) ?_
              refine lv_icmp_ne (tgt := 59) hx hb (dg D_X12_ranked (i := 33) rfl) (by decide) (fun c54 => ?_) (fun c54 => ?_)
              · refine lv_iinc (v := nI (x + 1)) (lv' := [(2, .int (nI (x + 1))), (0, .ref (bs + 67)), (1, .int k), (3, .int (sumT (fun k => if ahd fy lr k x = true then nI 1 else nI 0) y)), (4, .int (nI y))]) hx hb (dg D_X12_ranked (i := 36) rfl) hl (k := 2) rfl (nI_add _ _) (by decide) rfl (fun ls hl => ?_)
                refine lv_goto (tgt := 2) hx hb (dg D_X12_ranked (i := 37) rfl) (by decide) ?_
                exact ih2 (by omega) _ _ _ _ (congrArg nI (by omega)) (all_lt_succ (p := fun z => decide (sumT (fun k => if ahd fy lr k z = true then nI 1 else nI 0) (nS σ) = k)) hn (decide_eq_false (by rw [show nS σ = y by omega]; exact c54))) hW hS (lv_sub hl [1, 2, 0] rfl)
              · refine lv_iload_n hx hb (dg D_X12_ranked (i := 34) rfl) rfl (lv_at hl 2 rfl) ?_
                exact fin (dg D_X12_ranked (i := 35) rfl) hW hS ⟨fstI_hit (by omega) (decide_eq_true (by rw [show nS σ = y by omega]; exact c54)) hn, rfl, rfl, rfl⟩
            · refine lv_iload_n hx hb (dg D_X12_ranked (i := 18) rfl) rfl (lv_at hl 3 rfl) ?_
              refine lv_aload_n hx hb (dg D_X12_ranked (i := 19) rfl) rfl (lv_at hl 0 rfl) ?_
              refine lv_iload hx hb (dg D_X12_ranked (i := 20) rfl) (lv_at hl 4 rfl) ?_
              refine lv_iload_n hx hb (dg D_X12_ranked (i := 21) rfl) rfl (lv_at hl 2 rfl) ?_
              refine callVi X hW hS hR (c_X12_isAhead (I := I) fy lr (nS σ) y x (by first | assumption | omega | decide | exact hP.1) (by first | assumption | omega | decide | exact hP.1) (by first | assumption | omega | decide | exact hP.1) (by first | assumption | omega | decide | exact hP.1) (by first | assumption | omega | decide | exact hP.1)) (by decide) UVX12_isAhead LK_X12_264 rfl (by decide) rfl rfl rfl (Nat.le_of_ble_eq_true rfl) hl hcs (dg D_X12_ranked (i := 22) rfl) (fun r33 I33 L1 R1 H locs hq hW hS => ?_)
              obtain ⟨rfl, rfl, rfl, rfl⟩ := hq
              refine z_if_eq (tgt := 43) hx hb (dg D_X12_ranked (i := 23) rfl) (by decide) (fun c36 => ?_) (fun c36 => ?_)
              · refine n_iconst (a := 0) hx hb (dg D_X12_ranked (i := 26) rfl) rfl ?_
                refine lv_iadd hx hb (dg D_X12_ranked (i := 27) rfl) ?_
                refine lv_istore_n (lv' := [(3, .int ((sumT (fun k => if ahd fy lr k x = true then nI 1 else nI 0) y) + (nI 0))), (0, .ref (bs + 67)), (1, .int k), (2, .int (nI x)), (4, .int (nI y))]) hx hb (dg D_X12_ranked (i := 28) rfl) rfl hl (by decide) rfl (fun ls hl => ?_)
                refine lv_iinc (v := nI (y + 1)) (lv' := [(4, .int (nI (y + 1))), (3, .int ((sumT (fun k => if ahd fy lr k x = true then nI 1 else nI 0) y) + (nI 0))), (0, .ref (bs + 67)), (1, .int k), (2, .int (nI x))]) hx hb (dg D_X12_ranked (i := 29) rfl) hl (k := 4) rfl (nI_add _ _) (by decide) rfl (fun ls hl => ?_)
                refine lv_goto (tgt := 17) hx hb (dg D_X12_ranked (i := 30) rfl) (by decide) ?_
                exact ih17 (by omega) _ _ _ _ _ (by show _ = _ + (if ahd fy lr y x = true then nI 1 else nI 0); first | rw [if_pos c36] | rw [if_neg (by rw [c36]; decide)]) (congrArg nI (by omega)) hW hS (lv_sub hl [2, 3, 4, 1, 0] rfl)
              · refine n_iconst (a := 1) hx hb (dg D_X12_ranked (i := 24) rfl) rfl ?_
                refine lv_goto (tgt := 44) hx hb (dg D_X12_ranked (i := 25) rfl) (by decide) ?_
                refine lv_iadd hx hb (dg D_X12_ranked (i := 27) rfl) ?_
                refine lv_istore_n (lv' := [(3, .int ((sumT (fun k => if ahd fy lr k x = true then nI 1 else nI 0) y) + (nI 1))), (0, .ref (bs + 67)), (1, .int k), (2, .int (nI x)), (4, .int (nI y))]) hx hb (dg D_X12_ranked (i := 28) rfl) rfl hl (by decide) rfl (fun ls hl => ?_)
                refine lv_iinc (v := nI (y + 1)) (lv' := [(4, .int (nI (y + 1))), (3, .int ((sumT (fun k => if ahd fy lr k x = true then nI 1 else nI 0) y) + (nI 1))), (0, .ref (bs + 67)), (1, .int k), (2, .int (nI x))]) hx hb (dg D_X12_ranked (i := 29) rfl) hl (k := 4) rfl (nI_add _ _) (by decide) rfl (fun ls hl => ?_)
                refine lv_goto (tgt := 17) hx hb (dg D_X12_ranked (i := 30) rfl) (by decide) ?_
                exact ih17 (by omega) _ _ _ _ _ (by show _ = _ + (if ahd fy lr y x = true then nI 1 else nI 0); first | rw [if_pos c36] | rw [if_neg (by rw [c36]; decide)]) (congrArg nI (by omega)) hW hS (lv_sub hl [2, 3, 4, 1, 0] rfl))
        exact loop17 0 (Nat.zero_le _) _ _ _ _ _ (rfl) (congrArg nI (by omega)) hW hS (lv_sub hl [2, 3, 4, 1, 0] rfl))
  exact loop2 0 (Nat.zero_le _) _ _ _ _ (congrArg nI (by omega)) (fun z hz => absurd hz (Nat.not_lt_zero z)) hW hS (lv_sub hl [1, 2, 0] rfl)

set_option maxHeartbeats 4000000 in
set_option maxRecDepth 100000 in
theorem c_X12_unpaintedPast {l : Launch} {G : va_G} {bs : Nat} {cy : Nat → ClassId} {I : CI} {L : CL} {R : CR} (σ : Row) (v : Int32) (hs : I 68 = σ) (hi : Inv σ) : MTi l G bs cy MX12_unpaintedPast 4 [.ref (bs + 67), .int v] I L R (fun r I1 L1 R1 => ((inB v (nS σ)) = true → r = fpB σ (tN v) (fun _ => false)) ∧ Fr SLT I I1 ∧ I1 67 6 = thr (inB v (nS σ)) ∧ L = L1 ∧ R = R1) := by
  refine MTi.of (own := RX12) pn_RX12 rfl (Nat.le_of_ble_eq_true rfl) ?_
  intro p e s m args below meth c Qf X hW hS fin ls hl
  have hx := X.1
  have hb := X.2.1
  have hR : RmOK (rmL 4 0 0) 4 := ⟨rfl, rfl⟩
  have hcs : 0 ≤ (rmL 4 0 0).cells ∧ 0 ≤ (rmL 4 0 0).slots := ⟨Nat.zero_le _, Nat.zero_le _⟩
  have hl : lv_has ls 2 [(0, .ref (bs + 67)), (1, .int v)] := hl
  have hF : Fr SLT I I := Fr.rf
  obtain ⟨hY, hY1, hY12, hLn, hL4, hSn, hS12, hGn, hG5⟩ := id hi
  refine lv_aload_n hx hb (dg D_X12_unpaintedPast (i := 0) rfl) rfl (lv_at hl 0 rfl) ?_
  refine lv_aload_n hx hb (dg D_X12_unpaintedPast (i := 1) rfl) rfl (lv_at hl 0 rfl) ?_
  refine lv_iload_n hx hb (dg D_X12_unpaintedPast (i := 2) rfl) rfl (lv_at hl 1 rfl) ?_
  refine callVi X hW hS hR (c_X12_isSpan (I := I) σ v (by first | assumption | omega | decide | exact hP.1) (by first | assumption | omega | decide | exact hP.1)) (by decide) UVX12_isSpan LK_X12_88 rfl (by decide) rfl rfl rfl (Nat.le_of_ble_eq_true rfl) hl hcs (dg D_X12_unpaintedPast (i := 3) rfl) (fun r3 I3 L1 R1 H locs hq hW hS => ?_)
  obtain ⟨rfl, rfl, rfl, rfl⟩ := hq
  refine callVi X hW hS hR (c_X12_good (I := I) (inB v (nS σ))) (by decide) UVX12_good LK_X12_95 rfl (by decide) rfl rfl rfl (Nat.le_of_ble_eq_true rfl) hl hcs (dg D_X12_unpaintedPast (i := 4) rfl) (fun r6 I6 L1 R1 H locs hq hW hS => ?_)
  obtain ⟨rfl, hT6, hp6_0, rfl, rfl⟩ := hq
  have hF : Fr SLT I I6 := Fr.tr hF hT6 (by intro a j h; simp only [ST, SLT, Bool.or_eq_true, Bool.and_eq_true, beq_iff_eq, decide_eq_true_eq] at h ⊢; omega)
  have hs : I6 68 = σ := by rw [Fr.row hT6 (fun _ => rfl)]; exact hs
  have hth : I6 67 6 = thr (inB v (nS σ)) := hp6_0
  refine z_if_eq (tgt := 21) hx hb (dg D_X12_unpaintedPast (i := 5) rfl) (by decide) (fun c9 => ?_) (fun c9 => ?_)
  · refine n_iconst (a := 0) hx hb (dg D_X12_unpaintedPast (i := 11) rfl) rfl ?_
    exact fin (dg D_X12_unpaintedPast (i := 12) rfl) hW hS ⟨fun z => absurd z (by rw [c9]; decide), hF, hth, rfl, rfl⟩
  · obtain ⟨jv, hjv, rfl⟩ := inB_of c9 (by omega)
    refine lv_aload_n hx hb (dg D_X12_unpaintedPast (i := 6) rfl) rfl (lv_at hl 0 rfl) ?_
    refine lv_iload_n hx hb (dg D_X12_unpaintedPast (i := 7) rfl) rfl (lv_at hl 1 rfl) ?_
    refine n_iconst (a := 0) hx hb (dg D_X12_unpaintedPast (i := 8) rfl) rfl ?_
    refine callVi X hW hS hR (c_X12_pastBy (I := I6) σ jv (nI 0) (by first | assumption | omega | decide | exact hP.1) (by first | assumption | omega | decide | exact hP.1) (by first | assumption | omega | decide | exact hP.1)) (by decide) UVX12_pastBy LK_X12_267 rfl (by decide) rfl rfl rfl (Nat.le_of_ble_eq_true rfl) hl hcs (dg D_X12_unpaintedPast (i := 9) rfl) (fun r15 I15 L1 R1 H locs hq hW hS => ?_)
    obtain ⟨rfl, hT15, rfl, rfl⟩ := hq
    have hF : Fr SLT I I15 := Fr.tr hF hT15 (by intro a j h; simp only [SL, SLT, Bool.or_eq_true, Bool.and_eq_true, beq_iff_eq, decide_eq_true_eq] at h ⊢; omega)
    have hs : I15 68 = σ := by rw [Fr.row hT15 (fun _ => rfl)]; exact hs
    have hth : I15 67 6 = thr (inB (nI jv) (nS σ)) := (hT15 67 6 rfl).trans hth
    refine lv_goto (tgt := 22) hx hb (dg D_X12_unpaintedPast (i := 10) rfl) (by decide) ?_
    exact fin (dg D_X12_unpaintedPast (i := 12) rfl) hW hS ⟨fun _ => by rw [tN_nI (show jv < 2 ^ 31 by omega)]; exact fpB_0 hY12 jv, hF, hth, rfl, rfl⟩

set_option maxHeartbeats 4000000 in
set_option maxRecDepth 100000 in
theorem c_X12_bits {l : Launch} {G : va_G} {bs : Nat} {cy : Nat → ClassId} {I : CI} {L : CL} {R : CR} (v : Int32) : MTi l G bs cy MX12_bits 1 [.int v] I L R (fun r I1 L1 R1 => cnt16 v = r ∧ I = I1 ∧ L = L1 ∧ R = R1) := by
  refine MTi.of (own := RX12) pn_RX12 rfl (Nat.le_of_ble_eq_true rfl) ?_
  intro p e s m args below meth c Qf X hW hS fin ls hl
  have hx := X.1
  have hb := X.2.1
  have hR : RmOK (rmL 1 0 0) 1 := ⟨rfl, rfl⟩
  have hcs : 0 ≤ (rmL 1 0 0).cells ∧ 0 ≤ (rmL 1 0 0).slots := ⟨Nat.zero_le _, Nat.zero_le _⟩
  have hl : lv_has ls 3 [(0, .int v)] := hl
  refine n_iconst (a := 0) hx hb (dg D_X12_bits (i := 0) rfl) rfl ?_
  refine lv_istore_n (lv' := [(1, .int (nI 0)), (0, .int v)]) hx hb (dg D_X12_bits (i := 1) rfl) rfl hl (by decide) rfl (fun ls hl => ?_)
  refine n_iconst (a := 0) hx hb (dg D_X12_bits (i := 2) rfl) rfl ?_
  refine lv_istore_n (lv' := [(2, .int (nI 0)), (1, .int (nI 0)), (0, .int v)]) hx hb (dg D_X12_bits (i := 3) rfl) rfl hl (by decide) rfl (fun ls hl => ?_)
  have loop4 := up_ind (P := fun k => ∀ (H : Heap) (locs : List Loc) (ls : Array Slot) (v1 : Int32) (v2 : Int32), v1 = sumT (fun k => (v >>> (nI k &&& 31)) &&& nI 1) k → v2 = nI k → Wd G bs cy I L R H → va_S (Aq bs) s.heap H locs → lv_has ls 3 [(0, .int v), (1, .int v1), (2, .int v2)] → W p l e (rmL 1 0 0) s m args below meth c H locs 0 0 Qf (F0 m 4 ls [])) 16 (fun k hx4 ih4 => by
      intro H locs ls v1 v2 q1 q2 hW hS hl
      subst q1
      subst q2
      refine lv_iload_n hx hb (dg D_X12_bits (i := 4) rfl) rfl (lv_at hl 2 rfl) ?_
      refine lv_bipush (v := nI 16) hx hb (dg D_X12_bits (i := 5) rfl) (by decide) ?_
      refine n_icmp_ge (tgt := 24) hx hb (by omega) (by omega) (dg D_X12_bits (i := 6) rfl) (by decide) (fun c7 => ?_) (fun c7 => ?_)
      · refine lv_iload_n hx hb (dg D_X12_bits (i := 17) rfl) rfl (lv_at hl 1 rfl) ?_
        exact fin (dg D_X12_bits (i := 18) rfl) hW hS ⟨by rw [show k = 16 by omega]; rfl, rfl, rfl, rfl⟩
      · refine lv_iload_n hx hb (dg D_X12_bits (i := 7) rfl) rfl (lv_at hl 1 rfl) ?_
        refine lv_iload_n hx hb (dg D_X12_bits (i := 8) rfl) rfl (lv_at hl 0 rfl) ?_
        refine lv_iload_n hx hb (dg D_X12_bits (i := 9) rfl) rfl (lv_at hl 2 rfl) ?_
        refine lv_ishr hx hb (dg D_X12_bits (i := 10) rfl) ?_
        refine n_iconst (a := 1) hx hb (dg D_X12_bits (i := 11) rfl) rfl ?_
        refine lv_iand hx hb (dg D_X12_bits (i := 12) rfl) ?_
        refine lv_iadd hx hb (dg D_X12_bits (i := 13) rfl) ?_
        refine lv_istore_n (lv' := [(1, .int ((sumT (fun k => (v >>> (nI k &&& 31)) &&& nI 1) k) + ((v >>> ((nI k) &&& 31)) &&& (nI 1)))), (0, .int v), (2, .int (nI k))]) hx hb (dg D_X12_bits (i := 14) rfl) rfl hl (by decide) rfl (fun ls hl => ?_)
        refine lv_iinc (v := nI (k + 1)) (lv' := [(2, .int (nI (k + 1))), (1, .int ((sumT (fun k => (v >>> (nI k &&& 31)) &&& nI 1) k) + ((v >>> ((nI k) &&& 31)) &&& (nI 1)))), (0, .int v)]) hx hb (dg D_X12_bits (i := 15) rfl) hl (k := 2) rfl (nI_add _ _) (by decide) rfl (fun ls hl => ?_)
        refine lv_goto (tgt := 4) hx hb (dg D_X12_bits (i := 16) rfl) (by decide) ?_
        exact ih4 (by omega) _ _ _ _ _ (rfl) (congrArg nI (by omega)) hW hS (lv_sub hl [2, 1, 0] rfl))
  exact loop4 0 (Nat.zero_le _) _ _ _ _ _ (rfl) (congrArg nI (by omega)) hW hS (lv_sub hl [2, 1, 0] rfl)

set_option maxHeartbeats 4000000 in
set_option maxRecDepth 100000 in
theorem c_X12_effortOf {l : Launch} {G : va_G} {bs : Nat} {cy : Nat → ClassId} {I : CI} {L : CL} {R : CR} (σ : Row) (x : Nat) (y : Nat) (hs : I 68 = σ) (hi : Inv σ) (hx5 : x < 12) (hy5 : y < Yn σ) : MTi l G bs cy MX12_effortOf 4 [.ref (bs + 67), .int (nI x), .int (nI y)] I L R (fun r I1 L1 R1 => eff σ x y = r ∧ Fr SL I I1 ∧ L = L1 ∧ R = R1) := by
  refine MTi.of (own := RX12) pn_RX12 rfl (Nat.le_of_ble_eq_true rfl) ?_
  intro p e s m args below meth c Qf X hW hS fin ls hl
  have hx := X.1
  have hb := X.2.1
  have hR : RmOK (rmL 4 0 0) 4 := ⟨rfl, rfl⟩
  have hcs : 0 ≤ (rmL 4 0 0).cells ∧ 0 ≤ (rmL 4 0 0).slots := ⟨Nat.zero_le _, Nat.zero_le _⟩
  have hl : lv_has ls 3 [(0, .ref (bs + 67)), (1, .int (nI x)), (2, .int (nI y))] := hl
  have hF : Fr SL I I := Fr.rf
  obtain ⟨hY, hY1, hY12, hLn, hL4, hSn, hS12, hGn, hG5⟩ := id hi
  refine lv_aload_n hx hb (dg D_X12_effortOf (i := 0) rfl) rfl (lv_at hl 0 rfl) ?_
  refine lv_iload_n hx hb (dg D_X12_effortOf (i := 1) rfl) rfl (lv_at hl 1 rfl) ?_
  refine callVv X hW hS hR (c_X12_lay (I := I) σ x (by first | assumption | omega | decide | exact hP.1) (by first | assumption | omega | decide | exact hP.1) (by first | assumption | omega | decide | exact hP.1)) (by decide) UVX12_lay LK_X12_243 rfl (by decide) rfl rfl rfl (Nat.le_of_ble_eq_true rfl) hl hcs (dg D_X12_effortOf (i := 2) rfl) (fun I2 L1 R1 H locs hq hW hS => ?_)
  obtain ⟨hT2, hp2_0, hp2_1, hp2_2, rfl, rfl⟩ := hq
  have hF : Fr SL I I2 := Fr.tr hF hT2 (fun _ _ h => h)
  have hs : I2 68 = σ := by rw [Fr.row hT2 (fun _ => rfl)]; exact hs
  refine lv_aload_n hx hb (dg D_X12_effortOf (i := 3) rfl) rfl (lv_at hl 0 rfl) ?_
  refine lv_iload_n hx hb (dg D_X12_effortOf (i := 4) rfl) rfl (lv_at hl 1 rfl) ?_
  refine n_iconst (a := 1) hx hb (dg D_X12_effortOf (i := 5) rfl) rfl ?_
  refine callVi X hW hS hR (c_X12_spanOf (I := I2) σ x 1 (by first | assumption | omega | decide | exact hP.1) (by first | assumption | omega | decide | exact hP.1) (by first | assumption | omega | decide | exact hP.1)) (by decide) UVX12_spanOf LK_X12_224 rfl (by decide) rfl rfl rfl (Nat.le_of_ble_eq_true rfl) hl hcs (dg D_X12_effortOf (i := 6) rfl) (fun r8 I8 L1 R1 H locs hq hW hS => ?_)
  obtain ⟨rfl, rfl, rfl, rfl⟩ := hq
  refine lv_bipush (v := nI 100) hx hb (dg D_X12_effortOf (i := 7) rfl) (by decide) ?_
  refine lv_aload_n hx hb (dg D_X12_effortOf (i := 8) rfl) rfl (lv_at hl 0 rfl) ?_
  refine r_getc (t := 75) X hW FI_X12_37 rfl (by decide) rfl (dg D_X12_effortOf (i := 9) rfl) ?_
  refine lv_iload_n hx hb (dg D_X12_effortOf (i := 10) rfl) rfl (lv_at hl 2 rfl) ?_
  refine r_ald (j := y) (v := (rgS σ x y).1) X hW rfl (by decide) rfl (by omega) (by decide) (hp2_0 _ (by omega)) (dg D_X12_effortOf (i := 11) rfl) ?_
  refine lv_iadd hx hb (dg D_X12_effortOf (i := 12) rfl) ?_
  refine lv_imul hx hb (dg D_X12_effortOf (i := 13) rfl) ?_
  refine lv_bipush (v := nI 100) hx hb (dg D_X12_effortOf (i := 14) rfl) (by decide) ?_
  refine lv_idiv hx hb (dg D_X12_effortOf (i := 15) rfl) (by decide) ?_
  exact fin (dg D_X12_effortOf (i := 16) rfl) hW hS ⟨rfl, hF, rfl, rfl⟩

set_option maxHeartbeats 4000000 in
set_option maxRecDepth 100000 in
theorem c_X12_capacityOf {l : Launch} {G : va_G} {bs : Nat} {cy : Nat → ClassId} {I : CI} {L : CL} {R : CR} (σ : Row) (g : Nat) (y : Nat) (hs : I 68 = σ) (hg5 : g < 5) (hy5 : y < 12) : MTi l G bs cy MX12_capacityOf 2 [.ref (bs + 67), .int (nI g), .int (nI y)] I L R (fun r I1 L1 R1 => cap σ g y = r ∧ I = I1 ∧ L = L1 ∧ R = R1) := by
  refine MTi.of (own := RX12) pn_RX12 rfl (Nat.le_of_ble_eq_true rfl) ?_
  intro p e s m args below meth c Qf X hW hS fin ls hl
  have hx := X.1
  have hb := X.2.1
  have hR : RmOK (rmL 2 0 0) 2 := ⟨rfl, rfl⟩
  have hcs : 0 ≤ (rmL 2 0 0).cells ∧ 0 ≤ (rmL 2 0 0).slots := ⟨Nat.zero_le _, Nat.zero_le _⟩
  have hl : lv_has ls 3 [(0, .ref (bs + 67)), (1, .int (nI g)), (2, .int (nI y))] := hl
  refine lv_aload_n hx hb (dg D_X12_capacityOf (i := 0) rfl) rfl (lv_at hl 0 rfl) ?_
  refine lv_iload_n hx hb (dg D_X12_capacityOf (i := 1) rfl) rfl (lv_at hl 1 rfl) ?_
  refine n_iconst (a := 0) hx hb (dg D_X12_capacityOf (i := 2) rfl) rfl ?_
  refine callVi X hW hS hR (c_X12_propertyOf (I := I) σ g 0 (by first | assumption | omega | decide | exact hP.1) (by first | assumption | omega | decide | exact hP.1) (by first | assumption | omega | decide | exact hP.1)) (by decide) UVX12_propertyOf LK_X12_276 rfl (by decide) rfl rfl rfl (Nat.le_of_ble_eq_true rfl) hl hcs (dg D_X12_capacityOf (i := 3) rfl) (fun r3 I3 L1 R1 H locs hq hW hS => ?_)
  obtain ⟨rfl, rfl, rfl, rfl⟩ := hq
  refine lv_aload_n hx hb (dg D_X12_capacityOf (i := 4) rfl) rfl (lv_at hl 0 rfl) ?_
  refine r_getc (t := 68) X hW FI_X12_7 rfl (by decide) rfl (dg D_X12_capacityOf (i := 5) rfl) ?_
  refine lv_bipush (v := nI 80) hx hb (dg D_X12_capacityOf (i := 6) rfl) (by decide) ?_
  refine lv_iload_n hx hb (dg D_X12_capacityOf (i := 7) rfl) rfl (lv_at hl 2 rfl) ?_
  refine n_iadd hx hb (dg D_X12_capacityOf (i := 8) rfl) ?_
  refine r_ald (j := 80 + y) (v := σ (80 + y)) X hW rfl (by decide) rfl (by omega) (by decide) (congrFun hs _) (dg D_X12_capacityOf (i := 9) rfl) ?_
  refine lv_imul hx hb (dg D_X12_capacityOf (i := 10) rfl) ?_
  exact fin (dg D_X12_capacityOf (i := 11) rfl) hW hS ⟨rfl, rfl, rfl, rfl⟩

set_option maxHeartbeats 4000000 in
set_option maxRecDepth 100000 in
theorem c_X12_loadIn {l : Launch} {G : va_G} {bs : Nat} {cy : Nat → ClassId} {I : CI} {L : CL} {R : CR} (σ : Row) (g : Int32) (y : Nat) (hs : I 68 = σ) (hi : Inv σ) (hy5 : y < Yn σ) : MTi l G bs cy MX12_loadIn 5 [.ref (bs + 67), .int g, .int (nI y)] I L R (fun r I1 L1 R1 => lod σ g y = r ∧ Fr SL I I1 ∧ L = L1 ∧ R = R1) := by
  refine MTi.of (own := RX12) pn_RX12 rfl (Nat.le_of_ble_eq_true rfl) ?_
  intro p e s m args below meth c Qf X hW hS fin ls hl
  have hx := X.1
  have hb := X.2.1
  have hR : RmOK (rmL 5 0 0) 5 := ⟨rfl, rfl⟩
  have hcs : 0 ≤ (rmL 5 0 0).cells ∧ 0 ≤ (rmL 5 0 0).slots := ⟨Nat.zero_le _, Nat.zero_le _⟩
  have hl : lv_has ls 5 [(0, .ref (bs + 67)), (1, .int g), (2, .int (nI y))] := hl
  have hF : Fr SL I I := Fr.rf
  obtain ⟨hY, hY1, hY12, hLn, hL4, hSn, hS12, hGn, hG5⟩ := id hi
  refine n_iconst (a := 0) hx hb (dg D_X12_loadIn (i := 0) rfl) rfl ?_
  refine lv_istore_n (lv' := [(3, .int (nI 0)), (0, .ref (bs + 67)), (1, .int g), (2, .int (nI y))]) hx hb (dg D_X12_loadIn (i := 1) rfl) rfl hl (by decide) rfl (fun ls hl => ?_)
  refine n_iconst (a := 0) hx hb (dg D_X12_loadIn (i := 2) rfl) rfl ?_
  refine lv_istore (lv' := [(4, .int (nI 0)), (3, .int (nI 0)), (0, .ref (bs + 67)), (1, .int g), (2, .int (nI y))]) hx hb (dg D_X12_loadIn (i := 3) rfl) hl (by decide) rfl (fun ls hl => ?_)
  have loop5 := up_ind (P := fun x => ∀ (K5 : CI) (H : Heap) (locs : List Loc) (ls : Array Slot) (v3 : Int32) (v4 : Int32), v3 = sumT (fun x => if pnt σ x y = g then eff σ x y else nI 0) x → v4 = nI x → (Fr SL I K5) → (K5 68 = σ) → Wd G bs cy K5 L R H → va_S (Aq bs) s.heap H locs → lv_has ls 5 [(0, .ref (bs + 67)), (1, .int g), (2, .int (nI y)), (3, .int v3), (4, .int v4)] → W p l e (rmL 5 0 0) s m args below meth c H locs 0 0 Qf (F0 m 5 ls [])) (nS σ) (fun x hx5 ih5 => by
      intro K5 H locs ls v3 v4 q3 q4 hF hs hW hS hl
      subst q3
      subst q4
      refine lv_iload hx hb (dg D_X12_loadIn (i := 4) rfl) (lv_at hl 4 rfl) ?_
      refine lv_aload_n hx hb (dg D_X12_loadIn (i := 5) rfl) rfl (lv_at hl 0 rfl) ?_
      refine r_getc (t := 68) X hW FI_X12_7 rfl (by decide) rfl (dg D_X12_loadIn (i := 6) rfl) ?_
      refine n_iconst (a := 4) hx hb (dg D_X12_loadIn (i := 7) rfl) rfl ?_
      refine r_ald (j := 4) (v := nI (nS σ)) X hW rfl (by decide) rfl (by omega) (by decide) ((congrFun hs _).trans hSn) (dg D_X12_loadIn (i := 8) rfl) ?_
      refine n_icmp_ge (tgt := 47) hx hb (by omega) (by omega) (dg D_X12_loadIn (i := 9) rfl) (by decide) (fun c13 => ?_) (fun c13 => ?_)
      · refine lv_iload_n hx hb (dg D_X12_loadIn (i := 27) rfl) rfl (lv_at hl 3 rfl) ?_
        exact fin (dg D_X12_loadIn (i := 28) rfl) hW hS ⟨by rw [show x = nS σ by omega]; rfl, hF, rfl, rfl⟩
      · refine lv_iload_n hx hb (dg D_X12_loadIn (i := 10) rfl) rfl (lv_at hl 3 rfl) ?_
        refine lv_aload_n hx hb (dg D_X12_loadIn (i := 11) rfl) rfl (lv_at hl 0 rfl) ?_
        refine lv_iload hx hb (dg D_X12_loadIn (i := 12) rfl) (lv_at hl 4 rfl) ?_
        refine lv_iload_n hx hb (dg D_X12_loadIn (i := 13) rfl) rfl (lv_at hl 2 rfl) ?_
        refine callVi X hW hS hR (c_X12_painter (I := K5) σ x y (by first | assumption | omega | decide | exact hP.1) (by first | assumption | omega | decide | exact hP.1) (by first | assumption | omega | decide | exact hP.1)) (by decide) UVX12_painter LK_X12_233 rfl (by decide) rfl rfl rfl (Nat.le_of_ble_eq_true rfl) hl hcs (dg D_X12_loadIn (i := 14) rfl) (fun r21 I21 L1 R1 H locs hq hW hS => ?_)
        obtain ⟨rfl, rfl, rfl, rfl⟩ := hq
        refine lv_iload_n hx hb (dg D_X12_loadIn (i := 15) rfl) rfl (lv_at hl 1 rfl) ?_
        refine lv_icmp_ne (tgt := 38) hx hb (dg D_X12_loadIn (i := 16) rfl) (by decide) (fun c25 => ?_) (fun c25 => ?_)
        · refine n_iconst (a := 0) hx hb (dg D_X12_loadIn (i := 22) rfl) rfl ?_
          refine lv_iadd hx hb (dg D_X12_loadIn (i := 23) rfl) ?_
          refine lv_istore_n (lv' := [(3, .int ((sumT (fun x => if pnt σ x y = g then eff σ x y else nI 0) x) + (nI 0))), (0, .ref (bs + 67)), (1, .int g), (2, .int (nI y)), (4, .int (nI x))]) hx hb (dg D_X12_loadIn (i := 24) rfl) rfl hl (by decide) rfl (fun ls hl => ?_)
          refine lv_iinc (v := nI (x + 1)) (lv' := [(4, .int (nI (x + 1))), (3, .int ((sumT (fun x => if pnt σ x y = g then eff σ x y else nI 0) x) + (nI 0))), (0, .ref (bs + 67)), (1, .int g), (2, .int (nI y))]) hx hb (dg D_X12_loadIn (i := 25) rfl) hl (k := 4) rfl (nI_add _ _) (by decide) rfl (fun ls hl => ?_)
          refine lv_goto (tgt := 5) hx hb (dg D_X12_loadIn (i := 26) rfl) (by decide) ?_
          exact ih5 (by omega) K5 _ _ _ _ _ (by show _ = _ + (if pnt σ x y = g then eff σ x y else nI 0); first | rw [if_pos c25] | rw [if_neg c25]) (congrArg nI (by omega)) hF hs hW hS (lv_sub hl [2, 3, 4, 1, 0] rfl)
        · refine lv_aload_n hx hb (dg D_X12_loadIn (i := 17) rfl) rfl (lv_at hl 0 rfl) ?_
          refine lv_iload hx hb (dg D_X12_loadIn (i := 18) rfl) (lv_at hl 4 rfl) ?_
          refine lv_iload_n hx hb (dg D_X12_loadIn (i := 19) rfl) rfl (lv_at hl 2 rfl) ?_
          refine callVi X hW hS hR (c_X12_effortOf (I := K5) σ x y (by first | assumption | omega | decide | exact hP.1) (by first | assumption | omega | decide | exact hP.1) (by first | assumption | omega | decide | exact hP.1) (by first | assumption | omega | decide | exact hP.1)) (by decide) UVX12_effortOf LK_X12_279 rfl (by decide) rfl rfl rfl (Nat.le_of_ble_eq_true rfl) hl hcs (dg D_X12_loadIn (i := 20) rfl) (fun r32 I32 L1 R1 H locs hq hW hS => ?_)
          obtain ⟨rfl, hT32, rfl, rfl⟩ := hq
          have hF : Fr SL I I32 := Fr.tr hF hT32 (fun _ _ h => h)
          have hs : I32 68 = σ := by rw [Fr.row hT32 (fun _ => rfl)]; exact hs
          refine lv_goto (tgt := 39) hx hb (dg D_X12_loadIn (i := 21) rfl) (by decide) ?_
          refine lv_iadd hx hb (dg D_X12_loadIn (i := 23) rfl) ?_
          refine lv_istore_n (lv' := [(3, .int ((sumT (fun x => if pnt σ x y = g then eff σ x y else nI 0) x) + (eff σ x y))), (0, .ref (bs + 67)), (1, .int g), (2, .int (nI y)), (4, .int (nI x))]) hx hb (dg D_X12_loadIn (i := 24) rfl) rfl hl (by decide) rfl (fun ls hl => ?_)
          refine lv_iinc (v := nI (x + 1)) (lv' := [(4, .int (nI (x + 1))), (3, .int ((sumT (fun x => if pnt σ x y = g then eff σ x y else nI 0) x) + (eff σ x y))), (0, .ref (bs + 67)), (1, .int g), (2, .int (nI y))]) hx hb (dg D_X12_loadIn (i := 25) rfl) hl (k := 4) rfl (nI_add _ _) (by decide) rfl (fun ls hl => ?_)
          refine lv_goto (tgt := 5) hx hb (dg D_X12_loadIn (i := 26) rfl) (by decide) ?_
          exact ih5 (by omega) I32 _ _ _ _ _ (by show _ = _ + (if pnt σ x y = g then eff σ x y else nI 0); first | rw [if_pos c25] | rw [if_neg c25]) (congrArg nI (by omega)) hF hs hW hS (lv_sub hl [2, 3, 4, 1, 0] rfl))
  exact loop5 0 (Nat.zero_le _) I _ _ _ _ _ (rfl) (congrArg nI (by omega)) hF hs hW hS (lv_sub hl [2, 3, 4, 1, 0] rfl)

