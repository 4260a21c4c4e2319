set_option maxHeartbeats 4000000 in
set_option maxRecDepth 100000 in
theorem c_X12_movePainting {l : Launch} {G : va_G} {bs : Nat} {cy : Nat → ClassId} {I : CI} {L : CL} {R : CR} (σ : Row) (k : Nat) (U : Nat → Row) (u : Int32) (v : Int32) (w : Int32) (hs : I 68 = σ) (hi : Inv σ) (hd : DR σ) (hU : HisM I k U) (hed : I 67 5 = nI k) : MTi l G bs cy MX12_movePainting 7 [.ref (bs + 67), .int u, .int v, .int w] I L R (fun r I1 L1 R1 => ((inB u (nS σ) && inB v (Yn σ) && inB w (Yn σ)) = true → r = mvR σ u v w) ∧ Fr SE I I1 ∧ I1 67 6 = thr (inB u (nS σ) && inB v (Yn σ) && inB w (Yn σ)) ∧ EdP I1 (mvO σ u v w) σ k U ∧ L = L1 ∧ R = R1) := by
  refine MTi.of (own := RX12) pn_RX12 rfl (Nat.le_of_ble_eq_true rfl) ?_
  intro p e s m args below meth c Qf X hW hS fin ls hl
  have hx := X.1
  have hb := X.2.1
  have hR : RmOK (rmL 7 0 0) 7 := ⟨rfl, rfl⟩
  have hcs : 0 ≤ (rmL 7 0 0).cells ∧ 0 ≤ (rmL 7 0 0).slots := ⟨Nat.zero_le _, Nat.zero_le _⟩
  have hl : lv_has ls 6 [(0, .ref (bs + 67)), (1, .int u), (2, .int v), (3, .int w)] := hl
  have hF : Fr SE I I := Fr.rf
  obtain ⟨hY, hY1, hY12, hLn, hL4, hSn, hS12, hGn, hG5⟩ := id hi
  refine lv_aload_n hx hb (dg D_X12_movePainting (i := 0) rfl) rfl (lv_at hl 0 rfl) ?_
  refine lv_aload_n hx hb (dg D_X12_movePainting (i := 1) rfl) rfl (lv_at hl 0 rfl) ?_
  refine lv_iload_n hx hb (dg D_X12_movePainting (i := 2) rfl) rfl (lv_at hl 1 rfl) ?_
  refine callVi X hW hS hR (c_X12_isSpan (I := I) σ u (by first | assumption | omega | decide | exact hP.1) (by first | assumption | omega | decide | exact hP.1)) (by decide) UVX12_isSpan LK_X12_88 rfl (by decide) rfl rfl rfl (Nat.le_of_ble_eq_true rfl) hl hcs (dg D_X12_movePainting (i := 3) rfl) (fun r3 I3 L1 R1 H locs hq hW hS => ?_)
  obtain ⟨rfl, rfl, rfl, rfl⟩ := hq
  refine z_if_eq (tgt := 29) hx hb (dg D_X12_movePainting (i := 4) rfl) (by decide) (fun c6 => ?_) (fun c6 => ?_)
  · refine n_iconst (a := 0) hx hb (dg D_X12_movePainting (i := 15) rfl) rfl ?_
    refine callVi X hW hS hR (c_X12_good (I := I) false) (by decide) UVX12_good LK_X12_95 rfl (by decide) rfl rfl rfl (Nat.le_of_ble_eq_true rfl) hl hcs (dg D_X12_movePainting (i := 16) rfl) (fun r30 I30 L1 R1 H locs hq hW hS => ?_)
    obtain ⟨rfl, hT30, hp30_0, rfl, rfl⟩ := hq
    have hF : Fr SE I I30 := Fr.tr hF hT30 (by intro a j h; simp only [ST, SE, Bool.or_eq_true, Bool.and_eq_true, beq_iff_eq, decide_eq_true_eq] at h ⊢; omega)
    have hs : I30 68 = σ := by rw [Fr.row hT30 (fun _ => rfl)]; exact hs
    have hU : HisM I30 k U := HisM.row hU (Fr.row hT30 (fun _ => rfl))
    have hed : I30 67 5 = nI k := (hT30 67 5 rfl).trans hed
    have hth : I30 67 6 = thr (inB u (nS σ) && inB v (Yn σ) && inB w (Yn σ)) := by rw [c6]; exact hp30_0
    refine z_if_ne (tgt := 38) hx hb (dg D_X12_movePainting (i := 17) rfl) (by decide) (fun c33 => ?_) (fun c33 => ?_)
    · exact absurd c33 (by decide)
    · refine n_iconst (a := 0) hx hb (dg D_X12_movePainting (i := 18) rfl) rfl ?_
      exact fin (dg D_X12_movePainting (i := 19) rfl) hW hS ⟨fun z => absurd z (by rw [c6]; exact Bool.false_ne_true), hF, hth, EdP.no (by unfold mvO; rw [c6]; exact if_neg (nAf rfl)) hs hU hed, rfl, rfl⟩
  · refine lv_aload_n hx hb (dg D_X12_movePainting (i := 5) rfl) rfl (lv_at hl 0 rfl) ?_
    refine lv_iload_n hx hb (dg D_X12_movePainting (i := 6) rfl) rfl (lv_at hl 2 rfl) ?_
    refine callVi X hW hS hR (c_X12_isYear (I := I) σ v (by first | assumption | omega | decide | exact hP.1) (by first | assumption | omega | decide | exact hP.1)) (by decide) UVX12_isYear LK_X12_92 rfl (by decide) rfl rfl rfl (Nat.le_of_ble_eq_true rfl) hl hcs (dg D_X12_movePainting (i := 7) rfl) (fun r11 I11 L1 R1 H locs hq hW hS => ?_)
    obtain ⟨rfl, rfl, rfl, rfl⟩ := hq
    refine z_if_eq (tgt := 29) hx hb (dg D_X12_movePainting (i := 8) rfl) (by decide) (fun c14 => ?_) (fun c14 => ?_)
    · refine n_iconst (a := 0) hx hb (dg D_X12_movePainting (i := 15) rfl) rfl ?_
      refine callVi X hW hS hR (c_X12_good (I := I) false) (by decide) UVX12_good LK_X12_95 rfl (by decide) rfl rfl rfl (Nat.le_of_ble_eq_true rfl) hl hcs (dg D_X12_movePainting (i := 16) rfl) (fun r30 I30 L1 R1 H locs hq hW hS => ?_)
      obtain ⟨rfl, hT30, hp30_0, rfl, rfl⟩ := hq
      have hF : Fr SE I I30 := Fr.tr hF hT30 (by intro a j h; simp only [ST, SE, Bool.or_eq_true, Bool.and_eq_true, beq_iff_eq, decide_eq_true_eq] at h ⊢; omega)
      have hs : I30 68 = σ := by rw [Fr.row hT30 (fun _ => rfl)]; exact hs
      have hU : HisM I30 k U := HisM.row hU (Fr.row hT30 (fun _ => rfl))
      have hed : I30 67 5 = nI k := (hT30 67 5 rfl).trans hed
      have hth : I30 67 6 = thr (inB u (nS σ) && inB v (Yn σ) && inB w (Yn σ)) := by rw [c6, c14]; exact hp30_0
      refine z_if_ne (tgt := 38) hx hb (dg D_X12_movePainting (i := 17) rfl) (by decide) (fun c33 => ?_) (fun c33 => ?_)
      · exact absurd c33 (by decide)
      · refine n_iconst (a := 0) hx hb (dg D_X12_movePainting (i := 18) rfl) rfl ?_
        exact fin (dg D_X12_movePainting (i := 19) rfl) hW hS ⟨fun z => absurd z (by rw [c6, c14]; exact Bool.false_ne_true), hF, hth, EdP.no (by unfold mvO; rw [c6, c14]; exact if_neg (nAf rfl)) hs hU hed, rfl, rfl⟩
    · refine lv_aload_n hx hb (dg D_X12_movePainting (i := 9) rfl) rfl (lv_at hl 0 rfl) ?_
      refine lv_iload_n hx hb (dg D_X12_movePainting (i := 10) rfl) rfl (lv_at hl 3 rfl) ?_
      refine callVi X hW hS hR (c_X12_isYear (I := I) σ w (by first | assumption | omega | decide | exact hP.1) (by first | assumption | omega | decide | exact hP.1)) (by decide) UVX12_isYear LK_X12_92 rfl (by decide) rfl rfl rfl (Nat.le_of_ble_eq_true rfl) hl hcs (dg D_X12_movePainting (i := 11) rfl) (fun r19 I19 L1 R1 H locs hq hW hS => ?_)
      obtain ⟨rfl, rfl, rfl, rfl⟩ := hq
      refine z_if_eq (tgt := 29) hx hb (dg D_X12_movePainting (i := 12) rfl) (by decide) (fun c22 => ?_) (fun c22 => ?_)
      · refine n_iconst (a := 0) hx hb (dg D_X12_movePainting (i := 15) rfl) rfl ?_
        refine callVi X hW hS hR (c_X12_good (I := I) false) (by decide) UVX12_good LK_X12_95 rfl (by decide) rfl rfl rfl (Nat.le_of_ble_eq_true rfl) hl hcs (dg D_X12_movePainting (i := 16) rfl) (fun r30 I30 L1 R1 H locs hq hW hS => ?_)
        obtain ⟨rfl, hT30, hp30_0, rfl, rfl⟩ := hq
        have hF : Fr SE I I30 := Fr.tr hF hT30 (by intro a j h; simp only [ST, SE, Bool.or_eq_true, Bool.and_eq_true, beq_iff_eq, decide_eq_true_eq] at h ⊢; omega)
        have hs : I30 68 = σ := by rw [Fr.row hT30 (fun _ => rfl)]; exact hs
        have hU : HisM I30 k U := HisM.row hU (Fr.row hT30 (fun _ => rfl))
        have hed : I30 67 5 = nI k := (hT30 67 5 rfl).trans hed
        have hth : I30 67 6 = thr (inB u (nS σ) && inB v (Yn σ) && inB w (Yn σ)) := by rw [c6, c14, c22]; exact hp30_0
        refine z_if_ne (tgt := 38) hx hb (dg D_X12_movePainting (i := 17) rfl) (by decide) (fun c33 => ?_) (fun c33 => ?_)
        · exact absurd c33 (by decide)
        · refine n_iconst (a := 0) hx hb (dg D_X12_movePainting (i := 18) rfl) rfl ?_
          exact fin (dg D_X12_movePainting (i := 19) rfl) hW hS ⟨fun z => absurd z (by rw [c6, c14, c22]; exact Bool.false_ne_true), hF, hth, EdP.no (by unfold mvO; rw [c6, c14, c22]; exact if_neg (nAf rfl)) hs hU hed, rfl, rfl⟩
      · refine n_iconst (a := 1) hx hb (dg D_X12_movePainting (i := 13) rfl) rfl ?_
        refine lv_goto (tgt := 30) hx hb (dg D_X12_movePainting (i := 14) rfl) (by decide) ?_
        refine callVi X hW hS hR (c_X12_good (I := I) true) (by decide) UVX12_good LK_X12_95 rfl (by decide) rfl rfl rfl (Nat.le_of_ble_eq_true rfl) hl hcs (dg D_X12_movePainting (i := 16) rfl) (fun r30 I30 L1 R1 H locs hq hW hS => ?_)
        obtain ⟨rfl, hT30, hp30_0, rfl, rfl⟩ := hq
        have hF : Fr SE I I30 := Fr.tr hF hT30 (by intro a j h; simp only [ST, SE, Bool.or_eq_true, Bool.and_eq_true, beq_iff_eq, decide_eq_true_eq] at h ⊢; omega)
        have hs : I30 68 = σ := by rw [Fr.row hT30 (fun _ => rfl)]; exact hs
        have hU : HisM I30 k U := HisM.row hU (Fr.row hT30 (fun _ => rfl))
        have hed : I30 67 5 = nI k := (hT30 67 5 rfl).trans hed
        have hth : I30 67 6 = thr (inB u (nS σ) && inB v (Yn σ) && inB w (Yn σ)) := by rw [c6, c14, c22]; exact hp30_0
        refine z_if_ne (tgt := 38) hx hb (dg D_X12_movePainting (i := 17) rfl) (by decide) (fun c33 => ?_) (fun c33 => ?_)
        · obtain ⟨ju, hju, rfl⟩ := inB_of c6 (by omega)
          obtain ⟨jv, hjv, rfl⟩ := inB_of c14 (by omega)
          obtain ⟨jw, hjw, rfl⟩ := inB_of c22 (by omega)
          refine lv_aload_n hx hb (dg D_X12_movePainting (i := 20) rfl) rfl (lv_at hl 0 rfl) ?_
          refine lv_iload_n hx hb (dg D_X12_movePainting (i := 21) rfl) rfl (lv_at hl 1 rfl) ?_
          refine lv_iload_n hx hb (dg D_X12_movePainting (i := 22) rfl) rfl (lv_at hl 2 rfl) ?_
          refine callVi X hW hS hR (c_X12_painter (I := I30) σ ju jv (by first | assumption | omega | decide | exact hP.1) (by first | assumption | omega | decide | exact hP.1) (by first | assumption | omega | decide | exact hP.1)) (by decide) UVX12_painter LK_X12_233 rfl (by decide) rfl rfl rfl (Nat.le_of_ble_eq_true rfl) hl hcs (dg D_X12_movePainting (i := 23) rfl) (fun r41 I41 L1 R1 H locs hq hW hS => ?_)
          obtain ⟨rfl, rfl, rfl, rfl⟩ := hq
          refine lv_istore (lv' := [(4, .int (pnt σ ju jv)), (0, .ref (bs + 67)), (1, .int (nI ju)), (2, .int (nI jv)), (3, .int (nI jw))]) hx hb (dg D_X12_movePainting (i := 24) rfl) hl (by decide) rfl (fun ls hl => ?_)
          refine lv_iload hx hb (dg D_X12_movePainting (i := 25) rfl) (lv_at hl 0 rfl) ?_
          refine lv_iconst (v := -1) hx hb (dg D_X12_movePainting (i := 26) rfl) (by decide) ?_
          refine lv_icmp_ne (tgt := 55) hx hb (dg D_X12_movePainting (i := 27) rfl) (by decide) (fun c49 => ?_) (fun c49 => ?_)
          · refine lv_iload_n hx hb (dg D_X12_movePainting (i := 30) rfl) rfl (lv_at hl 3 rfl) ?_
            refine lv_iload_n hx hb (dg D_X12_movePainting (i := 31) rfl) rfl (lv_at hl 4 rfl) ?_
            refine n_icmp_ne (tgt := 64) hx hb (by omega) (by omega) (dg D_X12_movePainting (i := 32) rfl) (by decide) (fun c57 => ?_) (fun c57 => ?_)
            · obtain ⟨g0, hg0l, _, _, hg0⟩ := (hd.2.1 ju jv (by omega) (by omega)).resolve_left c49
              rw [hg0] at hl
              refine lv_aload_n hx hb (dg D_X12_movePainting (i := 35) rfl) rfl (lv_at hl 1 rfl) ?_
              refine lv_iload_n hx hb (dg D_X12_movePainting (i := 36) rfl) rfl (lv_at hl 2 rfl) ?_
              refine lv_iload_n hx hb (dg D_X12_movePainting (i := 37) rfl) rfl (lv_at hl 3 rfl) ?_
              refine lv_iconst (v := -1) hx hb (dg D_X12_movePainting (i := 38) rfl) (by decide) ?_
              refine callVv X hW hS hR (c_X12_setPainter (I := I30) ju jv ((-1)) (by first | assumption | omega | decide | exact hP.1) (by first | assumption | omega | decide | exact hP.1)) (by decide) UVX12_setPainter LK_X12_331 rfl (by decide) rfl rfl rfl (Nat.le_of_ble_eq_true rfl) hl hcs (dg D_X12_movePainting (i := 39) rfl) (fun I68 L1 R1 H locs hq hW hS => ?_)
              obtain ⟨hT68, hp68_0, rfl, rfl⟩ := hq
              have hF : Fr SE I I68 := Fr.tr hF hT68 (by intro a j h; simp only [SP, SE, Bool.or_eq_true, Bool.and_eq_true, beq_iff_eq, decide_eq_true_eq] at h ⊢; omega)
              have hs : I68 68 = setP σ ju jv (-1) := by rw [hp68_0, hs]; rfl
              have hU : HisM I68 k U := HisM.row hU (Fr.row hT68 (fun _ => rfl))
              have hed : I68 67 5 = nI k := (hT68 67 5 rfl).trans hed
              have hth : I68 67 6 = thr (inB (nI ju) (nS σ) && inB (nI jv) (Yn σ) && inB (nI jw) (Yn σ)) := (hT68 67 6 rfl).trans hth
              refine lv_aload_n hx hb (dg D_X12_movePainting (i := 40) rfl) rfl (lv_at hl 1 rfl) ?_
              refine lv_iload_n hx hb (dg D_X12_movePainting (i := 41) rfl) rfl (lv_at hl 4 rfl) ?_
              refine lv_iload_n hx hb (dg D_X12_movePainting (i := 42) rfl) rfl (lv_at hl 2 rfl) ?_
              refine lv_iload hx hb (dg D_X12_movePainting (i := 43) rfl) (lv_at hl 0 rfl) ?_
              refine callVi X hW hS hR (c_X12_refusalOf (I := I68) (setP σ ju jv (-1)) jw ju g0 (by first | assumption | omega | decide | exact hP.1) (Inv_setP hi) (by rw [Yn_setP]; omega) (by first | assumption | omega | decide | exact hP.1) (by first | assumption | omega | decide | exact hP.1)) (by decide) UVX12_refusalOf LK_X12_327 rfl (by decide) rfl rfl rfl (Nat.le_of_ble_eq_true rfl) hl hcs (dg D_X12_movePainting (i := 44) rfl) (fun r76 I76 L1 R1 H locs hq hW hS => ?_)
              obtain ⟨rfl, hT76, rfl, rfl⟩ := hq
              have hF : Fr SE I I76 := Fr.tr hF hT76 (by intro a j h; simp only [SL, SE, Bool.or_eq_true, Bool.and_eq_true, beq_iff_eq, decide_eq_true_eq] at h ⊢; omega)
              have hs : I76 68 = setP σ ju jv (-1) := by rw [Fr.row hT76 (fun _ => rfl)]; exact hs
              have hU : HisM I76 k U := HisM.row hU (Fr.row hT76 (fun _ => rfl))
              have hed : I76 67 5 = nI k := (hT76 67 5 rfl).trans hed
              have hth : I76 67 6 = thr (inB (nI ju) (nS σ) && inB (nI jv) (Yn σ) && inB (nI jw) (Yn σ)) := (hT76 67 6 rfl).trans hth
              refine lv_if_eq (tgt := 86) hx hb (dg D_X12_movePainting (i := 45) rfl) (by decide) (fun c79 => ?_) (fun c79 => ?_)
              · refine n_iconst (a := 0) hx hb (dg D_X12_movePainting (i := 48) rfl) rfl ?_
                refine lv_istore (lv' := [(5, .int (nI 0)), (4, .int (nI g0)), (0, .ref (bs + 67)), (1, .int (nI ju)), (2, .int (nI jv)), (3, .int (nI jw))]) hx hb (dg D_X12_movePainting (i := 49) rfl) hl (by decide) rfl (fun ls hl => ?_)
                refine lv_aload_n hx hb (dg D_X12_movePainting (i := 50) rfl) rfl (lv_at hl 2 rfl) ?_
                refine lv_iload_n hx hb (dg D_X12_movePainting (i := 51) rfl) rfl (lv_at hl 3 rfl) ?_
                refine lv_iload_n hx hb (dg D_X12_movePainting (i := 52) rfl) rfl (lv_at hl 4 rfl) ?_
                refine lv_iload hx hb (dg D_X12_movePainting (i := 53) rfl) (lv_at hl 1 rfl) ?_
                refine callVv X hW hS hR (c_X12_setPainter (I := I76) ju jv (nI g0) (by first | assumption | omega | decide | exact hP.1) (by first | assumption | omega | decide | exact hP.1)) (by decide) UVX12_setPainter LK_X12_331 rfl (by decide) rfl rfl rfl (Nat.le_of_ble_eq_true rfl) hl hcs (dg D_X12_movePainting (i := 54) rfl) (fun I94 L1 R1 H locs hq hW hS => ?_)
                obtain ⟨hT94, hp94_0, rfl, rfl⟩ := hq
                have hF : Fr SE I I94 := Fr.tr hF hT94 (by intro a j h; simp only [SP, SE, Bool.or_eq_true, Bool.and_eq_true, beq_iff_eq, decide_eq_true_eq] at h ⊢; omega)
                have hs : I94 68 = σ := by rw [hp94_0, hs]; exact setP_back hg0.symm
                have hU : HisM I94 k U := HisM.row hU (Fr.row hT94 (fun _ => rfl))
                have hed : I94 67 5 = nI k := (hT94 67 5 rfl).trans hed
                have hth : I94 67 6 = thr (inB (nI ju) (nS σ) && inB (nI jv) (Yn σ) && inB (nI jw) (Yn σ)) := (hT94 67 6 rfl).trans hth
                refine lv_iload hx hb (dg D_X12_movePainting (i := 55) rfl) (lv_at hl 0 rfl) ?_
                refine n_if_eq (tgt := 106) hx hb (by omega) (dg D_X12_movePainting (i := 56) rfl) (by decide) (fun c99 => ?_) (fun c99 => ?_)
                · refine lv_aload_n hx hb (dg D_X12_movePainting (i := 59) rfl) rfl (lv_at hl 2 rfl) ?_
                  refine callVv X hW hS hR (c_X12_remember (I := I94) σ k U (by first | assumption | omega | decide | exact hP.1) (by first | assumption | omega | decide | exact hP.1) (by first | assumption | omega | decide | exact hP.1)) (by decide) UVX12_remember LK_X12_336 rfl (by decide) rfl rfl rfl (Nat.le_of_ble_eq_true rfl) hl hcs (dg D_X12_movePainting (i := 60) rfl) (fun I107 L1 R1 H locs hq hW hS => ?_)
                  obtain ⟨hT107, hp107_0, hp107_1, rfl, rfl⟩ := hq
                  have hF : Fr SE I I107 := Fr.tr hF hT107 (by intro a j h; simp only [SH, SE, Bool.or_eq_true, Bool.and_eq_true, beq_iff_eq, decide_eq_true_eq] at h ⊢; omega)
                  have hs : I107 68 = σ := by rw [Fr.row hT107 (fun _ => rfl)]; exact hs
                  have hU : HisM I107 (min 16 (k + 1)) (pushU σ U) := hp107_0
                  have hth : I107 67 6 = thr (inB (nI ju) (nS σ) && inB (nI jv) (Yn σ) && inB (nI jw) (Yn σ)) := (hT107 67 6 rfl).trans hth
                  have hed : I107 67 5 = nI (min 16 (k + 1)) := hp107_1
                  refine lv_aload_n hx hb (dg D_X12_movePainting (i := 61) rfl) rfl (lv_at hl 2 rfl) ?_
                  refine lv_iload_n hx hb (dg D_X12_movePainting (i := 62) rfl) rfl (lv_at hl 3 rfl) ?_
                  refine lv_iload_n hx hb (dg D_X12_movePainting (i := 63) rfl) rfl (lv_at hl 4 rfl) ?_
                  refine lv_iconst (v := -1) hx hb (dg D_X12_movePainting (i := 64) rfl) (by decide) ?_
                  refine callVv X hW hS hR (c_X12_setPainter (I := I107) ju jv ((-1)) (by first | assumption | omega | decide | exact hP.1) (by first | assumption | omega | decide | exact hP.1)) (by decide) UVX12_setPainter LK_X12_331 rfl (by decide) rfl rfl rfl (Nat.le_of_ble_eq_true rfl) hl hcs (dg D_X12_movePainting (i := 65) rfl) (fun I114 L1 R1 H locs hq hW hS => ?_)
                  obtain ⟨hT114, hp114_0, rfl, rfl⟩ := hq
                  have hF : Fr SE I I114 := Fr.tr hF hT114 (by intro a j h; simp only [SP, SE, Bool.or_eq_true, Bool.and_eq_true, beq_iff_eq, decide_eq_true_eq] at h ⊢; omega)
                  have hs : I114 68 = setP σ ju jv (-1) := by rw [hp114_0, hs]; rfl
                  have hU : HisM I114 (min 16 (k + 1)) (pushU σ U) := HisM.row hU (Fr.row hT114 (fun _ => rfl))
                  have hth : I114 67 6 = thr (inB (nI ju) (nS σ) && inB (nI jv) (Yn σ) && inB (nI jw) (Yn σ)) := (hT114 67 6 rfl).trans hth
                  have hed : I114 67 5 = nI (min 16 (k + 1)) := (hT114 67 5 rfl).trans hed
                  refine lv_aload_n hx hb (dg D_X12_movePainting (i := 66) rfl) rfl (lv_at hl 2 rfl) ?_
                  refine lv_iload_n hx hb (dg D_X12_movePainting (i := 67) rfl) rfl (lv_at hl 3 rfl) ?_
                  refine lv_iload_n hx hb (dg D_X12_movePainting (i := 68) rfl) rfl (lv_at hl 5 rfl) ?_
                  refine lv_iload hx hb (dg D_X12_movePainting (i := 69) rfl) (lv_at hl 1 rfl) ?_
                  refine callVv X hW hS hR (c_X12_setPainter (I := I114) ju jw (nI g0) (by first | assumption | omega | decide | exact hP.1) (by first | assumption | omega | decide | exact hP.1)) (by decide) UVX12_setPainter LK_X12_331 rfl (by decide) rfl rfl rfl (Nat.le_of_ble_eq_true rfl) hl hcs (dg D_X12_movePainting (i := 70) rfl) (fun I122 L1 R1 H locs hq hW hS => ?_)
                  obtain ⟨hT122, hp122_0, rfl, rfl⟩ := hq
                  have hF : Fr SE I I122 := Fr.tr hF hT122 (by intro a j h; simp only [SP, SE, Bool.or_eq_true, Bool.and_eq_true, beq_iff_eq, decide_eq_true_eq] at h ⊢; omega)
                  have hs : I122 68 = setP (setP σ ju jv (-1)) ju jw (nI g0) := by rw [hp122_0, hs]; rfl
                  have hU : HisM I122 (min 16 (k + 1)) (pushU σ U) := HisM.row hU (Fr.row hT122 (fun _ => rfl))
                  have hth : I122 67 6 = thr (inB (nI ju) (nS σ) && inB (nI jv) (Yn σ) && inB (nI jw) (Yn σ)) := (hT122 67 6 rfl).trans hth
                  have hed : I122 67 5 = nI (min 16 (k + 1)) := (hT122 67 5 rfl).trans hed
                  refine lv_aload_n hx hb (dg D_X12_movePainting (i := 71) rfl) rfl (lv_at hl 2 rfl) ?_
                  refine callVi X hW hS hR (c_X12_countPast (I := I122) (setP (setP σ ju jv (-1)) ju jw (nI g0)) (by first | assumption | omega | decide | exact hP.1) (Inv_setP (Inv_setP hi))) (by decide) UVX12_countPast LK_X12_255 rfl (by decide) rfl rfl rfl (Nat.le_of_ble_eq_true rfl) hl hcs (dg D_X12_movePainting (i := 72) rfl) (fun r126 I126 L1 R1 H locs hq hW hS => ?_)
                  obtain ⟨rfl, hT126, rfl, rfl⟩ := hq
                  have hF : Fr SE I I126 := Fr.tr hF hT126 (by intro a j h; simp only [SL, SE, Bool.or_eq_true, Bool.and_eq_true, beq_iff_eq, decide_eq_true_eq] at h ⊢; omega)
                  have hs : I126 68 = setP (setP σ ju jv (-1)) ju jw (nI g0) := by rw [Fr.row hT126 (fun _ => rfl)]; exact hs
                  have hU : HisM I126 (min 16 (k + 1)) (pushU σ U) := HisM.row hU (Fr.row hT126 (fun _ => rfl))
                  have hth : I126 67 6 = thr (inB (nI ju) (nS σ) && inB (nI jv) (Yn σ) && inB (nI jw) (Yn σ)) := (hT126 67 6 rfl).trans hth
                  have hed : I126 67 5 = nI (min 16 (k + 1)) := (hT126 67 5 rfl).trans hed
                  exact fin (dg D_X12_movePainting (i := 73) rfl) hW hS ⟨fun _ => by unfold mvR; rw [mvF_n hg0 (by omega) (by omega) (by omega) (by omega), mvT_n hg0 (by omega) (by omega) (by omega), tN_nI (show ju < 2 ^ 31 by omega), tN_nI (show jv < 2 ^ 31 by omega), if_neg (by rw [hg0]; exact nI_m1 (by omega)), if_neg (fun z => c57 (nI_inj (by omega) (by omega) z)), if_pos c79], hF, hth, EdP.ok (by unfold mvO; rw [mvF_n hg0 (by omega) (by omega) (by omega) (by omega), mvT_n hg0 (by omega) (by omega) (by omega), tN_nI (show ju < 2 ^ 31 by omega), tN_nI (show jv < 2 ^ 31 by omega)]; exact if_pos (And.intro (by rw [c6, c14, c22]; rfl) (And.intro (by rw [hg0]; exact nI_m1 (by omega)) (And.intro (fun z => c57 (nI_inj (by omega) (by omega) z)) c79)))) hs hU hed, rfl, rfl⟩
                · exact absurd c99 (by decide)
              · refine n_iconst (a := 1) hx hb (dg D_X12_movePainting (i := 46) rfl) rfl ?_
                refine lv_goto (tgt := 87) hx hb (dg D_X12_movePainting (i := 47) rfl) (by decide) ?_
                refine lv_istore (lv' := [(5, .int (nI 1)), (4, .int (nI g0)), (0, .ref (bs + 67)), (1, .int (nI ju)), (2, .int (nI jv)), (3, .int (nI jw))]) hx hb (dg D_X12_movePainting (i := 49) rfl) hl (by decide) rfl (fun ls hl => ?_)
                refine lv_aload_n hx hb (dg D_X12_movePainting (i := 50) rfl) rfl (lv_at hl 2 rfl) ?_
                refine lv_iload_n hx hb (dg D_X12_movePainting (i := 51) rfl) rfl (lv_at hl 3 rfl) ?_
                refine lv_iload_n hx hb (dg D_X12_movePainting (i := 52) rfl) rfl (lv_at hl 4 rfl) ?_
                refine lv_iload hx hb (dg D_X12_movePainting (i := 53) rfl) (lv_at hl 1 rfl) ?_
                refine callVv X hW hS hR (c_X12_setPainter (I := I76) ju jv (nI g0) (by first | assumption | omega | decide | exact hP.1) (by first | assumption | omega | decide | exact hP.1)) (by decide) UVX12_setPainter LK_X12_331 rfl (by decide) rfl rfl rfl (Nat.le_of_ble_eq_true rfl) hl hcs (dg D_X12_movePainting (i := 54) rfl) (fun I94 L1 R1 H locs hq hW hS => ?_)
                obtain ⟨hT94, hp94_0, rfl, rfl⟩ := hq
                have hF : Fr SE I I94 := Fr.tr hF hT94 (by intro a j h; simp only [SP, SE, Bool.or_eq_true, Bool.and_eq_true, beq_iff_eq, decide_eq_true_eq] at h ⊢; omega)
                have hs : I94 68 = σ := by rw [hp94_0, hs]; exact setP_back hg0.symm
                have hU : HisM I94 k U := HisM.row hU (Fr.row hT94 (fun _ => rfl))
                have hed : I94 67 5 = nI k := (hT94 67 5 rfl).trans hed
                have hth : I94 67 6 = thr (inB (nI ju) (nS σ) && inB (nI jv) (Yn σ) && inB (nI jw) (Yn σ)) := (hT94 67 6 rfl).trans hth
                refine lv_iload hx hb (dg D_X12_movePainting (i := 55) rfl) (lv_at hl 0 rfl) ?_
                refine n_if_eq (tgt := 106) hx hb (by omega) (dg D_X12_movePainting (i := 56) rfl) (by decide) (fun c99 => ?_) (fun c99 => ?_)
                · exact absurd c99 (by decide)
                · refine r_ldcw X CK_X12_335 (dg D_X12_movePainting (i := 57) rfl) ?_
                  exact fin (dg D_X12_movePainting (i := 58) rfl) hW hS ⟨fun _ => by unfold mvR; rw [mvF_n hg0 (by omega) (by omega) (by omega) (by omega), tN_nI (show ju < 2 ^ 31 by omega), tN_nI (show jv < 2 ^ 31 by omega), if_neg (by rw [hg0]; exact nI_m1 (by omega)), if_neg (fun z => c57 (nI_inj (by omega) (by omega) z)), if_neg c79], hF, hth, EdP.no (by unfold mvO; rw [mvF_n hg0 (by omega) (by omega) (by omega) (by omega)]; exact if_neg (fun z => c79 z.2.2.2)) hs hU hed, rfl, rfl⟩
            · refine r_ldcw X CK_X12_339 (dg D_X12_movePainting (i := 33) rfl) ?_
              exact fin (dg D_X12_movePainting (i := 34) rfl) hW hS ⟨fun _ => by unfold mvR; rw [tN_nI (show ju < 2 ^ 31 by omega), tN_nI (show jv < 2 ^ 31 by omega), if_neg c49, if_pos (congrArg nI c57)], hF, hth, EdP.no (by unfold mvO; exact if_neg (fun z => z.2.2.1 (congrArg nI c57))) hs hU hed, rfl, rfl⟩
          · refine r_ldc X CK_X12_28 (dg D_X12_movePainting (i := 28) rfl) ?_
            exact fin (dg D_X12_movePainting (i := 29) rfl) hW hS ⟨fun _ => by unfold mvR; rw [tN_nI (show ju < 2 ^ 31 by omega), tN_nI (show jv < 2 ^ 31 by omega), if_pos c49], hF, hth, EdP.no (by unfold mvO; rw [tN_nI (show ju < 2 ^ 31 by omega), tN_nI (show jv < 2 ^ 31 by omega)]; exact if_neg (fun z => z.2.1 c49)) hs hU hed, rfl, rfl⟩
        · exact absurd c33 (by decide)

set_option maxHeartbeats 4000000 in
set_option maxRecDepth 100000 in
theorem c_X12_exchange {l : Launch} {G : va_G} {bs : Nat} {cy : Nat → ClassId} {I : CI} {L : CL} {R : CR} (σ : Row) (k : Nat) (U : Nat → Row) (u : Int32) (v : Int32) (w : Int32) (hs : I 68 = σ) (hi : Inv σ) (hU : HisM I k U) (hed : I 67 5 = nI k) : MTi l G bs cy MX12_exchange 8 [.ref (bs + 67), .int u, .int v, .int w] I L R (fun r I1 L1 R1 => ((inB u (Yn σ) && inB v (nS σ) && inB w (nS σ)) = true → r = exR σ u v w) ∧ Fr SE I I1 ∧ I1 67 6 = thr (inB u (Yn σ) && inB v (nS σ) && inB w (nS σ)) ∧ EdP I1 (exO σ u v w) σ k U ∧ L = L1 ∧ R = R1) := by
  refine MTi.of (own := RX12) pn_RX12 rfl (Nat.le_of_ble_eq_true rfl) ?_
  intro p e s m args below meth c Qf X hW hS fin ls hl
  have hx := X.1
  have hb := X.2.1
  have hR : RmOK (rmL 8 0 0) 8 := ⟨rfl, rfl⟩
  have hcs : 0 ≤ (rmL 8 0 0).cells ∧ 0 ≤ (rmL 8 0 0).slots := ⟨Nat.zero_le _, Nat.zero_le _⟩
  have hl : lv_has ls 6 [(0, .ref (bs + 67)), (1, .int u), (2, .int v), (3, .int w)] := hl
  have hF : Fr SE I I := Fr.rf
  obtain ⟨hY, hY1, hY12, hLn, hL4, hSn, hS12, hGn, hG5⟩ := id hi
  refine lv_aload_n hx hb (dg D_X12_exchange (i := 0) rfl) rfl (lv_at hl 0 rfl) ?_
  refine lv_aload_n hx hb (dg D_X12_exchange (i := 1) rfl) rfl (lv_at hl 0 rfl) ?_
  refine lv_iload_n hx hb (dg D_X12_exchange (i := 2) rfl) rfl (lv_at hl 1 rfl) ?_
  refine callVi X hW hS hR (c_X12_isYear (I := I) σ u (by first | assumption | omega | decide | exact hP.1) (by first | assumption | omega | decide | exact hP.1)) (by decide) UVX12_isYear LK_X12_92 rfl (by decide) rfl rfl rfl (Nat.le_of_ble_eq_true rfl) hl hcs (dg D_X12_exchange (i := 3) rfl) (fun r3 I3 L1 R1 H locs hq hW hS => ?_)
  obtain ⟨rfl, rfl, rfl, rfl⟩ := hq
  refine z_if_eq (tgt := 29) hx hb (dg D_X12_exchange (i := 4) rfl) (by decide) (fun c6 => ?_) (fun c6 => ?_)
  · refine n_iconst (a := 0) hx hb (dg D_X12_exchange (i := 15) rfl) rfl ?_
    refine callVi X hW hS hR (c_X12_good (I := I) false) (by decide) UVX12_good LK_X12_95 rfl (by decide) rfl rfl rfl (Nat.le_of_ble_eq_true rfl) hl hcs (dg D_X12_exchange (i := 16) rfl) (fun r30 I30 L1 R1 H locs hq hW hS => ?_)
    obtain ⟨rfl, hT30, hp30_0, rfl, rfl⟩ := hq
    have hF : Fr SE I I30 := Fr.tr hF hT30 (by intro a j h; simp only [ST, SE, Bool.or_eq_true, Bool.and_eq_true, beq_iff_eq, decide_eq_true_eq] at h ⊢; omega)
    have hs : I30 68 = σ := by rw [Fr.row hT30 (fun _ => rfl)]; exact hs
    have hU : HisM I30 k U := HisM.row hU (Fr.row hT30 (fun _ => rfl))
    have hed : I30 67 5 = nI k := (hT30 67 5 rfl).trans hed
    have hth : I30 67 6 = thr (inB u (Yn σ) && inB v (nS σ) && inB w (nS σ)) := by rw [c6]; exact hp30_0
    refine z_if_ne (tgt := 38) hx hb (dg D_X12_exchange (i := 17) rfl) (by decide) (fun c33 => ?_) (fun c33 => ?_)
    · exact absurd c33 (by decide)
    · refine n_iconst (a := 0) hx hb (dg D_X12_exchange (i := 18) rfl) rfl ?_
      exact fin (dg D_X12_exchange (i := 19) rfl) hW hS ⟨fun z => absurd z (by rw [c6]; exact Bool.false_ne_true), hF, hth, EdP.no (by unfold exO; rw [c6]; exact if_neg (nAf rfl)) hs hU hed, rfl, rfl⟩
  · refine lv_aload_n hx hb (dg D_X12_exchange (i := 5) rfl) rfl (lv_at hl 0 rfl) ?_
    refine lv_iload_n hx hb (dg D_X12_exchange (i := 6) rfl) rfl (lv_at hl 2 rfl) ?_
    refine callVi X hW hS hR (c_X12_isSpan (I := I) σ v (by first | assumption | omega | decide | exact hP.1) (by first | assumption | omega | decide | exact hP.1)) (by decide) UVX12_isSpan LK_X12_88 rfl (by decide) rfl rfl rfl (Nat.le_of_ble_eq_true rfl) hl hcs (dg D_X12_exchange (i := 7) rfl) (fun r11 I11 L1 R1 H locs hq hW hS => ?_)
    obtain ⟨rfl, rfl, rfl, rfl⟩ := hq
    refine z_if_eq (tgt := 29) hx hb (dg D_X12_exchange (i := 8) rfl) (by decide) (fun c14 => ?_) (fun c14 => ?_)
    · refine n_iconst (a := 0) hx hb (dg D_X12_exchange (i := 15) rfl) rfl ?_
      refine callVi X hW hS hR (c_X12_good (I := I) false) (by decide) UVX12_good LK_X12_95 rfl (by decide) rfl rfl rfl (Nat.le_of_ble_eq_true rfl) hl hcs (dg D_X12_exchange (i := 16) rfl) (fun r30 I30 L1 R1 H locs hq hW hS => ?_)
      obtain ⟨rfl, hT30, hp30_0, rfl, rfl⟩ := hq
      have hF : Fr SE I I30 := Fr.tr hF hT30 (by intro a j h; simp only [ST, SE, Bool.or_eq_true, Bool.and_eq_true, beq_iff_eq, decide_eq_true_eq] at h ⊢; omega)
      have hs : I30 68 = σ := by rw [Fr.row hT30 (fun _ => rfl)]; exact hs
      have hU : HisM I30 k U := HisM.row hU (Fr.row hT30 (fun _ => rfl))
      have hed : I30 67 5 = nI k := (hT30 67 5 rfl).trans hed
      have hth : I30 67 6 = thr (inB u (Yn σ) && inB v (nS σ) && inB w (nS σ)) := by rw [c6, c14]; exact hp30_0
      refine z_if_ne (tgt := 38) hx hb (dg D_X12_exchange (i := 17) rfl) (by decide) (fun c33 => ?_) (fun c33 => ?_)
      · exact absurd c33 (by decide)
      · refine n_iconst (a := 0) hx hb (dg D_X12_exchange (i := 18) rfl) rfl ?_
        exact fin (dg D_X12_exchange (i := 19) rfl) hW hS ⟨fun z => absurd z (by rw [c6, c14]; exact Bool.false_ne_true), hF, hth, EdP.no (by unfold exO; rw [c6, c14]; exact if_neg (nAf rfl)) hs hU hed, rfl, rfl⟩
    · refine lv_aload_n hx hb (dg D_X12_exchange (i := 9) rfl) rfl (lv_at hl 0 rfl) ?_
      refine lv_iload_n hx hb (dg D_X12_exchange (i := 10) rfl) rfl (lv_at hl 3 rfl) ?_
      refine callVi X hW hS hR (c_X12_isSpan (I := I) σ w (by first | assumption | omega | decide | exact hP.1) (by first | assumption | omega | decide | exact hP.1)) (by decide) UVX12_isSpan LK_X12_88 rfl (by decide) rfl rfl rfl (Nat.le_of_ble_eq_true rfl) hl hcs (dg D_X12_exchange (i := 11) rfl) (fun r19 I19 L1 R1 H locs hq hW hS => ?_)
      obtain ⟨rfl, rfl, rfl, rfl⟩ := hq
      refine z_if_eq (tgt := 29) hx hb (dg D_X12_exchange (i := 12) rfl) (by decide) (fun c22 => ?_) (fun c22 => ?_)
      · refine n_iconst (a := 0) hx hb (dg D_X12_exchange (i := 15) rfl) rfl ?_
        refine callVi X hW hS hR (c_X12_good (I := I) false) (by decide) UVX12_good LK_X12_95 rfl (by decide) rfl rfl rfl (Nat.le_of_ble_eq_true rfl) hl hcs (dg D_X12_exchange (i := 16) rfl) (fun r30 I30 L1 R1 H locs hq hW hS => ?_)
        obtain ⟨rfl, hT30, hp30_0, rfl, rfl⟩ := hq
        have hF : Fr SE I I30 := Fr.tr hF hT30 (by intro a j h; simp only [ST, SE, Bool.or_eq_true, Bool.and_eq_true, beq_iff_eq, decide_eq_true_eq] at h ⊢; omega)
        have hs : I30 68 = σ := by rw [Fr.row hT30 (fun _ => rfl)]; exact hs
        have hU : HisM I30 k U := HisM.row hU (Fr.row hT30 (fun _ => rfl))
        have hed : I30 67 5 = nI k := (hT30 67 5 rfl).trans hed
        have hth : I30 67 6 = thr (inB u (Yn σ) && inB v (nS σ) && inB w (nS σ)) := by rw [c6, c14, c22]; exact hp30_0
        refine z_if_ne (tgt := 38) hx hb (dg D_X12_exchange (i := 17) rfl) (by decide) (fun c33 => ?_) (fun c33 => ?_)
        · exact absurd c33 (by decide)
        · refine n_iconst (a := 0) hx hb (dg D_X12_exchange (i := 18) rfl) rfl ?_
          exact fin (dg D_X12_exchange (i := 19) rfl) hW hS ⟨fun z => absurd z (by rw [c6, c14, c22]; exact Bool.false_ne_true), hF, hth, EdP.no (by unfold exO; rw [c6, c14, c22]; exact if_neg (nAf rfl)) hs hU hed, rfl, rfl⟩
      · refine n_iconst (a := 1) hx hb (dg D_X12_exchange (i := 13) rfl) rfl ?_
        refine lv_goto (tgt := 30) hx hb (dg D_X12_exchange (i := 14) rfl) (by decide) ?_
        refine callVi X hW hS hR (c_X12_good (I := I) true) (by decide) UVX12_good LK_X12_95 rfl (by decide) rfl rfl rfl (Nat.le_of_ble_eq_true rfl) hl hcs (dg D_X12_exchange (i := 16) rfl) (fun r30 I30 L1 R1 H locs hq hW hS => ?_)
        obtain ⟨rfl, hT30, hp30_0, rfl, rfl⟩ := hq
        have hF : Fr SE I I30 := Fr.tr hF hT30 (by intro a j h; simp only [ST, SE, Bool.or_eq_true, Bool.and_eq_true, beq_iff_eq, decide_eq_true_eq] at h ⊢; omega)
        have hs : I30 68 = σ := by rw [Fr.row hT30 (fun _ => rfl)]; exact hs
        have hU : HisM I30 k U := HisM.row hU (Fr.row hT30 (fun _ => rfl))
        have hed : I30 67 5 = nI k := (hT30 67 5 rfl).trans hed
        have hth : I30 67 6 = thr (inB u (Yn σ) && inB v (nS σ) && inB w (nS σ)) := by rw [c6, c14, c22]; exact hp30_0
        refine z_if_ne (tgt := 38) hx hb (dg D_X12_exchange (i := 17) rfl) (by decide) (fun c33 => ?_) (fun c33 => ?_)
        · obtain ⟨ju, hju, rfl⟩ := inB_of c6 (by omega)
          obtain ⟨jv, hjv, rfl⟩ := inB_of c14 (by omega)
          obtain ⟨jw, hjw, rfl⟩ := inB_of c22 (by omega)
          refine lv_aload_n hx hb (dg D_X12_exchange (i := 20) rfl) rfl (lv_at hl 0 rfl) ?_
          refine lv_iload_n hx hb (dg D_X12_exchange (i := 21) rfl) rfl (lv_at hl 2 rfl) ?_
          refine lv_iload_n hx hb (dg D_X12_exchange (i := 22) rfl) rfl (lv_at hl 1 rfl) ?_
          refine callVi X hW hS hR (c_X12_painter (I := I30) σ jv ju (by first | assumption | omega | decide | exact hP.1) (by first | assumption | omega | decide | exact hP.1) (by first | assumption | omega | decide | exact hP.1)) (by decide) UVX12_painter LK_X12_233 rfl (by decide) rfl rfl rfl (Nat.le_of_ble_eq_true rfl) hl hcs (dg D_X12_exchange (i := 23) rfl) (fun r41 I41 L1 R1 H locs hq hW hS => ?_)
          obtain ⟨rfl, rfl, rfl, rfl⟩ := hq
          refine lv_istore (lv' := [(4, .int (pnt σ jv ju)), (0, .ref (bs + 67)), (1, .int (nI ju)), (2, .int (nI jv)), (3, .int (nI jw))]) hx hb (dg D_X12_exchange (i := 24) rfl) hl (by decide) rfl (fun ls hl => ?_)
          refine lv_aload_n hx hb (dg D_X12_exchange (i := 25) rfl) rfl (lv_at hl 1 rfl) ?_
          refine lv_iload_n hx hb (dg D_X12_exchange (i := 26) rfl) rfl (lv_at hl 4 rfl) ?_
          refine lv_iload_n hx hb (dg D_X12_exchange (i := 27) rfl) rfl (lv_at hl 2 rfl) ?_
          refine callVi X hW hS hR (c_X12_painter (I := I30) σ jw ju (by first | assumption | omega | decide | exact hP.1) (by first | assumption | omega | decide | exact hP.1) (by first | assumption | omega | decide | exact hP.1)) (by decide) UVX12_painter LK_X12_233 rfl (by decide) rfl rfl rfl (Nat.le_of_ble_eq_true rfl) hl hcs (dg D_X12_exchange (i := 28) rfl) (fun r49 I49 L1 R1 H locs hq hW hS => ?_)
          obtain ⟨rfl, rfl, rfl, rfl⟩ := hq
          refine lv_istore (lv' := [(5, .int (pnt σ jw ju)), (4, .int (pnt σ jv ju)), (0, .ref (bs + 67)), (1, .int (nI ju)), (2, .int (nI jv)), (3, .int (nI jw))]) hx hb (dg D_X12_exchange (i := 29) rfl) hl (by decide) rfl (fun ls hl => ?_)
          refine lv_iload hx hb (dg D_X12_exchange (i := 30) rfl) (lv_at hl 1 rfl) ?_
          refine lv_iconst (v := -1) hx hb (dg D_X12_exchange (i := 31) rfl) (by decide) ?_
          refine lv_icmp_eq (tgt := 66) hx hb (dg D_X12_exchange (i := 32) rfl) (by decide) (fun c57 => ?_) (fun c57 => ?_)
          · refine r_ldc X CK_X12_28 (dg D_X12_exchange (i := 36) rfl) ?_
            exact fin (dg D_X12_exchange (i := 37) rfl) hW hS ⟨fun _ => by unfold exR; simp only [tN_nI (show ju < 2 ^ 31 by omega), tN_nI (show jv < 2 ^ 31 by omega), tN_nI (show jw < 2 ^ 31 by omega)]; exact (if_pos (Or.inl c57)).symm, hF, hth, EdP.no (by unfold exO; simp only [tN_nI (show ju < 2 ^ 31 by omega), tN_nI (show jv < 2 ^ 31 by omega), tN_nI (show jw < 2 ^ 31 by omega)]; exact if_neg (fun z => z.2.1 c57)) hs hU hed, rfl, rfl⟩
          · refine lv_iload hx hb (dg D_X12_exchange (i := 33) rfl) (lv_at hl 0 rfl) ?_
            refine lv_iconst (v := -1) hx hb (dg D_X12_exchange (i := 34) rfl) (by decide) ?_
            refine lv_icmp_ne (tgt := 69) hx hb (dg D_X12_exchange (i := 35) rfl) (by decide) (fun c63 => ?_) (fun c63 => ?_)
            · refine lv_iload hx hb (dg D_X12_exchange (i := 38) rfl) (lv_at hl 1 rfl) ?_
              refine lv_iload hx hb (dg D_X12_exchange (i := 39) rfl) (lv_at hl 0 rfl) ?_
              refine lv_icmp_ne (tgt := 80) hx hb (dg D_X12_exchange (i := 40) rfl) (by decide) (fun c73 => ?_) (fun c73 => ?_)
              · refine lv_aload_n hx hb (dg D_X12_exchange (i := 43) rfl) rfl (lv_at hl 2 rfl) ?_
                refine callVv X hW hS hR (c_X12_remember (I := I30) σ k U (by first | assumption | omega | decide | exact hP.1) (by first | assumption | omega | decide | exact hP.1) (by first | assumption | omega | decide | exact hP.1)) (by decide) UVX12_remember LK_X12_336 rfl (by decide) rfl rfl rfl (Nat.le_of_ble_eq_true rfl) hl hcs (dg D_X12_exchange (i := 44) rfl) (fun I81 L1 R1 H locs hq hW hS => ?_)
                obtain ⟨hT81, hp81_0, hp81_1, rfl, rfl⟩ := hq
                have hF : Fr SE I I81 := Fr.tr hF hT81 (by intro a j h; simp only [SH, SE, Bool.or_eq_true, Bool.and_eq_true, beq_iff_eq, decide_eq_true_eq] at h ⊢; omega)
                have hs : I81 68 = σ := by rw [Fr.row hT81 (fun _ => rfl)]; exact hs
                have hU : HisM I81 (min 16 (k + 1)) (pushU σ U) := hp81_0
                have hth : I81 67 6 = thr (inB (nI ju) (Yn σ) && inB (nI jv) (nS σ) && inB (nI jw) (nS σ)) := (hT81 67 6 rfl).trans hth
                have hed : I81 67 5 = nI (min 16 (k + 1)) := hp81_1
                refine lv_aload_n hx hb (dg D_X12_exchange (i := 45) rfl) rfl (lv_at hl 2 rfl) ?_
                refine lv_iload_n hx hb (dg D_X12_exchange (i := 46) rfl) rfl (lv_at hl 4 rfl) ?_
                refine lv_iload_n hx hb (dg D_X12_exchange (i := 47) rfl) rfl (lv_at hl 3 rfl) ?_
                refine lv_iload hx hb (dg D_X12_exchange (i := 48) rfl) (lv_at hl 0 rfl) ?_
                refine callVv X hW hS hR (c_X12_setPainter (I := I81) jv ju (pnt σ jw ju) (by first | assumption | omega | decide | exact hP.1) (by first | assumption | omega | decide | exact hP.1)) (by decide) UVX12_setPainter LK_X12_331 rfl (by decide) rfl rfl rfl (Nat.le_of_ble_eq_true rfl) hl hcs (dg D_X12_exchange (i := 49) rfl) (fun I89 L1 R1 H locs hq hW hS => ?_)
                obtain ⟨hT89, hp89_0, rfl, rfl⟩ := hq
                have hF : Fr SE I I89 := Fr.tr hF hT89 (by intro a j h; simp only [SP, SE, Bool.or_eq_true, Bool.and_eq_true, beq_iff_eq, decide_eq_true_eq] at h ⊢; omega)
                have hs : I89 68 = setP σ jv ju (pnt σ jw ju) := by rw [hp89_0, hs]; rfl
                have hU : HisM I89 (min 16 (k + 1)) (pushU σ U) := HisM.row hU (Fr.row hT89 (fun _ => rfl))
                have hth : I89 67 6 = thr (inB (nI ju) (Yn σ) && inB (nI jv) (nS σ) && inB (nI jw) (nS σ)) := (hT89 67 6 rfl).trans hth
                have hed : I89 67 5 = nI (min 16 (k + 1)) := (hT89 67 5 rfl).trans hed
                refine lv_aload_n hx hb (dg D_X12_exchange (i := 50) rfl) rfl (lv_at hl 2 rfl) ?_
                refine lv_iload_n hx hb (dg D_X12_exchange (i := 51) rfl) rfl (lv_at hl 5 rfl) ?_
                refine lv_iload_n hx hb (dg D_X12_exchange (i := 52) rfl) rfl (lv_at hl 3 rfl) ?_
                refine lv_iload hx hb (dg D_X12_exchange (i := 53) rfl) (lv_at hl 1 rfl) ?_
                refine callVv X hW hS hR (c_X12_setPainter (I := I89) jw ju (pnt σ jv ju) (by first | assumption | omega | decide | exact hP.1) (by first | assumption | omega | decide | exact hP.1)) (by decide) UVX12_setPainter LK_X12_331 rfl (by decide) rfl rfl rfl (Nat.le_of_ble_eq_true rfl) hl hcs (dg D_X12_exchange (i := 54) rfl) (fun I97 L1 R1 H locs hq hW hS => ?_)
                obtain ⟨hT97, hp97_0, rfl, rfl⟩ := hq
                have hF : Fr SE I I97 := Fr.tr hF hT97 (by intro a j h; simp only [SP, SE, Bool.or_eq_true, Bool.and_eq_true, beq_iff_eq, decide_eq_true_eq] at h ⊢; omega)
                have hs : I97 68 = setP (setP σ jv ju (pnt σ jw ju)) jw ju (pnt σ jv ju) := by rw [hp97_0, hs]; rfl
                have hU : HisM I97 (min 16 (k + 1)) (pushU σ U) := HisM.row hU (Fr.row hT97 (fun _ => rfl))
                have hth : I97 67 6 = thr (inB (nI ju) (Yn σ) && inB (nI jv) (nS σ) && inB (nI jw) (nS σ)) := (hT97 67 6 rfl).trans hth
                have hed : I97 67 5 = nI (min 16 (k + 1)) := (hT97 67 5 rfl).trans hed
                refine lv_aload_n hx hb (dg D_X12_exchange (i := 55) rfl) rfl (lv_at hl 2 rfl) ?_
                refine callVi X hW hS hR (c_X12_countOver (I := I97) (setP (setP σ jv ju (pnt σ jw ju)) jw ju (pnt σ jv ju)) (by first | assumption | omega | decide | exact hP.1) (Inv_setP (Inv_setP hi))) (by decide) UVX12_countOver LK_X12_321 rfl (by decide) rfl rfl rfl (Nat.le_of_ble_eq_true rfl) hl hcs (dg D_X12_exchange (i := 56) rfl) (fun r101 I101 L1 R1 H locs hq hW hS => ?_)
                obtain ⟨rfl, hT101, rfl, rfl⟩ := hq
                have hF : Fr SE I I101 := Fr.tr hF hT101 (by intro a j h; simp only [SL, SE, Bool.or_eq_true, Bool.and_eq_true, beq_iff_eq, decide_eq_true_eq] at h ⊢; omega)
                have hs : I101 68 = setP (setP σ jv ju (pnt σ jw ju)) jw ju (pnt σ jv ju) := by rw [Fr.row hT101 (fun _ => rfl)]; exact hs
                have hU : HisM I101 (min 16 (k + 1)) (pushU σ U) := HisM.row hU (Fr.row hT101 (fun _ => rfl))
                have hth : I101 67 6 = thr (inB (nI ju) (Yn σ) && inB (nI jv) (nS σ) && inB (nI jw) (nS σ)) := (hT101 67 6 rfl).trans hth
                have hed : I101 67 5 = nI (min 16 (k + 1)) := (hT101 67 5 rfl).trans hed
                exact fin (dg D_X12_exchange (i := 57) rfl) hW hS ⟨fun _ => by unfold exR exT; simp only [tN_nI (show ju < 2 ^ 31 by omega), tN_nI (show jv < 2 ^ 31 by omega), tN_nI (show jw < 2 ^ 31 by omega)]; rw [if_neg (orN c57 c63), if_neg c73], hF, hth, EdP.ok (by unfold exO exT; simp only [tN_nI (show ju < 2 ^ 31 by omega), tN_nI (show jv < 2 ^ 31 by omega), tN_nI (show jw < 2 ^ 31 by omega)]; exact if_pos (And.intro (by rw [c6, c14, c22]; rfl) (And.intro c57 (And.intro c63 c73)))) hs hU hed, rfl, rfl⟩
              · refine r_ldcw X CK_X12_339 (dg D_X12_exchange (i := 41) rfl) ?_
                exact fin (dg D_X12_exchange (i := 42) rfl) hW hS ⟨fun _ => by unfold exR; simp only [tN_nI (show ju < 2 ^ 31 by omega), tN_nI (show jv < 2 ^ 31 by omega), tN_nI (show jw < 2 ^ 31 by omega)]; rw [if_neg (orN c57 c63), if_pos c73], hF, hth, EdP.no (by unfold exO; simp only [tN_nI (show ju < 2 ^ 31 by omega), tN_nI (show jv < 2 ^ 31 by omega), tN_nI (show jw < 2 ^ 31 by omega)]; exact if_neg (fun z => z.2.2.2 c73)) hs hU hed, rfl, rfl⟩
            · refine r_ldc X CK_X12_28 (dg D_X12_exchange (i := 36) rfl) ?_
              exact fin (dg D_X12_exchange (i := 37) rfl) hW hS ⟨fun _ => by unfold exR; simp only [tN_nI (show ju < 2 ^ 31 by omega), tN_nI (show jv < 2 ^ 31 by omega), tN_nI (show jw < 2 ^ 31 by omega)]; exact (if_pos (Or.inr c63)).symm, hF, hth, EdP.no (by unfold exO; simp only [tN_nI (show ju < 2 ^ 31 by omega), tN_nI (show jv < 2 ^ 31 by omega), tN_nI (show jw < 2 ^ 31 by omega)]; exact if_neg (fun z => z.2.2.1 c63)) hs hU hed, rfl, rfl⟩
        · exact absurd c33 (by decide)

