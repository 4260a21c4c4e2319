set_option maxHeartbeats 4000000 in
set_option maxRecDepth 100000 in
theorem c_X12_good_ {l : Launch} {G : va_G} {bs : Nat} {cy : Nat → ClassId} {I : CI} {L : CL} {R : CR} (b : Bool) (b2 : Bool) : MTi l G bs cy MX12_good_ 1 [.ref (bs + 67), .int (bI b), .int (bI b2)] I L R (fun r I1 L1 R1 => bI (b && b2) = r ∧ Fr ST I I1 ∧ I1 67 6 = thr2 b b2 ∧ L = L1 ∧ R = R1) := by
  refine MTz.of (own := RX12) pn_RX12 rfl (Nat.le_of_ble_eq_true rfl) ?_
  intro p e s m args below meth c Qf X hW hS fin ls hl
  have hx := X.1
  have hb := X.2.1
  have hR : RmOK (rmL 1 0 0) 1 := ⟨rfl, rfl⟩
  have hcs : 0 ≤ (rmL 1 0 0).cells ∧ 0 ≤ (rmL 1 0 0).slots := ⟨Nat.zero_le _, Nat.zero_le _⟩
  have hl : lv_has ls 3 [(0, .ref (bs + 67)), (1, .int (bI b)), (2, .int (bI b2))] := hl
  have hF : Fr ST I I := Fr.rf
  refine lv_aload_n hx hb (dg D_X12_good_ (i := 0) rfl) rfl (lv_at hl 0 rfl) ?_
  refine lv_iload_n hx hb (dg D_X12_good_ (i := 1) rfl) rfl (lv_at hl 1 rfl) ?_
  refine z_if_ne (tgt := 9) hx hb (dg D_X12_good_ (i := 2) rfl) (by decide) (fun c2 => ?_) (fun c2 => ?_)
  · refine lv_iload_n hx hb (dg D_X12_good_ (i := 5) rfl) rfl (lv_at hl 2 rfl) ?_
    refine z_if_ne (tgt := 17) hx hb (dg D_X12_good_ (i := 6) rfl) (by decide) (fun c10 => ?_) (fun c10 => ?_)
    · refine n_iconst (a := 0) hx hb (dg D_X12_good_ (i := 9) rfl) rfl ?_
      refine r_puti (v := nI 0) (ty := .int) X hW hS FI_X12_74 rfl (by decide) rfl rfl (by decide +kernel) rfl rfl (dg D_X12_good_ (i := 10) rfl) (fun H locs hW hS => ?_)
      have hF : Fr ST I (u2 I 67 6 (nI 0)) := Fr.put hF rfl
      obtain ⟨J18, eJ18⟩ : ∃ J, J = u2 I 67 6 (nI 0) := ⟨_, rfl⟩
      rw [← eJ18] at hW hF
      have hth : J18 67 6 = nI 0 := by rw [eJ18]; exact u2_at
      refine lv_aload_n hx hb (dg D_X12_good_ (i := 11) rfl) rfl (lv_at hl 0 rfl) ?_
      refine r_geti (v := nI 0) X hW FI_X12_74 rfl (by decide) rfl hth (dg D_X12_good_ (i := 12) rfl) ?_
      refine n_if_ne (tgt := 32) hx hb (by omega) (dg D_X12_good_ (i := 13) rfl) (by decide) (fun c25 => ?_) (fun c25 => ?_)
      · exact absurd c25 (by decide)
      · refine n_iconst (a := 1) hx hb (dg D_X12_good_ (i := 14) rfl) rfl ?_
        refine lv_goto (tgt := 33) hx hb (dg D_X12_good_ (i := 15) rfl) (by decide) ?_
        exact fin (dg D_X12_good_ (i := 17) rfl) hW hS (show _ = bI true from rfl) ⟨by first | rw [c2, c10]; rfl | (rw [c2]; rfl), hF, by rw [hth]; first | (rw [c2, c10]; rfl) | (rw [c2]; rfl), rfl, rfl⟩
    · refine n_iconst (a := 2) hx hb (dg D_X12_good_ (i := 7) rfl) rfl ?_
      refine lv_goto (tgt := 18) hx hb (dg D_X12_good_ (i := 8) rfl) (by decide) ?_
      refine r_puti (v := nI 2) (ty := .int) X hW hS FI_X12_74 rfl (by decide) rfl rfl (by decide +kernel) rfl rfl (dg D_X12_good_ (i := 10) rfl) (fun H locs hW hS => ?_)
      have hF : Fr ST I (u2 I 67 6 (nI 2)) := Fr.put hF rfl
      obtain ⟨J18, eJ18⟩ : ∃ J, J = u2 I 67 6 (nI 2) := ⟨_, rfl⟩
      rw [← eJ18] at hW hF
      have hth : J18 67 6 = nI 2 := by rw [eJ18]; exact u2_at
      refine lv_aload_n hx hb (dg D_X12_good_ (i := 11) rfl) rfl (lv_at hl 0 rfl) ?_
      refine r_geti (v := nI 2) X hW FI_X12_74 rfl (by decide) rfl hth (dg D_X12_good_ (i := 12) rfl) ?_
      refine n_if_ne (tgt := 32) hx hb (by omega) (dg D_X12_good_ (i := 13) rfl) (by decide) (fun c25 => ?_) (fun c25 => ?_)
      · refine n_iconst (a := 0) hx hb (dg D_X12_good_ (i := 16) rfl) rfl ?_
        exact fin (dg D_X12_good_ (i := 17) rfl) hW hS (show _ = bI false from rfl) ⟨by first | rw [c2, c10]; rfl | (rw [c2]; rfl), hF, by rw [hth]; first | (rw [c2, c10]; rfl) | (rw [c2]; rfl), rfl, rfl⟩
      · exact absurd c25 (by decide)
  · refine n_iconst (a := 1) hx hb (dg D_X12_good_ (i := 3) rfl) rfl ?_
    refine lv_goto (tgt := 18) hx hb (dg D_X12_good_ (i := 4) rfl) (by decide) ?_
    refine r_puti (v := nI 1) (ty := .int) X hW hS FI_X12_74 rfl (by decide) rfl rfl (by decide +kernel) rfl rfl (dg D_X12_good_ (i := 10) rfl) (fun H locs hW hS => ?_)
    have hF : Fr ST I (u2 I 67 6 (nI 1)) := Fr.put hF rfl
    obtain ⟨J18, eJ18⟩ : ∃ J, J = u2 I 67 6 (nI 1) := ⟨_, rfl⟩
    rw [← eJ18] at hW hF
    have hth : J18 67 6 = nI 1 := by rw [eJ18]; exact u2_at
    refine lv_aload_n hx hb (dg D_X12_good_ (i := 11) rfl) rfl (lv_at hl 0 rfl) ?_
    refine r_geti (v := nI 1) X hW FI_X12_74 rfl (by decide) rfl hth (dg D_X12_good_ (i := 12) rfl) ?_
    refine n_if_ne (tgt := 32) hx hb (by omega) (dg D_X12_good_ (i := 13) rfl) (by decide) (fun c25 => ?_) (fun c25 => ?_)
    · refine n_iconst (a := 0) hx hb (dg D_X12_good_ (i := 16) rfl) rfl ?_
      exact fin (dg D_X12_good_ (i := 17) rfl) hW hS (show _ = bI false from rfl) ⟨by first | rw [c2, c10]; rfl | (rw [c2]; rfl), hF, by rw [hth]; first | (rw [c2, c10]; rfl) | (rw [c2]; rfl), rfl, rfl⟩
    · exact absurd c25 (by decide)

set_option maxHeartbeats 4000000 in
set_option maxRecDepth 100000 in
theorem c_X12_paint {l : Launch} {G : va_G} {bs : Nat} {cy : Nat → ClassId} {I : CI} {L : CL} {R : CR} (σ : Row) (k : Nat) (U : Nat → Row) (u : Int32) (v : Int32) (w : Int32) (hs : I 68 = σ) (hi : Inv σ) (hU : HisM I k U) (hed : I 67 5 = nI k) : MTi l G bs cy MX12_paint 7 [.ref (bs + 67), .int u, .int v, .int w] I L R (fun r I1 L1 R1 => ((inB u (Yn σ) && inB v (nS σ) && inB w (nG σ)) = true → r = paR σ u v w) ∧ Fr SE I I1 ∧ I1 67 6 = thr (inB u (Yn σ) && inB v (nS σ) && inB w (nG σ)) ∧ EdP I1 (paO σ u v w) σ k U ∧ L = L1 ∧ R = R1) := by
  refine MTi.of (own := RX12) pn_RX12 rfl (Nat.le_of_ble_eq_true rfl) ?_
  intro p e s m args below meth c Qf X hW hS fin ls hl
  have hx := X.1
  have hb := X.2.1
  have hR : RmOK (rmL 7 0 0) 7 := ⟨rfl, rfl⟩
  have hcs : 0 ≤ (rmL 7 0 0).cells ∧ 0 ≤ (rmL 7 0 0).slots := ⟨Nat.zero_le _, Nat.zero_le _⟩
  have hl : lv_has ls 4 [(0, .ref (bs + 67)), (1, .int u), (2, .int v), (3, .int w)] := hl
  have hF : Fr SE I I := Fr.rf
  obtain ⟨hY, hY1, hY12, hLn, hL4, hSn, hS12, hGn, hG5⟩ := id hi
  refine lv_aload_n hx hb (dg D_X12_paint (i := 0) rfl) rfl (lv_at hl 0 rfl) ?_
  refine lv_iload_n hx hb (dg D_X12_paint (i := 1) rfl) rfl (lv_at hl 1 rfl) ?_
  refine lv_iload_n hx hb (dg D_X12_paint (i := 2) rfl) rfl (lv_at hl 2 rfl) ?_
  refine lv_iload_n hx hb (dg D_X12_paint (i := 3) rfl) rfl (lv_at hl 3 rfl) ?_
  refine callVi X hW hS hR (c_X12_goodPainting (I := I) σ u v w (by first | assumption | omega | decide | exact hP.1) (by first | assumption | omega | decide | exact hP.1)) (by decide) UVX12_goodPainting LK_X12_324 rfl (by decide) rfl rfl rfl (Nat.le_of_ble_eq_true rfl) hl hcs (dg D_X12_paint (i := 4) rfl) (fun r4 I4 L1 R1 H locs hq hW hS => ?_)
  obtain ⟨rfl, hT4, hp4_0, rfl, rfl⟩ := hq
  have hF : Fr SE I I4 := Fr.tr hF hT4 (by intro a j h; simp only [ST, SE, Bool.or_eq_true, Bool.and_eq_true, beq_iff_eq, decide_eq_true_eq] at h ⊢; omega)
  have hs : I4 68 = σ := by rw [Fr.row hT4 (fun _ => rfl)]; exact hs
  have hU : HisM I4 k U := HisM.row hU (Fr.row hT4 (fun _ => rfl))
  have hed : I4 67 5 = nI k := (hT4 67 5 rfl).trans hed
  have hth : I4 67 6 = thr (inB u (Yn σ) && inB v (nS σ) && inB w (nG σ)) := hp4_0
  refine z_if_ne (tgt := 12) hx hb (dg D_X12_paint (i := 5) rfl) (by decide) (fun c7 => ?_) (fun c7 => ?_)
  · obtain ⟨g12, g3⟩ := Bool.and_eq_true_iff.mp c7
    obtain ⟨g1, g2⟩ := Bool.and_eq_true_iff.mp g12
    obtain ⟨ju, hju, rfl⟩ := inB_of g1 (by omega)
    obtain ⟨jv, hjv, rfl⟩ := inB_of g2 (by omega)
    obtain ⟨jw, hjw, rfl⟩ := inB_of g3 (by omega)
    refine lv_aload_n hx hb (dg D_X12_paint (i := 8) rfl) rfl (lv_at hl 0 rfl) ?_
    refine lv_iload_n hx hb (dg D_X12_paint (i := 9) rfl) rfl (lv_at hl 1 rfl) ?_
    refine lv_iload_n hx hb (dg D_X12_paint (i := 10) rfl) rfl (lv_at hl 2 rfl) ?_
    refine lv_iload_n hx hb (dg D_X12_paint (i := 11) rfl) rfl (lv_at hl 3 rfl) ?_
    refine callVi X hW hS hR (c_X12_refusalOf (I := I4) σ ju jv jw (by first | assumption | omega | decide | exact hP.1) (by first | assumption | omega | decide | exact hP.1) (by first | assumption | omega | decide | exact hP.1) (by first | assumption | omega | decide | exact hP.1) (by first | assumption | omega | decide | exact hP.1)) (by decide) UVX12_refusalOf LK_X12_327 rfl (by decide) rfl rfl rfl (Nat.le_of_ble_eq_true rfl) hl hcs (dg D_X12_paint (i := 12) rfl) (fun r16 I16 L1 R1 H locs hq hW hS => ?_)
    obtain ⟨rfl, hT16, rfl, rfl⟩ := hq
    have hF : Fr SE I I16 := Fr.tr hF hT16 (by intro a j h; simp only [SL, SE, Bool.or_eq_true, Bool.and_eq_true, beq_iff_eq, decide_eq_true_eq] at h ⊢; omega)
    have hs : I16 68 = σ := by rw [Fr.row hT16 (fun _ => rfl)]; exact hs
    have hU : HisM I16 k U := HisM.row hU (Fr.row hT16 (fun _ => rfl))
    have hed : I16 67 5 = nI k := (hT16 67 5 rfl).trans hed
    have hth : I16 67 6 = thr (inB (nI ju) (Yn σ) && inB (nI jv) (nS σ) && inB (nI jw) (nG σ)) := (hT16 67 6 rfl).trans hth
    refine lv_if_eq (tgt := 26) hx hb (dg D_X12_paint (i := 13) rfl) (by decide) (fun c19 => ?_) (fun c19 => ?_)
    · refine lv_aload_n hx hb (dg D_X12_paint (i := 16) rfl) rfl (lv_at hl 0 rfl) ?_
      refine callVv X hW hS hR (c_X12_remember (I := I16) σ k U (by first | assumption | omega | decide | exact hP.1) (by first | assumption | omega | decide | exact hP.1) (by first | assumption | omega | decide | exact hP.1)) (by decide) UVX12_remember LK_X12_336 rfl (by decide) rfl rfl rfl (Nat.le_of_ble_eq_true rfl) hl hcs (dg D_X12_paint (i := 17) rfl) (fun I27 L1 R1 H locs hq hW hS => ?_)
      obtain ⟨hT27, hp27_0, hp27_1, rfl, rfl⟩ := hq
      have hF : Fr SE I I27 := Fr.tr hF hT27 (by intro a j h; simp only [SH, SE, Bool.or_eq_true, Bool.and_eq_true, beq_iff_eq, decide_eq_true_eq] at h ⊢; omega)
      have hs : I27 68 = σ := by rw [Fr.row hT27 (fun _ => rfl)]; exact hs
      have hU : HisM I27 (min 16 (k + 1)) (pushU σ U) := hp27_0
      have hth : I27 67 6 = thr (inB (nI ju) (Yn σ) && inB (nI jv) (nS σ) && inB (nI jw) (nG σ)) := (hT27 67 6 rfl).trans hth
      have hed : I27 67 5 = nI (min 16 (k + 1)) := hp27_1
      refine lv_aload_n hx hb (dg D_X12_paint (i := 18) rfl) rfl (lv_at hl 0 rfl) ?_
      refine lv_iload_n hx hb (dg D_X12_paint (i := 19) rfl) rfl (lv_at hl 2 rfl) ?_
      refine lv_iload_n hx hb (dg D_X12_paint (i := 20) rfl) rfl (lv_at hl 1 rfl) ?_
      refine lv_iload_n hx hb (dg D_X12_paint (i := 21) rfl) rfl (lv_at hl 3 rfl) ?_
      refine callVv X hW hS hR (c_X12_setPainter (I := I27) jv ju (nI jw) (by first | assumption | omega | decide | exact hP.1) (by first | assumption | omega | decide | exact hP.1)) (by decide) UVX12_setPainter LK_X12_331 rfl (by decide) rfl rfl rfl (Nat.le_of_ble_eq_true rfl) hl hcs (dg D_X12_paint (i := 22) rfl) (fun I34 L1 R1 H locs hq hW hS => ?_)
      obtain ⟨hT34, hp34_0, rfl, rfl⟩ := hq
      have hF : Fr SE I I34 := Fr.tr hF hT34 (by intro a j h; simp only [SP, SE, Bool.or_eq_true, Bool.and_eq_true, beq_iff_eq, decide_eq_true_eq] at h ⊢; omega)
      have hs : I34 68 = setP σ jv ju (nI jw) := by rw [hp34_0, hs]; rfl
      have hU : HisM I34 (min 16 (k + 1)) (pushU σ U) := HisM.row hU (Fr.row hT34 (fun _ => rfl))
      have hth : I34 67 6 = thr (inB (nI ju) (Yn σ) && inB (nI jv) (nS σ) && inB (nI jw) (nG σ)) := (hT34 67 6 rfl).trans hth
      have hed : I34 67 5 = nI (min 16 (k + 1)) := (hT34 67 5 rfl).trans hed
      refine lv_aload_n hx hb (dg D_X12_paint (i := 23) rfl) rfl (lv_at hl 0 rfl) ?_
      refine callVi X hW hS hR (c_X12_countPast (I := I34) (setP σ jv ju (nI jw)) (by first | assumption | omega | decide | exact hP.1) (Inv_setP hi)) (by decide) UVX12_countPast LK_X12_255 rfl (by decide) rfl rfl rfl (Nat.le_of_ble_eq_true rfl) hl hcs (dg D_X12_paint (i := 24) rfl) (fun r38 I38 L1 R1 H locs hq hW hS => ?_)
      obtain ⟨rfl, hT38, rfl, rfl⟩ := hq
      have hF : Fr SE I I38 := Fr.tr hF hT38 (by intro a j h; simp only [SL, SE, Bool.or_eq_true, Bool.and_eq_true, beq_iff_eq, decide_eq_true_eq] at h ⊢; omega)
      have hs : I38 68 = setP σ jv ju (nI jw) := by rw [Fr.row hT38 (fun _ => rfl)]; exact hs
      have hU : HisM I38 (min 16 (k + 1)) (pushU σ U) := HisM.row hU (Fr.row hT38 (fun _ => rfl))
      have hth : I38 67 6 = thr (inB (nI ju) (Yn σ) && inB (nI jv) (nS σ) && inB (nI jw) (nG σ)) := (hT38 67 6 rfl).trans hth
      have hed : I38 67 5 = nI (min 16 (k + 1)) := (hT38 67 5 rfl).trans hed
      exact fin (dg D_X12_paint (i := 25) rfl) hW hS ⟨fun _ => by unfold paR; rw [tN_nI (show ju < 2 ^ 31 by omega), tN_nI (show jv < 2 ^ 31 by omega), tN_nI (show jw < 2 ^ 31 by omega), if_pos c19], hF, hth, EdP.ok (by unfold paO; rw [tN_nI (show ju < 2 ^ 31 by omega), tN_nI (show jv < 2 ^ 31 by omega), tN_nI (show jw < 2 ^ 31 by omega)]; exact if_pos (And.intro c7 c19)) hs hU hed, rfl, rfl⟩
    · refine r_ldcw X CK_X12_335 (dg D_X12_paint (i := 14) rfl) ?_
      exact fin (dg D_X12_paint (i := 15) rfl) hW hS ⟨fun _ => by unfold paR; rw [tN_nI (show ju < 2 ^ 31 by omega), tN_nI (show jv < 2 ^ 31 by omega), tN_nI (show jw < 2 ^ 31 by omega), if_neg c19], hF, hth, EdP.no (by unfold paO; rw [tN_nI (show ju < 2 ^ 31 by omega), tN_nI (show jv < 2 ^ 31 by omega), tN_nI (show jw < 2 ^ 31 by omega)]; exact if_neg (nAr c19)) hs hU hed, rfl, rfl⟩
  · refine n_iconst (a := 0) hx hb (dg D_X12_paint (i := 6) rfl) rfl ?_
    exact fin (dg D_X12_paint (i := 7) rfl) hW hS ⟨fun z => absurd z (by rw [c7]; decide), hF, hth, EdP.no (if_neg (nAf c7)) hs hU hed, rfl, rfl⟩

set_option maxHeartbeats 4000000 in
set_option maxRecDepth 100000 in
theorem c_X12_unpaint {l : Launch} {G : va_G} {bs : Nat} {cy : Nat → ClassId} {I : CI} {L : CL} {R : CR} (σ : Row) (k : Nat) (U : Nat → Row) (v : Int32) (w : Int32) (hs : I 68 = σ) (hi : Inv σ) (hU : HisM I k U) (hed : I 67 5 = nI k) : MTi l G bs cy MX12_unpaint 4 [.ref (bs + 67), .int v, .int w] I L R (fun r I1 L1 R1 => ((inB w (nS σ) && inB v (Yn σ)) = true → r = unR σ v w) ∧ Fr SE I I1 ∧ I1 67 6 = thr (inB w (nS σ) && inB v (Yn σ)) ∧ EdP I1 (unO σ v w) σ k U ∧ L = L1 ∧ R = R1) := by
  refine MTi.of (own := RX12) pn_RX12 rfl (Nat.le_of_ble_eq_true rfl) ?_
  intro p e s m args below meth c Qf X hW hS fin ls hl
  have hx := X.1
  have hb := X.2.1
  have hR : RmOK (rmL 4 0 0) 4 := ⟨rfl, rfl⟩
  have hcs : 0 ≤ (rmL 4 0 0).cells ∧ 0 ≤ (rmL 4 0 0).slots := ⟨Nat.zero_le _, Nat.zero_le _⟩
  have hl : lv_has ls 4 [(0, .ref (bs + 67)), (1, .int v), (2, .int w)] := hl
  have hF : Fr SE I I := Fr.rf
  obtain ⟨hY, hY1, hY12, hLn, hL4, hSn, hS12, hGn, hG5⟩ := id hi
  refine lv_aload_n hx hb (dg D_X12_unpaint (i := 0) rfl) rfl (lv_at hl 0 rfl) ?_
  refine lv_iload_n hx hb (dg D_X12_unpaint (i := 1) rfl) rfl (lv_at hl 2 rfl) ?_
  refine lv_iload_n hx hb (dg D_X12_unpaint (i := 2) rfl) rfl (lv_at hl 1 rfl) ?_
  refine callVi X hW hS hR (c_X12_goodSpan (I := I) σ w v (by first | assumption | omega | decide | exact hP.1) (by first | assumption | omega | decide | exact hP.1)) (by decide) UVX12_goodSpan LK_X12_252 rfl (by decide) rfl rfl rfl (Nat.le_of_ble_eq_true rfl) hl hcs (dg D_X12_unpaint (i := 3) rfl) (fun r3 I3 L1 R1 H locs hq hW hS => ?_)
  obtain ⟨rfl, hT3, hp3_0, rfl, rfl⟩ := hq
  have hF : Fr SE I I3 := Fr.tr hF hT3 (by intro a j h; simp only [ST, SE, Bool.or_eq_true, Bool.and_eq_true, beq_iff_eq, decide_eq_true_eq] at h ⊢; omega)
  have hs : I3 68 = σ := by rw [Fr.row hT3 (fun _ => rfl)]; exact hs
  have hU : HisM I3 k U := HisM.row hU (Fr.row hT3 (fun _ => rfl))
  have hed : I3 67 5 = nI k := (hT3 67 5 rfl).trans hed
  have hth : I3 67 6 = thr (inB w (nS σ) && inB v (Yn σ)) := hp3_0
  refine z_if_ne (tgt := 11) hx hb (dg D_X12_unpaint (i := 4) rfl) (by decide) (fun c6 => ?_) (fun c6 => ?_)
  · obtain ⟨g1, g2⟩ := Bool.and_eq_true_iff.mp c6
    obtain ⟨jv, hjv, rfl⟩ := inB_of g2 (by omega)
    obtain ⟨jw, hjw, rfl⟩ := inB_of g1 (by omega)
    refine lv_aload_n hx hb (dg D_X12_unpaint (i := 7) rfl) rfl (lv_at hl 0 rfl) ?_
    refine lv_iload_n hx hb (dg D_X12_unpaint (i := 8) rfl) rfl (lv_at hl 2 rfl) ?_
    refine lv_iload_n hx hb (dg D_X12_unpaint (i := 9) rfl) rfl (lv_at hl 1 rfl) ?_
    refine callVi X hW hS hR (c_X12_painter (I := I3) σ jw jv (by first | assumption | omega | decide | exact hP.1) (by first | assumption | omega | decide | exact hP.1) (by first | assumption | omega | decide | exact hP.1)) (by decide) UVX12_painter LK_X12_233 rfl (by decide) rfl rfl rfl (Nat.le_of_ble_eq_true rfl) hl hcs (dg D_X12_unpaint (i := 10) rfl) (fun r14 I14 L1 R1 H locs hq hW hS => ?_)
    obtain ⟨rfl, rfl, rfl, rfl⟩ := hq
    refine lv_istore_n (lv' := [(3, .int (pnt σ jw jv)), (0, .ref (bs + 67)), (1, .int (nI jv)), (2, .int (nI jw))]) hx hb (dg D_X12_unpaint (i := 11) rfl) rfl hl (by decide) rfl (fun ls hl => ?_)
    refine lv_iload_n hx hb (dg D_X12_unpaint (i := 12) rfl) rfl (lv_at hl 0 rfl) ?_
    refine lv_iconst (v := -1) hx hb (dg D_X12_unpaint (i := 13) rfl) (by decide) ?_
    refine lv_icmp_ne (tgt := 26) hx hb (dg D_X12_unpaint (i := 14) rfl) (by decide) (fun c20 => ?_) (fun c20 => ?_)
    · refine lv_aload_n hx hb (dg D_X12_unpaint (i := 17) rfl) rfl (lv_at hl 1 rfl) ?_
      refine callVv X hW hS hR (c_X12_remember (I := I3) σ k U (by first | assumption | omega | decide | exact hP.1) (by first | assumption | omega | decide | exact hP.1) (by first | assumption | omega | decide | exact hP.1)) (by decide) UVX12_remember LK_X12_336 rfl (by decide) rfl rfl rfl (Nat.le_of_ble_eq_true rfl) hl hcs (dg D_X12_unpaint (i := 18) rfl) (fun I27 L1 R1 H locs hq hW hS => ?_)
      obtain ⟨hT27, hp27_0, hp27_1, rfl, rfl⟩ := hq
      have hF : Fr SE I I27 := Fr.tr hF hT27 (by intro a j h; simp only [SH, SE, Bool.or_eq_true, Bool.and_eq_true, beq_iff_eq, decide_eq_true_eq] at h ⊢; omega)
      have hs : I27 68 = σ := by rw [Fr.row hT27 (fun _ => rfl)]; exact hs
      have hU : HisM I27 (min 16 (k + 1)) (pushU σ U) := hp27_0
      have hth : I27 67 6 = thr (inB (nI jw) (nS σ) && inB (nI jv) (Yn σ)) := (hT27 67 6 rfl).trans hth
      have hed : I27 67 5 = nI (min 16 (k + 1)) := hp27_1
      refine lv_aload_n hx hb (dg D_X12_unpaint (i := 19) rfl) rfl (lv_at hl 1 rfl) ?_
      refine lv_iload_n hx hb (dg D_X12_unpaint (i := 20) rfl) rfl (lv_at hl 3 rfl) ?_
      refine lv_iload_n hx hb (dg D_X12_unpaint (i := 21) rfl) rfl (lv_at hl 2 rfl) ?_
      refine lv_iconst (v := -1) hx hb (dg D_X12_unpaint (i := 22) rfl) (by decide) ?_
      refine callVv X hW hS hR (c_X12_setPainter (I := I27) jw jv ((-1)) (by first | assumption | omega | decide | exact hP.1) (by first | assumption | omega | decide | exact hP.1)) (by decide) UVX12_setPainter LK_X12_331 rfl (by decide) rfl rfl rfl (Nat.le_of_ble_eq_true rfl) hl hcs (dg D_X12_unpaint (i := 23) rfl) (fun I34 L1 R1 H locs hq hW hS => ?_)
      obtain ⟨hT34, hp34_0, rfl, rfl⟩ := hq
      have hF : Fr SE I I34 := Fr.tr hF hT34 (by intro a j h; simp only [SP, SE, Bool.or_eq_true, Bool.and_eq_true, beq_iff_eq, decide_eq_true_eq] at h ⊢; omega)
      have hs : I34 68 = setP σ jw jv (-1) := by rw [hp34_0, hs]; rfl
      have hU : HisM I34 (min 16 (k + 1)) (pushU σ U) := HisM.row hU (Fr.row hT34 (fun _ => rfl))
      have hth : I34 67 6 = thr (inB (nI jw) (nS σ) && inB (nI jv) (Yn σ)) := (hT34 67 6 rfl).trans hth
      have hed : I34 67 5 = nI (min 16 (k + 1)) := (hT34 67 5 rfl).trans hed
      refine lv_iload_n hx hb (dg D_X12_unpaint (i := 24) rfl) rfl (lv_at hl 0 rfl) ?_
      exact fin (dg D_X12_unpaint (i := 25) rfl) hW hS ⟨fun _ => by unfold unR; rw [tN_nI (show jw < 2 ^ 31 by omega), tN_nI (show jv < 2 ^ 31 by omega), if_neg c20], hF, hth, EdP.ok (by unfold unO; rw [tN_nI (show jw < 2 ^ 31 by omega), tN_nI (show jv < 2 ^ 31 by omega)]; exact if_pos (And.intro c6 c20)) hs hU hed, rfl, rfl⟩
    · refine r_ldc X CK_X12_28 (dg D_X12_unpaint (i := 15) rfl) ?_
      exact fin (dg D_X12_unpaint (i := 16) rfl) hW hS ⟨fun _ => by unfold unR; rw [tN_nI (show jw < 2 ^ 31 by omega), tN_nI (show jv < 2 ^ 31 by omega), if_pos c20], hF, hth, EdP.no (by unfold unO; rw [tN_nI (show jw < 2 ^ 31 by omega), tN_nI (show jv < 2 ^ 31 by omega)]; exact if_neg (fun z => z.2 c20)) hs hU hed, rfl, rfl⟩
  · refine n_iconst (a := 0) hx hb (dg D_X12_unpaint (i := 5) rfl) rfl ?_
    exact fin (dg D_X12_unpaint (i := 6) rfl) hW hS ⟨fun z => absurd z (by rw [c6]; decide), hF, hth, EdP.no (if_neg (nAf c6)) hs hU hed, rfl, rfl⟩

