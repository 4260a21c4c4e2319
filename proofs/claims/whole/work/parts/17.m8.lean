set_option maxHeartbeats 4000000 in
set_option maxRecDepth 100000 in
theorem c_X12_set {l : Launch} {G : va_G} {bs : Nat} {cy : Nat → ClassId} {I : CI} {L : CL} {R : CR} (σ : Row) (k : Nat) (U : Nat → Row) (i : Nat) (v : Int32) (hs : I 68 = σ) (hU : HisM I k U) (hed : I 67 5 = nI k) (hi5 : i < 248) : MTi l G bs cy MX12_set 3 [.ref (bs + 67), .int (nI i), .int v] I L R (fun r I1 L1 R1 => seR σ i v = r ∧ Fr SF I I1 ∧ EdP I1 (seO σ i v) σ k U ∧ L = L1 ∧ R = R1) := by
  refine MTi.of (own := RX12) pn_RX12 rfl (Nat.le_of_ble_eq_true rfl) ?_
  intro p e s m args below meth c Qf X hW hS fin ls hl
  have hx := X.1
  have hb := X.2.1
  have hR : RmOK (rmL 3 0 0) 3 := ⟨rfl, rfl⟩
  have hcs : 0 ≤ (rmL 3 0 0).cells ∧ 0 ≤ (rmL 3 0 0).slots := ⟨Nat.zero_le _, Nat.zero_le _⟩
  have hl : lv_has ls 4 [(0, .ref (bs + 67)), (1, .int (nI i)), (2, .int v)] := hl
  have hF : Fr SF I I := Fr.rf
  refine lv_aload_n hx hb (dg D_X12_set (i := 0) rfl) rfl (lv_at hl 0 rfl) ?_
  refine r_getc (t := 68) X hW FI_X12_7 rfl (by decide) rfl (dg D_X12_set (i := 1) rfl) ?_
  refine lv_iload_n hx hb (dg D_X12_set (i := 2) rfl) rfl (lv_at hl 1 rfl) ?_
  refine r_ald (j := i) (v := σ i) X hW rfl (by decide) rfl (by omega) (by decide) (congrFun hs _) (dg D_X12_set (i := 3) rfl) ?_
  refine lv_iload_n hx hb (dg D_X12_set (i := 4) rfl) rfl (lv_at hl 2 rfl) ?_
  refine lv_icmp_ne (tgt := 14) hx hb (dg D_X12_set (i := 5) rfl) (by decide) (fun c7 => ?_) (fun c7 => ?_)
  · refine lv_aload_n hx hb (dg D_X12_set (i := 8) rfl) rfl (lv_at hl 0 rfl) ?_
    refine callVv X hW hS hR (c_X12_remember (I := I) σ k U (by first | assumption | omega | decide | exact hP.1) (by first | assumption | omega | decide | exact hP.1) (by first | assumption | omega | decide | exact hP.1)) (by decide) UVX12_remember LK_X12_336 rfl (by decide) rfl rfl rfl (Nat.le_of_ble_eq_true rfl) hl hcs (dg D_X12_set (i := 9) rfl) (fun I15 L1 R1 H locs hq hW hS => ?_)
    obtain ⟨hT15, hp15_0, hp15_1, rfl, rfl⟩ := hq
    have hF : Fr SF I I15 := Fr.tr hF hT15 (by intro a j h; simp only [SH, SF, Bool.or_eq_true, Bool.and_eq_true, beq_iff_eq, decide_eq_true_eq] at h ⊢; omega)
    have hs : I15 68 = σ := by rw [Fr.row hT15 (fun _ => rfl)]; exact hs
    have hU : HisM I15 (min 16 (k + 1)) (pushU σ U) := hp15_0
    have hed : I15 67 5 = nI (min 16 (k + 1)) := hp15_1
    refine lv_aload_n hx hb (dg D_X12_set (i := 10) rfl) rfl (lv_at hl 0 rfl) ?_
    refine r_getc (t := 68) X hW FI_X12_7 rfl (by decide) rfl (dg D_X12_set (i := 11) rfl) ?_
    refine lv_iload_n hx hb (dg D_X12_set (i := 12) rfl) rfl (lv_at hl 1 rfl) ?_
    refine r_ald (j := i) (v := σ i) X hW rfl (by decide) rfl (by omega) (by decide) (congrFun hs _) (dg D_X12_set (i := 13) rfl) ?_
    refine lv_istore_n (lv' := [(3, .int (σ i)), (0, .ref (bs + 67)), (1, .int (nI i)), (2, .int v)]) hx hb (dg D_X12_set (i := 14) rfl) rfl hl (by decide) rfl (fun ls hl => ?_)
    refine lv_aload_n hx hb (dg D_X12_set (i := 15) rfl) rfl (lv_at hl 1 rfl) ?_
    refine r_getc (t := 68) X hW FI_X12_7 rfl (by decide) rfl (dg D_X12_set (i := 16) rfl) ?_
    refine lv_iload_n hx hb (dg D_X12_set (i := 17) rfl) rfl (lv_at hl 2 rfl) ?_
    refine lv_iload_n hx hb (dg D_X12_set (i := 18) rfl) rfl (lv_at hl 3 rfl) ?_
    refine r_ast (j := i) (v := v) X hW hS rfl (by decide) rfl (by omega) (by decide) (dg D_X12_set (i := 19) rfl) (fun H locs hW hS => ?_)
    have hF : Fr SF I (u2 I15 68 i v) := Fr.put hF rfl
    have hs : (u2 I15 68 i v) 68 = upd σ i v := by rw [u2_eq, hs]
    have hU : HisM (u2 I15 68 i v) (min 16 (k + 1)) (pushU σ U) := hU
    obtain ⟨J31, eJ31⟩ : ∃ J, J = u2 I15 68 i v := ⟨_, rfl⟩
    rw [← eJ31] at hW hF hs hU
    have hed : J31 67 5 = nI (min 16 (k + 1)) := by rw [eJ31, u2_off (Or.inl (by decide))]; exact hed
    refine lv_iload_n hx hb (dg D_X12_set (i := 20) rfl) rfl (lv_at hl 0 rfl) ?_
    exact fin (dg D_X12_set (i := 21) rfl) hW hS ⟨if_neg c7, hF, EdP.ok (if_neg c7) hs hU hed, rfl, rfl⟩
  · refine r_ldcw X CK_X12_339 (dg D_X12_set (i := 6) rfl) ?_
    exact fin (dg D_X12_set (i := 7) rfl) hW hS ⟨if_pos c7, hF, EdP.no (if_pos c7) hs hU hed, rfl, rfl⟩

set_option maxHeartbeats 4000000 in
set_option maxRecDepth 100000 in
theorem c_X12_setShut {l : Launch} {G : va_G} {bs : Nat} {cy : Nat → ClassId} {I : CI} {L : CL} {R : CR} (σ : Row) (k : Nat) (U : Nat → Row) (v : Int32) (hs : I 68 = σ) (hi : Inv σ) (hU : HisM I k U) (hed : I 67 5 = nI k) : MTi l G bs cy MX12_setShut 4 [.ref (bs + 67), .int v] I L R (fun r I1 L1 R1 => (inR v 1 4 = true → r = seR σ 1 v) ∧ Fr SE I I1 ∧ I1 67 6 = thr (inR v 1 4) ∧ EdP I1 (ssO σ v) σ k U ∧ L = L1 ∧ R = R1) := by
  refine MTi.of (own := RX12) pn_RX12 rfl (Nat.le_of_ble_eq_true rfl) ?_
  intro p e s m args below meth c Qf X hW hS fin ls hl
  have hx := X.1
  have hb := X.2.1
  have hR : RmOK (rmL 4 0 0) 4 := ⟨rfl, rfl⟩
  have hcs : 0 ≤ (rmL 4 0 0).cells ∧ 0 ≤ (rmL 4 0 0).slots := ⟨Nat.zero_le _, Nat.zero_le _⟩
  have hl : lv_has ls 2 [(0, .ref (bs + 67)), (1, .int v)] := hl
  have hF : Fr SE I I := Fr.rf
  obtain ⟨hY, hY1, hY12, hLn, hL4, hSn, hS12, hGn, hG5⟩ := id hi
  refine lv_aload_n hx hb (dg D_X12_setShut (i := 0) rfl) rfl (lv_at hl 0 rfl) ?_
  refine lv_iload_n hx hb (dg D_X12_setShut (i := 1) rfl) rfl (lv_at hl 1 rfl) ?_
  refine lv_i2l (v := v.toInt64) hx hb (dg D_X12_setShut (i := 2) rfl) rfl ?_
  refine lv_lconst (v := 1) hx hb (dg D_X12_setShut (i := 3) rfl) rfl ?_
  refine r_ldc2 X CK_X12_348 (dg D_X12_setShut (i := 4) rfl) ?_
  refine callSi X hW hS hR (c_X12_between (I := I) v.toInt64 1 ((4))) (by decide) USX12_between LK_X12_84 rfl rfl (Nat.le_of_ble_eq_true rfl) hl hcs (dg D_X12_setShut (i := 5) rfl) (fun r7 I7 L1 R1 H locs hq hW hS => ?_)
  obtain ⟨rfl, rfl, rfl, rfl⟩ := hq
  rw [show bI (decide (1 ≤ v.toInt64 ∧ v.toInt64 ≤ ((4)))) = bI (inR v 1 4) from congrArg bI (btr (by decide) (by decide))]
  refine z_if_eq (tgt := 17) hx hb (dg D_X12_setShut (i := 6) rfl) (by decide) (fun c10 => ?_) (fun c10 => ?_)
  · refine n_iconst (a := 1) hx hb (dg D_X12_setShut (i := 9) rfl) rfl ?_
    refine r_puti (v := nI 1) (ty := .int) X hW hS FI_X12_74 rfl (by decide) rfl rfl (by decide +kernel) rfl rfl (dg D_X12_setShut (i := 10) rfl) (fun H locs hW hS => ?_)
    have hF : Fr SE I (u2 I 67 6 (nI 1)) := Fr.put hF rfl
    have hs : (u2 I 67 6 (nI 1)) 68 = σ := hs
    have hU : HisM (u2 I 67 6 (nI 1)) k U := hU
    obtain ⟨J18, eJ18⟩ : ∃ J, J = u2 I 67 6 (nI 1) := ⟨_, rfl⟩
    rw [← eJ18] at hW hF hs hU
    have hed : J18 67 5 = nI k := by rw [eJ18, u2_off (Or.inr (by decide))]; exact hed
    have hth : J18 67 6 = nI 1 := by rw [eJ18]; exact u2_at
    refine lv_aload_n hx hb (dg D_X12_setShut (i := 11) rfl) rfl (lv_at hl 0 rfl) ?_
    refine r_geti (v := nI 1) X hW FI_X12_74 rfl (by decide) rfl hth (dg D_X12_setShut (i := 12) rfl) ?_
    refine n_if_ne (tgt := 37) hx hb (by omega) (dg D_X12_setShut (i := 13) rfl) (by decide) (fun c25 => ?_) (fun c25 => ?_)
    · refine n_iconst (a := 0) hx hb (dg D_X12_setShut (i := 19) rfl) rfl ?_
      exact fin (dg D_X12_setShut (i := 20) rfl) hW hS ⟨fun z => absurd z (by rw [c10]; decide), hF, by rw [hth, c10]; rfl, EdP.no (by unfold ssO; exact if_neg (by rw [c10]; decide)) hs hU hed, rfl, rfl⟩
    · exact absurd c25 (by decide)
  · refine n_iconst (a := 0) hx hb (dg D_X12_setShut (i := 7) rfl) rfl ?_
    refine lv_goto (tgt := 18) hx hb (dg D_X12_setShut (i := 8) rfl) (by decide) ?_
    refine r_puti (v := nI 0) (ty := .int) X hW hS FI_X12_74 rfl (by decide) rfl rfl (by decide +kernel) rfl rfl (dg D_X12_setShut (i := 10) rfl) (fun H locs hW hS => ?_)
    have hF : Fr SE I (u2 I 67 6 (nI 0)) := Fr.put hF rfl
    have hs : (u2 I 67 6 (nI 0)) 68 = σ := hs
    have hU : HisM (u2 I 67 6 (nI 0)) k U := hU
    obtain ⟨J18, eJ18⟩ : ∃ J, J = u2 I 67 6 (nI 0) := ⟨_, rfl⟩
    rw [← eJ18] at hW hF hs hU
    have hed : J18 67 5 = nI k := by rw [eJ18, u2_off (Or.inr (by decide))]; exact hed
    have hth : J18 67 6 = nI 0 := by rw [eJ18]; exact u2_at
    refine lv_aload_n hx hb (dg D_X12_setShut (i := 11) rfl) rfl (lv_at hl 0 rfl) ?_
    refine r_geti (v := nI 0) X hW FI_X12_74 rfl (by decide) rfl hth (dg D_X12_setShut (i := 12) rfl) ?_
    refine n_if_ne (tgt := 37) hx hb (by omega) (dg D_X12_setShut (i := 13) rfl) (by decide) (fun c25 => ?_) (fun c25 => ?_)
    · exact absurd c25 (by decide)
    · refine lv_aload_n hx hb (dg D_X12_setShut (i := 14) rfl) rfl (lv_at hl 0 rfl) ?_
      refine n_iconst (a := 1) hx hb (dg D_X12_setShut (i := 15) rfl) rfl ?_
      refine lv_iload_n hx hb (dg D_X12_setShut (i := 16) rfl) rfl (lv_at hl 1 rfl) ?_
      refine callVi X hW hS hR (c_X12_set (I := J18) σ k U 1 v (by first | assumption | omega | decide | exact hP.1) (by first | assumption | omega | decide | exact hP.1) (by first | assumption | omega | decide | exact hP.1) (by first | assumption | omega | decide | exact hP.1)) (by decide) UVX12_set LK_X12_345 rfl (by decide) rfl rfl rfl (Nat.le_of_ble_eq_true rfl) hl hcs (dg D_X12_setShut (i := 17) rfl) (fun r31 I31 L1 R1 H locs hq hW hS => ?_)
      obtain ⟨rfl, hT31, hp31_0, rfl, rfl⟩ := hq
      have hF : Fr SE I I31 := Fr.tr hF hT31 (by intro a j h; simp only [SF, SE, Bool.or_eq_true, Bool.and_eq_true, beq_iff_eq, decide_eq_true_eq] at h ⊢; omega)
      have hth : I31 67 6 = nI 0 := (hT31 67 6 rfl).trans hth
      have hEd := hp31_0
      refine lv_goto (tgt := 38) hx hb (dg D_X12_setShut (i := 18) rfl) (by decide) ?_
      exact fin (dg D_X12_setShut (i := 20) rfl) hW hS ⟨fun _ => rfl, hF, by rw [hth, c10]; rfl, EdP.cast hEd (by unfold ssO; rw [if_pos c10]), rfl, rfl⟩

set_option maxHeartbeats 4000000 in
set_option maxRecDepth 100000 in
theorem c_X12_setWeather {l : Launch} {G : va_G} {bs : Nat} {cy : Nat → ClassId} {I : CI} {L : CL} {R : CR} (σ : Row) (k : Nat) (U : Nat → Row) (v : Int32) (w : Int32) (hs : I 68 = σ) (hi : Inv σ) (hU : HisM I k U) (hed : I 67 5 = nI k) : MTi l G bs cy MX12_setWeather 4 [.ref (bs + 67), .int v, .int w] I L R (fun r I1 L1 R1 => ((inB v (Yn σ) && inR w 0 200) = true → r = seR σ (80 + tN v) w) ∧ Fr SE I I1 ∧ I1 67 6 = thr2 (inB v (Yn σ)) (inR w 0 200) ∧ EdP I1 (swO σ v w) σ k U ∧ L = L1 ∧ R = R1) := by
  refine MTi.of (own := RX12) pn_RX12 rfl (Nat.le_of_ble_eq_true rfl) ?_
  intro p e s m args below meth c Qf X hW hS fin ls hl
  have hx := X.1
  have hb := X.2.1
  have hR : RmOK (rmL 4 0 0) 4 := ⟨rfl, rfl⟩
  have hcs : 0 ≤ (rmL 4 0 0).cells ∧ 0 ≤ (rmL 4 0 0).slots := ⟨Nat.zero_le _, Nat.zero_le _⟩
  have hl : lv_has ls 3 [(0, .ref (bs + 67)), (1, .int v), (2, .int w)] := hl
  have hF : Fr SE I I := Fr.rf
  obtain ⟨hY, hY1, hY12, hLn, hL4, hSn, hS12, hGn, hG5⟩ := id hi
  refine lv_aload_n hx hb (dg D_X12_setWeather (i := 0) rfl) rfl (lv_at hl 0 rfl) ?_
  refine lv_aload_n hx hb (dg D_X12_setWeather (i := 1) rfl) rfl (lv_at hl 0 rfl) ?_
  refine lv_iload_n hx hb (dg D_X12_setWeather (i := 2) rfl) rfl (lv_at hl 1 rfl) ?_
  refine callVi X hW hS hR (c_X12_isYear (I := I) σ v (by first | assumption | omega | decide | exact hP.1) (by first | assumption | omega | decide | exact hP.1)) (by decide) UVX12_isYear LK_X12_92 rfl (by decide) rfl rfl rfl (Nat.le_of_ble_eq_true rfl) hl hcs (dg D_X12_setWeather (i := 3) rfl) (fun r3 I3 L1 R1 H locs hq hW hS => ?_)
  obtain ⟨rfl, rfl, rfl, rfl⟩ := hq
  refine lv_iload_n hx hb (dg D_X12_setWeather (i := 4) rfl) rfl (lv_at hl 2 rfl) ?_
  refine lv_i2l (v := w.toInt64) hx hb (dg D_X12_setWeather (i := 5) rfl) rfl ?_
  refine lv_lconst (v := 0) hx hb (dg D_X12_setWeather (i := 6) rfl) rfl ?_
  refine r_ldc2 X CK_X12_340 (dg D_X12_setWeather (i := 7) rfl) ?_
  refine callSi X hW hS hR (c_X12_between (I := I) w.toInt64 0 ((200))) (by decide) USX12_between LK_X12_84 rfl rfl (Nat.le_of_ble_eq_true rfl) hl hcs (dg D_X12_setWeather (i := 8) rfl) (fun r12 I12 L1 R1 H locs hq hW hS => ?_)
  obtain ⟨rfl, rfl, rfl, rfl⟩ := hq
  rw [show bI (decide (0 ≤ w.toInt64 ∧ w.toInt64 ≤ ((200)))) = bI (inR w 0 200) from congrArg bI (btr (by decide) (by decide))]
  refine callVi X hW hS hR (c_X12_good_ (I := I) (inB v (Yn σ)) (inR w 0 200)) (by decide) UVX12_good_ LK_X12_342 rfl (by decide) rfl rfl rfl (Nat.le_of_ble_eq_true rfl) hl hcs (dg D_X12_setWeather (i := 9) rfl) (fun r15 I15 L1 R1 H locs hq hW hS => ?_)
  obtain ⟨rfl, hT15, hp15_0, rfl, rfl⟩ := hq
  have hF : Fr SE I I15 := Fr.tr hF hT15 (by intro a j h; simp only [ST, SE, Bool.or_eq_true, Bool.and_eq_true, beq_iff_eq, decide_eq_true_eq] at h ⊢; omega)
  have hs : I15 68 = σ := by rw [Fr.row hT15 (fun _ => rfl)]; exact hs
  have hU : HisM I15 k U := HisM.row hU (Fr.row hT15 (fun _ => rfl))
  have hed : I15 67 5 = nI k := (hT15 67 5 rfl).trans hed
  have hth : I15 67 6 = thr2 (inB v (Yn σ)) (inR w 0 200) := hp15_0
  refine z_if_eq (tgt := 33) hx hb (dg D_X12_setWeather (i := 10) rfl) (by decide) (fun c18 => ?_) (fun c18 => ?_)
  · refine n_iconst (a := 0) hx hb (dg D_X12_setWeather (i := 18) rfl) rfl ?_
    exact fin (dg D_X12_setWeather (i := 19) rfl) hW hS ⟨fun z => absurd z (by rw [c18]; decide), hF, hth, EdP.no (by unfold swO; exact if_neg (by rw [c18]; decide)) hs hU hed, rfl, rfl⟩
  · obtain ⟨g1, g2⟩ := Bool.and_eq_true_iff.mp c18
    obtain ⟨jv, hjv, rfl⟩ := inB_of g1 (by omega)
    refine lv_aload_n hx hb (dg D_X12_setWeather (i := 11) rfl) rfl (lv_at hl 0 rfl) ?_
    refine lv_bipush (v := nI 80) hx hb (dg D_X12_setWeather (i := 12) rfl) (by decide) ?_
    refine lv_iload_n hx hb (dg D_X12_setWeather (i := 13) rfl) rfl (lv_at hl 1 rfl) ?_
    refine n_iadd hx hb (dg D_X12_setWeather (i := 14) rfl) ?_
    refine lv_iload_n hx hb (dg D_X12_setWeather (i := 15) rfl) rfl (lv_at hl 2 rfl) ?_
    refine callVi X hW hS hR (c_X12_set (I := I15) σ k U (80 + jv) w (by first | assumption | omega | decide | exact hP.1) (by first | assumption | omega | decide | exact hP.1) (by first | assumption | omega | decide | exact hP.1) (by first | assumption | omega | decide | exact hP.1)) (by decide) UVX12_set LK_X12_345 rfl (by decide) rfl rfl rfl (Nat.le_of_ble_eq_true rfl) hl hcs (dg D_X12_setWeather (i := 16) rfl) (fun r27 I27 L1 R1 H locs hq hW hS => ?_)
    obtain ⟨rfl, hT27, hp27_0, rfl, rfl⟩ := hq
    have hF : Fr SE I I27 := Fr.tr hF hT27 (by intro a j h; simp only [SF, SE, Bool.or_eq_true, Bool.and_eq_true, beq_iff_eq, decide_eq_true_eq] at h ⊢; omega)
    have hth : I27 67 6 = thr2 (inB (nI jv) (Yn σ)) (inR w 0 200) := (hT27 67 6 rfl).trans hth
    have hEd := hp27_0
    refine lv_goto (tgt := 34) hx hb (dg D_X12_setWeather (i := 17) rfl) (by decide) ?_
    exact fin (dg D_X12_setWeather (i := 19) rfl) hW hS ⟨fun _ => by rw [tN_nI (show jv < 2 ^ 31 by omega)], hF, hth, EdP.cast hEd (by unfold swO; rw [if_pos c18, tN_nI (show jv < 2 ^ 31 by omega)]), rfl, rfl⟩

set_option maxHeartbeats 4000000 in
set_option maxRecDepth 100000 in
theorem c_X12_setRate {l : Launch} {G : va_G} {bs : Nat} {cy : Nat → ClassId} {I : CI} {L : CL} {R : CR} (σ : Row) (k : Nat) (U : Nat → Row) (v : Int32) (w : Int32) (hs : I 68 = σ) (hi : Inv σ) (hd : DR σ) (hU : HisM I k U) (hed : I 67 5 = nI k) : MTi l G bs cy MX12_setRate 6 [.ref (bs + 67), .int v, .int w] I L R (fun r I1 L1 R1 => ((inB v (nS σ) && inR w 1 50) = true → r = srR σ v w) ∧ Fr SE I I1 ∧ I1 67 6 = thr2 (inB v (nS σ)) (inR w 1 50) ∧ EdP I1 (srO σ v w) σ k U ∧ L = L1 ∧ R = R1) := by
  refine MTi.of (own := RX12) pn_RX12 rfl (Nat.le_of_ble_eq_true rfl) ?_
  intro p e s m args below meth c Qf X hW hS fin ls hl
  have hx := X.1
  have hb := X.2.1
  have hR : RmOK (rmL 6 0 0) 6 := ⟨rfl, rfl⟩
  have hcs : 0 ≤ (rmL 6 0 0).cells ∧ 0 ≤ (rmL 6 0 0).slots := ⟨Nat.zero_le _, Nat.zero_le _⟩
  have hl : lv_has ls 3 [(0, .ref (bs + 67)), (1, .int v), (2, .int w)] := hl
  have hF : Fr SE I I := Fr.rf
  obtain ⟨hY, hY1, hY12, hLn, hL4, hSn, hS12, hGn, hG5⟩ := id hi
  refine lv_aload_n hx hb (dg D_X12_setRate (i := 0) rfl) rfl (lv_at hl 0 rfl) ?_
  refine lv_aload_n hx hb (dg D_X12_setRate (i := 1) rfl) rfl (lv_at hl 0 rfl) ?_
  refine lv_iload_n hx hb (dg D_X12_setRate (i := 2) rfl) rfl (lv_at hl 1 rfl) ?_
  refine callVi X hW hS hR (c_X12_isSpan (I := I) σ v (by first | assumption | omega | decide | exact hP.1) (by first | assumption | omega | decide | exact hP.1)) (by decide) UVX12_isSpan LK_X12_88 rfl (by decide) rfl rfl rfl (Nat.le_of_ble_eq_true rfl) hl hcs (dg D_X12_setRate (i := 3) rfl) (fun r3 I3 L1 R1 H locs hq hW hS => ?_)
  obtain ⟨rfl, rfl, rfl, rfl⟩ := hq
  refine lv_iload_n hx hb (dg D_X12_setRate (i := 4) rfl) rfl (lv_at hl 2 rfl) ?_
  refine lv_i2l (v := w.toInt64) hx hb (dg D_X12_setRate (i := 5) rfl) rfl ?_
  refine lv_lconst (v := 1) hx hb (dg D_X12_setRate (i := 6) rfl) rfl ?_
  refine r_ldc2 X CK_X12_350 (dg D_X12_setRate (i := 7) rfl) ?_
  refine callSi X hW hS hR (c_X12_between (I := I) w.toInt64 1 ((50))) (by decide) USX12_between LK_X12_84 rfl rfl (Nat.le_of_ble_eq_true rfl) hl hcs (dg D_X12_setRate (i := 8) rfl) (fun r12 I12 L1 R1 H locs hq hW hS => ?_)
  obtain ⟨rfl, rfl, rfl, rfl⟩ := hq
  rw [show bI (decide (1 ≤ w.toInt64 ∧ w.toInt64 ≤ ((50)))) = bI (inR w 1 50) from congrArg bI (btr (by decide) (by decide))]
  refine callVi X hW hS hR (c_X12_good_ (I := I) (inB v (nS σ)) (inR w 1 50)) (by decide) UVX12_good_ LK_X12_342 rfl (by decide) rfl rfl rfl (Nat.le_of_ble_eq_true rfl) hl hcs (dg D_X12_setRate (i := 9) rfl) (fun r15 I15 L1 R1 H locs hq hW hS => ?_)
  obtain ⟨rfl, hT15, hp15_0, rfl, rfl⟩ := hq
  have hF : Fr SE I I15 := Fr.tr hF hT15 (by intro a j h; simp only [ST, SE, Bool.or_eq_true, Bool.and_eq_true, beq_iff_eq, decide_eq_true_eq] at h ⊢; omega)
  have hs : I15 68 = σ := by rw [Fr.row hT15 (fun _ => rfl)]; exact hs
  have hU : HisM I15 k U := HisM.row hU (Fr.row hT15 (fun _ => rfl))
  have hed : I15 67 5 = nI k := (hT15 67 5 rfl).trans hed
  have hth : I15 67 6 = thr2 (inB v (nS σ)) (inR w 1 50) := hp15_0
  refine z_if_ne (tgt := 23) hx hb (dg D_X12_setRate (i := 10) rfl) (by decide) (fun c18 => ?_) (fun c18 => ?_)
  · obtain ⟨g1, g2⟩ := Bool.and_eq_true_iff.mp c18
    obtain ⟨jv, hjv, rfl⟩ := inB_of g1 (by omega)
    refine lv_aload_n hx hb (dg D_X12_setRate (i := 13) rfl) rfl (lv_at hl 0 rfl) ?_
    refine lv_bipush (v := nI 10) hx hb (dg D_X12_setRate (i := 14) rfl) (by decide) ?_
    refine n_iconst (a := 5) hx hb (dg D_X12_setRate (i := 15) rfl) rfl ?_
    refine lv_iload_n hx hb (dg D_X12_setRate (i := 16) rfl) rfl (lv_at hl 1 rfl) ?_
    refine n_imul hx hb (dg D_X12_setRate (i := 17) rfl) ?_
    refine n_iadd hx hb (dg D_X12_setRate (i := 18) rfl) ?_
    refine n_iconst (a := 3) hx hb (dg D_X12_setRate (i := 19) rfl) rfl ?_
    refine n_iadd hx hb (dg D_X12_setRate (i := 20) rfl) ?_
    refine lv_iload_n hx hb (dg D_X12_setRate (i := 21) rfl) rfl (lv_at hl 2 rfl) ?_
    refine callVi X hW hS hR (c_X12_set (I := I15) σ k U ((10 + (5 * jv)) + 3) w (by first | assumption | omega | decide | exact hP.1) (by first | assumption | omega | decide | exact hP.1) (by first | assumption | omega | decide | exact hP.1) (by first | assumption | omega | decide | exact hP.1)) (by decide) UVX12_set LK_X12_345 rfl (by decide) rfl rfl rfl (Nat.le_of_ble_eq_true rfl) hl hcs (dg D_X12_setRate (i := 22) rfl) (fun r33 I33 L1 R1 H locs hq hW hS => ?_)
    obtain ⟨rfl, hT33, hp33_0, rfl, rfl⟩ := hq
    have hF : Fr SE I I33 := Fr.tr hF hT33 (by intro a j h; simp only [SF, SE, Bool.or_eq_true, Bool.and_eq_true, beq_iff_eq, decide_eq_true_eq] at h ⊢; omega)
    have hth : I33 67 6 = thr2 (inB (nI jv) (nS σ)) (inR w 1 50) := (hT33 67 6 rfl).trans hth
    have hEd := hp33_0
    refine r_ldcw X CK_X12_339 (dg D_X12_setRate (i := 23) rfl) ?_
    refine lv_icmp_ne (tgt := 48) hx hb (dg D_X12_setRate (i := 24) rfl) (by decide) (fun c39 => ?_) (fun c39 => ?_)
    · have hne := seR_ne c39
      have hs : I33 68 = upd σ (10 + 5 * jv + 3) w := by have h := hEd.1; rw [seO_n hne] at h; exact h
      refine lv_aload_n hx hb (dg D_X12_setRate (i := 27) rfl) rfl (lv_at hl 0 rfl) ?_
      refine callVi X hW hS hR (c_X12_countPast (I := I33) (upd σ (10 + 5 * jv + 3) w) (by first | assumption | omega | decide | exact hP.1) (Inv_upd (by omega) hi)) (by decide) UVX12_countPast LK_X12_255 rfl (by decide) rfl rfl rfl (Nat.le_of_ble_eq_true rfl) hl hcs (dg D_X12_setRate (i := 28) rfl) (fun r49 I49 L1 R1 H locs hq hW hS => ?_)
      obtain ⟨rfl, hT49, rfl, rfl⟩ := hq
      have hF : Fr SE I I49 := Fr.tr hF hT49 (by intro a j h; simp only [SL, SE, Bool.or_eq_true, Bool.and_eq_true, beq_iff_eq, decide_eq_true_eq] at h ⊢; omega)
      have hs : I49 68 = upd σ (10 + 5 * jv + 3) w := by rw [Fr.row hT49 (fun _ => rfl)]; exact hs
      have hth : I49 67 6 = thr2 (inB (nI jv) (nS σ)) (inR w 1 50) := (hT49 67 6 rfl).trans hth
      have hEd : EdP I49 (seO σ (10 + 5 * jv + 3) w) σ k U := ⟨(Fr.row hT49 (fun _ => rfl)).trans hEd.1, HisM.row hEd.2.1 (Fr.row hT49 (fun _ => rfl)), (hT49 67 5 rfl).trans hEd.2.2⟩
      exact fin (dg D_X12_setRate (i := 29) rfl) hW hS ⟨fun _ => by unfold srR; rw [tN_nI (show jv < 2 ^ 31 by omega), if_neg hne], hF, hth, EdP.cast hEd (by unfold srO; rw [if_pos c18, tN_nI (show jv < 2 ^ 31 by omega)]), rfl, rfl⟩
    · refine r_ldcw X CK_X12_339 (dg D_X12_setRate (i := 25) rfl) ?_
      refine lv_goto (tgt := 52) hx hb (dg D_X12_setRate (i := 26) rfl) (by decide) ?_
      exact fin (dg D_X12_setRate (i := 29) rfl) hW hS ⟨fun _ => by unfold srR; rw [tN_nI (show jv < 2 ^ 31 by omega), if_pos (by obtain ⟨_, _, t9, _, _, _, _, _, ht50, _, _, _, _, ht9, _⟩ := hd.2.2.2.1 jv (by omega); exact seR_eq c39 ht9 (by omega))], hF, hth, EdP.cast hEd (by unfold srO; rw [if_pos c18, tN_nI (show jv < 2 ^ 31 by omega)]), rfl, rfl⟩
  · refine n_iconst (a := 0) hx hb (dg D_X12_setRate (i := 11) rfl) rfl ?_
    exact fin (dg D_X12_setRate (i := 12) rfl) hW hS ⟨fun z => absurd z (by rw [c18]; decide), hF, hth, EdP.no (by unfold srO; exact if_neg (by rw [c18]; decide)) hs hU hed, rfl, rfl⟩

set_option maxHeartbeats 4000000 in
set_option maxRecDepth 100000 in
theorem c_X12_setSpeed {l : Launch} {G : va_G} {bs : Nat} {cy : Nat → ClassId} {I : CI} {L : CL} {R : CR} (σ : Row) (k : Nat) (U : Nat → Row) (v : Int32) (w : Int32) (hs : I 68 = σ) (hi : Inv σ) (hd : DR σ) (hU : HisM I k U) (hed : I 67 5 = nI k) : MTi l G bs cy MX12_setSpeed 8 [.ref (bs + 67), .int v, .int w] I L R (fun r I1 L1 R1 => ((inB v (nG σ) && inR w 1 50) = true → r = spR σ v w) ∧ Fr SE I I1 ∧ I1 67 6 = thr2 (inB v (nG σ)) (inR w 1 50) ∧ EdP I1 (spO σ v w) σ k U ∧ L = L1 ∧ R = R1) := by
  refine MTi.of (own := RX12) pn_RX12 rfl (Nat.le_of_ble_eq_true rfl) ?_
  intro p e s m args below meth c Qf X hW hS fin ls hl
  have hx := X.1
  have hb := X.2.1
  have hR : RmOK (rmL 8 0 0) 8 := ⟨rfl, rfl⟩
  have hcs : 0 ≤ (rmL 8 0 0).cells ∧ 0 ≤ (rmL 8 0 0).slots := ⟨Nat.zero_le _, Nat.zero_le _⟩
  have hl : lv_has ls 3 [(0, .ref (bs + 67)), (1, .int v), (2, .int w)] := hl
  have hF : Fr SE I I := Fr.rf
  obtain ⟨hY, hY1, hY12, hLn, hL4, hSn, hS12, hGn, hG5⟩ := id hi
  refine lv_aload_n hx hb (dg D_X12_setSpeed (i := 0) rfl) rfl (lv_at hl 0 rfl) ?_
  refine lv_aload_n hx hb (dg D_X12_setSpeed (i := 1) rfl) rfl (lv_at hl 0 rfl) ?_
  refine lv_iload_n hx hb (dg D_X12_setSpeed (i := 2) rfl) rfl (lv_at hl 1 rfl) ?_
  refine callVi X hW hS hR (c_X12_isGang (I := I) σ v (by first | assumption | omega | decide | exact hP.1) (by first | assumption | omega | decide | exact hP.1)) (by decide) UVX12_isGang LK_X12_282 rfl (by decide) rfl rfl rfl (Nat.le_of_ble_eq_true rfl) hl hcs (dg D_X12_setSpeed (i := 3) rfl) (fun r3 I3 L1 R1 H locs hq hW hS => ?_)
  obtain ⟨rfl, rfl, rfl, rfl⟩ := hq
  refine lv_iload_n hx hb (dg D_X12_setSpeed (i := 4) rfl) rfl (lv_at hl 2 rfl) ?_
  refine lv_i2l (v := w.toInt64) hx hb (dg D_X12_setSpeed (i := 5) rfl) rfl ?_
  refine lv_lconst (v := 1) hx hb (dg D_X12_setSpeed (i := 6) rfl) rfl ?_
  refine r_ldc2 X CK_X12_350 (dg D_X12_setSpeed (i := 7) rfl) ?_
  refine callSi X hW hS hR (c_X12_between (I := I) w.toInt64 1 ((50))) (by decide) USX12_between LK_X12_84 rfl rfl (Nat.le_of_ble_eq_true rfl) hl hcs (dg D_X12_setSpeed (i := 8) rfl) (fun r12 I12 L1 R1 H locs hq hW hS => ?_)
  obtain ⟨rfl, rfl, rfl, rfl⟩ := hq
  rw [show bI (decide (1 ≤ w.toInt64 ∧ w.toInt64 ≤ ((50)))) = bI (inR w 1 50) from congrArg bI (btr (by decide) (by decide))]
  refine callVi X hW hS hR (c_X12_good_ (I := I) (inB v (nG σ)) (inR w 1 50)) (by decide) UVX12_good_ LK_X12_342 rfl (by decide) rfl rfl rfl (Nat.le_of_ble_eq_true rfl) hl hcs (dg D_X12_setSpeed (i := 9) rfl) (fun r15 I15 L1 R1 H locs hq hW hS => ?_)
  obtain ⟨rfl, hT15, hp15_0, rfl, rfl⟩ := hq
  have hF : Fr SE I I15 := Fr.tr hF hT15 (by intro a j h; simp only [ST, SE, Bool.or_eq_true, Bool.and_eq_true, beq_iff_eq, decide_eq_true_eq] at h ⊢; omega)
  have hs : I15 68 = σ := by rw [Fr.row hT15 (fun _ => rfl)]; exact hs
  have hU : HisM I15 k U := HisM.row hU (Fr.row hT15 (fun _ => rfl))
  have hed : I15 67 5 = nI k := (hT15 67 5 rfl).trans hed
  have hth : I15 67 6 = thr2 (inB v (nG σ)) (inR w 1 50) := hp15_0
  refine z_if_ne (tgt := 23) hx hb (dg D_X12_setSpeed (i := 10) rfl) (by decide) (fun c18 => ?_) (fun c18 => ?_)
  · obtain ⟨g1, g2⟩ := Bool.and_eq_true_iff.mp c18
    obtain ⟨jv, hjv, rfl⟩ := inB_of g1 (by omega)
    refine lv_aload_n hx hb (dg D_X12_setSpeed (i := 13) rfl) rfl (lv_at hl 0 rfl) ?_
    refine lv_bipush (v := nI 70) hx hb (dg D_X12_setSpeed (i := 14) rfl) (by decide) ?_
    refine n_iconst (a := 2) hx hb (dg D_X12_setSpeed (i := 15) rfl) rfl ?_
    refine lv_iload_n hx hb (dg D_X12_setSpeed (i := 16) rfl) rfl (lv_at hl 1 rfl) ?_
    refine n_imul hx hb (dg D_X12_setSpeed (i := 17) rfl) ?_
    refine n_iadd hx hb (dg D_X12_setSpeed (i := 18) rfl) ?_
    refine n_iconst (a := 0) hx hb (dg D_X12_setSpeed (i := 19) rfl) rfl ?_
    refine n_iadd hx hb (dg D_X12_setSpeed (i := 20) rfl) ?_
    refine lv_iload_n hx hb (dg D_X12_setSpeed (i := 21) rfl) rfl (lv_at hl 2 rfl) ?_
    refine callVi X hW hS hR (c_X12_set (I := I15) σ k U ((70 + (2 * jv)) + 0) w (by first | assumption | omega | decide | exact hP.1) (by first | assumption | omega | decide | exact hP.1) (by first | assumption | omega | decide | exact hP.1) (by first | assumption | omega | decide | exact hP.1)) (by decide) UVX12_set LK_X12_345 rfl (by decide) rfl rfl rfl (Nat.le_of_ble_eq_true rfl) hl hcs (dg D_X12_setSpeed (i := 22) rfl) (fun r33 I33 L1 R1 H locs hq hW hS => ?_)
    obtain ⟨rfl, hT33, hp33_0, rfl, rfl⟩ := hq
    have hF : Fr SE I I33 := Fr.tr hF hT33 (by intro a j h; simp only [SF, SE, Bool.or_eq_true, Bool.and_eq_true, beq_iff_eq, decide_eq_true_eq] at h ⊢; omega)
    have hth : I33 67 6 = thr2 (inB (nI jv) (nG σ)) (inR w 1 50) := (hT33 67 6 rfl).trans hth
    have hEd := hp33_0
    refine r_ldcw X CK_X12_339 (dg D_X12_setSpeed (i := 23) rfl) ?_
    refine lv_icmp_ne (tgt := 48) hx hb (dg D_X12_setSpeed (i := 24) rfl) (by decide) (fun c39 => ?_) (fun c39 => ?_)
    · have hne := seR_ne c39
      have hs : I33 68 = upd σ (70 + 2 * jv + 0) w := by have h := hEd.1; rw [seO_n hne] at h; exact h
      refine lv_aload_n hx hb (dg D_X12_setSpeed (i := 27) rfl) rfl (lv_at hl 0 rfl) ?_
      refine callVi X hW hS hR (c_X12_countOver (I := I33) (upd σ (70 + 2 * jv + 0) w) (by first | assumption | omega | decide | exact hP.1) (Inv_upd (by omega) hi)) (by decide) UVX12_countOver LK_X12_321 rfl (by decide) rfl rfl rfl (Nat.le_of_ble_eq_true rfl) hl hcs (dg D_X12_setSpeed (i := 28) rfl) (fun r49 I49 L1 R1 H locs hq hW hS => ?_)
      obtain ⟨rfl, hT49, rfl, rfl⟩ := hq
      have hF : Fr SE I I49 := Fr.tr hF hT49 (by intro a j h; simp only [SL, SE, Bool.or_eq_true, Bool.and_eq_true, beq_iff_eq, decide_eq_true_eq] at h ⊢; omega)
      have hs : I49 68 = upd σ (70 + 2 * jv + 0) w := by rw [Fr.row hT49 (fun _ => rfl)]; exact hs
      have hth : I49 67 6 = thr2 (inB (nI jv) (nG σ)) (inR w 1 50) := (hT49 67 6 rfl).trans hth
      have hEd : EdP I49 (seO σ (70 + 2 * jv + 0) w) σ k U := ⟨(Fr.row hT49 (fun _ => rfl)).trans hEd.1, HisM.row hEd.2.1 (Fr.row hT49 (fun _ => rfl)), (hT49 67 5 rfl).trans hEd.2.2⟩
      exact fin (dg D_X12_setSpeed (i := 29) rfl) hW hS ⟨fun _ => by unfold spR; rw [tN_nI (show jv < 2 ^ 31 by omega), if_neg hne], hF, hth, EdP.cast hEd (by unfold spO; rw [if_pos c18, tN_nI (show jv < 2 ^ 31 by omega)]), rfl, rfl⟩
    · refine r_ldcw X CK_X12_339 (dg D_X12_setSpeed (i := 25) rfl) ?_
      refine lv_goto (tgt := 52) hx hb (dg D_X12_setSpeed (i := 26) rfl) (by decide) ?_
      exact fin (dg D_X12_setSpeed (i := 29) rfl) hW hS ⟨fun _ => by unfold spR; rw [tN_nI (show jv < 2 ^ 31 by omega), if_pos (by obtain ⟨t9, _, ht50, ht9⟩ := hd.1 jv (by omega); exact seR_eq c39 ht9 (by omega))], hF, hth, EdP.cast hEd (by unfold spO; rw [if_pos c18, tN_nI (show jv < 2 ^ 31 by omega)]), rfl, rfl⟩
  · refine n_iconst (a := 0) hx hb (dg D_X12_setSpeed (i := 11) rfl) rfl ?_
    exact fin (dg D_X12_setSpeed (i := 12) rfl) hW hS ⟨fun z => absurd z (by rw [c18]; decide), hF, hth, EdP.no (by unfold spO; exact if_neg (by rw [c18]; decide)) hs hU hed, rfl, rfl⟩

set_option maxHeartbeats 4000000 in
set_option maxRecDepth 100000 in
theorem c_X12_setClosed {l : Launch} {G : va_G} {bs : Nat} {cy : Nat → ClassId} {I : CI} {L : CL} {R : CR} (σ : Row) (k : Nat) (U : Nat → Row) (v : Int32) (w : Int32) (b : Bool) (hs : I 68 = σ) (hi : Inv σ) (hU : HisM I k U) (hed : I 67 5 = nI k) : MTi l G bs cy MX12_setClosed 3 [.ref (bs + 67), .int v, .int w, .int (bI b)] I L R (fun r I1 L1 R1 => ((inB v (nLn σ) && inB w (Yn σ)) = true → r = scR σ v w b) ∧ Fr SE I I1 ∧ I1 67 6 = thr (inB v (nLn σ) && inB w (Yn σ)) ∧ EdP I1 (scO σ v w b) σ k U ∧ L = L1 ∧ R = R1) := by
  refine MTi.of (own := RX12) pn_RX12 rfl (Nat.le_of_ble_eq_true rfl) ?_
  intro p e s m args below meth c Qf X hW hS fin ls hl
  have hx := X.1
  have hb := X.2.1
  have hR : RmOK (rmL 3 0 0) 3 := ⟨rfl, rfl⟩
  have hcs : 0 ≤ (rmL 3 0 0).cells ∧ 0 ≤ (rmL 3 0 0).slots := ⟨Nat.zero_le _, Nat.zero_le _⟩
  have hl : lv_has ls 4 [(0, .ref (bs + 67)), (1, .int v), (2, .int w), (3, .int (bI b))] := hl
  have hF : Fr SE I I := Fr.rf
  obtain ⟨hY, hY1, hY12, hLn, hL4, hSn, hS12, hGn, hG5⟩ := id hi
  refine lv_aload_n hx hb (dg D_X12_setClosed (i := 0) rfl) rfl (lv_at hl 0 rfl) ?_
  refine lv_aload_n hx hb (dg D_X12_setClosed (i := 1) rfl) rfl (lv_at hl 0 rfl) ?_
  refine lv_iload_n hx hb (dg D_X12_setClosed (i := 2) rfl) rfl (lv_at hl 1 rfl) ?_
  refine callVi X hW hS hR (c_X12_isLane (I := I) σ v (by first | assumption | omega | decide | exact hP.1) (by first | assumption | omega | decide | exact hP.1)) (by decide) UVX12_isLane LK_X12_306 rfl (by decide) rfl rfl rfl (Nat.le_of_ble_eq_true rfl) hl hcs (dg D_X12_setClosed (i := 3) rfl) (fun r3 I3 L1 R1 H locs hq hW hS => ?_)
  obtain ⟨rfl, rfl, rfl, rfl⟩ := hq
  refine z_if_eq (tgt := 21) hx hb (dg D_X12_setClosed (i := 4) rfl) (by decide) (fun c6 => ?_) (fun c6 => ?_)
  · refine n_iconst (a := 0) hx hb (dg D_X12_setClosed (i := 11) rfl) rfl ?_
    refine callVi X hW hS hR (c_X12_good (I := I) false) (by decide) UVX12_good LK_X12_95 rfl (by decide) rfl rfl rfl (Nat.le_of_ble_eq_true rfl) hl hcs (dg D_X12_setClosed (i := 12) rfl) (fun r22 I22 L1 R1 H locs hq hW hS => ?_)
    obtain ⟨rfl, hT22, hp22_0, rfl, rfl⟩ := hq
    have hF : Fr SE I I22 := Fr.tr hF hT22 (by intro a j h; simp only [ST, SE, Bool.or_eq_true, Bool.and_eq_true, beq_iff_eq, decide_eq_true_eq] at h ⊢; omega)
    have hs : I22 68 = σ := by rw [Fr.row hT22 (fun _ => rfl)]; exact hs
    have hU : HisM I22 k U := HisM.row hU (Fr.row hT22 (fun _ => rfl))
    have hed : I22 67 5 = nI k := (hT22 67 5 rfl).trans hed
    have hth : I22 67 6 = thr (inB v (nLn σ) && inB w (Yn σ)) := by rw [c6]; exact hp22_0
    refine z_if_ne (tgt := 30) hx hb (dg D_X12_setClosed (i := 13) rfl) (by decide) (fun c25 => ?_) (fun c25 => ?_)
    · exact absurd c25 (by decide)
    · refine n_iconst (a := 0) hx hb (dg D_X12_setClosed (i := 14) rfl) rfl ?_
      exact fin (dg D_X12_setClosed (i := 15) rfl) hW hS ⟨fun z => absurd z (by rw [c6]; exact Bool.false_ne_true), hF, hth, EdP.no (by unfold scO; rw [c6]; exact if_neg (nAf rfl)) hs hU hed, rfl, rfl⟩
  · refine lv_aload_n hx hb (dg D_X12_setClosed (i := 5) rfl) rfl (lv_at hl 0 rfl) ?_
    refine lv_iload_n hx hb (dg D_X12_setClosed (i := 6) rfl) rfl (lv_at hl 2 rfl) ?_
    refine callVi X hW hS hR (c_X12_isYear (I := I) σ w (by first | assumption | omega | decide | exact hP.1) (by first | assumption | omega | decide | exact hP.1)) (by decide) UVX12_isYear LK_X12_92 rfl (by decide) rfl rfl rfl (Nat.le_of_ble_eq_true rfl) hl hcs (dg D_X12_setClosed (i := 7) rfl) (fun r11 I11 L1 R1 H locs hq hW hS => ?_)
    obtain ⟨rfl, rfl, rfl, rfl⟩ := hq
    refine z_if_eq (tgt := 21) hx hb (dg D_X12_setClosed (i := 8) rfl) (by decide) (fun c14 => ?_) (fun c14 => ?_)
    · refine n_iconst (a := 0) hx hb (dg D_X12_setClosed (i := 11) rfl) rfl ?_
      refine callVi X hW hS hR (c_X12_good (I := I) false) (by decide) UVX12_good LK_X12_95 rfl (by decide) rfl rfl rfl (Nat.le_of_ble_eq_true rfl) hl hcs (dg D_X12_setClosed (i := 12) rfl) (fun r22 I22 L1 R1 H locs hq hW hS => ?_)
      obtain ⟨rfl, hT22, hp22_0, rfl, rfl⟩ := hq
      have hF : Fr SE I I22 := Fr.tr hF hT22 (by intro a j h; simp only [ST, SE, Bool.or_eq_true, Bool.and_eq_true, beq_iff_eq, decide_eq_true_eq] at h ⊢; omega)
      have hs : I22 68 = σ := by rw [Fr.row hT22 (fun _ => rfl)]; exact hs
      have hU : HisM I22 k U := HisM.row hU (Fr.row hT22 (fun _ => rfl))
      have hed : I22 67 5 = nI k := (hT22 67 5 rfl).trans hed
      have hth : I22 67 6 = thr (inB v (nLn σ) && inB w (Yn σ)) := by rw [c6, c14]; exact hp22_0
      refine z_if_ne (tgt := 30) hx hb (dg D_X12_setClosed (i := 13) rfl) (by decide) (fun c25 => ?_) (fun c25 => ?_)
      · exact absurd c25 (by decide)
      · refine n_iconst (a := 0) hx hb (dg D_X12_setClosed (i := 14) rfl) rfl ?_
        exact fin (dg D_X12_setClosed (i := 15) rfl) hW hS ⟨fun z => absurd z (by rw [c6, c14]; exact Bool.false_ne_true), hF, hth, EdP.no (by unfold scO; rw [c6, c14]; exact if_neg (nAf rfl)) hs hU hed, rfl, rfl⟩
    · refine n_iconst (a := 1) hx hb (dg D_X12_setClosed (i := 9) rfl) rfl ?_
      refine lv_goto (tgt := 22) hx hb (dg D_X12_setClosed (i := 10) rfl) (by decide) ?_
      refine callVi X hW hS hR (c_X12_good (I := I) true) (by decide) UVX12_good LK_X12_95 rfl (by decide) rfl rfl rfl (Nat.le_of_ble_eq_true rfl) hl hcs (dg D_X12_setClosed (i := 12) rfl) (fun r22 I22 L1 R1 H locs hq hW hS => ?_)
      obtain ⟨rfl, hT22, hp22_0, rfl, rfl⟩ := hq
      have hF : Fr SE I I22 := Fr.tr hF hT22 (by intro a j h; simp only [ST, SE, Bool.or_eq_true, Bool.and_eq_true, beq_iff_eq, decide_eq_true_eq] at h ⊢; omega)
      have hs : I22 68 = σ := by rw [Fr.row hT22 (fun _ => rfl)]; exact hs
      have hU : HisM I22 k U := HisM.row hU (Fr.row hT22 (fun _ => rfl))
      have hed : I22 67 5 = nI k := (hT22 67 5 rfl).trans hed
      have hth : I22 67 6 = thr (inB v (nLn σ) && inB w (Yn σ)) := by rw [c6, c14]; exact hp22_0
      refine z_if_ne (tgt := 30) hx hb (dg D_X12_setClosed (i := 13) rfl) (by decide) (fun c25 => ?_) (fun c25 => ?_)
      · obtain ⟨jv, hjv, rfl⟩ := inB_of c6 (by omega)
        obtain ⟨jw, hjw, rfl⟩ := inB_of c14 (by omega)
        refine lv_aload_n hx hb (dg D_X12_setClosed (i := 16) rfl) rfl (lv_at hl 0 rfl) ?_
        refine r_getc (t := 68) X hW FI_X12_7 rfl (by decide) rfl (dg D_X12_setClosed (i := 17) rfl) ?_
        refine lv_bipush (v := nI 92) hx hb (dg D_X12_setClosed (i := 18) rfl) (by decide) ?_
        refine lv_iload_n hx hb (dg D_X12_setClosed (i := 19) rfl) rfl (lv_at hl 2 rfl) ?_
        refine n_iadd hx hb (dg D_X12_setClosed (i := 20) rfl) ?_
        refine r_ald (j := 92 + jw) (v := σ (92 + jw)) X hW rfl (by decide) rfl (by omega) (by decide) (congrFun hs _) (dg D_X12_setClosed (i := 21) rfl) ?_
        refine lv_iload_n hx hb (dg D_X12_setClosed (i := 22) rfl) rfl (lv_at hl 1 rfl) ?_
        refine lv_ishr hx hb (dg D_X12_setClosed (i := 23) rfl) ?_
        refine n_iconst (a := 1) hx hb (dg D_X12_setClosed (i := 24) rfl) rfl ?_
        refine lv_iand hx hb (dg D_X12_setClosed (i := 25) rfl) ?_
        refine n_iconst (a := 1) hx hb (dg D_X12_setClosed (i := 26) rfl) rfl ?_
        refine lv_icmp_ne (tgt := 51) hx hb (dg D_X12_setClosed (i := 27) rfl) (by decide) (fun c44 => ?_) (fun c44 => ?_)
        · refine n_iconst (a := 0) hx hb (dg D_X12_setClosed (i := 30) rfl) rfl ?_
          refine lv_iload_n hx hb (dg D_X12_setClosed (i := 31) rfl) rfl (lv_at hl 3 rfl) ?_
          refine lv_icmp_ne (tgt := 60) hx hb (dg D_X12_setClosed (i := 32) rfl) (by decide) (fun c53 => ?_) (fun c53 => ?_)
          · have hb0 : scB σ jv jw = false := decide_eq_false c44
            have hbq : ¬ scB σ jv jw = b := by rw [hb0]; exact fun z => c53 (by rw [← z]; rfl)
            refine lv_aload_n hx hb (dg D_X12_setClosed (i := 35) rfl) rfl (lv_at hl 0 rfl) ?_
            refine callVv X hW hS hR (c_X12_remember (I := I22) σ k U (by first | assumption | omega | decide | exact hP.1) (by first | assumption | omega | decide | exact hP.1) (by first | assumption | omega | decide | exact hP.1)) (by decide) UVX12_remember LK_X12_336 rfl (by decide) rfl rfl rfl (Nat.le_of_ble_eq_true rfl) hl hcs (dg D_X12_setClosed (i := 36) rfl) (fun I61 L1 R1 H locs hq hW hS => ?_)
            obtain ⟨hT61, hp61_0, hp61_1, rfl, rfl⟩ := hq
            have hF : Fr SE I I61 := Fr.tr hF hT61 (by intro a j h; simp only [SH, SE, Bool.or_eq_true, Bool.and_eq_true, beq_iff_eq, decide_eq_true_eq] at h ⊢; omega)
            have hs : I61 68 = σ := by rw [Fr.row hT61 (fun _ => rfl)]; exact hs
            have hU : HisM I61 (min 16 (k + 1)) (pushU σ U) := hp61_0
            have hth : I61 67 6 = thr (inB (nI jv) (nLn σ) && inB (nI jw) (Yn σ)) := (hT61 67 6 rfl).trans hth
            have hed : I61 67 5 = nI (min 16 (k + 1)) := hp61_1
            refine lv_aload_n hx hb (dg D_X12_setClosed (i := 37) rfl) rfl (lv_at hl 0 rfl) ?_
            refine r_getc (t := 68) X hW FI_X12_7 rfl (by decide) rfl (dg D_X12_setClosed (i := 38) rfl) ?_
            refine lv_bipush (v := nI 92) hx hb (dg D_X12_setClosed (i := 39) rfl) (by decide) ?_
            refine lv_iload_n hx hb (dg D_X12_setClosed (i := 40) rfl) rfl (lv_at hl 2 rfl) ?_
            refine n_iadd hx hb (dg D_X12_setClosed (i := 41) rfl) ?_
            refine lv_dup2_11 hx hb (dg D_X12_setClosed (i := 42) rfl) rfl rfl ?_
            refine r_ald (j := 92 + jw) (v := σ (92 + jw)) X hW rfl (by decide) rfl (by omega) (by decide) (congrFun hs _) (dg D_X12_setClosed (i := 43) rfl) ?_
            refine n_iconst (a := 1) hx hb (dg D_X12_setClosed (i := 44) rfl) rfl ?_
            refine lv_iload_n hx hb (dg D_X12_setClosed (i := 45) rfl) rfl (lv_at hl 1 rfl) ?_
            refine lv_ishl hx hb (dg D_X12_setClosed (i := 46) rfl) ?_
            refine lv_ixor hx hb (dg D_X12_setClosed (i := 47) rfl) ?_
            refine r_ast (j := 92 + jw) (v := (σ (92 + jw)) ^^^ ((nI 1) <<< ((nI jv) &&& 31))) X hW hS rfl (by decide) rfl (by omega) (by decide) (dg D_X12_setClosed (i := 48) rfl) (fun H locs hW hS => ?_)
            have hF : Fr SE I (u2 I61 68 (92 + jw) ((σ (92 + jw)) ^^^ ((nI 1) <<< ((nI jv) &&& 31)))) := Fr.put hF rfl
            have hs : (u2 I61 68 (92 + jw) ((σ (92 + jw)) ^^^ ((nI 1) <<< ((nI jv) &&& 31)))) 68 = upd σ (92 + jw) (scN σ jv jw) := by rw [u2_eq, hs]; rfl
            have hU : HisM (u2 I61 68 (92 + jw) ((σ (92 + jw)) ^^^ ((nI 1) <<< ((nI jv) &&& 31)))) (min 16 (k + 1)) (pushU σ U) := hU
            obtain ⟨J78, eJ78⟩ : ∃ J, J = u2 I61 68 (92 + jw) ((σ (92 + jw)) ^^^ ((nI 1) <<< ((nI jv) &&& 31))) := ⟨_, rfl⟩
            rw [← eJ78] at hW hF hs hU
            have hth : J78 67 6 = thr (inB (nI jv) (nLn σ) && inB (nI jw) (Yn σ)) := by rw [eJ78, u2_off (Or.inl (by decide))]; exact hth
            have hed : J78 67 5 = nI (min 16 (k + 1)) := by rw [eJ78, u2_off (Or.inl (by decide))]; exact hed
            refine lv_aload_n hx hb (dg D_X12_setClosed (i := 49) rfl) rfl (lv_at hl 0 rfl) ?_
            refine r_getc (t := 68) X hW FI_X12_7 rfl (by decide) rfl (dg D_X12_setClosed (i := 50) rfl) ?_
            refine lv_bipush (v := nI 92) hx hb (dg D_X12_setClosed (i := 51) rfl) (by decide) ?_
            refine lv_iload_n hx hb (dg D_X12_setClosed (i := 52) rfl) rfl (lv_at hl 2 rfl) ?_
            refine n_iadd hx hb (dg D_X12_setClosed (i := 53) rfl) ?_
            refine r_ald (j := 92 + jw) (v := scN σ jv jw) X hW rfl (by decide) rfl (by omega) (by decide) (by rw [hs]; exact upd_eq) (dg D_X12_setClosed (i := 54) rfl) ?_
            exact fin (dg D_X12_setClosed (i := 55) rfl) hW hS ⟨fun _ => by unfold scR; rw [tN_nI (show jv < 2 ^ 31 by omega), tN_nI (show jw < 2 ^ 31 by omega), if_neg hbq], hF, hth, EdP.ok (by unfold scO; rw [tN_nI (show jv < 2 ^ 31 by omega), tN_nI (show jw < 2 ^ 31 by omega)]; exact if_pos (And.intro (by rw [c6, c14]; rfl) hbq)) hs hU hed, rfl, rfl⟩
          · have hb0 : scB σ jv jw = false := decide_eq_false c44
            have hbq : scB σ jv jw = b := by rw [hb0]; exact bI_inj c53
            refine r_ldcw X CK_X12_339 (dg D_X12_setClosed (i := 33) rfl) ?_
            exact fin (dg D_X12_setClosed (i := 34) rfl) hW hS ⟨fun _ => by unfold scR; rw [tN_nI (show jv < 2 ^ 31 by omega), tN_nI (show jw < 2 ^ 31 by omega), if_pos hbq], hF, hth, EdP.no (by unfold scO; rw [tN_nI (show jv < 2 ^ 31 by omega), tN_nI (show jw < 2 ^ 31 by omega)]; exact if_neg (fun z => z.2 hbq)) hs hU hed, rfl, rfl⟩
        · refine n_iconst (a := 1) hx hb (dg D_X12_setClosed (i := 28) rfl) rfl ?_
          refine lv_goto (tgt := 52) hx hb (dg D_X12_setClosed (i := 29) rfl) (by decide) ?_
          refine lv_iload_n hx hb (dg D_X12_setClosed (i := 31) rfl) rfl (lv_at hl 3 rfl) ?_
          refine lv_icmp_ne (tgt := 60) hx hb (dg D_X12_setClosed (i := 32) rfl) (by decide) (fun c53 => ?_) (fun c53 => ?_)
          · have hb0 : scB σ jv jw = true := decide_eq_true c44
            have hbq : ¬ scB σ jv jw = b := by rw [hb0]; exact fun z => c53 (by rw [← z]; rfl)
            refine lv_aload_n hx hb (dg D_X12_setClosed (i := 35) rfl) rfl (lv_at hl 0 rfl) ?_
            refine callVv X hW hS hR (c_X12_remember (I := I22) σ k U (by first | assumption | omega | decide | exact hP.1) (by first | assumption | omega | decide | exact hP.1) (by first | assumption | omega | decide | exact hP.1)) (by decide) UVX12_remember LK_X12_336 rfl (by decide) rfl rfl rfl (Nat.le_of_ble_eq_true rfl) hl hcs (dg D_X12_setClosed (i := 36) rfl) (fun I61 L1 R1 H locs hq hW hS => ?_)
            obtain ⟨hT61, hp61_0, hp61_1, rfl, rfl⟩ := hq
            have hF : Fr SE I I61 := Fr.tr hF hT61 (by intro a j h; simp only [SH, SE, Bool.or_eq_true, Bool.and_eq_true, beq_iff_eq, decide_eq_true_eq] at h ⊢; omega)
            have hs : I61 68 = σ := by rw [Fr.row hT61 (fun _ => rfl)]; exact hs
            have hU : HisM I61 (min 16 (k + 1)) (pushU σ U) := hp61_0
            have hth : I61 67 6 = thr (inB (nI jv) (nLn σ) && inB (nI jw) (Yn σ)) := (hT61 67 6 rfl).trans hth
            have hed : I61 67 5 = nI (min 16 (k + 1)) := hp61_1
            refine lv_aload_n hx hb (dg D_X12_setClosed (i := 37) rfl) rfl (lv_at hl 0 rfl) ?_
            refine r_getc (t := 68) X hW FI_X12_7 rfl (by decide) rfl (dg D_X12_setClosed (i := 38) rfl) ?_
            refine lv_bipush (v := nI 92) hx hb (dg D_X12_setClosed (i := 39) rfl) (by decide) ?_
            refine lv_iload_n hx hb (dg D_X12_setClosed (i := 40) rfl) rfl (lv_at hl 2 rfl) ?_
            refine n_iadd hx hb (dg D_X12_setClosed (i := 41) rfl) ?_
            refine lv_dup2_11 hx hb (dg D_X12_setClosed (i := 42) rfl) rfl rfl ?_
            refine r_ald (j := 92 + jw) (v := σ (92 + jw)) X hW rfl (by decide) rfl (by omega) (by decide) (congrFun hs _) (dg D_X12_setClosed (i := 43) rfl) ?_
            refine n_iconst (a := 1) hx hb (dg D_X12_setClosed (i := 44) rfl) rfl ?_
            refine lv_iload_n hx hb (dg D_X12_setClosed (i := 45) rfl) rfl (lv_at hl 1 rfl) ?_
            refine lv_ishl hx hb (dg D_X12_setClosed (i := 46) rfl) ?_
            refine lv_ixor hx hb (dg D_X12_setClosed (i := 47) rfl) ?_
            refine r_ast (j := 92 + jw) (v := (σ (92 + jw)) ^^^ ((nI 1) <<< ((nI jv) &&& 31))) X hW hS rfl (by decide) rfl (by omega) (by decide) (dg D_X12_setClosed (i := 48) rfl) (fun H locs hW hS => ?_)
            have hF : Fr SE I (u2 I61 68 (92 + jw) ((σ (92 + jw)) ^^^ ((nI 1) <<< ((nI jv) &&& 31)))) := Fr.put hF rfl
            have hs : (u2 I61 68 (92 + jw) ((σ (92 + jw)) ^^^ ((nI 1) <<< ((nI jv) &&& 31)))) 68 = upd σ (92 + jw) (scN σ jv jw) := by rw [u2_eq, hs]; rfl
            have hU : HisM (u2 I61 68 (92 + jw) ((σ (92 + jw)) ^^^ ((nI 1) <<< ((nI jv) &&& 31)))) (min 16 (k + 1)) (pushU σ U) := hU
            obtain ⟨J78, eJ78⟩ : ∃ J, J = u2 I61 68 (92 + jw) ((σ (92 + jw)) ^^^ ((nI 1) <<< ((nI jv) &&& 31))) := ⟨_, rfl⟩
            rw [← eJ78] at hW hF hs hU
            have hth : J78 67 6 = thr (inB (nI jv) (nLn σ) && inB (nI jw) (Yn σ)) := by rw [eJ78, u2_off (Or.inl (by decide))]; exact hth
            have hed : J78 67 5 = nI (min 16 (k + 1)) := by rw [eJ78, u2_off (Or.inl (by decide))]; exact hed
            refine lv_aload_n hx hb (dg D_X12_setClosed (i := 49) rfl) rfl (lv_at hl 0 rfl) ?_
            refine r_getc (t := 68) X hW FI_X12_7 rfl (by decide) rfl (dg D_X12_setClosed (i := 50) rfl) ?_
            refine lv_bipush (v := nI 92) hx hb (dg D_X12_setClosed (i := 51) rfl) (by decide) ?_
            refine lv_iload_n hx hb (dg D_X12_setClosed (i := 52) rfl) rfl (lv_at hl 2 rfl) ?_
            refine n_iadd hx hb (dg D_X12_setClosed (i := 53) rfl) ?_
            refine r_ald (j := 92 + jw) (v := scN σ jv jw) X hW rfl (by decide) rfl (by omega) (by decide) (by rw [hs]; exact upd_eq) (dg D_X12_setClosed (i := 54) rfl) ?_
            exact fin (dg D_X12_setClosed (i := 55) rfl) hW hS ⟨fun _ => by unfold scR; rw [tN_nI (show jv < 2 ^ 31 by omega), tN_nI (show jw < 2 ^ 31 by omega), if_neg hbq], hF, hth, EdP.ok (by unfold scO; rw [tN_nI (show jv < 2 ^ 31 by omega), tN_nI (show jw < 2 ^ 31 by omega)]; exact if_pos (And.intro (by rw [c6, c14]; rfl) hbq)) hs hU hed, rfl, rfl⟩
          · have hb0 : scB σ jv jw = true := decide_eq_true c44
            have hbq : scB σ jv jw = b := by rw [hb0]; exact bI_inj c53
            refine r_ldcw X CK_X12_339 (dg D_X12_setClosed (i := 33) rfl) ?_
            exact fin (dg D_X12_setClosed (i := 34) rfl) hW hS ⟨fun _ => by unfold scR; rw [tN_nI (show jv < 2 ^ 31 by omega), tN_nI (show jw < 2 ^ 31 by omega), if_pos hbq], hF, hth, EdP.no (by unfold scO; rw [tN_nI (show jv < 2 ^ 31 by omega), tN_nI (show jw < 2 ^ 31 by omega)]; exact if_neg (fun z => z.2 hbq)) hs hU hed, rfl, rfl⟩
      · exact absurd c25 (by decide)

