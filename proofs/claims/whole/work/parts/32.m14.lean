set_option maxHeartbeats 4000000 in
set_option maxRecDepth 100000 in
theorem c_X12_pastWith {l : Launch} {G : va_G} {bs : Nat} {cy : Nat → ClassId} {I : CI} {L : CL} {R : CR} (σ : Row) (σ0 : Row) (gs : Int32) (hs : I 68 = σ) (hi : Inv σ) (hd : DR σ) (hA : AsP I σ0) (hH : ∀ j, 248 ≤ j → σ j = σ0 j) : MTi l G bs cy MX12_pastWith 6 [.ref (bs + 67), .int gs] I L R (fun r I1 L1 R1 => cntP (auto σ gs) = r ∧ Fr SM I I1 ∧ I1 68 = σ0 ∧ L = L1 ∧ R = R1) := by
  refine MTi.of (own := RX12) pn_RX12 rfl (Nat.le_of_ble_eq_true rfl) ?_
  intro p e s m args below meth c Qf X hW hS fin ls hl
  have hx := X.1
  have hb := X.2.1
  have hR : RmOK (rmL 6 0 0) 6 := ⟨rfl, rfl⟩
  have hcs : 0 ≤ (rmL 6 0 0).cells ∧ 0 ≤ (rmL 6 0 0).slots := ⟨Nat.zero_le _, Nat.zero_le _⟩
  have hl : lv_has ls 3 [(0, .ref (bs + 67)), (1, .int gs)] := hl
  have hF : Fr SM I I := Fr.rf
  refine lv_aload_n hx hb (dg D_X12_pastWith (i := 0) rfl) rfl (lv_at hl 0 rfl) ?_
  refine lv_iload_n hx hb (dg D_X12_pastWith (i := 1) rfl) rfl (lv_at hl 1 rfl) ?_
  refine callVv X hW hS hR (c_X12_makePlan (I := I) σ gs (by first | assumption | omega | decide | exact hP.1) (by first | assumption | omega | decide | exact hP.1) (by first | assumption | omega | decide | exact hP.1)) (by decide) UVX12_makePlan LK_X12_370 rfl (by decide) rfl rfl rfl (Nat.le_of_ble_eq_true rfl) hl hcs (dg D_X12_pastWith (i := 2) rfl) (fun I2 L1 R1 H locs hq hW hS => ?_)
  obtain ⟨hT2, hp2_0, rfl, rfl⟩ := hq
  have hF : Fr SM I I2 := Fr.tr hF hT2 (fun _ _ h => h)
  have hs : I2 68 = auto σ gs := hp2_0
  have hA : AsP I2 σ0 := AsP.row hA (Fr.row hT2 (fun _ => rfl))
  refine lv_aload_n hx hb (dg D_X12_pastWith (i := 3) rfl) rfl (lv_at hl 0 rfl) ?_
  refine callVi X hW hS hR (c_X12_countPast (I := I2) (auto σ gs) (by first | assumption | omega | decide | exact hP.1) (auto_Inv hi)) (by decide) UVX12_countPast LK_X12_255 rfl (by decide) rfl rfl rfl (Nat.le_of_ble_eq_true rfl) hl hcs (dg D_X12_pastWith (i := 4) rfl) (fun r6 I6 L1 R1 H locs hq hW hS => ?_)
  obtain ⟨rfl, hT6, rfl, rfl⟩ := hq
  have hF : Fr SM I I6 := Fr.tr hF hT6 (by intro a j h; simp only [SL, SM, Bool.or_eq_true, Bool.and_eq_true, beq_iff_eq, decide_eq_true_eq] at h ⊢; omega)
  have hs : I6 68 = auto σ gs := by rw [Fr.row hT6 (fun _ => rfl)]; exact hs
  have hA : AsP I6 σ0 := AsP.row hA (Fr.row hT6 (fun _ => rfl))
  refine lv_istore_n (lv' := [(2, .int (cntP (auto σ gs))), (0, .ref (bs + 67)), (1, .int gs)]) hx hb (dg D_X12_pastWith (i := 5) rfl) rfl hl (by decide) rfl (fun ls hl => ?_)
  refine lv_aload_n hx hb (dg D_X12_pastWith (i := 6) rfl) rfl (lv_at hl 1 rfl) ?_
  refine r_getc (t := 70) X hW FI_X12_16 rfl (by decide) rfl (dg D_X12_pastWith (i := 7) rfl) ?_
  refine n_iconst (a := 0) hx hb (dg D_X12_pastWith (i := 8) rfl) rfl ?_
  refine lv_aload_n hx hb (dg D_X12_pastWith (i := 9) rfl) rfl (lv_at hl 1 rfl) ?_
  refine r_getc (t := 68) X hW FI_X12_7 rfl (by decide) rfl (dg D_X12_pastWith (i := 10) rfl) ?_
  refine n_iconst (a := 0) hx hb (dg D_X12_pastWith (i := 11) rfl) rfl ?_
  refine callSv X hW hS hR (c_X12_copy (I := I6) 70 248 0 68 248 0 (rfl) (by first | assumption | omega | decide | exact hP.1) (rfl) (by first | assumption | omega | decide | exact hP.1) (by first | assumption | omega | decide | exact hP.1) (by first | assumption | omega | decide | exact hP.1) (by first | assumption | omega | decide | exact hP.1) (by first | assumption | omega | decide | exact hP.1)) (by decide) USX12_copy LK_X12_80 rfl rfl (Nat.le_of_ble_eq_true rfl) hl hcs (dg D_X12_pastWith (i := 12) rfl) (fun I20 L1 R1 H locs hq hW hS => ?_)
  obtain ⟨hT20, hp20_0, rfl, rfl⟩ := hq
  have hF : Fr SM I I20 := Fr.tr hF hT20 (by intro a j h; simp only [SC, SM, Bool.or_eq_true, Bool.and_eq_true, beq_iff_eq, decide_eq_true_eq] at h ⊢; omega)
  have hs : I20 68 = σ0 := by rw [hp20_0, hs, cpR_mix]; exact as_back hA (fun j hj => (auto_hi hi hj).trans (hH j hj))
  have hA : AsP I20 σ0 := AsP.row hA (Fr.row hT20 (fun _ => rfl))
  refine lv_iload_n hx hb (dg D_X12_pastWith (i := 13) rfl) rfl (lv_at hl 0 rfl) ?_
  exact fin (dg D_X12_pastWith (i := 14) rfl) hW hS ⟨rfl, hF, hs, rfl, rfl⟩

set_option maxHeartbeats 4000000 in
set_option maxRecDepth 100000 in
theorem c_X12_autoPast {l : Launch} {G : va_G} {bs : Nat} {cy : Nat → ClassId} {I : CI} {L : CL} {R : CR} (σ : Row) (hs : I 68 = σ) (hi : Inv σ) (hd : DR σ) : MTi l G bs cy MX12_autoPast 7 [.ref (bs + 67)] I L R (fun r I1 L1 R1 => cntP (auto σ ALLG) = r ∧ Fr SAP I I1 ∧ I1 67 6 = nI 0 ∧ I1 68 = σ ∧ L = L1 ∧ R = R1) := by
  refine MTi.of (own := RX12) pn_RX12 rfl (Nat.le_of_ble_eq_true rfl) ?_
  intro p e s m args below meth c Qf X hW hS fin ls hl
  have hx := X.1
  have hb := X.2.1
  have hR : RmOK (rmL 7 0 0) 7 := ⟨rfl, rfl⟩
  have hcs : 0 ≤ (rmL 7 0 0).cells ∧ 0 ≤ (rmL 7 0 0).slots := ⟨Nat.zero_le _, Nat.zero_le _⟩
  have hl : lv_has ls 1 [(0, .ref (bs + 67))] := hl
  have hF : Fr SAP I I := Fr.rf
  refine lv_aload_n hx hb (dg D_X12_autoPast (i := 0) rfl) rfl (lv_at hl 0 rfl) ?_
  refine n_iconst (a := 0) hx hb (dg D_X12_autoPast (i := 1) rfl) rfl ?_
  refine r_puti (v := nI 0) (ty := .int) X hW hS FI_X12_74 rfl (by decide) rfl rfl (by decide +kernel) rfl rfl (dg D_X12_autoPast (i := 2) rfl) (fun H locs hW hS => ?_)
  have hF : Fr SAP I (u2 I 67 6 (nI 0)) := Fr.put hF rfl
  have hs : (u2 I 67 6 (nI 0)) 68 = σ := hs
  obtain ⟨J2, eJ2⟩ : ∃ J, J = u2 I 67 6 (nI 0) := ⟨_, rfl⟩
  rw [← eJ2] at hW hF hs
  have hth : J2 67 6 = nI 0 := by rw [eJ2]; exact u2_at
  refine lv_aload_n hx hb (dg D_X12_autoPast (i := 3) rfl) rfl (lv_at hl 0 rfl) ?_
  refine callVv X hW hS hR (c_X12_putAside (I := J2) σ (by first | assumption | omega | decide | exact hP.1)) (by decide) UVX12_putAside LK_X12_376 rfl (by decide) rfl rfl rfl (Nat.le_of_ble_eq_true rfl) hl hcs (dg D_X12_autoPast (i := 4) rfl) (fun I6 L1 R1 H locs hq hW hS => ?_)
  obtain ⟨hT6, hp6_0, rfl, rfl⟩ := hq
  have hF : Fr SAP I I6 := Fr.tr hF hT6 (by intro a j h; simp only [SC, SAP, Bool.or_eq_true, Bool.and_eq_true, beq_iff_eq, decide_eq_true_eq] at h ⊢; omega)
  have hs : I6 68 = σ := by rw [Fr.row hT6 (fun _ => rfl)]; exact hs
  have hth : I6 67 6 = nI 0 := (hT6 67 6 rfl).trans hth
  have hA : AsP I6 σ := AsP.mix hp6_0
  refine lv_aload_n hx hb (dg D_X12_autoPast (i := 5) rfl) rfl (lv_at hl 0 rfl) ?_
  refine lv_bipush (v := nI 31) hx hb (dg D_X12_autoPast (i := 6) rfl) (by decide) ?_
  refine callVi X hW hS hR (c_X12_pastWith (I := I6) σ σ (nI 31) (by first | assumption | omega | decide | exact hP.1) (by first | assumption | omega | decide | exact hP.1) (by first | assumption | omega | decide | exact hP.1) (by first | assumption | omega | decide | exact hP.1) (fun j _ => rfl)) (by decide) UVX12_pastWith LK_X12_382 rfl (by decide) rfl rfl rfl (Nat.le_of_ble_eq_true rfl) hl hcs (dg D_X12_autoPast (i := 7) rfl) (fun r12 I12 L1 R1 H locs hq hW hS => ?_)
  obtain ⟨rfl, hT12, hp12_0, rfl, rfl⟩ := hq
  have hF : Fr SAP I I12 := Fr.tr hF hT12 (by intro a j h; simp only [SM, SAP, Bool.or_eq_true, Bool.and_eq_true, beq_iff_eq, decide_eq_true_eq] at h ⊢; omega)
  have hs : I12 68 = σ := hp12_0
  have hA : AsP I12 σ := AsP.row hA (Fr.row hT12 (fun _ => rfl))
  have hth : I12 67 6 = nI 0 := (hT12 67 6 rfl).trans hth
  exact fin (dg D_X12_autoPast (i := 8) rfl) hW hS ⟨rfl, hF, hth, hs, rfl, rfl⟩

set_option maxHeartbeats 4000000 in
set_option maxRecDepth 100000 in
theorem c_X12_autoPastWithout {l : Launch} {G : va_G} {bs : Nat} {cy : Nat → ClassId} {I : CI} {L : CL} {R : CR} (σ : Row) (v : Int32) (hs : I 68 = σ) (hi : Inv σ) (hd : DR σ) : MTi l G bs cy MX12_autoPastWithout 7 [.ref (bs + 67), .int v] I L R (fun r I1 L1 R1 => ((inB v (nG σ)) = true → r = cntP (auto σ (nI 31 ^^^ nI 1 <<< (v &&& 31)))) ∧ Fr SAP I I1 ∧ I1 67 6 = thr (inB v (nG σ)) ∧ I1 68 = σ ∧ L = L1 ∧ R = R1) := by
  refine MTi.of (own := RX12) pn_RX12 rfl (Nat.le_of_ble_eq_true rfl) ?_
  intro p e s m args below meth c Qf X hW hS fin ls hl
  have hx := X.1
  have hb := X.2.1
  have hR : RmOK (rmL 7 0 0) 7 := ⟨rfl, rfl⟩
  have hcs : 0 ≤ (rmL 7 0 0).cells ∧ 0 ≤ (rmL 7 0 0).slots := ⟨Nat.zero_le _, Nat.zero_le _⟩
  have hl : lv_has ls 2 [(0, .ref (bs + 67)), (1, .int v)] := hl
  have hF : Fr SAP I I := Fr.rf
  obtain ⟨hY, hY1, hY12, hLn, hL4, hSn, hS12, hGn, hG5⟩ := id hi
  refine lv_aload_n hx hb (dg D_X12_autoPastWithout (i := 0) rfl) rfl (lv_at hl 0 rfl) ?_
  refine lv_aload_n hx hb (dg D_X12_autoPastWithout (i := 1) rfl) rfl (lv_at hl 0 rfl) ?_
  refine lv_iload_n hx hb (dg D_X12_autoPastWithout (i := 2) rfl) rfl (lv_at hl 1 rfl) ?_
  refine callVi X hW hS hR (c_X12_isGang (I := I) σ v (by first | assumption | omega | decide | exact hP.1) (by first | assumption | omega | decide | exact hP.1)) (by decide) UVX12_isGang LK_X12_282 rfl (by decide) rfl rfl rfl (Nat.le_of_ble_eq_true rfl) hl hcs (dg D_X12_autoPastWithout (i := 3) rfl) (fun r3 I3 L1 R1 H locs hq hW hS => ?_)
  obtain ⟨rfl, rfl, rfl, rfl⟩ := hq
  refine callVi X hW hS hR (c_X12_good (I := I) (inB v (nG σ))) (by decide) UVX12_good LK_X12_95 rfl (by decide) rfl rfl rfl (Nat.le_of_ble_eq_true rfl) hl hcs (dg D_X12_autoPastWithout (i := 4) rfl) (fun r6 I6 L1 R1 H locs hq hW hS => ?_)
  obtain ⟨rfl, hT6, hp6_0, rfl, rfl⟩ := hq
  have hF : Fr SAP I I6 := Fr.tr hF hT6 (by intro a j h; simp only [ST, SAP, Bool.or_eq_true, Bool.and_eq_true, beq_iff_eq, decide_eq_true_eq] at h ⊢; omega)
  have hs : I6 68 = σ := by rw [Fr.row hT6 (fun _ => rfl)]; exact hs
  have hth : I6 67 6 = thr (inB v (nG σ)) := hp6_0
  refine z_if_ne (tgt := 14) hx hb (dg D_X12_autoPastWithout (i := 5) rfl) (by decide) (fun c9 => ?_) (fun c9 => ?_)
  · obtain ⟨jv, hjv, rfl⟩ := inB_of c9 (by omega)
    refine lv_aload_n hx hb (dg D_X12_autoPastWithout (i := 8) rfl) rfl (lv_at hl 0 rfl) ?_
    refine callVv X hW hS hR (c_X12_putAside (I := I6) σ (by first | assumption | omega | decide | exact hP.1)) (by decide) UVX12_putAside LK_X12_376 rfl (by decide) rfl rfl rfl (Nat.le_of_ble_eq_true rfl) hl hcs (dg D_X12_autoPastWithout (i := 9) rfl) (fun I15 L1 R1 H locs hq hW hS => ?_)
    obtain ⟨hT15, hp15_0, rfl, rfl⟩ := hq
    have hF : Fr SAP I I15 := Fr.tr hF hT15 (by intro a j h; simp only [SC, SAP, Bool.or_eq_true, Bool.and_eq_true, beq_iff_eq, decide_eq_true_eq] at h ⊢; omega)
    have hs : I15 68 = σ := by rw [Fr.row hT15 (fun _ => rfl)]; exact hs
    have hth : I15 67 6 = thr (inB (nI jv) (nG σ)) := (hT15 67 6 rfl).trans hth
    have hA : AsP I15 σ := AsP.mix hp15_0
    refine lv_aload_n hx hb (dg D_X12_autoPastWithout (i := 10) rfl) rfl (lv_at hl 0 rfl) ?_
    refine lv_bipush (v := nI 31) hx hb (dg D_X12_autoPastWithout (i := 11) rfl) (by decide) ?_
    refine n_iconst (a := 1) hx hb (dg D_X12_autoPastWithout (i := 12) rfl) rfl ?_
    refine lv_iload_n hx hb (dg D_X12_autoPastWithout (i := 13) rfl) rfl (lv_at hl 1 rfl) ?_
    refine lv_ishl hx hb (dg D_X12_autoPastWithout (i := 14) rfl) ?_
    refine lv_ixor hx hb (dg D_X12_autoPastWithout (i := 15) rfl) ?_
    refine callVi X hW hS hR (c_X12_pastWith (I := I15) σ σ ((nI 31) ^^^ ((nI 1) <<< ((nI jv) &&& 31))) (by first | assumption | omega | decide | exact hP.1) (by first | assumption | omega | decide | exact hP.1) (by first | assumption | omega | decide | exact hP.1) (by first | assumption | omega | decide | exact hP.1) (fun j _ => rfl)) (by decide) UVX12_pastWith LK_X12_382 rfl (by decide) rfl rfl rfl (Nat.le_of_ble_eq_true rfl) hl hcs (dg D_X12_autoPastWithout (i := 16) rfl) (fun r25 I25 L1 R1 H locs hq hW hS => ?_)
    obtain ⟨rfl, hT25, hp25_0, rfl, rfl⟩ := hq
    have hF : Fr SAP I I25 := Fr.tr hF hT25 (by intro a j h; simp only [SM, SAP, Bool.or_eq_true, Bool.and_eq_true, beq_iff_eq, decide_eq_true_eq] at h ⊢; omega)
    have hs : I25 68 = σ := hp25_0
    have hA : AsP I25 σ := AsP.row hA (Fr.row hT25 (fun _ => rfl))
    have hth : I25 67 6 = thr (inB (nI jv) (nG σ)) := (hT25 67 6 rfl).trans hth
    exact fin (dg D_X12_autoPastWithout (i := 17) rfl) hW hS ⟨fun _ => rfl, hF, hth, hs, rfl, rfl⟩
  · refine n_iconst (a := 0) hx hb (dg D_X12_autoPastWithout (i := 6) rfl) rfl ?_
    exact fin (dg D_X12_autoPastWithout (i := 7) rfl) hW hS ⟨fun z => absurd z (by rw [c9]; decide), hF, hth, hs, rfl, rfl⟩

set_option maxHeartbeats 4000000 in
set_option maxRecDepth 100000 in
theorem c_X12_criticalGang {l : Launch} {G : va_G} {bs : Nat} {cy : Nat → ClassId} {I : CI} {L : CL} {R : CR} (σ : Row) (hs : I 68 = σ) (hi : Inv σ) (hd : DR σ) : MTi l G bs cy MX12_criticalGang 7 [.ref (bs + 67)] I L R (fun r I1 L1 R1 => cgR σ = r ∧ Fr SAP I I1 ∧ I1 67 6 = nI 0 ∧ I1 68 = σ ∧ L = L1 ∧ R = R1) := by
  refine MTi.of (own := RX12) pn_RX12 rfl (Nat.le_of_ble_eq_true rfl) ?_
  intro p e s m args below meth c Qf X hW hS fin ls hl
  have hx := X.1
  have hb := X.2.1
  have hR : RmOK (rmL 7 0 0) 7 := ⟨rfl, rfl⟩
  have hcs : 0 ≤ (rmL 7 0 0).cells ∧ 0 ≤ (rmL 7 0 0).slots := ⟨Nat.zero_le _, Nat.zero_le _⟩
  have hl : lv_has ls 5 [(0, .ref (bs + 67))] := hl
  have hF : Fr SAP I I := Fr.rf
  obtain ⟨hY, hY1, hY12, hLn, hL4, hSn, hS12, hGn, hG5⟩ := id hi
  refine lv_aload_n hx hb (dg D_X12_criticalGang (i := 0) rfl) rfl (lv_at hl 0 rfl) ?_
  refine n_iconst (a := 0) hx hb (dg D_X12_criticalGang (i := 1) rfl) rfl ?_
  refine r_puti (v := nI 0) (ty := .int) X hW hS FI_X12_74 rfl (by decide) rfl rfl (by decide +kernel) rfl rfl (dg D_X12_criticalGang (i := 2) rfl) (fun H locs hW hS => ?_)
  have hF : Fr SAP I (u2 I 67 6 (nI 0)) := Fr.put hF rfl
  have hs : (u2 I 67 6 (nI 0)) 68 = σ := hs
  obtain ⟨J2, eJ2⟩ : ∃ J, J = u2 I 67 6 (nI 0) := ⟨_, rfl⟩
  rw [← eJ2] at hW hF hs
  have hth : J2 67 6 = nI 0 := by rw [eJ2]; exact u2_at
  refine lv_aload_n hx hb (dg D_X12_criticalGang (i := 3) rfl) rfl (lv_at hl 0 rfl) ?_
  refine callVv X hW hS hR (c_X12_putAside (I := J2) σ (by first | assumption | omega | decide | exact hP.1)) (by decide) UVX12_putAside LK_X12_376 rfl (by decide) rfl rfl rfl (Nat.le_of_ble_eq_true rfl) hl hcs (dg D_X12_criticalGang (i := 4) rfl) (fun I6 L1 R1 H locs hq hW hS => ?_)
  obtain ⟨hT6, hp6_0, rfl, rfl⟩ := hq
  have hF : Fr SAP I I6 := Fr.tr hF hT6 (by intro a j h; simp only [SC, SAP, Bool.or_eq_true, Bool.and_eq_true, beq_iff_eq, decide_eq_true_eq] at h ⊢; omega)
  have hs : I6 68 = σ := by rw [Fr.row hT6 (fun _ => rfl)]; exact hs
  have hth : I6 67 6 = nI 0 := (hT6 67 6 rfl).trans hth
  have hA : AsP I6 σ := AsP.mix hp6_0
  refine r_ldc X CK_X12_28 (dg D_X12_criticalGang (i := 5) rfl) ?_
  refine lv_istore_n (lv' := [(1, .int ((-1000004))), (0, .ref (bs + 67))]) hx hb (dg D_X12_criticalGang (i := 6) rfl) rfl hl (by decide) rfl (fun ls hl => ?_)
  refine lv_iconst (v := -1) hx hb (dg D_X12_criticalGang (i := 7) rfl) (by decide) ?_
  refine lv_istore_n (lv' := [(2, .int ((-1))), (1, .int ((-1000004))), (0, .ref (bs + 67))]) hx hb (dg D_X12_criticalGang (i := 8) rfl) rfl hl (by decide) rfl (fun ls hl => ?_)
  refine n_iconst (a := 0) hx hb (dg D_X12_criticalGang (i := 9) rfl) rfl ?_
  refine lv_istore_n (lv' := [(3, .int (nI 0)), (2, .int ((-1))), (1, .int ((-1000004))), (0, .ref (bs + 67))]) hx hb (dg D_X12_criticalGang (i := 10) rfl) rfl hl (by decide) rfl (fun ls hl => ?_)
  have loop16 := up_ind (P := fun g => ∀ (K16 : CI) (H : Heap) (locs : List Loc) (ls : Array Slot) (v1 : Int32) (v2 : Int32) (v3 : Int32), v1 = (amx (fun g => cntP (auto σ (wiG g))) NOTF (-1) g).1 → v2 = (amx (fun g => cntP (auto σ (wiG g))) NOTF (-1) g).2 → v3 = nI g → (Fr SAP I K16) → (K16 68 = σ) → (AsP K16 σ) → (K16 67 6 = nI 0) → Wd G bs cy K16 L R H → va_S (Aq bs) s.heap H locs → lv_has ls 5 [(0, .ref (bs + 67)), (1, .int v1), (2, .int v2), (3, .int v3)] → W p l e (rmL 7 0 0) s m args below meth c H locs 0 0 Qf (F0 m 16 ls [])) (nG σ) (fun g hx16 ih16 => by
      intro K16 H locs ls v1 v2 v3 q1 q2 q3 hF hs hA hth hW hS hl
      subst q1
      subst q2
      subst q3
      refine lv_iload_n hx hb (dg D_X12_criticalGang (i := 11) rfl) rfl (lv_at hl 3 rfl) ?_
      refine lv_aload_n hx hb (dg D_X12_criticalGang (i := 12) rfl) rfl (lv_at hl 0 rfl) ?_
      refine r_getc (t := 68) X hW FI_X12_7 rfl (by decide) rfl (dg D_X12_criticalGang (i := 13) rfl) ?_
      refine n_iconst (a := 5) hx hb (dg D_X12_criticalGang (i := 14) rfl) rfl ?_
      refine r_ald (j := 5) (v := nI (nG σ)) X hW rfl (by decide) rfl (by omega) (by decide) ((congrFun hs _).trans hGn) (dg D_X12_criticalGang (i := 15) rfl) ?_
      refine n_icmp_ge (tgt := 63) hx hb (by omega) (by omega) (dg D_X12_criticalGang (i := 16) rfl) (by decide) (fun c23 => ?_) (fun c23 => ?_)
      · refine lv_iload_n hx hb (dg D_X12_criticalGang (i := 38) rfl) rfl (lv_at hl 1 rfl) ?_
        exact fin (dg D_X12_criticalGang (i := 39) rfl) hW hS ⟨by unfold cgR; rw [show g = nG σ by omega], hF, hth, hs, rfl, rfl⟩
      · refine lv_aload_n hx hb (dg D_X12_criticalGang (i := 17) rfl) rfl (lv_at hl 0 rfl) ?_
        refine lv_bipush (v := nI 31) hx hb (dg D_X12_criticalGang (i := 18) rfl) (by decide) ?_
        refine n_iconst (a := 1) hx hb (dg D_X12_criticalGang (i := 19) rfl) rfl ?_
        refine lv_iload_n hx hb (dg D_X12_criticalGang (i := 20) rfl) rfl (lv_at hl 3 rfl) ?_
        refine lv_ishl hx hb (dg D_X12_criticalGang (i := 21) rfl) ?_
        refine lv_ixor hx hb (dg D_X12_criticalGang (i := 22) rfl) ?_
        refine callVi X hW hS hR (c_X12_pastWith (I := K16) σ σ ((nI 31) ^^^ ((nI 1) <<< ((nI g) &&& 31))) (by first | assumption | omega | decide | exact hP.1) (by first | assumption | omega | decide | exact hP.1) (by first | assumption | omega | decide | exact hP.1) (by first | assumption | omega | decide | exact hP.1) (fun j _ => rfl)) (by decide) UVX12_pastWith LK_X12_382 rfl (by decide) rfl rfl rfl (Nat.le_of_ble_eq_true rfl) hl hcs (dg D_X12_criticalGang (i := 23) rfl) (fun r33 I33 L1 R1 H locs hq hW hS => ?_)
        obtain ⟨rfl, hT33, hp33_0, rfl, rfl⟩ := hq
        rw [show cntP (auto σ ((nI 31) ^^^ ((nI 1) <<< ((nI g) &&& 31)))) = cntP (auto σ (wiG g)) from by unfold wiG; rfl]
        have hF : Fr SAP I I33 := Fr.tr hF hT33 (by intro a j h; simp only [SM, SAP, Bool.or_eq_true, Bool.and_eq_true, beq_iff_eq, decide_eq_true_eq] at h ⊢; omega)
        have hs : I33 68 = σ := hp33_0
        have hA : AsP I33 σ := AsP.row hA (Fr.row hT33 (fun _ => rfl))
        have hth : I33 67 6 = nI 0 := (hT33 67 6 rfl).trans hth
        refine lv_istore (lv' := [(4, .int (cntP (auto σ (wiG g)))), (0, .ref (bs + 67)), (1, .int ((amx (fun g => cntP (auto σ (wiG g))) NOTF (-1) g).1)), (2, .int ((amx (fun g => cntP (auto σ (wiG g))) NOTF (-1) g).2)), (3, .int (nI g))]) hx hb (dg D_X12_criticalGang (i := 24) rfl) hl (by decide) rfl (fun ls hl => ?_)
        refine lv_iload hx hb (dg D_X12_criticalGang (i := 25) rfl) (lv_at hl 0 rfl) ?_
        refine lv_iload_n hx hb (dg D_X12_criticalGang (i := 26) rfl) rfl (lv_at hl 3 rfl) ?_
        refine lv_icmp_le (tgt := 48) hx hb (dg D_X12_criticalGang (i := 27) rfl) (by decide) (fun c41 => ?_) (fun c41 => ?_)
        · refine lv_iload_n hx hb (dg D_X12_criticalGang (i := 30) rfl) rfl (lv_at hl 2 rfl) ?_
          refine lv_istore_n (lv' := [(1, .int ((amx (fun g => cntP (auto σ (wiG g))) NOTF (-1) g).1)), (4, .int (cntP (auto σ (wiG g)))), (0, .ref (bs + 67)), (2, .int ((amx (fun g => cntP (auto σ (wiG g))) NOTF (-1) g).2)), (3, .int (nI g))]) hx hb (dg D_X12_criticalGang (i := 31) rfl) rfl hl (by decide) rfl (fun ls hl => ?_)
          refine lv_iload_n hx hb (dg D_X12_criticalGang (i := 32) rfl) rfl (lv_at hl 3 rfl) ?_
          refine lv_iload hx hb (dg D_X12_criticalGang (i := 33) rfl) (lv_at hl 1 rfl) ?_
          refine r_max (v := if ((amx (fun g => cntP (auto σ (wiG g))) NOTF (-1) g).2) < (cntP (auto σ (wiG g))) then (cntP (auto σ (wiG g))) else ((amx (fun g => cntP (auto σ (wiG g))) NOTF (-1) g).2)) X hR (by decide) LK_X12_258 (Nat.le_of_ble_eq_true rfl) hl hcs rfl (dg D_X12_criticalGang (i := 34) rfl) ?_
          refine lv_istore_n (lv' := [(2, .int (if ((amx (fun g => cntP (auto σ (wiG g))) NOTF (-1) g).2) < (cntP (auto σ (wiG g))) then (cntP (auto σ (wiG g))) else ((amx (fun g => cntP (auto σ (wiG g))) NOTF (-1) g).2))), (1, .int ((amx (fun g => cntP (auto σ (wiG g))) NOTF (-1) g).1)), (4, .int (cntP (auto σ (wiG g)))), (0, .ref (bs + 67)), (3, .int (nI g))]) hx hb (dg D_X12_criticalGang (i := 35) rfl) rfl hl (by decide) rfl (fun ls hl => ?_)
          refine lv_iinc (v := nI (g + 1)) (lv' := [(3, .int (nI (g + 1))), (2, .int (if ((amx (fun g => cntP (auto σ (wiG g))) NOTF (-1) g).2) < (cntP (auto σ (wiG g))) then (cntP (auto σ (wiG g))) else ((amx (fun g => cntP (auto σ (wiG g))) NOTF (-1) g).2))), (1, .int ((amx (fun g => cntP (auto σ (wiG g))) NOTF (-1) g).1)), (4, .int (cntP (auto σ (wiG g)))), (0, .ref (bs + 67))]) hx hb (dg D_X12_criticalGang (i := 36) rfl) hl (k := 4) rfl (nI_add _ _) (by decide) rfl (fun ls hl => ?_)
          refine lv_goto (tgt := 16) hx hb (dg D_X12_criticalGang (i := 37) rfl) (by decide) ?_
          have hax : amx (fun g => cntP (auto σ (wiG g))) NOTF (-1) (g + 1) = amx (fun g => cntP (auto σ (wiG g))) NOTF (-1) g := amx_n (f := fun g => cntP (auto σ (wiG g))) (b := NOTF) (m := (-1)) (n := g) c41
          exact ih16 (by omega) I33 _ _ _ _ _ _ (by rw [hax]) (by rw [hax]; exact if_neg (Int32.not_lt.mpr c41)) (congrArg nI (by omega)) hF hs hA hth hW hS (lv_sub hl [4, 2, 1, 0] rfl)
        · refine lv_iload_n hx hb (dg D_X12_criticalGang (i := 28) rfl) rfl (lv_at hl 4 rfl) ?_
          refine lv_goto (tgt := 49) hx hb (dg D_X12_criticalGang (i := 29) rfl) (by decide) ?_
          refine lv_istore_n (lv' := [(1, .int (nI g)), (4, .int (cntP (auto σ (wiG g)))), (0, .ref (bs + 67)), (2, .int ((amx (fun g => cntP (auto σ (wiG g))) NOTF (-1) g).2)), (3, .int (nI g))]) hx hb (dg D_X12_criticalGang (i := 31) rfl) rfl hl (by decide) rfl (fun ls hl => ?_)
          refine lv_iload_n hx hb (dg D_X12_criticalGang (i := 32) rfl) rfl (lv_at hl 3 rfl) ?_
          refine lv_iload hx hb (dg D_X12_criticalGang (i := 33) rfl) (lv_at hl 1 rfl) ?_
          refine r_max (v := if ((amx (fun g => cntP (auto σ (wiG g))) NOTF (-1) g).2) < (cntP (auto σ (wiG g))) then (cntP (auto σ (wiG g))) else ((amx (fun g => cntP (auto σ (wiG g))) NOTF (-1) g).2)) X hR (by decide) LK_X12_258 (Nat.le_of_ble_eq_true rfl) hl hcs rfl (dg D_X12_criticalGang (i := 34) rfl) ?_
          refine lv_istore_n (lv' := [(2, .int (if ((amx (fun g => cntP (auto σ (wiG g))) NOTF (-1) g).2) < (cntP (auto σ (wiG g))) then (cntP (auto σ (wiG g))) else ((amx (fun g => cntP (auto σ (wiG g))) NOTF (-1) g).2))), (1, .int (nI g)), (4, .int (cntP (auto σ (wiG g)))), (0, .ref (bs + 67)), (3, .int (nI g))]) hx hb (dg D_X12_criticalGang (i := 35) rfl) rfl hl (by decide) rfl (fun ls hl => ?_)
          refine lv_iinc (v := nI (g + 1)) (lv' := [(3, .int (nI (g + 1))), (2, .int (if ((amx (fun g => cntP (auto σ (wiG g))) NOTF (-1) g).2) < (cntP (auto σ (wiG g))) then (cntP (auto σ (wiG g))) else ((amx (fun g => cntP (auto σ (wiG g))) NOTF (-1) g).2))), (1, .int (nI g)), (4, .int (cntP (auto σ (wiG g)))), (0, .ref (bs + 67))]) hx hb (dg D_X12_criticalGang (i := 36) rfl) hl (k := 4) rfl (nI_add _ _) (by decide) rfl (fun ls hl => ?_)
          refine lv_goto (tgt := 16) hx hb (dg D_X12_criticalGang (i := 37) rfl) (by decide) ?_
          have hax : amx (fun g => cntP (auto σ (wiG g))) NOTF (-1) (g + 1) = (nI g, (fun g => cntP (auto σ (wiG g))) g) := amx_y (f := fun g => cntP (auto σ (wiG g))) (b := NOTF) (m := (-1)) (n := g) c41
          exact ih16 (by omega) I33 _ _ _ _ _ _ (by rw [hax]) (by rw [hax]; exact if_pos (Int32.not_le.mp c41)) (congrArg nI (by omega)) hF hs hA hth hW hS (lv_sub hl [4, 2, 1, 0] rfl))
  exact loop16 0 (Nat.zero_le _) I6 _ _ _ _ _ _ (rfl) (rfl) (congrArg nI (by omega)) hF hs hA hth hW hS (lv_sub hl [3, 2, 1, 0] rfl)

set_option maxHeartbeats 4000000 in
set_option maxRecDepth 100000 in
theorem c_X12_worstYear {l : Launch} {G : va_G} {bs : Nat} {cy : Nat → ClassId} {I : CI} {L : CL} {R : CR} (σ : Row) (hs : I 68 = σ) (hi : Inv σ) (hd : DR σ) : MTi l G bs cy MX12_worstYear 7 [.ref (bs + 67)] I L R (fun r I1 L1 R1 => wyR σ = r ∧ Fr SAP I I1 ∧ I1 67 6 = nI 0 ∧ I1 68 = σ ∧ L = L1 ∧ R = R1) := by
  refine MTi.of (own := RX12) pn_RX12 rfl (Nat.le_of_ble_eq_true rfl) ?_
  intro p e s m args below meth c Qf X hW hS fin ls hl
  have hx := X.1
  have hb := X.2.1
  have hR : RmOK (rmL 7 0 0) 7 := ⟨rfl, rfl⟩
  have hcs : 0 ≤ (rmL 7 0 0).cells ∧ 0 ≤ (rmL 7 0 0).slots := ⟨Nat.zero_le _, Nat.zero_le _⟩
  have hl : lv_has ls 5 [(0, .ref (bs + 67))] := hl
  have hF : Fr SAP I I := Fr.rf
  obtain ⟨hY, hY1, hY12, hLn, hL4, hSn, hS12, hGn, hG5⟩ := id hi
  refine lv_aload_n hx hb (dg D_X12_worstYear (i := 0) rfl) rfl (lv_at hl 0 rfl) ?_
  refine n_iconst (a := 0) hx hb (dg D_X12_worstYear (i := 1) rfl) rfl ?_
  refine r_puti (v := nI 0) (ty := .int) X hW hS FI_X12_74 rfl (by decide) rfl rfl (by decide +kernel) rfl rfl (dg D_X12_worstYear (i := 2) rfl) (fun H locs hW hS => ?_)
  have hF : Fr SAP I (u2 I 67 6 (nI 0)) := Fr.put hF rfl
  have hs : (u2 I 67 6 (nI 0)) 68 = σ := hs
  obtain ⟨J2, eJ2⟩ : ∃ J, J = u2 I 67 6 (nI 0) := ⟨_, rfl⟩
  rw [← eJ2] at hW hF hs
  have hth : J2 67 6 = nI 0 := by rw [eJ2]; exact u2_at
  refine lv_aload_n hx hb (dg D_X12_worstYear (i := 3) rfl) rfl (lv_at hl 0 rfl) ?_
  refine callVv X hW hS hR (c_X12_putAside (I := J2) σ (by first | assumption | omega | decide | exact hP.1)) (by decide) UVX12_putAside LK_X12_376 rfl (by decide) rfl rfl rfl (Nat.le_of_ble_eq_true rfl) hl hcs (dg D_X12_worstYear (i := 4) rfl) (fun I6 L1 R1 H locs hq hW hS => ?_)
  obtain ⟨hT6, hp6_0, rfl, rfl⟩ := hq
  have hF : Fr SAP I I6 := Fr.tr hF hT6 (by intro a j h; simp only [SC, SAP, Bool.or_eq_true, Bool.and_eq_true, beq_iff_eq, decide_eq_true_eq] at h ⊢; omega)
  have hs : I6 68 = σ := by rw [Fr.row hT6 (fun _ => rfl)]; exact hs
  have hth : I6 67 6 = nI 0 := (hT6 67 6 rfl).trans hth
  have hA : AsP I6 σ := AsP.mix hp6_0
  refine n_iconst (a := 0) hx hb (dg D_X12_worstYear (i := 5) rfl) rfl ?_
  refine lv_istore_n (lv' := [(1, .int (nI 0)), (0, .ref (bs + 67))]) hx hb (dg D_X12_worstYear (i := 6) rfl) rfl hl (by decide) rfl (fun ls hl => ?_)
  refine lv_iconst (v := -1) hx hb (dg D_X12_worstYear (i := 7) rfl) (by decide) ?_
  refine lv_istore_n (lv' := [(2, .int ((-1))), (1, .int (nI 0)), (0, .ref (bs + 67))]) hx hb (dg D_X12_worstYear (i := 8) rfl) rfl hl (by decide) rfl (fun ls hl => ?_)
  refine n_iconst (a := 0) hx hb (dg D_X12_worstYear (i := 9) rfl) rfl ?_
  refine lv_istore_n (lv' := [(3, .int (nI 0)), (2, .int ((-1))), (1, .int (nI 0)), (0, .ref (bs + 67))]) hx hb (dg D_X12_worstYear (i := 10) rfl) rfl hl (by decide) rfl (fun ls hl => ?_)
  have loop15 := up_ind (P := fun y => ∀ (K15 : CI) (H : Heap) (locs : List Loc) (ls : Array Slot) (v1 : Int32) (v2 : Int32) (v3 : Int32), v1 = (amx (fun y => cntP (auto (upd σ (80 + y) (nI 0)) ALLG)) (nI 0) (-1) y).1 → v2 = (amx (fun y => cntP (auto (upd σ (80 + y) (nI 0)) ALLG)) (nI 0) (-1) y).2 → v3 = nI y → (Fr SAP I K15) → (K15 68 = σ) → (AsP K15 σ) → (K15 67 6 = nI 0) → Wd G bs cy K15 L R H → va_S (Aq bs) s.heap H locs → lv_has ls 5 [(0, .ref (bs + 67)), (1, .int v1), (2, .int v2), (3, .int v3)] → W p l e (rmL 7 0 0) s m args below meth c H locs 0 0 Qf (F0 m 15 ls [])) (Yn σ) (fun y hx15 ih15 => by
      intro K15 H locs ls v1 v2 v3 q1 q2 q3 hF hs hA hth hW hS hl
      subst q1
      subst q2
      subst q3
      refine lv_iload_n hx hb (dg D_X12_worstYear (i := 11) rfl) rfl (lv_at hl 3 rfl) ?_
      refine lv_aload_n hx hb (dg D_X12_worstYear (i := 12) rfl) rfl (lv_at hl 0 rfl) ?_
      refine r_getc (t := 68) X hW FI_X12_7 rfl (by decide) rfl (dg D_X12_worstYear (i := 13) rfl) ?_
      refine n_iconst (a := 0) hx hb (dg D_X12_worstYear (i := 14) rfl) rfl ?_
      refine r_ald (j := 0) (v := nI (Yn σ)) X hW rfl (by decide) rfl (by omega) (by decide) ((congrFun hs _).trans hY) (dg D_X12_worstYear (i := 15) rfl) ?_
      refine n_icmp_ge (tgt := 68) hx hb (by omega) (by omega) (dg D_X12_worstYear (i := 16) rfl) (by decide) (fun c22 => ?_) (fun c22 => ?_)
      · refine lv_iload_n hx hb (dg D_X12_worstYear (i := 41) rfl) rfl (lv_at hl 1 rfl) ?_
        exact fin (dg D_X12_worstYear (i := 42) rfl) hW hS ⟨by unfold wyR; rw [show y = Yn σ by omega], hF, hth, hs, rfl, rfl⟩
      · refine lv_aload_n hx hb (dg D_X12_worstYear (i := 17) rfl) rfl (lv_at hl 0 rfl) ?_
        refine r_getc (t := 68) X hW FI_X12_7 rfl (by decide) rfl (dg D_X12_worstYear (i := 18) rfl) ?_
        refine lv_bipush (v := nI 80) hx hb (dg D_X12_worstYear (i := 19) rfl) (by decide) ?_
        refine lv_iload_n hx hb (dg D_X12_worstYear (i := 20) rfl) rfl (lv_at hl 3 rfl) ?_
        refine n_iadd hx hb (dg D_X12_worstYear (i := 21) rfl) ?_
        refine n_iconst (a := 0) hx hb (dg D_X12_worstYear (i := 22) rfl) rfl ?_
        refine r_ast (j := 80 + y) (v := nI 0) X hW hS rfl (by decide) rfl (by omega) (by decide) (dg D_X12_worstYear (i := 23) rfl) (fun H locs hW hS => ?_)
        have hF : Fr SAP I (u2 K15 68 (80 + y) (nI 0)) := Fr.put hF rfl
        have hs : (u2 K15 68 (80 + y) (nI 0)) 68 = upd σ (80 + y) (nI 0) := by rw [u2_eq, hs]
        have hA : AsP (u2 K15 68 (80 + y) (nI 0)) σ := hA
        obtain ⟨J34, eJ34⟩ : ∃ J, J = u2 K15 68 (80 + y) (nI 0) := ⟨_, rfl⟩
        rw [← eJ34] at hW hF hs hA
        have hth : J34 67 6 = nI 0 := by rw [eJ34, u2_off (Or.inl (by decide))]; exact hth
        refine lv_aload_n hx hb (dg D_X12_worstYear (i := 24) rfl) rfl (lv_at hl 0 rfl) ?_
        refine lv_bipush (v := nI 31) hx hb (dg D_X12_worstYear (i := 25) rfl) (by decide) ?_
        refine callVi X hW hS hR (c_X12_pastWith (I := J34) (upd σ (80 + y) (nI 0)) σ (nI 31) (by first | assumption | omega | decide | exact hP.1) (Inv_u (by omega) hi) (DR_day hi hd (by omega) (by decide)) (by first | assumption | omega | decide | exact hP.1) (fun j hj => upd_ne (by omega))) (by decide) UVX12_pastWith LK_X12_382 rfl (by decide) rfl rfl rfl (Nat.le_of_ble_eq_true rfl) hl hcs (dg D_X12_worstYear (i := 26) rfl) (fun r38 I38 L1 R1 H locs hq hW hS => ?_)
        obtain ⟨rfl, hT38, hp38_0, rfl, rfl⟩ := hq
        have hF : Fr SAP I I38 := Fr.tr hF hT38 (by intro a j h; simp only [SM, SAP, Bool.or_eq_true, Bool.and_eq_true, beq_iff_eq, decide_eq_true_eq] at h ⊢; omega)
        have hs : I38 68 = σ := hp38_0
        have hA : AsP I38 σ := AsP.row hA (Fr.row hT38 (fun _ => rfl))
        have hth : I38 67 6 = nI 0 := (hT38 67 6 rfl).trans hth
        refine lv_istore (lv' := [(4, .int (cntP (auto (upd σ (80 + y) (nI 0)) (nI 31)))), (0, .ref (bs + 67)), (1, .int ((amx (fun y => cntP (auto (upd σ (80 + y) (nI 0)) ALLG)) (nI 0) (-1) y).1)), (2, .int ((amx (fun y => cntP (auto (upd σ (80 + y) (nI 0)) ALLG)) (nI 0) (-1) y).2)), (3, .int (nI y))]) hx hb (dg D_X12_worstYear (i := 27) rfl) hl (by decide) rfl (fun ls hl => ?_)
        refine lv_iload hx hb (dg D_X12_worstYear (i := 28) rfl) (lv_at hl 0 rfl) ?_
        refine lv_iload_n hx hb (dg D_X12_worstYear (i := 29) rfl) rfl (lv_at hl 3 rfl) ?_
        refine lv_icmp_le (tgt := 53) hx hb (dg D_X12_worstYear (i := 30) rfl) (by decide) (fun c46 => ?_) (fun c46 => ?_)
        · refine lv_iload_n hx hb (dg D_X12_worstYear (i := 33) rfl) rfl (lv_at hl 2 rfl) ?_
          refine lv_istore_n (lv' := [(1, .int ((amx (fun y => cntP (auto (upd σ (80 + y) (nI 0)) ALLG)) (nI 0) (-1) y).1)), (4, .int (cntP (auto (upd σ (80 + y) (nI 0)) (nI 31)))), (0, .ref (bs + 67)), (2, .int ((amx (fun y => cntP (auto (upd σ (80 + y) (nI 0)) ALLG)) (nI 0) (-1) y).2)), (3, .int (nI y))]) hx hb (dg D_X12_worstYear (i := 34) rfl) rfl hl (by decide) rfl (fun ls hl => ?_)
          refine lv_iload_n hx hb (dg D_X12_worstYear (i := 35) rfl) rfl (lv_at hl 3 rfl) ?_
          refine lv_iload hx hb (dg D_X12_worstYear (i := 36) rfl) (lv_at hl 1 rfl) ?_
          refine r_max (v := if ((amx (fun y => cntP (auto (upd σ (80 + y) (nI 0)) ALLG)) (nI 0) (-1) y).2) < (cntP (auto (upd σ (80 + y) (nI 0)) (nI 31))) then (cntP (auto (upd σ (80 + y) (nI 0)) (nI 31))) else ((amx (fun y => cntP (auto (upd σ (80 + y) (nI 0)) ALLG)) (nI 0) (-1) y).2)) X hR (by decide) LK_X12_258 (Nat.le_of_ble_eq_true rfl) hl hcs rfl (dg D_X12_worstYear (i := 37) rfl) ?_
          refine lv_istore_n (lv' := [(2, .int (if ((amx (fun y => cntP (auto (upd σ (80 + y) (nI 0)) ALLG)) (nI 0) (-1) y).2) < (cntP (auto (upd σ (80 + y) (nI 0)) (nI 31))) then (cntP (auto (upd σ (80 + y) (nI 0)) (nI 31))) else ((amx (fun y => cntP (auto (upd σ (80 + y) (nI 0)) ALLG)) (nI 0) (-1) y).2))), (1, .int ((amx (fun y => cntP (auto (upd σ (80 + y) (nI 0)) ALLG)) (nI 0) (-1) y).1)), (4, .int (cntP (auto (upd σ (80 + y) (nI 0)) (nI 31)))), (0, .ref (bs + 67)), (3, .int (nI y))]) hx hb (dg D_X12_worstYear (i := 38) rfl) rfl hl (by decide) rfl (fun ls hl => ?_)
          refine lv_iinc (v := nI (y + 1)) (lv' := [(3, .int (nI (y + 1))), (2, .int (if ((amx (fun y => cntP (auto (upd σ (80 + y) (nI 0)) ALLG)) (nI 0) (-1) y).2) < (cntP (auto (upd σ (80 + y) (nI 0)) (nI 31))) then (cntP (auto (upd σ (80 + y) (nI 0)) (nI 31))) else ((amx (fun y => cntP (auto (upd σ (80 + y) (nI 0)) ALLG)) (nI 0) (-1) y).2))), (1, .int ((amx (fun y => cntP (auto (upd σ (80 + y) (nI 0)) ALLG)) (nI 0) (-1) y).1)), (4, .int (cntP (auto (upd σ (80 + y) (nI 0)) (nI 31)))), (0, .ref (bs + 67))]) hx hb (dg D_X12_worstYear (i := 39) rfl) hl (k := 4) rfl (nI_add _ _) (by decide) rfl (fun ls hl => ?_)
          refine lv_goto (tgt := 15) hx hb (dg D_X12_worstYear (i := 40) rfl) (by decide) ?_
          have hax : amx (fun y => cntP (auto (upd σ (80 + y) (nI 0)) ALLG)) (nI 0) (-1) (y + 1) = amx (fun y => cntP (auto (upd σ (80 + y) (nI 0)) ALLG)) (nI 0) (-1) y := amx_n (f := fun y => cntP (auto (upd σ (80 + y) (nI 0)) ALLG)) (b := (nI 0)) (m := (-1)) (n := y) c46
          exact ih15 (by omega) I38 _ _ _ _ _ _ (by rw [hax]) (by rw [hax]; exact if_neg (Int32.not_lt.mpr c46)) (congrArg nI (by omega)) hF hs hA hth hW hS (lv_sub hl [4, 2, 1, 0] rfl)
        · refine lv_iload_n hx hb (dg D_X12_worstYear (i := 31) rfl) rfl (lv_at hl 4 rfl) ?_
          refine lv_goto (tgt := 54) hx hb (dg D_X12_worstYear (i := 32) rfl) (by decide) ?_
          refine lv_istore_n (lv' := [(1, .int (nI y)), (4, .int (cntP (auto (upd σ (80 + y) (nI 0)) (nI 31)))), (0, .ref (bs + 67)), (2, .int ((amx (fun y => cntP (auto (upd σ (80 + y) (nI 0)) ALLG)) (nI 0) (-1) y).2)), (3, .int (nI y))]) hx hb (dg D_X12_worstYear (i := 34) rfl) rfl hl (by decide) rfl (fun ls hl => ?_)
          refine lv_iload_n hx hb (dg D_X12_worstYear (i := 35) rfl) rfl (lv_at hl 3 rfl) ?_
          refine lv_iload hx hb (dg D_X12_worstYear (i := 36) rfl) (lv_at hl 1 rfl) ?_
          refine r_max (v := if ((amx (fun y => cntP (auto (upd σ (80 + y) (nI 0)) ALLG)) (nI 0) (-1) y).2) < (cntP (auto (upd σ (80 + y) (nI 0)) (nI 31))) then (cntP (auto (upd σ (80 + y) (nI 0)) (nI 31))) else ((amx (fun y => cntP (auto (upd σ (80 + y) (nI 0)) ALLG)) (nI 0) (-1) y).2)) X hR (by decide) LK_X12_258 (Nat.le_of_ble_eq_true rfl) hl hcs rfl (dg D_X12_worstYear (i := 37) rfl) ?_
          refine lv_istore_n (lv' := [(2, .int (if ((amx (fun y => cntP (auto (upd σ (80 + y) (nI 0)) ALLG)) (nI 0) (-1) y).2) < (cntP (auto (upd σ (80 + y) (nI 0)) (nI 31))) then (cntP (auto (upd σ (80 + y) (nI 0)) (nI 31))) else ((amx (fun y => cntP (auto (upd σ (80 + y) (nI 0)) ALLG)) (nI 0) (-1) y).2))), (1, .int (nI y)), (4, .int (cntP (auto (upd σ (80 + y) (nI 0)) (nI 31)))), (0, .ref (bs + 67)), (3, .int (nI y))]) hx hb (dg D_X12_worstYear (i := 38) rfl) rfl hl (by decide) rfl (fun ls hl => ?_)
          refine lv_iinc (v := nI (y + 1)) (lv' := [(3, .int (nI (y + 1))), (2, .int (if ((amx (fun y => cntP (auto (upd σ (80 + y) (nI 0)) ALLG)) (nI 0) (-1) y).2) < (cntP (auto (upd σ (80 + y) (nI 0)) (nI 31))) then (cntP (auto (upd σ (80 + y) (nI 0)) (nI 31))) else ((amx (fun y => cntP (auto (upd σ (80 + y) (nI 0)) ALLG)) (nI 0) (-1) y).2))), (1, .int (nI y)), (4, .int (cntP (auto (upd σ (80 + y) (nI 0)) (nI 31)))), (0, .ref (bs + 67))]) hx hb (dg D_X12_worstYear (i := 39) rfl) hl (k := 4) rfl (nI_add _ _) (by decide) rfl (fun ls hl => ?_)
          refine lv_goto (tgt := 15) hx hb (dg D_X12_worstYear (i := 40) rfl) (by decide) ?_
          have hax : amx (fun y => cntP (auto (upd σ (80 + y) (nI 0)) ALLG)) (nI 0) (-1) (y + 1) = (nI y, (fun y => cntP (auto (upd σ (80 + y) (nI 0)) ALLG)) y) := amx_y (f := fun y => cntP (auto (upd σ (80 + y) (nI 0)) ALLG)) (b := (nI 0)) (m := (-1)) (n := y) c46
          exact ih15 (by omega) I38 _ _ _ _ _ _ (by rw [hax]) (by rw [hax]; exact if_pos (Int32.not_le.mp c46)) (congrArg nI (by omega)) hF hs hA hth hW hS (lv_sub hl [4, 2, 1, 0] rfl))
  exact loop15 0 (Nat.zero_le _) I6 _ _ _ _ _ _ (rfl) (rfl) (congrArg nI (by omega)) hF hs hA hth hW hS (lv_sub hl [3, 2, 1, 0] rfl)

set_option maxHeartbeats 4000000 in
set_option maxRecDepth 100000 in
theorem c_X12_smallestShut {l : Launch} {G : va_G} {bs : Nat} {cy : Nat → ClassId} {I : CI} {L : CL} {R : CR} (σ : Row) (hs : I 68 = σ) (hi : Inv σ) (hd : DR σ) : MTi l G bs cy MX12_smallestShut 7 [.ref (bs + 67)] I L R (fun r I1 L1 R1 => smR σ = r ∧ Fr SAP I I1 ∧ I1 67 6 = nI 0 ∧ I1 68 = σ ∧ L = L1 ∧ R = R1) := by
  refine MTi.of (own := RX12) pn_RX12 rfl (Nat.le_of_ble_eq_true rfl) ?_
  intro p e s m args below meth c Qf X hW hS fin ls hl
  have hx := X.1
  have hb := X.2.1
  have hR : RmOK (rmL 7 0 0) 7 := ⟨rfl, rfl⟩
  have hcs : 0 ≤ (rmL 7 0 0).cells ∧ 0 ≤ (rmL 7 0 0).slots := ⟨Nat.zero_le _, Nat.zero_le _⟩
  have hl : lv_has ls 2 [(0, .ref (bs + 67))] := hl
  have hF : Fr SAP I I := Fr.rf
  obtain ⟨hY, hY1, hY12, hLn, hL4, hSn, hS12, hGn, hG5⟩ := id hi
  refine lv_aload_n hx hb (dg D_X12_smallestShut (i := 0) rfl) rfl (lv_at hl 0 rfl) ?_
  refine n_iconst (a := 0) hx hb (dg D_X12_smallestShut (i := 1) rfl) rfl ?_
  refine r_puti (v := nI 0) (ty := .int) X hW hS FI_X12_74 rfl (by decide) rfl rfl (by decide +kernel) rfl rfl (dg D_X12_smallestShut (i := 2) rfl) (fun H locs hW hS => ?_)
  have hF : Fr SAP I (u2 I 67 6 (nI 0)) := Fr.put hF rfl
  have hs : (u2 I 67 6 (nI 0)) 68 = σ := hs
  obtain ⟨J2, eJ2⟩ : ∃ J, J = u2 I 67 6 (nI 0) := ⟨_, rfl⟩
  rw [← eJ2] at hW hF hs
  have hth : J2 67 6 = nI 0 := by rw [eJ2]; exact u2_at
  refine lv_aload_n hx hb (dg D_X12_smallestShut (i := 3) rfl) rfl (lv_at hl 0 rfl) ?_
  refine callVv X hW hS hR (c_X12_putAside (I := J2) σ (by first | assumption | omega | decide | exact hP.1)) (by decide) UVX12_putAside LK_X12_376 rfl (by decide) rfl rfl rfl (Nat.le_of_ble_eq_true rfl) hl hcs (dg D_X12_smallestShut (i := 4) rfl) (fun I6 L1 R1 H locs hq hW hS => ?_)
  obtain ⟨hT6, hp6_0, rfl, rfl⟩ := hq
  have hF : Fr SAP I I6 := Fr.tr hF hT6 (by intro a j h; simp only [SC, SAP, Bool.or_eq_true, Bool.and_eq_true, beq_iff_eq, decide_eq_true_eq] at h ⊢; omega)
  have hs : I6 68 = σ := by rw [Fr.row hT6 (fun _ => rfl)]; exact hs
  have hth : I6 67 6 = nI 0 := (hT6 67 6 rfl).trans hth
  have hA : AsP I6 σ := AsP.mix hp6_0
  refine n_iconst (a := 1) hx hb (dg D_X12_smallestShut (i := 5) rfl) rfl ?_
  refine lv_istore_n (lv' := [(1, .int (nI 1)), (0, .ref (bs + 67))]) hx hb (dg D_X12_smallestShut (i := 6) rfl) rfl hl (by decide) rfl (fun ls hl => ?_)
  have loop11 := up_ind (P := fun k => ∀ (K11 : CI) (H : Heap) (locs : List Loc) (ls : Array Slot) (v1 : Int32), v1 = nI k → (Fr SAP I K11) → (K11 68 = σ) → (AsP K11 σ) → (K11 67 6 = nI 0) → (1 ≤ k) → (∀ z, z < k → (fun k => decide (1 ≤ k) && decide (cntP (auto (upd σ 1 (nI k)) ALLG) = 0)) z = false) → Wd G bs cy K11 L R H → va_S (Aq bs) s.heap H locs → lv_has ls 2 [(0, .ref (bs + 67)), (1, .int v1)] → W p l e (rmL 7 0 0) s m args below meth c H locs 0 0 Qf (F0 m 11 ls [])) 5 (fun k hx11 ih11 => by
      intro K11 H locs ls v1 q1 hF hs hA hth hk1 hn hW hS hl
      subst q1
      refine lv_iload_n hx hb (dg D_X12_smallestShut (i := 7) rfl) rfl (lv_at hl 1 rfl) ?_
      refine n_iconst (a := 4) hx hb (dg D_X12_smallestShut (i := 8) rfl) rfl ?_
      refine n_icmp_gt (tgt := 40) hx hb (by omega) (by omega) (dg D_X12_smallestShut (i := 9) rfl) (by decide) (fun c13 => ?_) (fun c13 => ?_)
      · refine r_ldc X CK_X12_28 (dg D_X12_smallestShut (i := 23) rfl) ?_
        exact fin (dg D_X12_smallestShut (i := 24) rfl) hW hS ⟨fstI_none (p := fun k => decide (1 ≤ k) && decide (cntP (auto (upd σ 1 (nI k)) ALLG) = 0)) (fun z hz => hn z (by omega)), hF, hth, hs, rfl, rfl⟩
      · refine lv_aload_n hx hb (dg D_X12_smallestShut (i := 10) rfl) rfl (lv_at hl 0 rfl) ?_
        refine r_getc (t := 68) X hW FI_X12_7 rfl (by decide) rfl (dg D_X12_smallestShut (i := 11) rfl) ?_
        refine n_iconst (a := 1) hx hb (dg D_X12_smallestShut (i := 12) rfl) rfl ?_
        refine lv_iload_n hx hb (dg D_X12_smallestShut (i := 13) rfl) rfl (lv_at hl 1 rfl) ?_
        refine r_ast (j := 1) (v := nI k) X hW hS rfl (by decide) rfl (by omega) (by decide) (dg D_X12_smallestShut (i := 14) rfl) (fun H locs hW hS => ?_)
        have hF : Fr SAP I (u2 K11 68 1 (nI k)) := Fr.put hF rfl
        have hs : (u2 K11 68 1 (nI k)) 68 = upd σ 1 (nI k) := by rw [u2_eq, hs]
        have hA : AsP (u2 K11 68 1 (nI k)) σ := hA
        obtain ⟨J22, eJ22⟩ : ∃ J, J = u2 K11 68 1 (nI k) := ⟨_, rfl⟩
        rw [← eJ22] at hW hF hs hA
        have hth : J22 67 6 = nI 0 := by rw [eJ22, u2_off (Or.inl (by decide))]; exact hth
        refine lv_aload_n hx hb (dg D_X12_smallestShut (i := 15) rfl) rfl (lv_at hl 0 rfl) ?_
        refine lv_bipush (v := nI 31) hx hb (dg D_X12_smallestShut (i := 16) rfl) (by decide) ?_
        refine callVi X hW hS hR (c_X12_pastWith (I := J22) (upd σ 1 (nI k)) σ (nI 31) (by first | assumption | omega | decide | exact hP.1) (Inv_u (Or.inl rfl) hi) (DR_shut hi hd hk1 (by omega)) (by first | assumption | omega | decide | exact hP.1) (fun j hj => upd_ne (by omega))) (by decide) UVX12_pastWith LK_X12_382 rfl (by decide) rfl rfl rfl (Nat.le_of_ble_eq_true rfl) hl hcs (dg D_X12_smallestShut (i := 17) rfl) (fun r26 I26 L1 R1 H locs hq hW hS => ?_)
        obtain ⟨rfl, hT26, hp26_0, rfl, rfl⟩ := hq
        have hF : Fr SAP I I26 := Fr.tr hF hT26 (by intro a j h; simp only [SM, SAP, Bool.or_eq_true, Bool.and_eq_true, beq_iff_eq, decide_eq_true_eq] at h ⊢; omega)
        have hs : I26 68 = σ := hp26_0
        have hA : AsP I26 σ := AsP.row hA (Fr.row hT26 (fun _ => rfl))
        have hth : I26 67 6 = nI 0 := (hT26 67 6 rfl).trans hth
        refine lv_if_ne (tgt := 34) hx hb (dg D_X12_smallestShut (i := 18) rfl) (by decide) (fun c29 => ?_) (fun c29 => ?_)
        · refine lv_iinc (v := nI (k + 1)) (lv' := [(1, .int (nI (k + 1))), (0, .ref (bs + 67))]) hx hb (dg D_X12_smallestShut (i := 21) rfl) hl (k := 1) rfl (nI_add _ _) (by decide) rfl (fun ls hl => ?_)
          refine lv_goto (tgt := 11) hx hb (dg D_X12_smallestShut (i := 22) rfl) (by decide) ?_
          exact ih11 (by omega) I26 _ _ _ _ (congrArg nI (by omega)) hF hs hA hth (by omega) (all_lt_succ (p := fun k => decide (1 ≤ k) && decide (cntP (auto (upd σ 1 (nI k)) ALLG) = 0)) hn (by show (decide (1 ≤ k) && decide _) = false; rw [decide_eq_false c29, Bool.and_false])) hW hS (lv_sub hl [1, 0] rfl)
        · refine lv_iload_n hx hb (dg D_X12_smallestShut (i := 19) rfl) rfl (lv_at hl 1 rfl) ?_
          exact fin (dg D_X12_smallestShut (i := 20) rfl) hW hS ⟨fstI_hit (p := fun k => decide (1 ≤ k) && decide (cntP (auto (upd σ 1 (nI k)) ALLG) = 0)) (by omega) (by show (decide (1 ≤ k) && decide _) = true; rw [decide_eq_true hk1, decide_eq_true c29]; rfl) hn, hF, hth, hs, rfl, rfl⟩)
  exact loop11 1 (by decide) I6 _ _ _ _ (congrArg nI (by omega)) hF hs hA hth (Nat.le_refl 1) (fun z hz => by rw [show z = 0 by omega]; rfl) hW hS (lv_sub hl [1, 0] rfl)

set_option maxHeartbeats 4000000 in
set_option maxRecDepth 100000 in
theorem c_X12_extraDays {l : Launch} {G : va_G} {bs : Nat} {cy : Nat → ClassId} {I : CI} {L : CL} {R : CR} (σ : Row) (hs : I 68 = σ) (hi : Inv σ) (hd : DR σ) : MTi l G bs cy MX12_extraDays 7 [.ref (bs + 67)] I L R (fun r I1 L1 R1 => exDR σ = r ∧ Fr SAP I I1 ∧ I1 67 6 = nI 0 ∧ I1 68 = σ ∧ L = L1 ∧ R = R1) := by
  refine MTi.of (own := RX12) pn_RX12 rfl (Nat.le_of_ble_eq_true rfl) ?_
  intro p e s m args below meth c Qf X hW hS fin ls hl
  have hx := X.1
  have hb := X.2.1
  have hR : RmOK (rmL 7 0 0) 7 := ⟨rfl, rfl⟩
  have hcs : 0 ≤ (rmL 7 0 0).cells ∧ 0 ≤ (rmL 7 0 0).slots := ⟨Nat.zero_le _, Nat.zero_le _⟩
  have hl : lv_has ls 3 [(0, .ref (bs + 67))] := hl
  have hF : Fr SAP I I := Fr.rf
  obtain ⟨hY, hY1, hY12, hLn, hL4, hSn, hS12, hGn, hG5⟩ := id hi
  refine lv_aload_n hx hb (dg D_X12_extraDays (i := 0) rfl) rfl (lv_at hl 0 rfl) ?_
  refine n_iconst (a := 0) hx hb (dg D_X12_extraDays (i := 1) rfl) rfl ?_
  refine r_puti (v := nI 0) (ty := .int) X hW hS FI_X12_74 rfl (by decide) rfl rfl (by decide +kernel) rfl rfl (dg D_X12_extraDays (i := 2) rfl) (fun H locs hW hS => ?_)
  have hF : Fr SAP I (u2 I 67 6 (nI 0)) := Fr.put hF rfl
  have hs : (u2 I 67 6 (nI 0)) 68 = σ := hs
  obtain ⟨J2, eJ2⟩ : ∃ J, J = u2 I 67 6 (nI 0) := ⟨_, rfl⟩
  rw [← eJ2] at hW hF hs
  have hth : J2 67 6 = nI 0 := by rw [eJ2]; exact u2_at
  refine lv_aload_n hx hb (dg D_X12_extraDays (i := 3) rfl) rfl (lv_at hl 0 rfl) ?_
  refine callVv X hW hS hR (c_X12_putAside (I := J2) σ (by first | assumption | omega | decide | exact hP.1)) (by decide) UVX12_putAside LK_X12_376 rfl (by decide) rfl rfl rfl (Nat.le_of_ble_eq_true rfl) hl hcs (dg D_X12_extraDays (i := 4) rfl) (fun I6 L1 R1 H locs hq hW hS => ?_)
  obtain ⟨hT6, hp6_0, rfl, rfl⟩ := hq
  have hF : Fr SAP I I6 := Fr.tr hF hT6 (by intro a j h; simp only [SC, SAP, Bool.or_eq_true, Bool.and_eq_true, beq_iff_eq, decide_eq_true_eq] at h ⊢; omega)
  have hs : I6 68 = σ := by rw [Fr.row hT6 (fun _ => rfl)]; exact hs
  have hth : I6 67 6 = nI 0 := (hT6 67 6 rfl).trans hth
  have hA : AsP I6 σ := AsP.mix hp6_0
  refine n_iconst (a := 0) hx hb (dg D_X12_extraDays (i := 5) rfl) rfl ?_
  refine lv_istore_n (lv' := [(1, .int (nI 0)), (0, .ref (bs + 67))]) hx hb (dg D_X12_extraDays (i := 6) rfl) rfl hl (by decide) rfl (fun ls hl => ?_)
  have loop11 := up_ind (P := fun n => ∀ (K11 : CI) (H : Heap) (locs : List Loc) (ls : Array Slot) (v1 : Int32), v1 = nI n → (Fr SAP I K11) → (K11 68 = σ) → (AsP K11 σ) → (K11 67 6 = nI 0) → (∀ z, z < n → (fun n => decide (cntP (auto (edD σ n (Yn σ)) ALLG) = 0)) z = false) → Wd G bs cy K11 L R H → va_S (Aq bs) s.heap H locs → lv_has ls 3 [(0, .ref (bs + 67)), (1, .int v1)] → W p l e (rmL 7 0 0) s m args below meth c H locs 0 0 Qf (F0 m 11 ls [])) 101 (fun n hx11 ih11 => by
      intro K11 H locs ls v1 q1 hF hs hA hth hn hW hS hl
      subst q1
      refine lv_iload_n hx hb (dg D_X12_extraDays (i := 7) rfl) rfl (lv_at hl 1 rfl) ?_
      refine lv_bipush (v := nI 100) hx hb (dg D_X12_extraDays (i := 8) rfl) (by decide) ?_
      refine n_icmp_gt (tgt := 78) hx hb (by omega) (by omega) (dg D_X12_extraDays (i := 9) rfl) (by decide) (fun c14 => ?_) (fun c14 => ?_)
      · refine r_ldc X CK_X12_28 (dg D_X12_extraDays (i := 44) rfl) ?_
        exact fin (dg D_X12_extraDays (i := 45) rfl) hW hS ⟨fstI_none (p := fun n => decide (cntP (auto (edD σ n (Yn σ)) ALLG) = 0)) (fun z hz => hn z (by omega)), hF, hth, hs, rfl, rfl⟩
      · refine n_iconst (a := 0) hx hb (dg D_X12_extraDays (i := 10) rfl) rfl ?_
        refine lv_istore_n (lv' := [(2, .int (nI 0)), (0, .ref (bs + 67)), (1, .int (nI n))]) hx hb (dg D_X12_extraDays (i := 11) rfl) rfl hl (by decide) rfl (fun ls hl => ?_)
        have loop19 := up_ind (P := fun y => ∀ (K19 : CI) (H : Heap) (locs : List Loc) (ls : Array Slot) (v2 : Int32), v2 = nI y → (Fr SAP I K19) → (AsP K19 σ) → (K19 68 = edD σ n y) → (K19 67 6 = nI 0) → Wd G bs cy K19 L R H → va_S (Aq bs) s.heap H locs → lv_has ls 3 [(0, .ref (bs + 67)), (1, .int (nI n)), (2, .int v2)] → W p l e (rmL 7 0 0) s m args below meth c H locs 0 0 Qf (F0 m 19 ls [])) (Yn σ) (fun y hx19 ih19 => by
            intro K19 H locs ls v2 q2 hF hA hs hth hW hS hl
            subst q2
            refine lv_iload_n hx hb (dg D_X12_extraDays (i := 12) rfl) rfl (lv_at hl 2 rfl) ?_
            refine lv_aload_n hx hb (dg D_X12_extraDays (i := 13) rfl) rfl (lv_at hl 0 rfl) ?_
            refine r_getc (t := 68) X hW FI_X12_7 rfl (by decide) rfl (dg D_X12_extraDays (i := 14) rfl) ?_
            refine n_iconst (a := 0) hx hb (dg D_X12_extraDays (i := 15) rfl) rfl ?_
            refine r_ald (j := 0) (v := nI (Yn σ)) X hW rfl (by decide) rfl (by omega) (by decide) (by rw [hs]; unfold edD; rw [if_neg (by omega)]; exact hY) (dg D_X12_extraDays (i := 16) rfl) ?_
            refine n_icmp_ge (tgt := 61) hx hb (by omega) (by omega) (dg D_X12_extraDays (i := 17) rfl) (by decide) (fun c26 => ?_) (fun c26 => ?_)
            · have hs : K19 68 = edD σ n (Yn σ) := by rw [hs, show y = Yn σ by omega]
              refine lv_aload_n hx hb (dg D_X12_extraDays (i := 36) rfl) rfl (lv_at hl 0 rfl) ?_
              refine lv_bipush (v := nI 31) hx hb (dg D_X12_extraDays (i := 37) rfl) (by decide) ?_
              refine callVi X hW hS hR (c_X12_pastWith (I := K19) (edD σ n (Yn σ)) σ (nI 31) (by first | assumption | omega | decide | exact hP.1) ((edD_ok hi hd (by omega) _ hY12).1) ((edD_ok hi hd (by omega) _ hY12).2) (by first | assumption | omega | decide | exact hP.1) (fun j hj => edD_hi hY12 hj)) (by decide) UVX12_pastWith LK_X12_382 rfl (by decide) rfl rfl rfl (Nat.le_of_ble_eq_true rfl) hl hcs (dg D_X12_extraDays (i := 38) rfl) (fun r64 I64 L1 R1 H locs hq hW hS => ?_)
              obtain ⟨rfl, hT64, hp64_0, rfl, rfl⟩ := hq
              have hF : Fr SAP I I64 := Fr.tr hF hT64 (by intro a j h; simp only [SM, SAP, Bool.or_eq_true, Bool.and_eq_true, beq_iff_eq, decide_eq_true_eq] at h ⊢; omega)
              have hs : I64 68 = σ := hp64_0
              have hA : AsP I64 σ := AsP.row hA (Fr.row hT64 (fun _ => rfl))
              have hth : I64 67 6 = nI 0 := (hT64 67 6 rfl).trans hth
              refine lv_if_ne (tgt := 72) hx hb (dg D_X12_extraDays (i := 39) rfl) (by decide) (fun c67 => ?_) (fun c67 => ?_)
              · refine lv_iinc (v := nI (n + 1)) (lv' := [(1, .int (nI (n + 1))), (0, .ref (bs + 67)), (2, .int (nI y))]) hx hb (dg D_X12_extraDays (i := 42) rfl) hl (k := 1) rfl (nI_add _ _) (by decide) rfl (fun ls hl => ?_)
                refine lv_goto (tgt := 11) hx hb (dg D_X12_extraDays (i := 43) rfl) (by decide) ?_
                exact ih11 (by omega) I64 _ _ _ _ (congrArg nI (by omega)) hF hs hA hth (all_lt_succ (p := fun n => decide (cntP (auto (edD σ n (Yn σ)) ALLG) = 0)) hn (decide_eq_false c67)) hW hS (lv_sub hl [1, 0] rfl)
              · refine lv_iload_n hx hb (dg D_X12_extraDays (i := 40) rfl) rfl (lv_at hl 1 rfl) ?_
                exact fin (dg D_X12_extraDays (i := 41) rfl) hW hS ⟨fstI_hit (p := fun n => decide (cntP (auto (edD σ n (Yn σ)) ALLG) = 0)) (by omega) (decide_eq_true c67) hn, hF, hth, hs, rfl, rfl⟩
            · refine lv_aload_n hx hb (dg D_X12_extraDays (i := 18) rfl) rfl (lv_at hl 0 rfl) ?_
              refine r_getc (t := 68) X hW FI_X12_7 rfl (by decide) rfl (dg D_X12_extraDays (i := 19) rfl) ?_
              refine lv_bipush (v := nI 80) hx hb (dg D_X12_extraDays (i := 20) rfl) (by decide) ?_
              refine lv_iload_n hx hb (dg D_X12_extraDays (i := 21) rfl) rfl (lv_at hl 2 rfl) ?_
              refine n_iadd hx hb (dg D_X12_extraDays (i := 22) rfl) ?_
              refine lv_sipush (v := nI 200) hx hb (dg D_X12_extraDays (i := 23) rfl) (by decide) ?_
              refine lv_aload_n hx hb (dg D_X12_extraDays (i := 24) rfl) rfl (lv_at hl 0 rfl) ?_
              refine r_getc (t := 68) X hW FI_X12_7 rfl (by decide) rfl (dg D_X12_extraDays (i := 25) rfl) ?_
              refine lv_bipush (v := nI 80) hx hb (dg D_X12_extraDays (i := 26) rfl) (by decide) ?_
              refine lv_iload_n hx hb (dg D_X12_extraDays (i := 27) rfl) rfl (lv_at hl 2 rfl) ?_
              refine n_iadd hx hb (dg D_X12_extraDays (i := 28) rfl) ?_
              refine r_ald (j := 80 + y) (v := edD σ n y (80 + y)) X hW rfl (by decide) rfl (by omega) (by decide) (congrFun hs _) (dg D_X12_extraDays (i := 29) rfl) ?_
              refine lv_iload_n hx hb (dg D_X12_extraDays (i := 30) rfl) rfl (lv_at hl 1 rfl) ?_
              refine lv_iadd hx hb (dg D_X12_extraDays (i := 31) rfl) ?_
              refine r_min (v := mn (nI 200) (edD σ n y (80 + y) + nI n)) X hR (by decide) LK_X12_228 (Nat.le_of_ble_eq_true rfl) hl hcs rfl (dg D_X12_extraDays (i := 32) rfl) ?_
              refine r_ast (j := 80 + y) (v := mn (nI 200) (edD σ n y (80 + y) + nI n)) X hW hS rfl (by decide) rfl (by omega) (by decide) (dg D_X12_extraDays (i := 33) rfl) (fun H locs hW hS => ?_)
              have hF : Fr SAP I (u2 K19 68 (80 + y) (mn (nI 200) (edD σ n y (80 + y) + nI n))) := Fr.put hF rfl
              have hA : AsP (u2 K19 68 (80 + y) (mn (nI 200) (edD σ n y (80 + y) + nI n))) σ := hA
              obtain ⟨J54, eJ54⟩ : ∃ J, J = u2 K19 68 (80 + y) (mn (nI 200) (edD σ n y (80 + y) + nI n)) := ⟨_, rfl⟩
              rw [← eJ54] at hW hF hA
              have hth : J54 67 6 = nI 0 := by rw [eJ54, u2_off (Or.inl (by decide))]; exact hth
              refine lv_iinc (v := nI (y + 1)) (lv' := [(2, .int (nI (y + 1))), (0, .ref (bs + 67)), (1, .int (nI n))]) hx hb (dg D_X12_extraDays (i := 34) rfl) hl (k := 2) rfl (nI_add _ _) (by decide) rfl (fun ls hl => ?_)
              refine lv_goto (tgt := 19) hx hb (dg D_X12_extraDays (i := 35) rfl) (by decide) ?_
              exact ih19 (by omega) J54 _ _ _ _ (congrArg nI (by omega)) hF hA (by rw [eJ54, u2_eq, hs]; exact edD_s) hth hW hS (lv_sub hl [1, 2, 0] rfl))
        exact loop19 0 (Nat.zero_le _) K11 _ _ _ _ (congrArg nI (by omega)) hF hA (by rw [edD_0]; exact hs) hth hW hS (lv_sub hl [1, 2, 0] rfl))
  exact loop11 0 (Nat.zero_le _) I6 _ _ _ _ (congrArg nI (by omega)) hF hs hA hth (fun z hz => absurd hz (Nat.not_lt_zero z)) hW hS (lv_sub hl [1, 0] rfl)

set_option maxHeartbeats 4000000 in
set_option maxRecDepth 100000 in
theorem c_X12_fewestGangs {l : Launch} {G : va_G} {bs : Nat} {cy : Nat → ClassId} {I : CI} {L : CL} {R : CR} (σ : Row) (hs : I 68 = σ) (hi : Inv σ) (hd : DR σ) : MTi l G bs cy MX12_fewestGangs 7 [.ref (bs + 67)] I L R (fun r I1 L1 R1 => fgR σ = r ∧ Fr SAP I I1 ∧ I1 67 6 = nI 0 ∧ I1 68 = σ ∧ L = L1 ∧ R = R1) := by
  refine MTi.of (own := RX12) pn_RX12 rfl (Nat.le_of_ble_eq_true rfl) ?_
  intro p e s m args below meth c Qf X hW hS fin ls hl
  have hx := X.1
  have hb := X.2.1
  have hR : RmOK (rmL 7 0 0) 7 := ⟨rfl, rfl⟩
  have hcs : 0 ≤ (rmL 7 0 0).cells ∧ 0 ≤ (rmL 7 0 0).slots := ⟨Nat.zero_le _, Nat.zero_le _⟩
  have hl : lv_has ls 4 [(0, .ref (bs + 67))] := hl
  have hF : Fr SAP I I := Fr.rf
  obtain ⟨hY, hY1, hY12, hLn, hL4, hSn, hS12, hGn, hG5⟩ := id hi
  obtain ⟨h2a, h2b⟩ := two_Gle hi
  refine lv_aload_n hx hb (dg D_X12_fewestGangs (i := 0) rfl) rfl (lv_at hl 0 rfl) ?_
  refine n_iconst (a := 0) hx hb (dg D_X12_fewestGangs (i := 1) rfl) rfl ?_
  refine r_puti (v := nI 0) (ty := .int) X hW hS FI_X12_74 rfl (by decide) rfl rfl (by decide +kernel) rfl rfl (dg D_X12_fewestGangs (i := 2) rfl) (fun H locs hW hS => ?_)
  have hF : Fr SAP I (u2 I 67 6 (nI 0)) := Fr.put hF rfl
  have hs : (u2 I 67 6 (nI 0)) 68 = σ := hs
  obtain ⟨J2, eJ2⟩ : ∃ J, J = u2 I 67 6 (nI 0) := ⟨_, rfl⟩
  rw [← eJ2] at hW hF hs
  have hth : J2 67 6 = nI 0 := by rw [eJ2]; exact u2_at
  refine lv_aload_n hx hb (dg D_X12_fewestGangs (i := 3) rfl) rfl (lv_at hl 0 rfl) ?_
  refine callVv X hW hS hR (c_X12_putAside (I := J2) σ (by first | assumption | omega | decide | exact hP.1)) (by decide) UVX12_putAside LK_X12_376 rfl (by decide) rfl rfl rfl (Nat.le_of_ble_eq_true rfl) hl hcs (dg D_X12_fewestGangs (i := 4) rfl) (fun I6 L1 R1 H locs hq hW hS => ?_)
  obtain ⟨hT6, hp6_0, rfl, rfl⟩ := hq
  have hF : Fr SAP I I6 := Fr.tr hF hT6 (by intro a j h; simp only [SC, SAP, Bool.or_eq_true, Bool.and_eq_true, beq_iff_eq, decide_eq_true_eq] at h ⊢; omega)
  have hs : I6 68 = σ := by rw [Fr.row hT6 (fun _ => rfl)]; exact hs
  have hth : I6 67 6 = nI 0 := (hT6 67 6 rfl).trans hth
  have hA : AsP I6 σ := AsP.mix hp6_0
  refine lv_aload_n hx hb (dg D_X12_fewestGangs (i := 5) rfl) rfl (lv_at hl 0 rfl) ?_
  refine lv_bipush (v := nI 31) hx hb (dg D_X12_fewestGangs (i := 6) rfl) (by decide) ?_
  refine callVi X hW hS hR (c_X12_pastWith (I := I6) σ σ (nI 31) (by first | assumption | omega | decide | exact hP.1) (by first | assumption | omega | decide | exact hP.1) (by first | assumption | omega | decide | exact hP.1) (by first | assumption | omega | decide | exact hP.1) (fun j _ => rfl)) (by decide) UVX12_pastWith LK_X12_382 rfl (by decide) rfl rfl rfl (Nat.le_of_ble_eq_true rfl) hl hcs (dg D_X12_fewestGangs (i := 7) rfl) (fun r12 I12 L1 R1 H locs hq hW hS => ?_)
  obtain ⟨rfl, hT12, hp12_0, rfl, rfl⟩ := hq
  have hF : Fr SAP I I12 := Fr.tr hF hT12 (by intro a j h; simp only [SM, SAP, Bool.or_eq_true, Bool.and_eq_true, beq_iff_eq, decide_eq_true_eq] at h ⊢; omega)
  have hs : I12 68 = σ := hp12_0
  have hA : AsP I12 σ := AsP.row hA (Fr.row hT12 (fun _ => rfl))
  have hth : I12 67 6 = nI 0 := (hT12 67 6 rfl).trans hth
  refine lv_istore_n (lv' := [(1, .int (cntP (auto σ (nI 31)))), (0, .ref (bs + 67))]) hx hb (dg D_X12_fewestGangs (i := 8) rfl) rfl hl (by decide) rfl (fun ls hl => ?_)
  refine n_iconst (a := 0) hx hb (dg D_X12_fewestGangs (i := 9) rfl) rfl ?_
  refine lv_istore_n (lv' := [(2, .int (nI 0)), (1, .int (cntP (auto σ (nI 31)))), (0, .ref (bs + 67))]) hx hb (dg D_X12_fewestGangs (i := 10) rfl) rfl hl (by decide) rfl (fun ls hl => ?_)
  have loop18 := up_ind (P := fun n => ∀ (K18 : CI) (H : Heap) (locs : List Loc) (ls : Array Slot) (v2 : Int32), v2 = nI n → (Fr SAP I K18) → (K18 68 = σ) → (AsP K18 σ) → (K18 67 6 = nI 0) → (∀ z, z < n → ∀ g, g < 2 ^ nG σ → fgP σ z g = false) → Wd G bs cy K18 L R H → va_S (Aq bs) s.heap H locs → lv_has ls 4 [(0, .ref (bs + 67)), (1, .int (cntP (auto σ (nI 31)))), (2, .int v2)] → W p l e (rmL 7 0 0) s m args below meth c H locs 0 0 Qf (F0 m 18 ls [])) (nG σ) (fun n hx18 ih18 => by
      intro K18 H locs ls v2 q2 hF hs hA hth hn hW hS hl
      subst q2
      refine lv_iload_n hx hb (dg D_X12_fewestGangs (i := 11) rfl) rfl (lv_at hl 2 rfl) ?_
      refine lv_aload_n hx hb (dg D_X12_fewestGangs (i := 12) rfl) rfl (lv_at hl 0 rfl) ?_
      refine r_getc (t := 68) X hW FI_X12_7 rfl (by decide) rfl (dg D_X12_fewestGangs (i := 13) rfl) ?_
      refine n_iconst (a := 5) hx hb (dg D_X12_fewestGangs (i := 14) rfl) rfl ?_
      refine r_ald (j := 5) (v := nI (nG σ)) X hW rfl (by decide) rfl (by omega) (by decide) ((congrFun hs _).trans hGn) (dg D_X12_fewestGangs (i := 15) rfl) ?_
      refine n_icmp_ge (tgt := 73) hx hb (by omega) (by omega) (dg D_X12_fewestGangs (i := 16) rfl) (by decide) (fun c25 => ?_) (fun c25 => ?_)
      · refine n_iconst (a := 1) hx hb (dg D_X12_fewestGangs (i := 42) rfl) rfl ?_
        refine lv_aload_n hx hb (dg D_X12_fewestGangs (i := 43) rfl) rfl (lv_at hl 0 rfl) ?_
        refine r_getc (t := 68) X hW FI_X12_7 rfl (by decide) rfl (dg D_X12_fewestGangs (i := 44) rfl) ?_
        refine n_iconst (a := 5) hx hb (dg D_X12_fewestGangs (i := 45) rfl) rfl ?_
        refine r_ald (j := 5) (v := nI (nG σ)) X hW rfl (by decide) rfl (by omega) (by decide) ((congrFun hs _).trans hGn) (dg D_X12_fewestGangs (i := 46) rfl) ?_
        refine lv_ishl hx hb (dg D_X12_fewestGangs (i := 47) rfl) ?_
        rw [show (nI 1) <<< ((nI (nG σ)) &&& 31) = nI (2 ^ nG σ) from two_G hi]
        refine n_iconst (a := 1) hx hb (dg D_X12_fewestGangs (i := 48) rfl) rfl ?_
        refine n_isub hx hb (dg D_X12_fewestGangs (i := 49) rfl) (by omega) ?_
        exact fin (dg D_X12_fewestGangs (i := 50) rfl) hW hS ⟨fst2b_none (p := fgP σ) (fun z hz g hg => hn z (by omega) g hg), hF, hth, hs, rfl, rfl⟩
      · refine n_iconst (a := 0) hx hb (dg D_X12_fewestGangs (i := 17) rfl) rfl ?_
        refine lv_istore_n (lv' := [(3, .int (nI 0)), (0, .ref (bs + 67)), (1, .int (cntP (auto σ (nI 31)))), (2, .int (nI n))]) hx hb (dg D_X12_fewestGangs (i := 18) rfl) rfl hl (by decide) rfl (fun ls hl => ?_)
        have loop30 := up_ind (P := fun k => ∀ (K30 : CI) (H : Heap) (locs : List Loc) (ls : Array Slot) (v3 : Int32), v3 = nI k → (Fr SAP I K30) → (K30 68 = σ) → (AsP K30 σ) → (K30 67 6 = nI 0) → (∀ q, q < k → fgP σ n q = false) → Wd G bs cy K30 L R H → va_S (Aq bs) s.heap H locs → lv_has ls 4 [(0, .ref (bs + 67)), (1, .int (cntP (auto σ (nI 31)))), (2, .int (nI n)), (3, .int v3)] → W p l e (rmL 7 0 0) s m args below meth c H locs 0 0 Qf (F0 m 30 ls [])) (2 ^ nG σ) (fun k hx30 ih30 => by
            intro K30 H locs ls v3 q3 hF hs hA hth hm hW hS hl
            subst q3
            refine lv_iload_n hx hb (dg D_X12_fewestGangs (i := 19) rfl) rfl (lv_at hl 3 rfl) ?_
            refine n_iconst (a := 1) hx hb (dg D_X12_fewestGangs (i := 20) rfl) rfl ?_
            refine lv_aload_n hx hb (dg D_X12_fewestGangs (i := 21) rfl) rfl (lv_at hl 0 rfl) ?_
            refine r_getc (t := 68) X hW FI_X12_7 rfl (by decide) rfl (dg D_X12_fewestGangs (i := 22) rfl) ?_
            refine n_iconst (a := 5) hx hb (dg D_X12_fewestGangs (i := 23) rfl) rfl ?_
            refine r_ald (j := 5) (v := nI (nG σ)) X hW rfl (by decide) rfl (by omega) (by decide) ((congrFun hs _).trans hGn) (dg D_X12_fewestGangs (i := 24) rfl) ?_
            refine lv_ishl hx hb (dg D_X12_fewestGangs (i := 25) rfl) ?_
            rw [show (nI 1) <<< ((nI (nG σ)) &&& 31) = nI (2 ^ nG σ) from two_G hi]
            refine n_icmp_ge (tgt := 67) hx hb (by omega) (by omega) (dg D_X12_fewestGangs (i := 26) rfl) (by decide) (fun c39 => ?_) (fun c39 => ?_)
            · refine lv_iinc (v := nI (n + 1)) (lv' := [(2, .int (nI (n + 1))), (0, .ref (bs + 67)), (1, .int (cntP (auto σ (nI 31)))), (3, .int (nI k))]) hx hb (dg D_X12_fewestGangs (i := 40) rfl) hl (k := 2) rfl (nI_add _ _) (by decide) rfl (fun ls hl => ?_)
              refine lv_goto (tgt := 18) hx hb (dg D_X12_fewestGangs (i := 41) rfl) (by decide) ?_
              exact ih18 (by omega) K30 _ _ _ _ (congrArg nI (by omega)) hF hs hA hth (fst2_step (p := fgP σ) hn (fun q hq => hm q (by omega))) hW hS (lv_sub hl [1, 2, 0] rfl)
            · refine lv_iload_n hx hb (dg D_X12_fewestGangs (i := 27) rfl) rfl (lv_at hl 3 rfl) ?_
              refine callSi X hW hS hR (c_X12_bits (I := K30) (nI k)) (by decide) USX12_bits LK_X12_270 rfl rfl (Nat.le_of_ble_eq_true rfl) hl hcs (dg D_X12_fewestGangs (i := 28) rfl) (fun r43 I43 L1 R1 H locs hq hW hS => ?_)
              obtain ⟨rfl, rfl, rfl, rfl⟩ := hq
              refine lv_iload_n hx hb (dg D_X12_fewestGangs (i := 29) rfl) rfl (lv_at hl 2 rfl) ?_
              refine lv_icmp_ne (tgt := 61) hx hb (dg D_X12_fewestGangs (i := 30) rfl) (by decide) (fun c47 => ?_) (fun c47 => ?_)
              · refine lv_iinc (v := nI (k + 1)) (lv' := [(3, .int (nI (k + 1))), (0, .ref (bs + 67)), (1, .int (cntP (auto σ (nI 31)))), (2, .int (nI n))]) hx hb (dg D_X12_fewestGangs (i := 38) rfl) hl (k := 3) rfl (nI_add _ _) (by decide) rfl (fun ls hl => ?_)
                refine lv_goto (tgt := 30) hx hb (dg D_X12_fewestGangs (i := 39) rfl) (by decide) ?_
                exact ih30 (by omega) K30 _ _ _ _ (congrArg nI (by omega)) hF hs hA hth (all_lt_succ (p := fun k => fgP σ n k) hm (decide_eq_false (fun z => c47 z.1))) hW hS (lv_sub hl [1, 2, 3, 0] rfl)
              · refine lv_aload_n hx hb (dg D_X12_fewestGangs (i := 31) rfl) rfl (lv_at hl 0 rfl) ?_
                refine lv_iload_n hx hb (dg D_X12_fewestGangs (i := 32) rfl) rfl (lv_at hl 3 rfl) ?_
                refine callVi X hW hS hR (c_X12_pastWith (I := K30) σ σ (nI k) (by first | assumption | omega | decide | exact hP.1) (by first | assumption | omega | decide | exact hP.1) (by first | assumption | omega | decide | exact hP.1) (by first | assumption | omega | decide | exact hP.1) (fun j _ => rfl)) (by decide) UVX12_pastWith LK_X12_382 rfl (by decide) rfl rfl rfl (Nat.le_of_ble_eq_true rfl) hl hcs (dg D_X12_fewestGangs (i := 33) rfl) (fun r52 I52 L1 R1 H locs hq hW hS => ?_)
                obtain ⟨rfl, hT52, hp52_0, rfl, rfl⟩ := hq
                have hF : Fr SAP I I52 := Fr.tr hF hT52 (by intro a j h; simp only [SM, SAP, Bool.or_eq_true, Bool.and_eq_true, beq_iff_eq, decide_eq_true_eq] at h ⊢; omega)
                have hs : I52 68 = σ := hp52_0
                have hA : AsP I52 σ := AsP.row hA (Fr.row hT52 (fun _ => rfl))
                have hth : I52 67 6 = nI 0 := (hT52 67 6 rfl).trans hth
                refine lv_iload_n hx hb (dg D_X12_fewestGangs (i := 34) rfl) rfl (lv_at hl 1 rfl) ?_
                refine lv_icmp_gt (tgt := 61) hx hb (dg D_X12_fewestGangs (i := 35) rfl) (by decide) (fun c56 => ?_) (fun c56 => ?_)
                · refine lv_iinc (v := nI (k + 1)) (lv' := [(3, .int (nI (k + 1))), (0, .ref (bs + 67)), (1, .int (cntP (auto σ (nI 31)))), (2, .int (nI n))]) hx hb (dg D_X12_fewestGangs (i := 38) rfl) hl (k := 3) rfl (nI_add _ _) (by decide) rfl (fun ls hl => ?_)
                  refine lv_goto (tgt := 30) hx hb (dg D_X12_fewestGangs (i := 39) rfl) (by decide) ?_
                  exact ih30 (by omega) I52 _ _ _ _ (congrArg nI (by omega)) hF hs hA hth (all_lt_succ (p := fun k => fgP σ n k) hm (decide_eq_false (fun z => Int32.not_lt.mpr z.2 c56))) hW hS (lv_sub hl [1, 2, 3, 0] rfl)
                · refine lv_iload_n hx hb (dg D_X12_fewestGangs (i := 36) rfl) rfl (lv_at hl 3 rfl) ?_
                  exact fin (dg D_X12_fewestGangs (i := 37) rfl) hW hS ⟨fst2b_hit (p := fgP σ) (by omega) (by omega) (decide_eq_true (And.intro c47 (Int32.not_lt.mp c56))) hn hm, hF, hth, hs, rfl, rfl⟩)
        exact loop30 0 (Nat.zero_le _) K18 _ _ _ _ (congrArg nI (by omega)) hF hs hA hth (fun z hz => absurd hz (Nat.not_lt_zero z)) hW hS (lv_sub hl [1, 2, 3, 0] rfl))
  exact loop18 0 (Nat.zero_le _) I12 _ _ _ _ (congrArg nI (by omega)) hF hs hA hth (fun z hz => absurd hz (Nat.not_lt_zero z)) hW hS (lv_sub hl [2, 1, 0] rfl)

set_option maxHeartbeats 4000000 in
set_option maxRecDepth 100000 in
theorem c_X12_autoPlan {l : Launch} {G : va_G} {bs : Nat} {cy : Nat → ClassId} {I : CI} {L : CL} {R : CR} (σ : Row) (k : Nat) (U : Nat → Row) (hs : I 68 = σ) (hi : Inv σ) (hd : DR σ) (hU : HisM I k U) (hed : I 67 5 = nI k) : MTi l G bs cy MX12_autoPlan 6 [.ref (bs + 67)] I L R (fun r I1 L1 R1 => auR σ = r ∧ Fr SAU I I1 ∧ I1 67 6 = nI 0 ∧ EdP I1 (auO σ) σ k U ∧ L = L1 ∧ R = R1) := by
  refine MTi.of (own := RX12) pn_RX12 rfl (Nat.le_of_ble_eq_true rfl) ?_
  intro p e s m args below meth c Qf X hW hS fin ls hl
  have hx := X.1
  have hb := X.2.1
  have hR : RmOK (rmL 6 0 0) 6 := ⟨rfl, rfl⟩
  have hcs : 0 ≤ (rmL 6 0 0).cells ∧ 0 ≤ (rmL 6 0 0).slots := ⟨Nat.zero_le _, Nat.zero_le _⟩
  have hl : lv_has ls 1 [(0, .ref (bs + 67))] := hl
  have hF : Fr SAU I I := Fr.rf
  refine lv_aload_n hx hb (dg D_X12_autoPlan (i := 0) rfl) rfl (lv_at hl 0 rfl) ?_
  refine n_iconst (a := 0) hx hb (dg D_X12_autoPlan (i := 1) rfl) rfl ?_
  refine r_puti (v := nI 0) (ty := .int) X hW hS FI_X12_74 rfl (by decide) rfl rfl (by decide +kernel) rfl rfl (dg D_X12_autoPlan (i := 2) rfl) (fun H locs hW hS => ?_)
  have hF : Fr SAU I (u2 I 67 6 (nI 0)) := Fr.put hF rfl
  have hs : (u2 I 67 6 (nI 0)) 68 = σ := hs
  have hU : HisM (u2 I 67 6 (nI 0)) k U := hU
  obtain ⟨J2, eJ2⟩ : ∃ J, J = u2 I 67 6 (nI 0) := ⟨_, rfl⟩
  rw [← eJ2] at hW hF hs hU
  have hed : J2 67 5 = nI k := by rw [eJ2, u2_off (Or.inr (by decide))]; exact hed
  have hth : J2 67 6 = nI 0 := by rw [eJ2]; exact u2_at
  refine lv_aload_n hx hb (dg D_X12_autoPlan (i := 3) rfl) rfl (lv_at hl 0 rfl) ?_
  refine callVv X hW hS hR (c_X12_putAside (I := J2) σ (by first | assumption | omega | decide | exact hP.1)) (by decide) UVX12_putAside LK_X12_376 rfl (by decide) rfl rfl rfl (Nat.le_of_ble_eq_true rfl) hl hcs (dg D_X12_autoPlan (i := 4) rfl) (fun I6 L1 R1 H locs hq hW hS => ?_)
  obtain ⟨hT6, hp6_0, rfl, rfl⟩ := hq
  have hF : Fr SAU I I6 := Fr.tr hF hT6 (by intro a j h; simp only [SC, SAU, Bool.or_eq_true, Bool.and_eq_true, beq_iff_eq, decide_eq_true_eq] at h ⊢; omega)
  have hs : I6 68 = σ := by rw [Fr.row hT6 (fun _ => rfl)]; exact hs
  have hU : HisM I6 k U := HisM.row hU (Fr.row hT6 (fun _ => rfl))
  have hed : I6 67 5 = nI k := (hT6 67 5 rfl).trans hed
  have hth : I6 67 6 = nI 0 := (hT6 67 6 rfl).trans hth
  obtain ⟨X9, hX9⟩ : ∃ X9, X9 = mixR σ (J2 70) := ⟨_, rfl⟩
  have h70 : I6 70 = X9 := by rw [hp6_0, hX9]
  refine lv_aload_n hx hb (dg D_X12_autoPlan (i := 5) rfl) rfl (lv_at hl 0 rfl) ?_
  refine lv_bipush (v := nI 31) hx hb (dg D_X12_autoPlan (i := 6) rfl) (by decide) ?_
  refine callVv X hW hS hR (c_X12_makePlan (I := I6) σ (nI 31) (by first | assumption | omega | decide | exact hP.1) (by first | assumption | omega | decide | exact hP.1) (by first | assumption | omega | decide | exact hP.1)) (by decide) UVX12_makePlan LK_X12_370 rfl (by decide) rfl rfl rfl (Nat.le_of_ble_eq_true rfl) hl hcs (dg D_X12_autoPlan (i := 7) rfl) (fun I12 L1 R1 H locs hq hW hS => ?_)
  obtain ⟨hT12, hp12_0, rfl, rfl⟩ := hq
  have hF : Fr SAU I I12 := Fr.tr hF hT12 (by intro a j h; simp only [SM, SAU, Bool.or_eq_true, Bool.and_eq_true, beq_iff_eq, decide_eq_true_eq] at h ⊢; omega)
  have hs : I12 68 = auto σ ALLG := hp12_0
  have hU : HisM I12 k U := HisM.row hU (Fr.row hT12 (fun _ => rfl))
  have h70 : I12 70 = X9 := by rw [Fr.row hT12 (fun _ => rfl)]; exact h70
  have hed : I12 67 5 = nI k := (hT12 67 5 rfl).trans hed
  have hth : I12 67 6 = nI 0 := (hT12 67 6 rfl).trans hth
  refine lv_aload_n hx hb (dg D_X12_autoPlan (i := 8) rfl) rfl (lv_at hl 0 rfl) ?_
  refine callVi X hW hS hR (c_X12_adopt (I := I12) (auto σ ALLG) X9 k U (by first | assumption | omega | decide | exact hP.1) (h70) (by first | assumption | omega | decide | exact hP.1) (by first | assumption | omega | decide | exact hP.1)) (by decide) UVX12_adopt LK_X12_379 rfl (by decide) rfl rfl rfl (Nat.le_of_ble_eq_true rfl) hl hcs (dg D_X12_autoPlan (i := 9) rfl) (fun r16 I16 L1 R1 H locs hq hW hS => ?_)
  obtain ⟨rfl, hT16, hp16_0, rfl, rfl⟩ := hq
  have hF : Fr SAU I I16 := Fr.tr hF hT16 (by intro a j h; simp only [SA, SAU, Bool.or_eq_true, Bool.and_eq_true, beq_iff_eq, decide_eq_true_eq] at h ⊢; omega)
  have hth : I16 67 6 = nI 0 := (hT16 67 6 rfl).trans hth
  have hX8 : eqPl (auto σ ALLG) X9 = eqPl (auto σ ALLG) σ := by rw [hX9]; exact eqPl_mix
  have hX7 : mixR X9 (auto σ ALLG) = σ := by rw [hX9]; exact mixR_s (fun j hj => auto_hi hi hj)
  refine r_ldcw X CK_X12_339 (dg D_X12_autoPlan (i := 10) rfl) ?_
  refine lv_icmp_ne (tgt := 31) hx hb (dg D_X12_autoPlan (i := 11) rfl) (by decide) (fun c22 => ?_) (fun c22 => ?_)
  · have he : eqPl (auto σ ALLG) X9 = false := (Bool.eq_false_or_eq_true _).resolve_left (fun q => c22 (by rw [q]; rfl))
    rw [if_neg (by rw [he]; decide)] at hp16_0
    rw [hX8] at he
    obtain ⟨hs, hU, hed⟩ := hp16_0
    rw [hX7] at hU
    refine lv_aload_n hx hb (dg D_X12_autoPlan (i := 14) rfl) rfl (lv_at hl 0 rfl) ?_
    refine callVi X hW hS hR (c_X12_countPast (I := I16) (auto σ ALLG) (by first | assumption | omega | decide | exact hP.1) (auto_Inv hi)) (by decide) UVX12_countPast LK_X12_255 rfl (by decide) rfl rfl rfl (Nat.le_of_ble_eq_true rfl) hl hcs (dg D_X12_autoPlan (i := 15) rfl) (fun r32 I32 L1 R1 H locs hq hW hS => ?_)
    obtain ⟨rfl, hT32, rfl, rfl⟩ := hq
    have hF : Fr SAU I I32 := Fr.tr hF hT32 (by intro a j h; simp only [SL, SAU, Bool.or_eq_true, Bool.and_eq_true, beq_iff_eq, decide_eq_true_eq] at h ⊢; omega)
    have hs : I32 68 = auto σ ALLG := by rw [Fr.row hT32 (fun _ => rfl)]; exact hs
    have hU : HisM I32 (min 16 (k + 1)) (pushU σ U) := HisM.row hU (Fr.row hT32 (fun _ => rfl))
    have hth : I32 67 6 = nI 0 := (hT32 67 6 rfl).trans hth
    have hed : I32 67 5 = nI (min 16 (k + 1)) := (hT32 67 5 rfl).trans hed
    exact fin (dg D_X12_autoPlan (i := 16) rfl) hW hS ⟨by unfold auR; rw [if_neg (by rw [he]; decide)], hF, hth, EdP.ok (if_neg (by rw [he]; decide)) hs hU hed, rfl, rfl⟩
  · have he : eqPl (auto σ ALLG) X9 = true := (Bool.eq_false_or_eq_true _).resolve_right (fun q => absurd c22 (by rw [q]; decide))
    rw [if_pos he] at hp16_0
    rw [hX8] at he
    obtain ⟨h1, h2, h3⟩ := hp16_0
    rw [hX7] at h1
    refine r_ldcw X CK_X12_339 (dg D_X12_autoPlan (i := 12) rfl) ?_
    refine lv_goto (tgt := 35) hx hb (dg D_X12_autoPlan (i := 13) rfl) (by decide) ?_
    exact fin (dg D_X12_autoPlan (i := 16) rfl) hW hS ⟨by unfold auR; rw [if_pos he], hF, hth, EdP.no (if_pos he) h1 h2 h3, rfl, rfl⟩

