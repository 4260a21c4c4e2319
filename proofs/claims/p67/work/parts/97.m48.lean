set_option maxHeartbeats 1000000 in
set_option maxRecDepth 100000 in
theorem c_X5_read {l : Launch} {G : va_G} {bs : Nat} {cy : Nat → ClassId} {I : CI} {L : CL} {R : CR} (b : Nat → Int32) (n : Nat) (ρ : Row) (N9 : Nat) (β : Nat) (q : Nat) (hTx : rowP I 30 n (fun j => sg (b j))) (hT : TB b n) (hn : n ≤ 900) (hsz9 : I 29 1 = nI N9) (hN9 : N9 ≤ 900) (hnN : n ≤ N9) (hβ : isBr β) (hq : isPl q) : MTi l G bs cy MX5_read 6 [.ref (bs + 61), .int (nI n), .ref (bs + β), .ref (bs + q)] I L R (fun r I1 L1 R1 => bI (okP (prs b n ρ)) = r ∧ Fr (SRD β q) I I1 ∧ I1 61 4 = eKd (prs b n ρ) ∧ I1 61 5 = ePo (prs b n ρ) ∧ (okP (prs b n ρ) = true → BrAt I1 β (rOf (prs b n ρ)) ∧ PlAt I1 q (rOf (prs b n ρ))) ∧ FL SLq L L1 ∧ R1 = u2R (u2R (u2R R 61 2 β) 61 3 q) q 0 β) := by
  refine MTz.of (own := RX5) pn_RX5 rfl (Nat.le_of_ble_eq_true rfl) ?_
  intro p e s m args below meth c Qf X hW hS fin ls hl
  have hx := X.1
  have hb := X.2.1
  have hR : RmOK (rmL 6 0 0) 6 := ⟨rfl, rfl⟩
  have hcs : 0 ≤ (rmL 6 0 0).cells ∧ 0 ≤ (rmL 6 0 0).slots := ⟨Nat.zero_le _, Nat.zero_le _⟩
  have hl : lv_has ls 6 [(0, .ref (bs + 61)), (1, .int (nI n)), (2, .ref (bs + β)), (3, .ref (bs + q))] := hl
  have hF : Fr (SRD β q) I I := Fr.rf
  have hFL : FL SLq L L := FL.rf
  have hbq := br_pl hβ hq
  have hq4 : 53 ≤ q ∧ q ≤ 57 := by rcases hq with rfl | rfl <;> omega
  refine lv_aload_n hx hb (dg D_X5_read (i := 0) rfl) rfl (lv_at hl 0 rfl) ?_
  refine lv_aload_n hx hb (dg D_X5_read (i := 1) rfl) rfl (lv_at hl 2 rfl) ?_
  refine r_putr (v := β) (C := "SpanPainter$Bridge") X hW hS FI_X5_32 rfl (by decide) rfl rfl (by decide +kernel) (dg D_X5_read (i := 2) rfl) (fun H locs hW hS => ?_)
  refine lv_aload_n hx hb (dg D_X5_read (i := 3) rfl) rfl (lv_at hl 0 rfl) ?_
  refine lv_aload_n hx hb (dg D_X5_read (i := 4) rfl) rfl (lv_at hl 3 rfl) ?_
  refine r_putr (v := q) (C := "SpanPainter$Plan") X hW hS FI_X5_36 rfl (by decide) rfl rfl (by decide +kernel) (dg D_X5_read (i := 5) rfl) (fun H locs hW hS => ?_)
  refine lv_aload_n hx hb (dg D_X5_read (i := 6) rfl) rfl (lv_at hl 0 rfl) ?_
  refine n_iconst (a := 0) hx hb (dg D_X5_read (i := 7) rfl) rfl ?_
  refine r_puti (v := nI 0) (ty := .int) X hW hS FI_X5_40 rfl (by decide) rfl rfl (by decide +kernel) rfl rfl (dg D_X5_read (i := 8) rfl) (fun H locs hW hS => ?_)
  have hF : Fr (SRD β q) I (u2 I 61 4 (nI 0)) := Fr.put hF (by unfold SRD; simp only [Bool.or_eq_true, decide_eq_true_eq]; omega)
  have hTx : rowP (u2 I 61 4 (nI 0)) 30 n (fun j => sg (b j)) := hTx.keep (by omega)
  obtain ⟨J12, eJ12⟩ : ∃ J, J = u2 I 61 4 (nI 0) := ⟨_, rfl⟩
  rw [← eJ12] at hW hF hTx
  have hsz9 : J12 29 1 = nI N9 := by rw [eJ12, u2_off (Or.inl (by decide))]; exact hsz9
  have hki : J12 61 4 = nI 0 := by rw [eJ12]; exact u2_at
  refine lv_aload_n hx hb (dg D_X5_read (i := 9) rfl) rfl (lv_at hl 0 rfl) ?_
  refine r_ldc X CK_X5_18 (dg D_X5_read (i := 10) rfl) ?_
  refine r_puti (v := (-1000004)) (ty := .int) X hW hS FI_X5_19 rfl (by decide) rfl rfl (by decide +kernel) rfl rfl (dg D_X5_read (i := 11) rfl) (fun H locs hW hS => ?_)
  have hF : Fr (SRD β q) I (u2 J12 61 5 ((-1000004))) := Fr.put hF (by unfold SRD; simp only [Bool.or_eq_true, decide_eq_true_eq]; omega)
  have hTx : rowP (u2 J12 61 5 ((-1000004))) 30 n (fun j => sg (b j)) := hTx.keep (by omega)
  obtain ⟨J18, eJ18⟩ : ∃ J, J = u2 J12 61 5 ((-1000004)) := ⟨_, rfl⟩
  rw [← eJ18] at hW hF hTx
  have hsz9 : J18 29 1 = nI N9 := by rw [eJ18, u2_off (Or.inl (by decide))]; exact hsz9
  have hki : J18 61 4 = nI 0 := by rw [eJ18, u2_off (Or.inr (by decide))]; exact hki
  have hpo : J18 61 5 = (-1000004) := by rw [eJ18]; exact u2_at
  have hz : KC J18 := ⟨hki, hpo⟩
  refine lv_aload_n hx hb (dg D_X5_read (i := 12) rfl) rfl (lv_at hl 0 rfl) ?_
  refine r_getr (v := β) X hW FI_X5_32 rfl (by decide) rfl (by first | exact hR2 | (rw [u2R_off (Or.inr (by decide)), u2R_at])) (dg D_X5_read (i := 13) rfl) ?_
  refine callVv X hW hS hR (c_X1_reset (I := J18) β (by first | exact hβ | assumption | omega | decide | exact hP.1)) (by decide) UVX1_reset LK_X5_43 (shB hβ) (ncB0 hβ) rfl rfl rfl (Nat.le_of_ble_eq_true rfl) hl hcs (dg D_X5_read (i := 14) rfl) (fun I25 L1 R1 H locs hq hW hS => ?_)
  obtain ⟨hT25, hp25_0, rfl, rfl⟩ := hq
  have hF : Fr (SRD β q) I I25 := Fr.tr hF hT25 (by intro a j h; simp only [SB9, SRD, Bool.or_eq_true, Bool.and_eq_true, beq_iff_eq, decide_eq_true_eq] at h ⊢; omega)
  have hTx : rowP I25 30 n (fun j => sg (b j)) := hTx.fr hT25 (fun j => Bool.eq_false_iff.mpr (fun h => by simp only [SB9, Bool.or_eq_true, Bool.and_eq_true, beq_iff_eq, decide_eq_true_eq] at h <;> omega))
  have hz : KC I25 := KC.fr hz hT25 (Bool.eq_false_iff.mpr (fun h => by simp only [SB9, Bool.or_eq_true, Bool.and_eq_true, beq_iff_eq, decide_eq_true_eq] at h <;> omega)) (Bool.eq_false_iff.mpr (fun h => by simp only [SB9, Bool.or_eq_true, Bool.and_eq_true, beq_iff_eq, decide_eq_true_eq] at h <;> omega))
  have hsz9 : I25 29 1 = nI N9 := (hT25 29 1 (SB9_in.no (by omega) _)).trans hsz9
  have hB := hp25_0 ρ
  refine lv_aload_n hx hb (dg D_X5_read (i := 15) rfl) rfl (lv_at hl 0 rfl) ?_
  refine r_getr (v := q) X hW FI_X5_36 rfl (by decide) rfl (by first | exact hR3 | exact u2R_at) (dg D_X5_read (i := 16) rfl) ?_
  refine lv_aload_n hx hb (dg D_X5_read (i := 17) rfl) rfl (lv_at hl 0 rfl) ?_
  refine r_getr (v := β) X hW FI_X5_32 rfl (by decide) rfl (by first | exact hR2 | (rw [u2R_off (Or.inr (by decide)), u2R_at])) (dg D_X5_read (i := 18) rfl) ?_
  refine callVv X hW hS hR (c_X6_start (I := I25) (iniR ρ) β q (ini_Inv) (by first | exact hβ | assumption | omega | decide | exact hP.1) (by first | exact hB | assumption | omega | decide | exact hP.1) (by first | exact hq | assumption | omega | decide | exact hP.1)) (by decide) UVX6_start LK_X5_48 (shP hq) (ncP0 hq) rfl rfl rfl (Nat.le_of_ble_eq_true rfl) hl hcs (dg D_X5_read (i := 19) rfl) (fun I36 L1 R1 H locs hq hW hS => ?_)
  obtain ⟨hT36, hp36_0, rfl, rfl⟩ := hq
  have hF : Fr (SRD β q) I I36 := Fr.tr hF hT36 (by intro a j h; simp only [SPu, SRD, Bool.or_eq_true, Bool.and_eq_true, beq_iff_eq, decide_eq_true_eq] at h ⊢; omega)
  have hTx : rowP I36 30 n (fun j => sg (b j)) := hTx.fr hT36 (fun j => Bool.eq_false_iff.mpr (fun h => by simp only [SPu, Bool.or_eq_true, Bool.and_eq_true, beq_iff_eq, decide_eq_true_eq] at h <;> omega))
  have hz : KC I36 := KC.fr hz hT36 (Bool.eq_false_iff.mpr (fun h => by simp only [SPu, Bool.or_eq_true, Bool.and_eq_true, beq_iff_eq, decide_eq_true_eq] at h <;> omega)) (Bool.eq_false_iff.mpr (fun h => by simp only [SPu, Bool.or_eq_true, Bool.and_eq_true, beq_iff_eq, decide_eq_true_eq] at h <;> omega))
  have hB : BrAt I36 β (iniR ρ) := BrAt.frI hB hT36 SPu_in (by omega)
  have hsz9 : I36 29 1 = nI N9 := (hT36 29 1 (SPu_in.no (by omega) _)).trans hsz9
  have hGa := GaAt_ini hp36_0.1
  have hR2 : (u2R (u2R (u2R R 61 2 β) 61 3 q) q 0 β) 61 2 = β := by rw [u2R_off (Or.inl (by omega)), u2R_off (Or.inr (by decide)), u2R_at]
  have hR3 : (u2R (u2R (u2R R 61 2 β) 61 3 q) q 0 β) 61 3 = q := by rw [u2R_off (Or.inl (by omega)), u2R_at]
  have hRq : (u2R (u2R (u2R R 61 2 β) 61 3 q) q 0 β) q 0 = β := u2R_at
  refine lv_aload_n hx hb (dg D_X5_read (i := 20) rfl) rfl (lv_at hl 0 rfl) ?_
  refine r_getc (t := 62) X hW FI_X5_12 rfl (by decide) rfl (dg D_X5_read (i := 21) rfl) ?_
  refine callVv X hW hS hR (c_X3_clear (I := I36) ) (by decide) UVX3_clear LK_X5_54 rfl (by decide) rfl rfl rfl (Nat.le_of_ble_eq_true rfl) hl hcs (dg D_X5_read (i := 22) rfl) (fun I43 L1 R1 H locs hq hW hS => ?_)
  obtain ⟨hT43, hp43_0, rfl, rfl⟩ := hq
  have hF : Fr (SRD β q) I I43 := Fr.tr hF hT43 (by intro a j h; simp only [SNa, SRD, Bool.or_eq_true, Bool.and_eq_true, beq_iff_eq, decide_eq_true_eq] at h ⊢; omega)
  have hTx : rowP I43 30 n (fun j => sg (b j)) := hTx.fr hT43 (fun j => Bool.eq_false_iff.mpr (fun h => by simp only [SNa, Bool.or_eq_true, Bool.and_eq_true, beq_iff_eq, decide_eq_true_eq] at h <;> omega))
  have hz : KC I43 := KC.fr hz hT43 (Bool.eq_false_iff.mpr (fun h => by simp only [SNa, Bool.or_eq_true, Bool.and_eq_true, beq_iff_eq, decide_eq_true_eq] at h <;> omega)) (Bool.eq_false_iff.mpr (fun h => by simp only [SNa, Bool.or_eq_true, Bool.and_eq_true, beq_iff_eq, decide_eq_true_eq] at h <;> omega))
  have hB : BrAt I43 β (iniR ρ) := BrAt.frI hB hT43 SNa_in (by omega)
  have hGa : GaAt I43 q (iniR ρ) := GaAt.frI hGa hT43 SNa_in (by omega)
  have hsz9 : I43 29 1 = nI N9 := (hT43 29 1 rfl).trans hsz9
  have hsz := hp43_0
  refine lv_aload_n hx hb (dg D_X5_read (i := 23) rfl) rfl (lv_at hl 0 rfl) ?_
  refine r_getc (t := 66) X hW FI_X5_28 rfl (by decide) rfl (dg D_X5_read (i := 24) rfl) ?_
  refine lv_iload_n hx hb (dg D_X5_read (i := 25) rfl) rfl (lv_at hl 1 rfl) ?_
  refine callVv X hW hS hR (c_X10_begin (I := I43) n N9 (hsz9) (by first | exact hN9 | assumption | omega | decide | exact hP.1) (by first | exact hnN | assumption | omega | decide | exact hP.1)) (by decide) UVX10_begin LK_X5_57 rfl (by decide) rfl rfl rfl (Nat.le_of_ble_eq_true rfl) hl hcs (dg D_X5_read (i := 26) rfl) (fun I51 L1 R1 H locs hq hW hS => ?_)
  obtain ⟨hT51, hp51_0, hp51_1, rfl, rfl⟩ := hq
  have hF : Fr (SRD β q) I I51 := Fr.tr hF hT51 (by intro a j h; simp only [SC, SRD, Bool.or_eq_true, Bool.and_eq_true, beq_iff_eq, decide_eq_true_eq] at h ⊢; omega)
  have hTx : rowP I51 30 n (fun j => sg (b j)) := hTx.fr hT51 (fun j => Bool.eq_false_iff.mpr (fun h => by simp only [SC, Bool.or_eq_true, Bool.and_eq_true, beq_iff_eq, decide_eq_true_eq] at h <;> omega))
  have hz : KC I51 := KC.fr hz hT51 (Bool.eq_false_iff.mpr (fun h => by simp only [SC, Bool.or_eq_true, Bool.and_eq_true, beq_iff_eq, decide_eq_true_eq] at h <;> omega)) (Bool.eq_false_iff.mpr (fun h => by simp only [SC, Bool.or_eq_true, Bool.and_eq_true, beq_iff_eq, decide_eq_true_eq] at h <;> omega))
  have hB : BrAt I51 β (iniR ρ) := BrAt.frI hB hT51 in_SC (by omega)
  have hGa : GaAt I51 q (iniR ρ) := GaAt.frI hGa hT51 in_SC (by omega)
  have hsz9 : I51 29 1 = nI N9 := (hT51 29 1 rfl).trans hsz9
  have hsz : I51 62 3 = nI 0 := (hT51 62 3 rfl).trans hsz
  have hln := hp51_0
  have hen := hp51_1
  refine n_iconst (a := 1) hx hb (dg D_X5_read (i := 27) rfl) rfl ?_
  refine lv_istore (lv' := [(4, .int (nI 1)), (0, .ref (bs + 61)), (1, .int (nI n)), (2, .ref (bs + β)), (3, .ref (bs + q))]) hx hb (dg D_X5_read (i := 28) rfl) hl (by decide) rfl (fun ls hl => ?_)
  refine n_iconst (a := 0) hx hb (dg D_X5_read (i := 29) rfl) rfl ?_
  refine lv_istore (lv' := [(5, .int (nI 0)), (4, .int (nI 1)), (0, .ref (bs + 61)), (1, .int (nI n)), (2, .ref (bs + β)), (3, .ref (bs + q))]) hx hb (dg D_X5_read (i := 30) rfl) hl (by decide) rfl (fun ls hl => ?_)
  have hPC : ∃ σ9, Inv σ9 ∧ PostC b n β q (pI b n (iniR ρ) 0) σ9 I51 L := ⟨iniR ρ, ini_Inv, hB, hGa, ⟨0, fun _ => 0, fun _ => 0, fun _ => 0, ⟨hsz, by omega, fun i hi => absurd hi (by omega)⟩, fun i hi => absurd hi (by omega), NmR_ini⟩, hen, hz⟩
  have loop60 := up_ind (P := fun k => ∀ (K60 : CI) (KL60 : CL) (H : Heap) (locs : List Loc) (ls : Array Slot) (v4 : Int32) (v5 : Int32), v4 = bI (okP (pI b n (iniR ρ) k)) → v5 = nI k → (Fr (SRD β q) I K60) → (rowP K60 30 n (fun j => sg (b j))) → (K60 66 1 = nI n) → (FL SLq L KL60) → (∃ σ9, Inv σ9 ∧ PostC b n β q (pI b n (iniR ρ) k) σ9 K60 KL60) → Wd G bs cy K60 KL60 (u2R (u2R (u2R R 61 2 β) 61 3 q) q 0 β) H → va_S (Aq bs) s.heap H locs → lv_has ls 6 [(0, .ref (bs + 61)), (1, .int (nI n)), (2, .ref (bs + β)), (3, .ref (bs + q)), (4, .int v4), (5, .int v5)] → W p l e (rmL 6 0 0) s m args below meth c H locs 0 0 Qf (F0 m 60 ls [])) (n + 1) (fun k hx60 ih60 => by
      intro K60 KL60 H locs ls v4 v5 q4 q5 hF hTx hln hFL hPC hW hS hl
      subst q4
      subst q5
      refine lv_iload hx hb (dg D_X5_read (i := 31) rfl) (lv_at hl 4 rfl) ?_
      refine z_if_eq (tgt := 113) hx hb (dg D_X5_read (i := 32) rfl) (by decide) (fun c62 => ?_) (fun c62 => ?_)
      · have hfin := prs_l hx60 c62
        have hen9 := PostC.en hPC (fun π nm p h => (pI_G (fun x y hx hy => ini_pnt hx hy) ini_Inv ini_DR k _ _ _ h).2.1)
        rw [hfin] at hl hen9
        obtain ⟨τ, hiτ, hBτ, hGaτ, hek, hep, hτ⟩ := hen9
        refine lv_aload_n hx hb (dg D_X5_read (i := 54) rfl) rfl (lv_at hl 0 rfl) ?_
        refine r_getr (v := q) X hW FI_X5_36 rfl (by decide) rfl (by first | exact hR3 | exact u2R_at) (dg D_X5_read (i := 55) rfl) ?_
        refine callVv X hW hS hR (c_X6_followAll (I := K60) τ β q (hiτ) (by first | exact hβ | assumption | omega | decide | exact hP.1) (hBτ) (by first | exact hq | assumption | omega | decide | exact hP.1) (hGaτ) (hRq)) (by decide) UVX6_followAll LK_X5_71 (shP hq) (ncP0 hq) rfl rfl rfl (Nat.le_of_ble_eq_true rfl) hl hcs (dg D_X5_read (i := 56) rfl) (fun I117 L1 R1 H locs hq hW hS => ?_)
        obtain ⟨hT117, hp117_0, rfl, rfl⟩ := hq
        have hF : Fr (SRD β q) I I117 := Fr.tr hF hT117 (by intro a j h; simp only [SRw, SRD, Bool.or_eq_true, Bool.and_eq_true, beq_iff_eq, decide_eq_true_eq] at h ⊢; omega)
        have hTx : rowP I117 30 n (fun j => sg (b j)) := hTx.fr hT117 (fun j => Bool.eq_false_iff.mpr (fun h => by simp only [SRw, Bool.or_eq_true, Bool.and_eq_true, beq_iff_eq, decide_eq_true_eq] at h <;> omega))
        have hBτ : BrAt I117 β τ := BrAt.frI hBτ hT117 SRw_in (by omega)
        have hek : I117 61 4 = eKd (prs b n ρ) := (hT117 61 4 (SRw_in.no (by omega) _)).trans hek
        have hep : I117 61 5 = ePo (prs b n ρ) := (hT117 61 5 (SRw_in.no (by omega) _)).trans hep
        refine lv_iload hx hb (dg D_X5_read (i := 57) rfl) (lv_at hl 4 rfl) ?_
        exact fin (dg D_X5_read (i := 58) rfl) hW hS rfl ⟨rfl, hF, hek, hep, fun z => by rw [← hτ z]; exact ⟨hBτ, hp117_0⟩, hFL, rfl⟩
      · refine lv_iload hx hb (dg D_X5_read (i := 33) rfl) (lv_at hl 5 rfl) ?_
        refine lv_iload_n hx hb (dg D_X5_read (i := 34) rfl) rfl (lv_at hl 1 rfl) ?_
        refine n_icmp_gt (tgt := 113) hx hb (by omega) (by omega) (dg D_X5_read (i := 35) rfl) (by decide) (fun c68 => ?_) (fun c68 => ?_)
        · have hfin : pI b n (iniR ρ) k = prs b n ρ := by rw [show k = n + 1 by omega]; rfl
          have hen9 := PostC.en hPC (fun π nm p h => (pI_G (fun x y hx hy => ini_pnt hx hy) ini_Inv ini_DR k _ _ _ h).2.1)
          rw [hfin] at hl hen9
          obtain ⟨τ, hiτ, hBτ, hGaτ, hek, hep, hτ⟩ := hen9
          refine lv_aload_n hx hb (dg D_X5_read (i := 54) rfl) rfl (lv_at hl 0 rfl) ?_
          refine r_getr (v := q) X hW FI_X5_36 rfl (by decide) rfl (by first | exact hR3 | exact u2R_at) (dg D_X5_read (i := 55) rfl) ?_
          refine callVv X hW hS hR (c_X6_followAll (I := K60) τ β q (hiτ) (by first | exact hβ | assumption | omega | decide | exact hP.1) (hBτ) (by first | exact hq | assumption | omega | decide | exact hP.1) (hGaτ) (hRq)) (by decide) UVX6_followAll LK_X5_71 (shP hq) (ncP0 hq) rfl rfl rfl (Nat.le_of_ble_eq_true rfl) hl hcs (dg D_X5_read (i := 56) rfl) (fun I117 L1 R1 H locs hq hW hS => ?_)
          obtain ⟨hT117, hp117_0, rfl, rfl⟩ := hq
          have hF : Fr (SRD β q) I I117 := Fr.tr hF hT117 (by intro a j h; simp only [SRw, SRD, Bool.or_eq_true, Bool.and_eq_true, beq_iff_eq, decide_eq_true_eq] at h ⊢; omega)
          have hTx : rowP I117 30 n (fun j => sg (b j)) := hTx.fr hT117 (fun j => Bool.eq_false_iff.mpr (fun h => by simp only [SRw, Bool.or_eq_true, Bool.and_eq_true, beq_iff_eq, decide_eq_true_eq] at h <;> omega))
          have hBτ : BrAt I117 β τ := BrAt.frI hBτ hT117 SRw_in (by omega)
          have hek : I117 61 4 = eKd (prs b n ρ) := (hT117 61 4 (SRw_in.no (by omega) _)).trans hek
          have hep : I117 61 5 = ePo (prs b n ρ) := (hT117 61 5 (SRw_in.no (by omega) _)).trans hep
          refine lv_iload hx hb (dg D_X5_read (i := 57) rfl) (lv_at hl 4 rfl) ?_
          exact fin (dg D_X5_read (i := 58) rfl) hW hS rfl ⟨rfl, hF, hek, hep, fun z => by rw [← hτ z]; exact ⟨hBτ, hp117_0⟩, hFL, rfl⟩
        · obtain ⟨σ9, hi9, hPC9⟩ := hPC
          obtain ⟨π, nm, q9, hr9⟩ := okP_ex c62
          have hPI := hr9
          rw [hr9] at hPC9
          obtain ⟨hB, hGa, ⟨N, ds, st, nu, hNi, hNl, hNR⟩, hen, hz⟩ := hPC9
          obtain ⟨hqn, hi, hd, hpr⟩ := pI_G (fun x y hx hy => ini_pnt hx hy) ini_Inv ini_DR k _ _ _ hr9
          have hk4 := tK_le (b := b) (n := n) (p := q9)
          have hck := cK_eq hk4
          refine lv_aload_n hx hb (dg D_X5_read (i := 36) rfl) rfl (lv_at hl 0 rfl) ?_
          refine r_getc (t := 66) X hW FI_X5_28 rfl (by decide) rfl (dg D_X5_read (i := 37) rfl) ?_
          refine callVv X hW hS hR (c_X10_next (I := K60) b n q9 (by first | exact hTx | assumption | omega | decide | exact hP.1) (by first | exact hln | assumption | omega | decide | exact hP.1) (by first | exact hT | assumption | omega | decide | exact hP.1) (by first | exact hn | assumption | omega | decide | exact hP.1) (by first | exact hen | assumption | omega | decide | exact hP.1) (hqn)) (by decide) UVX10_next LK_X5_61 rfl (by decide) rfl rfl rfl (Nat.le_of_ble_eq_true rfl) hl hcs (dg D_X5_read (i := 38) rfl) (fun I75 Lc75 R1 H locs hq hW hS => ?_)
          obtain ⟨hT75, hp75_0, hL75, rfl⟩ := hq
          have hF : Fr (SRD β q) I I75 := Fr.tr hF hT75 (by intro a j h; simp only [STc, SRD, Bool.or_eq_true, Bool.and_eq_true, beq_iff_eq, decide_eq_true_eq] at h ⊢; omega)
          have hTx : rowP I75 30 n (fun j => sg (b j)) := hTx.fr hT75 (fun j => Bool.eq_false_iff.mpr (fun h => by simp only [STc, Bool.or_eq_true, Bool.and_eq_true, beq_iff_eq, decide_eq_true_eq] at h <;> omega))
          have hB : BrAt I75 β π := BrAt.frI hB hT75 STc_in (by omega)
          have hGa : GaAt I75 q π := GaAt.frI hGa hT75 STc_in (by omega)
          have hz : KC I75 := KC.fr hz hT75 (Bool.eq_false_iff.mpr (fun h => by simp only [STc, Bool.or_eq_true, Bool.and_eq_true, beq_iff_eq, decide_eq_true_eq] at h <;> omega)) (Bool.eq_false_iff.mpr (fun h => by simp only [STc, Bool.or_eq_true, Bool.and_eq_true, beq_iff_eq, decide_eq_true_eq] at h <;> omega))
          have hNi : NmI b n I75 N ds st nu := NmI.fr hNi hT75 (fun a j h1 h2 => Bool.eq_false_iff.mpr (fun h => by simp only [STc, Bool.or_eq_true, Bool.and_eq_true, beq_iff_eq, decide_eq_true_eq] at h <;> omega))
          have hln : I75 66 1 = nI n := (hT75 66 1 rfl).trans hln
          have hFL : FL SLq L Lc75 := FL.tr hFL hL75 (by intro a j h; simp only [SLc, SLq, Bool.or_eq_true, Bool.and_eq_true, beq_iff_eq, decide_eq_true_eq] at h ⊢; omega)
          have hNl : NmL b n Lc75 N ds := NmL.fl hNl hL75 (fun _ => rfl)
          obtain ⟨hst, hen, hki, hnu, hwd⟩ := id hp75_0
          refine lv_aload_n hx hb (dg D_X5_read (i := 39) rfl) rfl (lv_at hl 0 rfl) ?_
          refine r_getc (t := 66) X hW FI_X5_28 rfl (by decide) rfl (dg D_X5_read (i := 40) rfl) ?_
          refine rn_geti (v := nI (cK (tK b n q9))) X hW FN_X5_64 rfl (by decide) rfl hki (dg D_X5_read (i := 41) rfl) ?_
          refine n_if_ne (tgt := 91) hx hb (by omega) (dg D_X5_read (i := 42) rfl) (by decide) (fun c85 => ?_) (fun c85 => ?_)
          · refine lv_aload_n hx hb (dg D_X5_read (i := 44) rfl) rfl (lv_at hl 0 rfl) ?_
            refine lv_iload hx hb (dg D_X5_read (i := 45) rfl) (lv_at hl 5 rfl) ?_
            refine n_if_ne (tgt := 101) hx hb (by omega) (dg D_X5_read (i := 46) rfl) (by decide) (fun c94 => ?_) (fun c94 => ?_)
            · refine n_iconst (a := 0) hx hb (dg D_X5_read (i := 49) rfl) rfl ?_
              refine callVi X hW hS hR (c_X5_readStatement (I := I75) b n π q9 nm N ds st nu β q false (by first | exact hTx | assumption | omega | decide | exact hP.1) (by first | exact hln | assumption | omega | decide | exact hP.1) (by first | exact hT | assumption | omega | decide | exact hP.1) (by first | exact hn | assumption | omega | decide | exact hP.1) (by first | exact hen | assumption | omega | decide | exact hP.1) (hqn) (by first | exact hz | assumption | omega | decide | exact hP.1) (by first | exact hi | assumption | omega | decide | exact hP.1) (by first | exact hNi | assumption | omega | decide | exact hP.1) (by first | exact hNl | assumption | omega | decide | exact hP.1) (by first | exact hNR | assumption | omega | decide | exact hP.1) (by first | exact hβ | assumption | omega | decide | exact hP.1) (by first | exact hB | assumption | omega | decide | exact hP.1) (by first | exact hq | assumption | omega | decide | exact hP.1) (by first | exact hGa | assumption | omega | decide | exact hP.1) (by first | exact hR2 | assumption | omega | decide | exact hP.1) (by first | exact hR3 | assumption | omega | decide | exact hP.1) (by first | exact hRq | assumption | omega | decide | exact hP.1) (by first | exact hd | assumption | omega | decide | exact hP.1) (by first | exact hst | assumption | omega | decide | exact hP.1) (by first | exact hki | assumption | omega | decide | exact hP.1) (by first | exact hwd | assumption | omega | decide | exact hP.1)) (by decide) UVX5_readStatement LK_X5_67 rfl (by decide) rfl rfl rfl (Nat.le_of_ble_eq_true rfl) hl hcs (dg D_X5_read (i := 50) rfl) (fun r102 I102 Lc102 R1 H locs hq hW hS => ?_)
              obtain ⟨rfl, hT102, hp102_0, hL102, rfl⟩ := hq
              have hF : Fr (SRD β q) I I102 := Fr.tr hF hT102 (by intro a j h; simp only [SCP, SRD, Bool.or_eq_true, Bool.and_eq_true, beq_iff_eq, decide_eq_true_eq] at h ⊢; omega)
              have hTx : rowP I102 30 n (fun j => sg (b j)) := hTx.fr hT102 (fun j => Bool.eq_false_iff.mpr (fun h => by simp only [SCP, Bool.or_eq_true, Bool.and_eq_true, beq_iff_eq, decide_eq_true_eq] at h <;> omega))
              have hFL : FL SLq L Lc102 := FL.tr hFL hL102 (fun _ _ h => h)
              have hNl : True := trivial
              have hln : I102 66 1 = nI n := (hT102 _ _ (Bool.eq_false_iff.mpr (fun h => by simp only [SCP, Bool.or_eq_true, Bool.and_eq_true, beq_iff_eq, decide_eq_true_eq] at h; omega))).trans hln
              refine lv_istore (lv' := [(4, .int (bI (okP (stm b n false π nm q9)))), (0, .ref (bs + 61)), (1, .int (nI n)), (2, .ref (bs + β)), (3, .ref (bs + q)), (5, .int (nI k))]) hx hb (dg D_X5_read (i := 51) rfl) hl (by decide) rfl (fun ls hl => ?_)
              refine lv_iinc (v := nI (k + 1)) (lv' := [(5, .int (nI (k + 1))), (4, .int (bI (okP (stm b n false π nm q9)))), (0, .ref (bs + 61)), (1, .int (nI n)), (2, .ref (bs + β)), (3, .ref (bs + q))]) hx hb (dg D_X5_read (i := 52) rfl) hl (k := 5) rfl (nI_add _ _) (by decide) rfl (fun ls hl => ?_)
              refine lv_goto (tgt := 60) hx hb (dg D_X5_read (i := 53) rfl) (by decide) ?_
              exact ih60 (by omega) I102 Lc102 _ _ _ _ _ (by rw [pI_s hr9 (fun z => c85 (hck.2.2.2.2.1.mpr z)), show decide (k = 0) = false from decide_eq_false (by omega)]) (congrArg nI (by omega)) hF hTx hln hFL (by rw [pI_s hr9 (fun z => c85 (hck.2.2.2.2.1.mpr z)), show decide (k = 0) = false from decide_eq_false (by omega)]; exact ⟨π, hi, hp102_0⟩) hW hS (lv_sub hl [2, 3, 4, 5, 1, 0] rfl)
            · refine n_iconst (a := 1) hx hb (dg D_X5_read (i := 47) rfl) rfl ?_
              refine lv_goto (tgt := 102) hx hb (dg D_X5_read (i := 48) rfl) (by decide) ?_
              refine callVi X hW hS hR (c_X5_readStatement (I := I75) b n π q9 nm N ds st nu β q true (by first | exact hTx | assumption | omega | decide | exact hP.1) (by first | exact hln | assumption | omega | decide | exact hP.1) (by first | exact hT | assumption | omega | decide | exact hP.1) (by first | exact hn | assumption | omega | decide | exact hP.1) (by first | exact hen | assumption | omega | decide | exact hP.1) (hqn) (by first | exact hz | assumption | omega | decide | exact hP.1) (by first | exact hi | assumption | omega | decide | exact hP.1) (by first | exact hNi | assumption | omega | decide | exact hP.1) (by first | exact hNl | assumption | omega | decide | exact hP.1) (by first | exact hNR | assumption | omega | decide | exact hP.1) (by first | exact hβ | assumption | omega | decide | exact hP.1) (by first | exact hB | assumption | omega | decide | exact hP.1) (by first | exact hq | assumption | omega | decide | exact hP.1) (by first | exact hGa | assumption | omega | decide | exact hP.1) (by first | exact hR2 | assumption | omega | decide | exact hP.1) (by first | exact hR3 | assumption | omega | decide | exact hP.1) (by first | exact hRq | assumption | omega | decide | exact hP.1) (by first | exact hd | assumption | omega | decide | exact hP.1) (by first | exact hst | assumption | omega | decide | exact hP.1) (by first | exact hki | assumption | omega | decide | exact hP.1) (by first | exact hwd | assumption | omega | decide | exact hP.1)) (by decide) UVX5_readStatement LK_X5_67 rfl (by decide) rfl rfl rfl (Nat.le_of_ble_eq_true rfl) hl hcs (dg D_X5_read (i := 50) rfl) (fun r102 I102 Lc102 R1 H locs hq hW hS => ?_)
              obtain ⟨rfl, hT102, hp102_0, hL102, rfl⟩ := hq
              have hF : Fr (SRD β q) I I102 := Fr.tr hF hT102 (by intro a j h; simp only [SCP, SRD, Bool.or_eq_true, Bool.and_eq_true, beq_iff_eq, decide_eq_true_eq] at h ⊢; omega)
              have hTx : rowP I102 30 n (fun j => sg (b j)) := hTx.fr hT102 (fun j => Bool.eq_false_iff.mpr (fun h => by simp only [SCP, Bool.or_eq_true, Bool.and_eq_true, beq_iff_eq, decide_eq_true_eq] at h <;> omega))
              have hFL : FL SLq L Lc102 := FL.tr hFL hL102 (fun _ _ h => h)
              have hNl : True := trivial
              have hln : I102 66 1 = nI n := (hT102 _ _ (Bool.eq_false_iff.mpr (fun h => by simp only [SCP, Bool.or_eq_true, Bool.and_eq_true, beq_iff_eq, decide_eq_true_eq] at h; omega))).trans hln
              refine lv_istore (lv' := [(4, .int (bI (okP (stm b n true π nm q9)))), (0, .ref (bs + 61)), (1, .int (nI n)), (2, .ref (bs + β)), (3, .ref (bs + q)), (5, .int (nI k))]) hx hb (dg D_X5_read (i := 51) rfl) hl (by decide) rfl (fun ls hl => ?_)
              refine lv_iinc (v := nI (k + 1)) (lv' := [(5, .int (nI (k + 1))), (4, .int (bI (okP (stm b n true π nm q9)))), (0, .ref (bs + 61)), (1, .int (nI n)), (2, .ref (bs + β)), (3, .ref (bs + q))]) hx hb (dg D_X5_read (i := 52) rfl) hl (k := 5) rfl (nI_add _ _) (by decide) rfl (fun ls hl => ?_)
              refine lv_goto (tgt := 60) hx hb (dg D_X5_read (i := 53) rfl) (by decide) ?_
              exact ih60 (by omega) I102 Lc102 _ _ _ _ _ (by rw [pI_s hr9 (fun z => c85 (hck.2.2.2.2.1.mpr z)), show decide (k = 0) = true from decide_eq_true (by omega)]) (congrArg nI (by omega)) hF hTx hln hFL (by rw [pI_s hr9 (fun z => c85 (hck.2.2.2.2.1.mpr z)), show decide (k = 0) = true from decide_eq_true (by omega)]; exact ⟨π, hi, hp102_0⟩) hW hS (lv_sub hl [2, 3, 4, 5, 1, 0] rfl)
          · refine lv_goto (tgt := 113) hx hb (dg D_X5_read (i := 43) rfl) (by decide) ?_
            have hfin := prs_z hx60 hr9 (by have := hck.2.2.2.2.1; omega)
            have hpr9 : prs b n ρ = .inr (π, nm, q9) := hfin.symm.trans hr9
            rw [hfin] at hl
            have hen9 : PEnd b n β q (prs b n ρ) I75 := ⟨π, hi, hB, hGa, by rw [hpr9]; exact hz.1, by rw [hpr9]; exact hz.2, fun _ => by rw [hpr9]; rfl⟩
            obtain ⟨τ, hiτ, hBτ, hGaτ, hek, hep, hτ⟩ := hen9
            refine lv_aload_n hx hb (dg D_X5_read (i := 54) rfl) rfl (lv_at hl 0 rfl) ?_
            refine r_getr (v := q) X hW FI_X5_36 rfl (by decide) rfl (by first | exact hR3 | exact u2R_at) (dg D_X5_read (i := 55) rfl) ?_
            refine callVv X hW hS hR (c_X6_followAll (I := I75) τ β q (hiτ) (by first | exact hβ | assumption | omega | decide | exact hP.1) (hBτ) (by first | exact hq | assumption | omega | decide | exact hP.1) (hGaτ) (hRq)) (by decide) UVX6_followAll LK_X5_71 (shP hq) (ncP0 hq) rfl rfl rfl (Nat.le_of_ble_eq_true rfl) hl hcs (dg D_X5_read (i := 56) rfl) (fun I117 L1 R1 H locs hq hW hS => ?_)
            obtain ⟨hT117, hp117_0, rfl, rfl⟩ := hq
            have hF : Fr (SRD β q) I I117 := Fr.tr hF hT117 (by intro a j h; simp only [SRw, SRD, Bool.or_eq_true, Bool.and_eq_true, beq_iff_eq, decide_eq_true_eq] at h ⊢; omega)
            have hTx : rowP I117 30 n (fun j => sg (b j)) := hTx.fr hT117 (fun j => Bool.eq_false_iff.mpr (fun h => by simp only [SRw, Bool.or_eq_true, Bool.and_eq_true, beq_iff_eq, decide_eq_true_eq] at h <;> omega))
            have hBτ : BrAt I117 β τ := BrAt.frI hBτ hT117 SRw_in (by omega)
            have hek : I117 61 4 = eKd (prs b n ρ) := (hT117 61 4 (SRw_in.no (by omega) _)).trans hek
            have hep : I117 61 5 = ePo (prs b n ρ) := (hT117 61 5 (SRw_in.no (by omega) _)).trans hep
            refine lv_iload hx hb (dg D_X5_read (i := 57) rfl) (lv_at hl 4 rfl) ?_
            exact fin (dg D_X5_read (i := 58) rfl) hW hS rfl ⟨rfl, hF, hek, hep, fun z => by rw [← hτ z]; exact ⟨hBτ, hp117_0⟩, hFL, rfl⟩)
  exact loop60 0 (Nat.zero_le _) I51 L _ _ _ _ _ (rfl) (congrArg nI (by omega)) hF hTx hln hFL hPC hW hS (lv_sub hl [2, 3, 4, 5, 1, 0] rfl)

