set_option maxHeartbeats 1000000 in
set_option maxRecDepth 100000 in
theorem c_X12_load {l : Launch} {G : va_G} {bs : Nat} {cy : Nat → ClassId} {I : CI} {L : CL} {R : CR} (b : Nat → Int32) (n : Nat) (σ : Row) (ρ : Row) (m9 : Nat) (k9 : Nat) (hb3 : I 73 = b) (hT : TB b n) (hm9 : m9 ≤ 900) (hnm : n ≤ m9) (hbf : I 67 8 = nI m9) (hed : I 67 5 = nI k9) (hs : I 68 = σ) (hro : I 69 = ρ) : MTi l G bs cy MX12_load 11 [.ref (bs + 67), .int (nI n)] I L R (fun r I1 L1 R1 => (if okP (prs b n ρ) = true then nI (nS (rOf (prs b n ρ))) else (-1000006)) = r ∧ Fr SLd I I1 ∧ I1 67 6 = nI 0 ∧ I1 67 8 = nI 0 ∧ I1 67 9 = eKd (prs b n ρ) ∧ I1 67 10 = ePo (prs b n ρ) ∧ I1 68 = (if okP (prs b n ρ) = true then ovl (rOf (prs b n ρ)) σ else σ) ∧ I1 67 5 = (if okP (prs b n ρ) = true then nI 0 else nI k9) ∧ FL SLp L L1 ∧ R = R1) := by
  refine MTi.of (own := RX12) pn_RX12 rfl (Nat.le_of_ble_eq_true rfl) ?_
  intro p e s m args below meth c Qf X hW hS fin ls hl
  have hx := X.1
  have hb := X.2.1
  have hR : RmOK (rmL 11 0 0) 11 := ⟨rfl, rfl⟩
  have hcs : 0 ≤ (rmL 11 0 0).cells ∧ 0 ≤ (rmL 11 0 0).slots := ⟨Nat.zero_le _, Nat.zero_le _⟩
  have hl : lv_has ls 4 [(0, .ref (bs + 67)), (1, .int (nI n))] := hl
  have hF : Fr SLd I I := Fr.rf
  have hFL : FL SLp L L := FL.rf
  have hn : n ≤ 900 := by omega
  refine lv_aload_n hx hb (dg D_X12_load (i := 0) rfl) rfl (lv_at hl 0 rfl) ?_
  refine lv_iload_n hx hb (dg D_X12_load (i := 1) rfl) rfl (lv_at hl 1 rfl) ?_
  refine lv_i2l (v := (nI n).toInt64) hx hb (dg D_X12_load (i := 2) rfl) rfl ?_
  refine lv_lconst (v := 0) hx hb (dg D_X12_load (i := 3) rfl) rfl ?_
  refine lv_aload_n hx hb (dg D_X12_load (i := 4) rfl) rfl (lv_at hl 0 rfl) ?_
  refine r_geti (v := nI m9) X hW FI_X12_99 rfl (by decide) rfl hbf (dg D_X12_load (i := 5) rfl) ?_
  refine lv_i2l (v := (nI m9).toInt64) hx hb (dg D_X12_load (i := 6) rfl) rfl ?_
  refine callSi X hW hS hR (c_X12_between (I := I) ((nI n).toInt64) 0 ((nI m9).toInt64)) (by decide) USX12_between LK_X12_84 rfl rfl (Nat.le_of_ble_eq_true rfl) hl hcs (dg D_X12_load (i := 7) rfl) (fun r9 I9 L1 R1 H locs hq hW hS => ?_)
  obtain ⟨rfl, rfl, rfl, rfl⟩ := hq
  rw [show bI (decide (0 ≤ ((nI n).toInt64) ∧ ((nI n).toInt64) ≤ ((nI m9).toInt64))) = bI true from congrArg bI (bt0 hnm (by omega))]
  refine z_if_eq (tgt := 19) hx hb (dg D_X12_load (i := 8) rfl) (by decide) (fun c12 => ?_) (fun c12 => ?_)
  · exact absurd c12 (by decide)
  · refine n_iconst (a := 0) hx hb (dg D_X12_load (i := 9) rfl) rfl ?_
    refine lv_goto (tgt := 20) hx hb (dg D_X12_load (i := 10) rfl) (by decide) ?_
    refine r_puti (v := nI 0) (ty := .int) X hW hS FI_X12_74 rfl (by decide) rfl rfl (by decide +kernel) rfl rfl (dg D_X12_load (i := 12) rfl) (fun H locs hW hS => ?_)
    have hF : Fr SLd I (u2 I 67 6 (nI 0)) := Fr.put hF rfl
    have hb3 : (u2 I 67 6 (nI 0)) 73 = b := by rw [u2_ne (by decide)]; exact hb3
    have hs : (u2 I 67 6 (nI 0)) 68 = σ := by rw [u2_ne (by decide)]; exact hs
    have hro : (u2 I 67 6 (nI 0)) 69 = ρ := by rw [u2_ne (by decide)]; exact hro
    obtain ⟨J20, eJ20⟩ : ∃ J, J = u2 I 67 6 (nI 0) := ⟨_, rfl⟩
    rw [← eJ20] at hW hF hb3 hs hro
    have hbf : J20 67 8 = nI m9 := by rw [eJ20, u2_off (Or.inr (by decide))]; exact hbf
    have hed : J20 67 5 = nI k9 := by rw [eJ20, u2_off (Or.inr (by decide))]; exact hed
    have hth : J20 67 6 = nI 0 := by rw [eJ20]; exact u2_at
    refine lv_aload_n hx hb (dg D_X12_load (i := 13) rfl) rfl (lv_at hl 0 rfl) ?_
    refine r_geti (v := nI 0) X hW FI_X12_74 rfl (by decide) rfl hth (dg D_X12_load (i := 14) rfl) ?_
    refine n_if_le (tgt := 32) hx hb (by omega) (dg D_X12_load (i := 15) rfl) (by decide) (fun c27 => ?_) (fun c27 => ?_)
    · refine lv_aload_n hx hb (dg D_X12_load (i := 18) rfl) rfl (lv_at hl 0 rfl) ?_
      refine lv_iload_n hx hb (dg D_X12_load (i := 19) rfl) rfl (lv_at hl 1 rfl) ?_
      refine r_puti (v := nI n) (ty := .int) X hW hS FI_X12_107 rfl (by decide) rfl rfl (by decide +kernel) rfl rfl (dg D_X12_load (i := 20) rfl) (fun H locs hW hS => ?_)
      have hF : Fr SLd I (u2 J20 67 11 (nI n)) := Fr.put hF rfl
      have hb3 : (u2 J20 67 11 (nI n)) 73 = b := by rw [u2_ne (by decide)]; exact hb3
      have hs : (u2 J20 67 11 (nI n)) 68 = σ := by rw [u2_ne (by decide)]; exact hs
      have hro : (u2 J20 67 11 (nI n)) 69 = ρ := by rw [u2_ne (by decide)]; exact hro
      obtain ⟨J34, eJ34⟩ : ∃ J, J = u2 J20 67 11 (nI n) := ⟨_, rfl⟩
      rw [← eJ34] at hW hF hb3 hs hro
      have hbf : J34 67 8 = nI m9 := by rw [eJ34, u2_off (Or.inr (by decide))]; exact hbf
      have hed : J34 67 5 = nI k9 := by rw [eJ34, u2_off (Or.inr (by decide))]; exact hed
      have hth : J34 67 6 = nI 0 := by rw [eJ34, u2_off (Or.inr (by decide))]; exact hth
      have hln : J34 67 11 = nI n := by rw [eJ34]; exact u2_at
      refine lv_aload_n hx hb (dg D_X12_load (i := 21) rfl) rfl (lv_at hl 0 rfl) ?_
      refine n_iconst (a := 0) hx hb (dg D_X12_load (i := 22) rfl) rfl ?_
      refine r_puti (v := nI 0) (ty := .int) X hW hS FI_X12_99 rfl (by decide) rfl rfl (by decide +kernel) rfl rfl (dg D_X12_load (i := 23) rfl) (fun H locs hW hS => ?_)
      have hF : Fr SLd I (u2 J34 67 8 (nI 0)) := Fr.put hF rfl
      have hb3 : (u2 J34 67 8 (nI 0)) 73 = b := by rw [u2_ne (by decide)]; exact hb3
      have hs : (u2 J34 67 8 (nI 0)) 68 = σ := by rw [u2_ne (by decide)]; exact hs
      have hro : (u2 J34 67 8 (nI 0)) 69 = ρ := by rw [u2_ne (by decide)]; exact hro
      obtain ⟨J39, eJ39⟩ : ∃ J, J = u2 J34 67 8 (nI 0) := ⟨_, rfl⟩
      rw [← eJ39] at hW hF hb3 hs hro
      have hbf : J39 67 8 = nI 0 := by rw [eJ39]; exact u2_at
      have hed : J39 67 5 = nI k9 := by rw [eJ39, u2_off (Or.inr (by decide))]; exact hed
      have hth : J39 67 6 = nI 0 := by rw [eJ39, u2_off (Or.inr (by decide))]; exact hth
      have hln : J39 67 11 = nI n := by rw [eJ39, u2_off (Or.inr (by decide))]; exact hln
      refine lv_aload_n hx hb (dg D_X12_load (i := 24) rfl) rfl (lv_at hl 0 rfl) ?_
      refine n_iconst (a := 0) hx hb (dg D_X12_load (i := 25) rfl) rfl ?_
      refine r_puti (v := nI 0) (ty := .int) X hW hS FI_X12_110 rfl (by decide) rfl rfl (by decide +kernel) rfl rfl (dg D_X12_load (i := 26) rfl) (fun H locs hW hS => ?_)
      have hF : Fr SLd I (u2 J39 67 13 (nI 0)) := Fr.put hF rfl
      have hb3 : (u2 J39 67 13 (nI 0)) 73 = b := by rw [u2_ne (by decide)]; exact hb3
      have hs : (u2 J39 67 13 (nI 0)) 68 = σ := by rw [u2_ne (by decide)]; exact hs
      have hro : (u2 J39 67 13 (nI 0)) 69 = ρ := by rw [u2_ne (by decide)]; exact hro
      obtain ⟨J44, eJ44⟩ : ∃ J, J = u2 J39 67 13 (nI 0) := ⟨_, rfl⟩
      rw [← eJ44] at hW hF hb3 hs hro
      have hbf : J44 67 8 = nI 0 := by rw [eJ44, u2_off (Or.inr (by decide))]; exact hbf
      have hed : J44 67 5 = nI k9 := by rw [eJ44, u2_off (Or.inr (by decide))]; exact hed
      have hth : J44 67 6 = nI 0 := by rw [eJ44, u2_off (Or.inr (by decide))]; exact hth
      have hln : J44 67 11 = nI n := by rw [eJ44, u2_off (Or.inr (by decide))]; exact hln
      have hnx : J44 67 13 = nI 0 := by rw [eJ44]; exact u2_at
      refine lv_aload_n hx hb (dg D_X12_load (i := 27) rfl) rfl (lv_at hl 0 rfl) ?_
      refine n_iconst (a := 0) hx hb (dg D_X12_load (i := 28) rfl) rfl ?_
      refine r_puti (v := nI 0) (ty := .int) X hW hS FI_X12_157 rfl (by decide) rfl rfl (by decide +kernel) rfl rfl (dg D_X12_load (i := 29) rfl) (fun H locs hW hS => ?_)
      have hF : Fr SLd I (u2 J44 67 17 (nI 0)) := Fr.put hF rfl
      have hb3 : (u2 J44 67 17 (nI 0)) 73 = b := by rw [u2_ne (by decide)]; exact hb3
      have hs : (u2 J44 67 17 (nI 0)) 68 = σ := by rw [u2_ne (by decide)]; exact hs
      have hro : (u2 J44 67 17 (nI 0)) 69 = ρ := by rw [u2_ne (by decide)]; exact hro
      obtain ⟨J49, eJ49⟩ : ∃ J, J = u2 J44 67 17 (nI 0) := ⟨_, rfl⟩
      rw [← eJ49] at hW hF hb3 hs hro
      have hbf : J49 67 8 = nI 0 := by rw [eJ49, u2_off (Or.inr (by decide))]; exact hbf
      have hed : J49 67 5 = nI k9 := by rw [eJ49, u2_off (Or.inr (by decide))]; exact hed
      have hth : J49 67 6 = nI 0 := by rw [eJ49, u2_off (Or.inr (by decide))]; exact hth
      have hln : J49 67 11 = nI n := by rw [eJ49, u2_off (Or.inr (by decide))]; exact hln
      have hnx : J49 67 13 = nI 0 := by rw [eJ49, u2_off (Or.inr (by decide))]; exact hnx
      have hki : J49 67 17 = nI 0 := by rw [eJ49]; exact u2_at
      refine lv_aload_n hx hb (dg D_X12_load (i := 30) rfl) rfl (lv_at hl 0 rfl) ?_
      refine r_ldc X CK_X12_28 (dg D_X12_load (i := 31) rfl) ?_
      refine r_puti (v := (-1000004)) (ty := .int) X hW hS FI_X12_160 rfl (by decide) rfl rfl (by decide +kernel) rfl rfl (dg D_X12_load (i := 32) rfl) (fun H locs hW hS => ?_)
      have hF : Fr SLd I (u2 J49 67 18 ((-1000004))) := Fr.put hF rfl
      have hb3 : (u2 J49 67 18 ((-1000004))) 73 = b := by rw [u2_ne (by decide)]; exact hb3
      have hs : (u2 J49 67 18 ((-1000004))) 68 = σ := by rw [u2_ne (by decide)]; exact hs
      have hro : (u2 J49 67 18 ((-1000004))) 69 = ρ := by rw [u2_ne (by decide)]; exact hro
      obtain ⟨J55, eJ55⟩ : ∃ J, J = u2 J49 67 18 ((-1000004)) := ⟨_, rfl⟩
      rw [← eJ55] at hW hF hb3 hs hro
      have hbf : J55 67 8 = nI 0 := by rw [eJ55, u2_off (Or.inr (by decide))]; exact hbf
      have hed : J55 67 5 = nI k9 := by rw [eJ55, u2_off (Or.inr (by decide))]; exact hed
      have hth : J55 67 6 = nI 0 := by rw [eJ55, u2_off (Or.inr (by decide))]; exact hth
      have hln : J55 67 11 = nI n := by rw [eJ55, u2_off (Or.inr (by decide))]; exact hln
      have hnx : J55 67 13 = nI 0 := by rw [eJ55, u2_off (Or.inr (by decide))]; exact hnx
      have hki : J55 67 17 = nI 0 := by rw [eJ55, u2_off (Or.inr (by decide))]; exact hki
      have hpo : J55 67 18 = (-1000004) := by rw [eJ55]; exact u2_at
      have hz : KZ J55 := ⟨hki, hpo⟩
      refine lv_aload_n hx hb (dg D_X12_load (i := 33) rfl) rfl (lv_at hl 0 rfl) ?_
      refine r_getc (t := 69) X hW FI_X12_13 rfl (by decide) rfl (dg D_X12_load (i := 34) rfl) ?_
      refine callSv X hW hS hR (c_X12_reset (I := J55) 69 248 (rfl) (by decide) (rfl)) (by decide) USX12_reset LK_X12_70 rfl rfl (Nat.le_of_ble_eq_true rfl) hl hcs (dg D_X12_load (i := 35) rfl) (fun I62 L1 R1 H locs hq hW hS => ?_)
      obtain ⟨hT62, hp62_0, rfl, rfl⟩ := hq
      have hF : Fr SLd I I62 := Fr.tr hF hT62 (by intro a j h; simp only [SC, SLd, Bool.or_eq_true, Bool.and_eq_true, beq_iff_eq, decide_eq_true_eq] at h ⊢; omega)
      have hb3 : I62 73 = b := (Fr.row hT62 (fun _ => rfl)).trans hb3
      have hs : I62 68 = σ := (Fr.row hT62 (fun _ => rfl)).trans hs
      have hz : KZ I62 := KZ.fr hz hT62 rfl rfl
      have hbf : I62 67 8 = nI 0 := (hT62 67 8 rfl).trans hbf
      have hed : I62 67 5 = nI k9 := (hT62 67 5 rfl).trans hed
      have hth : I62 67 6 = nI 0 := (hT62 67 6 rfl).trans hth
      have hln : I62 67 11 = nI n := (hT62 67 11 rfl).trans hln
      have hnx : I62 67 13 = nI 0 := (hT62 67 13 rfl).trans hnx
      have hpa : I62 69 = iniR ρ := hp62_0.trans (congrArg iniR hro)
      refine lv_aload_n hx hb (dg D_X12_load (i := 36) rfl) rfl (lv_at hl 0 rfl) ?_
      refine callVi X hW hS hR (c_X12_advance (I := I62) b n 0 (by first | assumption | omega | decide | exact hP.1) (by first | assumption | omega | decide | exact hP.1) (by first | assumption | omega | decide | exact hP.1) (by first | assumption | omega | decide | exact hP.1) (by first | assumption | omega | decide | exact hP.1) (Nat.zero_le _)) (by decide) UVX12_advance LK_X12_169 rfl (by decide) rfl rfl rfl (Nat.le_of_ble_eq_true rfl) hl hcs (dg D_X12_load (i := 37) rfl) (fun r66 I66 Lc66 R1 H locs hq hW hS => ?_)
      obtain ⟨rfl, hT66, hp66_0, hL66, rfl⟩ := hq
      have hF : Fr SLd I I66 := Fr.tr hF hT66 (by intro a j h; simp only [STk, SLd, Bool.or_eq_true, Bool.and_eq_true, beq_iff_eq, decide_eq_true_eq] at h ⊢; omega)
      have hb3 : I66 73 = b := (Fr.row hT66 (fun _ => rfl)).trans hb3
      have hs : I66 68 = σ := (Fr.row hT66 (fun _ => rfl)).trans hs
      have hz : KZ I66 := KZ.fr hz hT66 rfl rfl
      have hpa : I66 69 = iniR ρ := (Fr.row hT66 (fun _ => rfl)).trans hpa
      have hbf : I66 67 8 = nI 0 := (hT66 67 8 rfl).trans hbf
      have hed : I66 67 5 = nI k9 := (hT66 67 5 rfl).trans hed
      have hth : I66 67 6 = nI 0 := (hT66 67 6 rfl).trans hth
      have hln : I66 67 11 = nI n := (hT66 67 11 rfl).trans hln
      have hFL : FL SLp L Lc66 := FL.tr hFL hL66 (by intro a j h; simp only [SLk, SLp, Bool.or_eq_true, Bool.and_eq_true, beq_iff_eq, decide_eq_true_eq] at h ⊢; omega)
      refine lv_pop hx hb (dg D_X12_load (i := 38) rfl) rfl ?_
      refine n_iconst (a := 1) hx hb (dg D_X12_load (i := 39) rfl) rfl ?_
      refine lv_istore_n (lv' := [(2, .int (nI 1)), (0, .ref (bs + 67)), (1, .int (nI n))]) hx hb (dg D_X12_load (i := 40) rfl) rfl hl (by decide) rfl (fun ls hl => ?_)
      refine n_iconst (a := 1) hx hb (dg D_X12_load (i := 41) rfl) rfl ?_
      refine lv_istore_n (lv' := [(3, .int (nI 1)), (2, .int (nI 1)), (0, .ref (bs + 67)), (1, .int (nI n))]) hx hb (dg D_X12_load (i := 42) rfl) rfl hl (by decide) rfl (fun ls hl => ?_)
      have hPM : PostM b n (pI b n (iniR ρ) 0) I66 Lc66 := ⟨hpa, hp66_0, fun t k ht hk => absurd hk (by have h3 := cN_ini ρ t ht; omega), hz⟩
      have loop74 := up_ind (P := fun k => ∀ (K74 : CI) (KL74 : CL) (H : Heap) (locs : List Loc) (ls : Array Slot) (v2 : Int32) (v3 : Int32), v2 = bI (okP (pI b n (iniR ρ) k)) → v3 = bI (decide (k = 0)) → (Fr SLd I K74) → (K74 73 = b) → (K74 68 = σ) → (K74 67 8 = nI 0) → (K74 67 5 = nI k9) → (K74 67 6 = nI 0) → (K74 67 11 = nI n) → (FL SLp L KL74) → (PostM b n (pI b n (iniR ρ) k) K74 KL74) → Wd G bs cy K74 KL74 R H → va_S (Aq bs) s.heap H locs → lv_has ls 4 [(0, .ref (bs + 67)), (1, .int (nI n)), (2, .int v2), (3, .int v3)] → W p l e (rmL 11 0 0) s m args below meth c H locs 0 0 Qf (F0 m 74 ls [])) (n + 1) (fun k hx74 ih74 => by
          intro K74 KL74 H locs ls v2 v3 q2 q3 hF hb3 hs hbf hed hth hln hFL hPM hW hS hl
          subst q2
          subst q3
          refine lv_iload_n hx hb (dg D_X12_load (i := 43) rfl) rfl (lv_at hl 2 rfl) ?_
          refine z_if_eq (tgt := 96) hx hb (dg D_X12_load (i := 44) rfl) (by decide) (fun c75 => ?_) (fun c75 => ?_)
          · have hfin := prs_l hx74 c75
            rw [hfin] at hPM hl
            obtain ⟨hki, hpo⟩ := PostM.kp hPM
            have hrw := PostM.row hPM
            refine lv_aload_n hx hb (dg D_X12_load (i := 55) rfl) rfl (lv_at hl 0 rfl) ?_
            refine lv_aload_n hx hb (dg D_X12_load (i := 56) rfl) rfl (lv_at hl 0 rfl) ?_
            refine r_geti (v := eKd (prs b n ρ)) X hW FI_X12_157 rfl (by decide) rfl hki (dg D_X12_load (i := 57) rfl) ?_
            refine r_puti (v := eKd (prs b n ρ)) (ty := .int) X hW hS FI_X12_220 rfl (by decide) rfl rfl (by decide +kernel) rfl rfl (dg D_X12_load (i := 58) rfl) (fun H locs hW hS => ?_)
            have hF : Fr SLd I (u2 K74 67 9 (eKd (prs b n ρ))) := Fr.put hF rfl
            have hb3 : (u2 K74 67 9 (eKd (prs b n ρ))) 73 = b := by rw [u2_ne (by decide)]; exact hb3
            have hs : (u2 K74 67 9 (eKd (prs b n ρ))) 68 = σ := by rw [u2_ne (by decide)]; exact hs
            have hrw : okP (prs b n ρ) = true → (u2 K74 67 9 (eKd (prs b n ρ))) 69 = rOf (prs b n ρ) := fun z => (u2_ne (by decide)).trans (hrw z)
            obtain ⟨J101, eJ101⟩ : ∃ J, J = u2 K74 67 9 (eKd (prs b n ρ)) := ⟨_, rfl⟩
            rw [← eJ101] at hW hF hb3 hs hrw
            have hbf : J101 67 8 = nI 0 := by rw [eJ101, u2_off (Or.inr (by decide))]; exact hbf
            have hed : J101 67 5 = nI k9 := by rw [eJ101, u2_off (Or.inr (by decide))]; exact hed
            have hth : J101 67 6 = nI 0 := by rw [eJ101, u2_off (Or.inr (by decide))]; exact hth
            have hln : J101 67 11 = nI n := by rw [eJ101, u2_off (Or.inr (by decide))]; exact hln
            have hki : J101 67 17 = eKd (prs b n ρ) := by rw [eJ101, u2_off (Or.inr (by decide))]; exact hki
            have hpo : J101 67 18 = ePo (prs b n ρ) := by rw [eJ101, u2_off (Or.inr (by decide))]; exact hpo
            have hek : J101 67 9 = eKd (prs b n ρ) := by rw [eJ101]; exact u2_at
            refine lv_aload_n hx hb (dg D_X12_load (i := 59) rfl) rfl (lv_at hl 0 rfl) ?_
            refine lv_aload_n hx hb (dg D_X12_load (i := 60) rfl) rfl (lv_at hl 0 rfl) ?_
            refine r_geti (v := ePo (prs b n ρ)) X hW FI_X12_160 rfl (by decide) rfl hpo (dg D_X12_load (i := 61) rfl) ?_
            refine r_puti (v := ePo (prs b n ρ)) (ty := .int) X hW hS FI_X12_29 rfl (by decide) rfl rfl (by decide +kernel) rfl rfl (dg D_X12_load (i := 62) rfl) (fun H locs hW hS => ?_)
            have hF : Fr SLd I (u2 J101 67 10 (ePo (prs b n ρ))) := Fr.put hF rfl
            have hb3 : (u2 J101 67 10 (ePo (prs b n ρ))) 73 = b := by rw [u2_ne (by decide)]; exact hb3
            have hs : (u2 J101 67 10 (ePo (prs b n ρ))) 68 = σ := by rw [u2_ne (by decide)]; exact hs
            have hrw : okP (prs b n ρ) = true → (u2 J101 67 10 (ePo (prs b n ρ))) 69 = rOf (prs b n ρ) := fun z => (u2_ne (by decide)).trans (hrw z)
            obtain ⟨J109, eJ109⟩ : ∃ J, J = u2 J101 67 10 (ePo (prs b n ρ)) := ⟨_, rfl⟩
            rw [← eJ109] at hW hF hb3 hs hrw
            have hbf : J109 67 8 = nI 0 := by rw [eJ109, u2_off (Or.inr (by decide))]; exact hbf
            have hed : J109 67 5 = nI k9 := by rw [eJ109, u2_off (Or.inr (by decide))]; exact hed
            have hth : J109 67 6 = nI 0 := by rw [eJ109, u2_off (Or.inr (by decide))]; exact hth
            have hln : J109 67 11 = nI n := by rw [eJ109, u2_off (Or.inr (by decide))]; exact hln
            have hki : J109 67 17 = eKd (prs b n ρ) := by rw [eJ109, u2_off (Or.inr (by decide))]; exact hki
            have hpo : J109 67 18 = ePo (prs b n ρ) := by rw [eJ109, u2_off (Or.inr (by decide))]; exact hpo
            have hek : J109 67 9 = eKd (prs b n ρ) := by rw [eJ109, u2_off (Or.inr (by decide))]; exact hek
            have hep : J109 67 10 = ePo (prs b n ρ) := by rw [eJ109]; exact u2_at
            refine lv_iload_n hx hb (dg D_X12_load (i := 63) rfl) rfl (lv_at hl 2 rfl) ?_
            refine z_if_ne (tgt := 119) hx hb (dg D_X12_load (i := 64) rfl) (by decide) (fun c113 => ?_) (fun c113 => ?_)
            · have hrw9 := hrw c113
              have hs9 := hs
              refine lv_aload_n hx hb (dg D_X12_load (i := 67) rfl) rfl (lv_at hl 0 rfl) ?_
              refine r_getc (t := 69) X hW FI_X12_13 rfl (by decide) rfl (dg D_X12_load (i := 68) rfl) ?_
              refine n_iconst (a := 0) hx hb (dg D_X12_load (i := 69) rfl) rfl ?_
              refine lv_aload_n hx hb (dg D_X12_load (i := 70) rfl) rfl (lv_at hl 0 rfl) ?_
              refine r_getc (t := 68) X hW FI_X12_7 rfl (by decide) rfl (dg D_X12_load (i := 71) rfl) ?_
              refine n_iconst (a := 0) hx hb (dg D_X12_load (i := 72) rfl) rfl ?_
              refine callSv X hW hS hR (c_X12_copy (I := J109) 69 248 0 68 248 0 (rfl) (by first | assumption | omega | decide | exact hP.1) (rfl) (by first | assumption | omega | decide | exact hP.1) (by first | assumption | omega | decide | exact hP.1) (by first | assumption | omega | decide | exact hP.1) (by first | assumption | omega | decide | exact hP.1) (by first | assumption | omega | decide | exact hP.1)) (by decide) USX12_copy LK_X12_80 rfl rfl (Nat.le_of_ble_eq_true rfl) hl hcs (dg D_X12_load (i := 73) rfl) (fun I129 L1 R1 H locs hq hW hS => ?_)
              obtain ⟨hT129, hp129_0, rfl, rfl⟩ := hq
              have hF : Fr SLd I I129 := Fr.tr hF hT129 (by intro a j h; simp only [SC, SLd, Bool.or_eq_true, Bool.and_eq_true, beq_iff_eq, decide_eq_true_eq] at h ⊢; omega)
              have hb3 : I129 73 = b := (Fr.row hT129 (fun _ => rfl)).trans hb3
              have hbf : I129 67 8 = nI 0 := (hT129 67 8 rfl).trans hbf
              have hed : I129 67 5 = nI k9 := (hT129 67 5 rfl).trans hed
              have hth : I129 67 6 = nI 0 := (hT129 67 6 rfl).trans hth
              have hln : I129 67 11 = nI n := (hT129 67 11 rfl).trans hln
              have hki : I129 67 17 = eKd (prs b n ρ) := (hT129 67 17 rfl).trans hki
              have hpo : I129 67 18 = ePo (prs b n ρ) := (hT129 67 18 rfl).trans hpo
              have hek : I129 67 9 = eKd (prs b n ρ) := (hT129 67 9 rfl).trans hek
              have hep : I129 67 10 = ePo (prs b n ρ) := (hT129 67 10 rfl).trans hep
              have hs2 : I129 68 = ovl (rOf (prs b n ρ)) σ := by rw [hp129_0, hrw9, hs9]; rfl
              refine lv_aload_n hx hb (dg D_X12_load (i := 74) rfl) rfl (lv_at hl 0 rfl) ?_
              refine n_iconst (a := 0) hx hb (dg D_X12_load (i := 75) rfl) rfl ?_
              refine r_puti (v := nI 0) (ty := .int) X hW hS FI_X12_77 rfl (by decide) rfl rfl (by decide +kernel) rfl rfl (dg D_X12_load (i := 76) rfl) (fun H locs hW hS => ?_)
              have hF : Fr SLd I (u2 I129 67 5 (nI 0)) := Fr.put hF rfl
              have hb3 : (u2 I129 67 5 (nI 0)) 73 = b := by rw [u2_ne (by decide)]; exact hb3
              have hs2 : (u2 I129 67 5 (nI 0)) 68 = ovl (rOf (prs b n ρ)) σ := by rw [u2_ne (by decide)]; exact hs2
              obtain ⟨J134, eJ134⟩ : ∃ J, J = u2 I129 67 5 (nI 0) := ⟨_, rfl⟩
              rw [← eJ134] at hW hF hb3 hs2
              have hbf : J134 67 8 = nI 0 := by rw [eJ134, u2_off (Or.inr (by decide))]; exact hbf
              have hed : J134 67 5 = nI 0 := by rw [eJ134]; exact u2_at
              have hth : J134 67 6 = nI 0 := by rw [eJ134, u2_off (Or.inr (by decide))]; exact hth
              have hln : J134 67 11 = nI n := by rw [eJ134, u2_off (Or.inr (by decide))]; exact hln
              have hki : J134 67 17 = eKd (prs b n ρ) := by rw [eJ134, u2_off (Or.inr (by decide))]; exact hki
              have hpo : J134 67 18 = ePo (prs b n ρ) := by rw [eJ134, u2_off (Or.inr (by decide))]; exact hpo
              have hek : J134 67 9 = eKd (prs b n ρ) := by rw [eJ134, u2_off (Or.inr (by decide))]; exact hek
              have hep : J134 67 10 = ePo (prs b n ρ) := by rw [eJ134, u2_off (Or.inr (by decide))]; exact hep
              refine lv_aload_n hx hb (dg D_X12_load (i := 77) rfl) rfl (lv_at hl 0 rfl) ?_
              refine r_getc (t := 68) X hW FI_X12_7 rfl (by decide) rfl (dg D_X12_load (i := 78) rfl) ?_
              refine n_iconst (a := 4) hx hb (dg D_X12_load (i := 79) rfl) rfl ?_
              refine r_ald (j := 4) (v := J134 68 4) X hW rfl (by decide) rfl (by omega) (by decide) rfl (dg D_X12_load (i := 80) rfl) ?_
              exact fin (dg D_X12_load (i := 81) rfl) hW hS ⟨by rw [if_pos c113, hs2]; exact ((ovl_lt (by decide)).trans (prs_ok c113).1.2.2.2.2.2.1).symm, hF, hth, hbf, hek, hep, by rw [if_pos c113]; exact hs2, by rw [if_pos c113]; exact hed, hFL, rfl⟩
            · refine r_ldc X CK_X12_223 (dg D_X12_load (i := 65) rfl) ?_
              exact fin (dg D_X12_load (i := 66) rfl) hW hS ⟨by rw [if_neg (by rw [c113]; decide)], hF, hth, hbf, hek, hep, by rw [if_neg (by rw [c113]; decide)]; exact hs, by rw [if_neg (by rw [c113]; decide)]; exact hed, hFL, rfl⟩
          · obtain ⟨π, nm, q9, hr9⟩ := okP_ex c75
            have hPM2 := hPM
            rw [hr9] at hPM2
            obtain ⟨hpa, hTk, hNm, hz⟩ := hPM2
            obtain ⟨hqn, hi9, hd9, hpr⟩ := pI_G (fun x y hx hy => ini_pnt hx hy) ini_Inv ini_DR k _ _ _ hr9
            have htk := hTk.2.2.1
            have hKB2 := tK_le (b := b) (n := n) (p := q9)
            refine lv_aload_n hx hb (dg D_X12_load (i := 45) rfl) rfl (lv_at hl 0 rfl) ?_
            refine r_geti (v := nI (tK b n q9)) X hW FI_X12_123 rfl (by decide) rfl htk (dg D_X12_load (i := 46) rfl) ?_
            refine n_if_eq (tgt := 96) hx hb (by omega) (dg D_X12_load (i := 47) rfl) (by decide) (fun c82 => ?_) (fun c82 => ?_)
            · have hfin := prs_z hx74 hr9 (by omega)
              rw [hfin] at hPM hl
              obtain ⟨hki, hpo⟩ := PostM.kp hPM
              have hrw := PostM.row hPM
              refine lv_aload_n hx hb (dg D_X12_load (i := 55) rfl) rfl (lv_at hl 0 rfl) ?_
              refine lv_aload_n hx hb (dg D_X12_load (i := 56) rfl) rfl (lv_at hl 0 rfl) ?_
              refine r_geti (v := eKd (prs b n ρ)) X hW FI_X12_157 rfl (by decide) rfl hki (dg D_X12_load (i := 57) rfl) ?_
              refine r_puti (v := eKd (prs b n ρ)) (ty := .int) X hW hS FI_X12_220 rfl (by decide) rfl rfl (by decide +kernel) rfl rfl (dg D_X12_load (i := 58) rfl) (fun H locs hW hS => ?_)
              have hF : Fr SLd I (u2 K74 67 9 (eKd (prs b n ρ))) := Fr.put hF rfl
              have hb3 : (u2 K74 67 9 (eKd (prs b n ρ))) 73 = b := by rw [u2_ne (by decide)]; exact hb3
              have hs : (u2 K74 67 9 (eKd (prs b n ρ))) 68 = σ := by rw [u2_ne (by decide)]; exact hs
              have hrw : okP (prs b n ρ) = true → (u2 K74 67 9 (eKd (prs b n ρ))) 69 = rOf (prs b n ρ) := fun z => (u2_ne (by decide)).trans (hrw z)
              obtain ⟨J101, eJ101⟩ : ∃ J, J = u2 K74 67 9 (eKd (prs b n ρ)) := ⟨_, rfl⟩
              rw [← eJ101] at hW hF hb3 hs hrw
              have hbf : J101 67 8 = nI 0 := by rw [eJ101, u2_off (Or.inr (by decide))]; exact hbf
              have hed : J101 67 5 = nI k9 := by rw [eJ101, u2_off (Or.inr (by decide))]; exact hed
              have hth : J101 67 6 = nI 0 := by rw [eJ101, u2_off (Or.inr (by decide))]; exact hth
              have hln : J101 67 11 = nI n := by rw [eJ101, u2_off (Or.inr (by decide))]; exact hln
              have hki : J101 67 17 = eKd (prs b n ρ) := by rw [eJ101, u2_off (Or.inr (by decide))]; exact hki
              have hpo : J101 67 18 = ePo (prs b n ρ) := by rw [eJ101, u2_off (Or.inr (by decide))]; exact hpo
              have hek : J101 67 9 = eKd (prs b n ρ) := by rw [eJ101]; exact u2_at
              refine lv_aload_n hx hb (dg D_X12_load (i := 59) rfl) rfl (lv_at hl 0 rfl) ?_
              refine lv_aload_n hx hb (dg D_X12_load (i := 60) rfl) rfl (lv_at hl 0 rfl) ?_
              refine r_geti (v := ePo (prs b n ρ)) X hW FI_X12_160 rfl (by decide) rfl hpo (dg D_X12_load (i := 61) rfl) ?_
              refine r_puti (v := ePo (prs b n ρ)) (ty := .int) X hW hS FI_X12_29 rfl (by decide) rfl rfl (by decide +kernel) rfl rfl (dg D_X12_load (i := 62) rfl) (fun H locs hW hS => ?_)
              have hF : Fr SLd I (u2 J101 67 10 (ePo (prs b n ρ))) := Fr.put hF rfl
              have hb3 : (u2 J101 67 10 (ePo (prs b n ρ))) 73 = b := by rw [u2_ne (by decide)]; exact hb3
              have hs : (u2 J101 67 10 (ePo (prs b n ρ))) 68 = σ := by rw [u2_ne (by decide)]; exact hs
              have hrw : okP (prs b n ρ) = true → (u2 J101 67 10 (ePo (prs b n ρ))) 69 = rOf (prs b n ρ) := fun z => (u2_ne (by decide)).trans (hrw z)
              obtain ⟨J109, eJ109⟩ : ∃ J, J = u2 J101 67 10 (ePo (prs b n ρ)) := ⟨_, rfl⟩
              rw [← eJ109] at hW hF hb3 hs hrw
              have hbf : J109 67 8 = nI 0 := by rw [eJ109, u2_off (Or.inr (by decide))]; exact hbf
              have hed : J109 67 5 = nI k9 := by rw [eJ109, u2_off (Or.inr (by decide))]; exact hed
              have hth : J109 67 6 = nI 0 := by rw [eJ109, u2_off (Or.inr (by decide))]; exact hth
              have hln : J109 67 11 = nI n := by rw [eJ109, u2_off (Or.inr (by decide))]; exact hln
              have hki : J109 67 17 = eKd (prs b n ρ) := by rw [eJ109, u2_off (Or.inr (by decide))]; exact hki
              have hpo : J109 67 18 = ePo (prs b n ρ) := by rw [eJ109, u2_off (Or.inr (by decide))]; exact hpo
              have hek : J109 67 9 = eKd (prs b n ρ) := by rw [eJ109, u2_off (Or.inr (by decide))]; exact hek
              have hep : J109 67 10 = ePo (prs b n ρ) := by rw [eJ109]; exact u2_at
              refine lv_iload_n hx hb (dg D_X12_load (i := 63) rfl) rfl (lv_at hl 2 rfl) ?_
              refine z_if_ne (tgt := 119) hx hb (dg D_X12_load (i := 64) rfl) (by decide) (fun c113 => ?_) (fun c113 => ?_)
              · have hrw9 := hrw c113
                have hs9 := hs
                refine lv_aload_n hx hb (dg D_X12_load (i := 67) rfl) rfl (lv_at hl 0 rfl) ?_
                refine r_getc (t := 69) X hW FI_X12_13 rfl (by decide) rfl (dg D_X12_load (i := 68) rfl) ?_
                refine n_iconst (a := 0) hx hb (dg D_X12_load (i := 69) rfl) rfl ?_
                refine lv_aload_n hx hb (dg D_X12_load (i := 70) rfl) rfl (lv_at hl 0 rfl) ?_
                refine r_getc (t := 68) X hW FI_X12_7 rfl (by decide) rfl (dg D_X12_load (i := 71) rfl) ?_
                refine n_iconst (a := 0) hx hb (dg D_X12_load (i := 72) rfl) rfl ?_
                refine callSv X hW hS hR (c_X12_copy (I := J109) 69 248 0 68 248 0 (rfl) (by first | assumption | omega | decide | exact hP.1) (rfl) (by first | assumption | omega | decide | exact hP.1) (by first | assumption | omega | decide | exact hP.1) (by first | assumption | omega | decide | exact hP.1) (by first | assumption | omega | decide | exact hP.1) (by first | assumption | omega | decide | exact hP.1)) (by decide) USX12_copy LK_X12_80 rfl rfl (Nat.le_of_ble_eq_true rfl) hl hcs (dg D_X12_load (i := 73) rfl) (fun I129 L1 R1 H locs hq hW hS => ?_)
                obtain ⟨hT129, hp129_0, rfl, rfl⟩ := hq
                have hF : Fr SLd I I129 := Fr.tr hF hT129 (by intro a j h; simp only [SC, SLd, Bool.or_eq_true, Bool.and_eq_true, beq_iff_eq, decide_eq_true_eq] at h ⊢; omega)
                have hb3 : I129 73 = b := (Fr.row hT129 (fun _ => rfl)).trans hb3
                have hbf : I129 67 8 = nI 0 := (hT129 67 8 rfl).trans hbf
                have hed : I129 67 5 = nI k9 := (hT129 67 5 rfl).trans hed
                have hth : I129 67 6 = nI 0 := (hT129 67 6 rfl).trans hth
                have hln : I129 67 11 = nI n := (hT129 67 11 rfl).trans hln
                have hki : I129 67 17 = eKd (prs b n ρ) := (hT129 67 17 rfl).trans hki
                have hpo : I129 67 18 = ePo (prs b n ρ) := (hT129 67 18 rfl).trans hpo
                have hek : I129 67 9 = eKd (prs b n ρ) := (hT129 67 9 rfl).trans hek
                have hep : I129 67 10 = ePo (prs b n ρ) := (hT129 67 10 rfl).trans hep
                have hs2 : I129 68 = ovl (rOf (prs b n ρ)) σ := by rw [hp129_0, hrw9, hs9]; rfl
                refine lv_aload_n hx hb (dg D_X12_load (i := 74) rfl) rfl (lv_at hl 0 rfl) ?_
                refine n_iconst (a := 0) hx hb (dg D_X12_load (i := 75) rfl) rfl ?_
                refine r_puti (v := nI 0) (ty := .int) X hW hS FI_X12_77 rfl (by decide) rfl rfl (by decide +kernel) rfl rfl (dg D_X12_load (i := 76) rfl) (fun H locs hW hS => ?_)
                have hF : Fr SLd I (u2 I129 67 5 (nI 0)) := Fr.put hF rfl
                have hb3 : (u2 I129 67 5 (nI 0)) 73 = b := by rw [u2_ne (by decide)]; exact hb3
                have hs2 : (u2 I129 67 5 (nI 0)) 68 = ovl (rOf (prs b n ρ)) σ := by rw [u2_ne (by decide)]; exact hs2
                obtain ⟨J134, eJ134⟩ : ∃ J, J = u2 I129 67 5 (nI 0) := ⟨_, rfl⟩
                rw [← eJ134] at hW hF hb3 hs2
                have hbf : J134 67 8 = nI 0 := by rw [eJ134, u2_off (Or.inr (by decide))]; exact hbf
                have hed : J134 67 5 = nI 0 := by rw [eJ134]; exact u2_at
                have hth : J134 67 6 = nI 0 := by rw [eJ134, u2_off (Or.inr (by decide))]; exact hth
                have hln : J134 67 11 = nI n := by rw [eJ134, u2_off (Or.inr (by decide))]; exact hln
                have hki : J134 67 17 = eKd (prs b n ρ) := by rw [eJ134, u2_off (Or.inr (by decide))]; exact hki
                have hpo : J134 67 18 = ePo (prs b n ρ) := by rw [eJ134, u2_off (Or.inr (by decide))]; exact hpo
                have hek : J134 67 9 = eKd (prs b n ρ) := by rw [eJ134, u2_off (Or.inr (by decide))]; exact hek
                have hep : J134 67 10 = ePo (prs b n ρ) := by rw [eJ134, u2_off (Or.inr (by decide))]; exact hep
                refine lv_aload_n hx hb (dg D_X12_load (i := 77) rfl) rfl (lv_at hl 0 rfl) ?_
                refine r_getc (t := 68) X hW FI_X12_7 rfl (by decide) rfl (dg D_X12_load (i := 78) rfl) ?_
                refine n_iconst (a := 4) hx hb (dg D_X12_load (i := 79) rfl) rfl ?_
                refine r_ald (j := 4) (v := J134 68 4) X hW rfl (by decide) rfl (by omega) (by decide) rfl (dg D_X12_load (i := 80) rfl) ?_
                exact fin (dg D_X12_load (i := 81) rfl) hW hS ⟨by rw [if_pos c113, hs2]; exact ((ovl_lt (by decide)).trans (prs_ok c113).1.2.2.2.2.2.1).symm, hF, hth, hbf, hek, hep, by rw [if_pos c113]; exact hs2, by rw [if_pos c113]; exact hed, hFL, rfl⟩
              · refine r_ldc X CK_X12_223 (dg D_X12_load (i := 65) rfl) ?_
                exact fin (dg D_X12_load (i := 66) rfl) hW hS ⟨by rw [if_neg (by rw [c113]; decide)], hF, hth, hbf, hek, hep, by rw [if_neg (by rw [c113]; decide)]; exact hs, by rw [if_neg (by rw [c113]; decide)]; exact hed, hFL, rfl⟩
            · refine lv_aload_n hx hb (dg D_X12_load (i := 48) rfl) rfl (lv_at hl 0 rfl) ?_
              refine lv_iload_n hx hb (dg D_X12_load (i := 49) rfl) rfl (lv_at hl 3 rfl) ?_
              refine callVi X hW hS hR (c_X12_statement (I := K74) b n π q9 nm (decide (k = 0)) (by first | assumption | omega | decide | exact hP.1) (by first | assumption | omega | decide | exact hP.1) (by first | assumption | omega | decide | exact hP.1) (by first | assumption | omega | decide | exact hP.1) (by first | assumption | omega | decide | exact hP.1) (hqn) (by first | assumption | omega | decide | exact hP.1) (hi9) (by first | assumption | omega | decide | exact hP.1) (by first | assumption | omega | decide | exact hP.1) (hd9) (pI_f (fun x y hx hy => ini_pnt hx hy) hr9)) (by decide) UVX12_statement LK_X12_217 rfl (by decide) rfl rfl rfl (Nat.le_of_ble_eq_true rfl) hl hcs (dg D_X12_load (i := 50) rfl) (fun r87 I87 Lc87 R1 H locs hq hW hS => ?_)
              obtain ⟨rfl, hT87, hp87_0, hL87, rfl⟩ := hq
              have hF : Fr SLd I I87 := Fr.tr hF hT87 (by intro a j h; simp only [SNp, SLd, Bool.or_eq_true, Bool.and_eq_true, beq_iff_eq, decide_eq_true_eq] at h ⊢; omega)
              have hb3 : I87 73 = b := (Fr.row hT87 (fun _ => rfl)).trans hb3
              have hs : I87 68 = σ := (Fr.row hT87 (fun _ => rfl)).trans hs
              have hbf : I87 67 8 = nI 0 := (hT87 67 8 rfl).trans hbf
              have hed : I87 67 5 = nI k9 := (hT87 67 5 rfl).trans hed
              have hth : I87 67 6 = nI 0 := (hT87 67 6 rfl).trans hth
              have hln : I87 67 11 = nI n := (hT87 67 11 rfl).trans hln
              have hFL : FL SLp L Lc87 := FL.tr hFL hL87 (fun _ _ h => h)
              refine lv_istore_n (lv' := [(2, .int (bI (okP (stm b n (decide (k = 0)) π nm q9)))), (0, .ref (bs + 67)), (1, .int (nI n)), (3, .int (bI (decide (k = 0))))]) hx hb (dg D_X12_load (i := 51) rfl) rfl hl (by decide) rfl (fun ls hl => ?_)
              refine n_iconst (a := 0) hx hb (dg D_X12_load (i := 52) rfl) rfl ?_
              refine lv_istore_n (lv' := [(3, .int (nI 0)), (2, .int (bI (okP (stm b n (decide (k = 0)) π nm q9)))), (0, .ref (bs + 67)), (1, .int (nI n))]) hx hb (dg D_X12_load (i := 53) rfl) rfl hl (by decide) rfl (fun ls hl => ?_)
              refine lv_goto (tgt := 74) hx hb (dg D_X12_load (i := 54) rfl) (by decide) ?_
              exact ih74 (by have := hpr (by omega); omega) I87 Lc87 _ _ _ _ _ (by rw [pI_s hr9 (by omega)]) (by rw [decide_eq_false (by omega)]; rfl) hF hb3 hs hbf hed hth hln hFL (by rw [pI_s hr9 (by omega)]; exact hp87_0) hW hS (lv_sub hl [2, 3, 1, 0] rfl))
      exact loop74 0 (Nat.zero_le _) I66 Lc66 _ _ _ _ _ (rfl) (rfl) hF hb3 hs hbf hed hth hln hFL hPM hW hS (lv_sub hl [2, 3, 1, 0] rfl)
    · exact absurd c27 (by decide)

set_option maxHeartbeats 4000000 in
set_option maxRecDepth 100000 in
theorem cT_X12_load {l : Launch} {G : va_G} {bs : Nat} {cy : Nat → ClassId} {I : CI} {L : CL} {R : CR} (v : Int32) (m9 : Nat) (hbf : I 67 8 = nI m9) (hbad : decide ((0 : Int64) ≤ v.toInt64 ∧ v.toInt64 ≤ (nI m9).toInt64) = false) : MTi l G bs cy MX12_load 2 [.ref (bs + 67), .int v] I L R (fun r I1 L1 R1 => nI 0 = r ∧ Fr ST I I1 ∧ I1 67 6 = nI 1 ∧ L = L1 ∧ R = R1) := by
  refine MTi.of (own := RX12) pn_RX12 rfl (Nat.le_of_ble_eq_true rfl) ?_
  intro p e s m args below meth c Qf X hW hS fin ls hl
  have hx := X.1
  have hb := X.2.1
  have hR : RmOK (rmL 2 0 0) 2 := ⟨rfl, rfl⟩
  have hcs : 0 ≤ (rmL 2 0 0).cells ∧ 0 ≤ (rmL 2 0 0).slots := ⟨Nat.zero_le _, Nat.zero_le _⟩
  have hl : lv_has ls 4 [(0, .ref (bs + 67)), (1, .int v)] := hl
  have hF : Fr ST I I := Fr.rf
  refine lv_aload_n hx hb (dg D_X12_load (i := 0) rfl) rfl (lv_at hl 0 rfl) ?_
  refine lv_iload_n hx hb (dg D_X12_load (i := 1) rfl) rfl (lv_at hl 1 rfl) ?_
  refine lv_i2l (v := v.toInt64) hx hb (dg D_X12_load (i := 2) rfl) rfl ?_
  refine lv_lconst (v := 0) hx hb (dg D_X12_load (i := 3) rfl) rfl ?_
  refine lv_aload_n hx hb (dg D_X12_load (i := 4) rfl) rfl (lv_at hl 0 rfl) ?_
  refine r_geti (v := nI m9) X hW FI_X12_99 rfl (by decide) rfl hbf (dg D_X12_load (i := 5) rfl) ?_
  refine lv_i2l (v := (nI m9).toInt64) hx hb (dg D_X12_load (i := 6) rfl) rfl ?_
  refine callSi X hW hS hR (c_X12_between (I := I) v.toInt64 0 ((nI m9).toInt64)) (by decide) USX12_between LK_X12_84 rfl rfl (Nat.le_of_ble_eq_true rfl) hl hcs (dg D_X12_load (i := 7) rfl) (fun r9 I9 L1 R1 H locs hq hW hS => ?_)
  obtain ⟨rfl, rfl, rfl, rfl⟩ := hq
  rw [show bI (decide (0 ≤ v.toInt64 ∧ v.toInt64 ≤ ((nI m9).toInt64))) = bI false from congrArg bI hbad]
  refine z_if_eq (tgt := 19) hx hb (dg D_X12_load (i := 8) rfl) (by decide) (fun c12 => ?_) (fun c12 => ?_)
  · refine n_iconst (a := 1) hx hb (dg D_X12_load (i := 11) rfl) rfl ?_
    refine r_puti (v := nI 1) (ty := .int) X hW hS FI_X12_74 rfl (by decide) rfl rfl (by decide +kernel) rfl rfl (dg D_X12_load (i := 12) rfl) (fun H locs hW hS => ?_)
    have hF : Fr ST I (u2 I 67 6 (nI 1)) := Fr.put hF rfl
    obtain ⟨J20, eJ20⟩ : ∃ J, J = u2 I 67 6 (nI 1) := ⟨_, rfl⟩
    rw [← eJ20] at hW hF
    have hbf : J20 67 8 = nI m9 := by rw [eJ20, u2_off (Or.inr (by decide))]; exact hbf
    have hth : J20 67 6 = nI 1 := by rw [eJ20]; exact u2_at
    refine lv_aload_n hx hb (dg D_X12_load (i := 13) rfl) rfl (lv_at hl 0 rfl) ?_
    refine r_geti (v := nI 1) X hW FI_X12_74 rfl (by decide) rfl hth (dg D_X12_load (i := 14) rfl) ?_
    refine n_if_le (tgt := 32) hx hb (by omega) (dg D_X12_load (i := 15) rfl) (by decide) (fun c27 => ?_) (fun c27 => ?_)
    · exact absurd c27 (by decide)
    · refine n_iconst (a := 0) hx hb (dg D_X12_load (i := 16) rfl) rfl ?_
      exact fin (dg D_X12_load (i := 17) rfl) hW hS ⟨rfl, hF, hth, rfl, rfl⟩
  · exact absurd c12 (by decide)

