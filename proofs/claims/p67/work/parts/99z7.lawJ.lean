set_option maxHeartbeats 4000000 in
set_option maxRecDepth 100000 in
theorem c_L_bridge {l : Launch} {G : va_G} {bs : Nat} {cy : Nat → ClassId} {I : CI} {L : CL} {R : CR} (hR67 : R 67 0 = cy 70) (hat : I 67 1 = nI 0) {sz : Nat} : MAr l G bs cy ML_bridge 8 [.ref (ad bs 67)] sz I L R (fun tx I1 L1 R1 => tx = brT (drw cy) ∧ Fr SBr I I1 ∧ I1 67 1 = nI (6 + 5 * (1 + drw cy 4 5) + 2 * (1 + drw cy 5 2) + (2 + drw cy 0 5)) ∧ I1 67 2 = nI (2 + drw cy 0 5) ∧ I1 67 3 = nI (1 + drw cy 1 3) ∧ I1 67 4 = nI (drw cy 2 3) ∧ I1 67 5 = nI (1 + drw cy 3 3) ∧ I1 67 6 = nI (1 + drw cy 4 5) ∧ I1 67 7 = nI (1 + drw cy 5 2) ∧ rowP I1 69 (1 + drw cy 4 5) (fun x => nI (drw cy (6 + 5 * x) (1 + drw cy 3 3 + 1)) - nI 1) ∧ rowP I1 70 (1 + drw cy 4 5) (fun x => nI (1 + drw cy (6 + 5 * x + 1) 30)) ∧ rowP I1 71 (1 + drw cy 4 5) (fun x => nI (drw cy (6 + 5 * x + 2) 60)) ∧ rowP I1 72 (1 + drw cy 4 5) (fun x => nI (1 + drw cy (6 + 5 * x + 3) 20)) ∧ rowP I1 73 (1 + drw cy 4 5) (fun x => nI (30 + drw cy (6 + 5 * x + 4) 60)) ∧ rowP I1 74 (1 + drw cy 5 2) (fun x => nI (1 + drw cy (6 + 5 * (1 + drw cy 4 5) + 2 * x) 8)) ∧ rowP I1 75 (1 + drw cy 5 2) (fun x => nI (drw cy (6 + 5 * (1 + drw cy 4 5) + 2 * x + 1) 9)) ∧ rowP I1 76 (2 + drw cy 0 5) (fun x => nI (drw cy (6 + 5 * (1 + drw cy 4 5) + 2 * (1 + drw cy 5 2) + x) 30)) ∧ L1 = L ∧ R1 = R) 466 212000 := by
  refine MAr.of (Or.inl ⟨_, rfl⟩) (own := RL) pn_RL rfl (Nat.le_of_ble_eq_true rfl) ?_
  intro p e s m args below meth c Qf X hW hS fin ls hl
  have hx := X.1
  have hb := X.2.1
  have hR : RmOK (rmL 8 466 212000) 8 := ⟨rfl, rfl⟩
  have hcs : 0 ≤ (rmL 8 466 212000).cells ∧ 0 ≤ (rmL 8 466 212000).slots := ⟨Nat.zero_le _, Nat.zero_le _⟩
  have hsz0 := hW.sz
  have hA : AOK bs s.heap.size (Ar bs s.heap.size) := ArOK hsz0
  have hT : TW G cy bs s s.heap [] [] := TW.nil (Nat.le_refl _)
  have hl : lv_has ls 3 [(0, .ref (ad bs 67))] := hl
  have hF : Fr SBr I I := Fr.rf
  have hd0 : drw cy 0 5 < 5 := amN_lt (by decide)
  have hd1 : drw cy 1 3 < 3 := amN_lt (by decide)
  have hd2 : drw cy 2 3 < 3 := amN_lt (by decide)
  have hd3 : drw cy 3 3 < 3 := amN_lt (by decide)
  have hd4 : drw cy 4 5 < 5 := amN_lt (by decide)
  have hd5 : drw cy 5 2 < 2 := amN_lt (by decide)
  have hq0 := dec2_le (2 + drw cy 0 5)
  have hq1 := dec2_le (1 + drw cy 1 3)
  have hq2 := dec2_le (drw cy 2 3)
  have hlA : (tA (drw cy)).length ≤ 16 := hdT_le _ _ _
  have hlB : (tB (drw cy)).length ≤ (tA (drw cy)).length + 11 * (1 + drw cy 3 3) := lnT_le _ _
  have hlC : (tC (drw cy)).length ≤ (tB (drw cy)).length + 25 * (1 + drw cy 4 5) := spT_le _ _ _ _
  have hlD : (tD (drw cy)).length ≤ (tC (drw cy)).length + 14 * (1 + drw cy 5 2) := gnT_le _ _ _ _
  have h2 : I 67 2 = I 67 2 := rfl
  have h3 : I 67 3 = I 67 3 := rfl
  have h4 : I 67 4 = I 67 4 := rfl
  have h5 : I 67 5 = I 67 5 := rfl
  have h6 : I 67 6 = I 67 6 := rfl
  have h7 : I 67 7 = I 67 7 := rfl
  refine lv_aload_n hx hb (dg D_L_bridge (i := 0) rfl) rfl (lv_at hl 0 rfl) ?_
  refine n_iconst (a := 2) hx hb (dg D_L_bridge (i := 1) rfl) rfl ?_
  refine lv_aload_n hx hb (dg D_L_bridge (i := 2) rfl) rfl (lv_at hl 0 rfl) ?_
  refine n_iconst (a := 5) hx hb (dg D_L_bridge (i := 3) rfl) rfl ?_
  refine gO_i X hA hW hT hS hR (c_L_chosen (I := I) 0 5 (by first | exact hR67 | assumption | omega | decide | exact hP.1) (by first | exact hat | assumption | omega | decide | exact hP.1) (by first | exact hk9 | assumption | omega | decide | exact hP.1) (by first | exact hm0 | assumption | omega | decide | exact hP.1) (by first | exact hm9 | assumption | omega | decide | exact hP.1)) (by decide) UVL_chosen LK_L_78 rfl rfl (Nat.le_of_ble_eq_true rfl) hl hcs (dg D_L_bridge (i := 4) rfl) (fun r4 I4 L1 R1 H locs hq hW hT hS => ?_)
  obtain ⟨rfl, hT4, hp4_0, rfl, rfl⟩ := hq
  have hF : Fr SBr I I4 := Fr.tr hF hT4 (fun _ _ h => SAt_SBr h)
  have h2 : I4 67 2 = I 67 2 := (hT4 67 2 rfl).trans h2
  have h3 : I4 67 3 = I 67 3 := (hT4 67 3 rfl).trans h3
  have h4 : I4 67 4 = I 67 4 := (hT4 67 4 rfl).trans h4
  have h5 : I4 67 5 = I 67 5 := (hT4 67 5 rfl).trans h5
  have h6 : I4 67 6 = I 67 6 := (hT4 67 6 rfl).trans h6
  have h7 : I4 67 7 = I 67 7 := (hT4 67 7 rfl).trans h7
  have hat : I4 67 1 = nI (1) := hp4_0
  refine n_iadd hx hb (dg D_L_bridge (i := 5) rfl) ?_
  refine gL_puti (v := nI (2 + (drw cy 0 5))) X hA hW hS FI_L_81 (by decide +kernel) (by decide +kernel) rfl (by decide) (dg D_L_bridge (i := 6) rfl) (fun H locs hW hS => ?_)
  have hF : Fr SBr I (u2 I4 67 2 (nI (2 + (drw cy 0 5)))) := Fr.put hF rfl
  obtain ⟨J8, eJ8⟩ : ∃ J, J = u2 I4 67 2 (nI (2 + (drw cy 0 5))) := ⟨_, rfl⟩
  rw [← eJ8] at hW hF
  have h2 : J8 67 2 = nI (2 + (drw cy 0 5)) := by rw [eJ8]; exact u2_at
  have h3 : J8 67 3 = I 67 3 := by rw [eJ8, u2_off (Or.inr (by decide))]; exact h3
  have h4 : J8 67 4 = I 67 4 := by rw [eJ8, u2_off (Or.inr (by decide))]; exact h4
  have h5 : J8 67 5 = I 67 5 := by rw [eJ8, u2_off (Or.inr (by decide))]; exact h5
  have h6 : J8 67 6 = I 67 6 := by rw [eJ8, u2_off (Or.inr (by decide))]; exact h6
  have h7 : J8 67 7 = I 67 7 := by rw [eJ8, u2_off (Or.inr (by decide))]; exact h7
  have hat : J8 67 1 = nI (1) := by rw [eJ8, u2_off (Or.inr (by decide))]; exact hat
  have hT : TW G cy bs s H [] [] := TW.nil hS.1
  refine lv_aload_n hx hb (dg D_L_bridge (i := 7) rfl) rfl (lv_at hl 0 rfl) ?_
  refine n_iconst (a := 1) hx hb (dg D_L_bridge (i := 8) rfl) rfl ?_
  refine lv_aload_n hx hb (dg D_L_bridge (i := 9) rfl) rfl (lv_at hl 0 rfl) ?_
  refine n_iconst (a := 3) hx hb (dg D_L_bridge (i := 10) rfl) rfl ?_
  refine gO_i X hA hW hT hS hR (c_L_chosen (I := J8) 1 3 (by first | exact hR67 | assumption | omega | decide | exact hP.1) (by first | exact hat | assumption | omega | decide | exact hP.1) (by first | exact hk9 | assumption | omega | decide | exact hP.1) (by first | exact hm0 | assumption | omega | decide | exact hP.1) (by first | exact hm9 | assumption | omega | decide | exact hP.1)) (by decide) UVL_chosen LK_L_78 rfl rfl (Nat.le_of_ble_eq_true rfl) hl hcs (dg D_L_bridge (i := 11) rfl) (fun r15 I15 L1 R1 H locs hq hW hT hS => ?_)
  obtain ⟨rfl, hT15, hp15_0, rfl, rfl⟩ := hq
  have hF : Fr SBr I I15 := Fr.tr hF hT15 (fun _ _ h => SAt_SBr h)
  have h2 : I15 67 2 = nI (2 + (drw cy 0 5)) := (hT15 67 2 rfl).trans h2
  have h3 : I15 67 3 = I 67 3 := (hT15 67 3 rfl).trans h3
  have h4 : I15 67 4 = I 67 4 := (hT15 67 4 rfl).trans h4
  have h5 : I15 67 5 = I 67 5 := (hT15 67 5 rfl).trans h5
  have h6 : I15 67 6 = I 67 6 := (hT15 67 6 rfl).trans h6
  have h7 : I15 67 7 = I 67 7 := (hT15 67 7 rfl).trans h7
  have hat : I15 67 1 = nI (2) := hp15_0
  refine n_iadd hx hb (dg D_L_bridge (i := 12) rfl) ?_
  refine gL_puti (v := nI (1 + (drw cy 1 3))) X hA hW hS FI_L_84 (by decide +kernel) (by decide +kernel) rfl (by decide) (dg D_L_bridge (i := 13) rfl) (fun H locs hW hS => ?_)
  have hF : Fr SBr I (u2 I15 67 3 (nI (1 + (drw cy 1 3)))) := Fr.put hF rfl
  obtain ⟨J19, eJ19⟩ : ∃ J, J = u2 I15 67 3 (nI (1 + (drw cy 1 3))) := ⟨_, rfl⟩
  rw [← eJ19] at hW hF
  have h2 : J19 67 2 = nI (2 + (drw cy 0 5)) := by rw [eJ19, u2_off (Or.inr (by decide))]; exact h2
  have h3 : J19 67 3 = nI (1 + (drw cy 1 3)) := by rw [eJ19]; exact u2_at
  have h4 : J19 67 4 = I 67 4 := by rw [eJ19, u2_off (Or.inr (by decide))]; exact h4
  have h5 : J19 67 5 = I 67 5 := by rw [eJ19, u2_off (Or.inr (by decide))]; exact h5
  have h6 : J19 67 6 = I 67 6 := by rw [eJ19, u2_off (Or.inr (by decide))]; exact h6
  have h7 : J19 67 7 = I 67 7 := by rw [eJ19, u2_off (Or.inr (by decide))]; exact h7
  have hat : J19 67 1 = nI (2) := by rw [eJ19, u2_off (Or.inr (by decide))]; exact hat
  have hT : TW G cy bs s H [] [] := TW.nil hS.1
  refine lv_aload_n hx hb (dg D_L_bridge (i := 14) rfl) rfl (lv_at hl 0 rfl) ?_
  refine lv_aload_n hx hb (dg D_L_bridge (i := 15) rfl) rfl (lv_at hl 0 rfl) ?_
  refine n_iconst (a := 3) hx hb (dg D_L_bridge (i := 16) rfl) rfl ?_
  refine gO_i X hA hW hT hS hR (c_L_chosen (I := J19) 2 3 (by first | exact hR67 | assumption | omega | decide | exact hP.1) (by first | exact hat | assumption | omega | decide | exact hP.1) (by first | exact hk9 | assumption | omega | decide | exact hP.1) (by first | exact hm0 | assumption | omega | decide | exact hP.1) (by first | exact hm9 | assumption | omega | decide | exact hP.1)) (by decide) UVL_chosen LK_L_78 rfl rfl (Nat.le_of_ble_eq_true rfl) hl hcs (dg D_L_bridge (i := 17) rfl) (fun r25 I25 L1 R1 H locs hq hW hT hS => ?_)
  obtain ⟨rfl, hT25, hp25_0, rfl, rfl⟩ := hq
  have hF : Fr SBr I I25 := Fr.tr hF hT25 (fun _ _ h => SAt_SBr h)
  have h2 : I25 67 2 = nI (2 + (drw cy 0 5)) := (hT25 67 2 rfl).trans h2
  have h3 : I25 67 3 = nI (1 + (drw cy 1 3)) := (hT25 67 3 rfl).trans h3
  have h4 : I25 67 4 = I 67 4 := (hT25 67 4 rfl).trans h4
  have h5 : I25 67 5 = I 67 5 := (hT25 67 5 rfl).trans h5
  have h6 : I25 67 6 = I 67 6 := (hT25 67 6 rfl).trans h6
  have h7 : I25 67 7 = I 67 7 := (hT25 67 7 rfl).trans h7
  have hat : I25 67 1 = nI (3) := hp25_0
  refine gL_puti (v := nI (drw cy 2 3)) X hA hW hS FI_L_87 (by decide +kernel) (by decide +kernel) rfl (by decide) (dg D_L_bridge (i := 18) rfl) (fun H locs hW hS => ?_)
  have hF : Fr SBr I (u2 I25 67 4 (nI (drw cy 2 3))) := Fr.put hF rfl
  obtain ⟨J28, eJ28⟩ : ∃ J, J = u2 I25 67 4 (nI (drw cy 2 3)) := ⟨_, rfl⟩
  rw [← eJ28] at hW hF
  have h2 : J28 67 2 = nI (2 + (drw cy 0 5)) := by rw [eJ28, u2_off (Or.inr (by decide))]; exact h2
  have h3 : J28 67 3 = nI (1 + (drw cy 1 3)) := by rw [eJ28, u2_off (Or.inr (by decide))]; exact h3
  have h4 : J28 67 4 = nI (drw cy 2 3) := by rw [eJ28]; exact u2_at
  have h5 : J28 67 5 = I 67 5 := by rw [eJ28, u2_off (Or.inr (by decide))]; exact h5
  have h6 : J28 67 6 = I 67 6 := by rw [eJ28, u2_off (Or.inr (by decide))]; exact h6
  have h7 : J28 67 7 = I 67 7 := by rw [eJ28, u2_off (Or.inr (by decide))]; exact h7
  have hat : J28 67 1 = nI (3) := by rw [eJ28, u2_off (Or.inr (by decide))]; exact hat
  have hT : TW G cy bs s H [] [] := TW.nil hS.1
  refine lv_aload_n hx hb (dg D_L_bridge (i := 19) rfl) rfl (lv_at hl 0 rfl) ?_
  refine n_iconst (a := 1) hx hb (dg D_L_bridge (i := 20) rfl) rfl ?_
  refine lv_aload_n hx hb (dg D_L_bridge (i := 21) rfl) rfl (lv_at hl 0 rfl) ?_
  refine n_iconst (a := 3) hx hb (dg D_L_bridge (i := 22) rfl) rfl ?_
  refine gO_i X hA hW hT hS hR (c_L_chosen (I := J28) 3 3 (by first | exact hR67 | assumption | omega | decide | exact hP.1) (by first | exact hat | assumption | omega | decide | exact hP.1) (by first | exact hk9 | assumption | omega | decide | exact hP.1) (by first | exact hm0 | assumption | omega | decide | exact hP.1) (by first | exact hm9 | assumption | omega | decide | exact hP.1)) (by decide) UVL_chosen LK_L_78 rfl rfl (Nat.le_of_ble_eq_true rfl) hl hcs (dg D_L_bridge (i := 23) rfl) (fun r35 I35 L1 R1 H locs hq hW hT hS => ?_)
  obtain ⟨rfl, hT35, hp35_0, rfl, rfl⟩ := hq
  have hF : Fr SBr I I35 := Fr.tr hF hT35 (fun _ _ h => SAt_SBr h)
  have h2 : I35 67 2 = nI (2 + (drw cy 0 5)) := (hT35 67 2 rfl).trans h2
  have h3 : I35 67 3 = nI (1 + (drw cy 1 3)) := (hT35 67 3 rfl).trans h3
  have h4 : I35 67 4 = nI (drw cy 2 3) := (hT35 67 4 rfl).trans h4
  have h5 : I35 67 5 = I 67 5 := (hT35 67 5 rfl).trans h5
  have h6 : I35 67 6 = I 67 6 := (hT35 67 6 rfl).trans h6
  have h7 : I35 67 7 = I 67 7 := (hT35 67 7 rfl).trans h7
  have hat : I35 67 1 = nI (4) := hp35_0
  refine n_iadd hx hb (dg D_L_bridge (i := 24) rfl) ?_
  refine gL_puti (v := nI (1 + (drw cy 3 3))) X hA hW hS FI_L_90 (by decide +kernel) (by decide +kernel) rfl (by decide) (dg D_L_bridge (i := 25) rfl) (fun H locs hW hS => ?_)
  have hF : Fr SBr I (u2 I35 67 5 (nI (1 + (drw cy 3 3)))) := Fr.put hF rfl
  obtain ⟨J39, eJ39⟩ : ∃ J, J = u2 I35 67 5 (nI (1 + (drw cy 3 3))) := ⟨_, rfl⟩
  rw [← eJ39] at hW hF
  have h2 : J39 67 2 = nI (2 + (drw cy 0 5)) := by rw [eJ39, u2_off (Or.inr (by decide))]; exact h2
  have h3 : J39 67 3 = nI (1 + (drw cy 1 3)) := by rw [eJ39, u2_off (Or.inr (by decide))]; exact h3
  have h4 : J39 67 4 = nI (drw cy 2 3) := by rw [eJ39, u2_off (Or.inr (by decide))]; exact h4
  have h5 : J39 67 5 = nI (1 + (drw cy 3 3)) := by rw [eJ39]; exact u2_at
  have h6 : J39 67 6 = I 67 6 := by rw [eJ39, u2_off (Or.inr (by decide))]; exact h6
  have h7 : J39 67 7 = I 67 7 := by rw [eJ39, u2_off (Or.inr (by decide))]; exact h7
  have hat : J39 67 1 = nI (4) := by rw [eJ39, u2_off (Or.inr (by decide))]; exact hat
  have hT : TW G cy bs s H [] [] := TW.nil hS.1
  refine lv_aload_n hx hb (dg D_L_bridge (i := 26) rfl) rfl (lv_at hl 0 rfl) ?_
  refine n_iconst (a := 1) hx hb (dg D_L_bridge (i := 27) rfl) rfl ?_
  refine lv_aload_n hx hb (dg D_L_bridge (i := 28) rfl) rfl (lv_at hl 0 rfl) ?_
  refine n_iconst (a := 5) hx hb (dg D_L_bridge (i := 29) rfl) rfl ?_
  refine gO_i X hA hW hT hS hR (c_L_chosen (I := J39) 4 5 (by first | exact hR67 | assumption | omega | decide | exact hP.1) (by first | exact hat | assumption | omega | decide | exact hP.1) (by first | exact hk9 | assumption | omega | decide | exact hP.1) (by first | exact hm0 | assumption | omega | decide | exact hP.1) (by first | exact hm9 | assumption | omega | decide | exact hP.1)) (by decide) UVL_chosen LK_L_78 rfl rfl (Nat.le_of_ble_eq_true rfl) hl hcs (dg D_L_bridge (i := 30) rfl) (fun r46 I46 L1 R1 H locs hq hW hT hS => ?_)
  obtain ⟨rfl, hT46, hp46_0, rfl, rfl⟩ := hq
  have hF : Fr SBr I I46 := Fr.tr hF hT46 (fun _ _ h => SAt_SBr h)
  have h2 : I46 67 2 = nI (2 + (drw cy 0 5)) := (hT46 67 2 rfl).trans h2
  have h3 : I46 67 3 = nI (1 + (drw cy 1 3)) := (hT46 67 3 rfl).trans h3
  have h4 : I46 67 4 = nI (drw cy 2 3) := (hT46 67 4 rfl).trans h4
  have h5 : I46 67 5 = nI (1 + (drw cy 3 3)) := (hT46 67 5 rfl).trans h5
  have h6 : I46 67 6 = I 67 6 := (hT46 67 6 rfl).trans h6
  have h7 : I46 67 7 = I 67 7 := (hT46 67 7 rfl).trans h7
  have hat : I46 67 1 = nI (5) := hp46_0
  refine n_iadd hx hb (dg D_L_bridge (i := 31) rfl) ?_
  refine gL_puti (v := nI (1 + (drw cy 4 5))) X hA hW hS FI_L_93 (by decide +kernel) (by decide +kernel) rfl (by decide) (dg D_L_bridge (i := 32) rfl) (fun H locs hW hS => ?_)
  have hF : Fr SBr I (u2 I46 67 6 (nI (1 + (drw cy 4 5)))) := Fr.put hF rfl
  obtain ⟨J50, eJ50⟩ : ∃ J, J = u2 I46 67 6 (nI (1 + (drw cy 4 5))) := ⟨_, rfl⟩
  rw [← eJ50] at hW hF
  have h2 : J50 67 2 = nI (2 + (drw cy 0 5)) := by rw [eJ50, u2_off (Or.inr (by decide))]; exact h2
  have h3 : J50 67 3 = nI (1 + (drw cy 1 3)) := by rw [eJ50, u2_off (Or.inr (by decide))]; exact h3
  have h4 : J50 67 4 = nI (drw cy 2 3) := by rw [eJ50, u2_off (Or.inr (by decide))]; exact h4
  have h5 : J50 67 5 = nI (1 + (drw cy 3 3)) := by rw [eJ50, u2_off (Or.inr (by decide))]; exact h5
  have h6 : J50 67 6 = nI (1 + (drw cy 4 5)) := by rw [eJ50]; exact u2_at
  have h7 : J50 67 7 = I 67 7 := by rw [eJ50, u2_off (Or.inr (by decide))]; exact h7
  have hat : J50 67 1 = nI (5) := by rw [eJ50, u2_off (Or.inr (by decide))]; exact hat
  have hT : TW G cy bs s H [] [] := TW.nil hS.1
  refine lv_aload_n hx hb (dg D_L_bridge (i := 33) rfl) rfl (lv_at hl 0 rfl) ?_
  refine n_iconst (a := 1) hx hb (dg D_L_bridge (i := 34) rfl) rfl ?_
  refine lv_aload_n hx hb (dg D_L_bridge (i := 35) rfl) rfl (lv_at hl 0 rfl) ?_
  refine n_iconst (a := 2) hx hb (dg D_L_bridge (i := 36) rfl) rfl ?_
  refine gO_i X hA hW hT hS hR (c_L_chosen (I := J50) 5 2 (by first | exact hR67 | assumption | omega | decide | exact hP.1) (by first | exact hat | assumption | omega | decide | exact hP.1) (by first | exact hk9 | assumption | omega | decide | exact hP.1) (by first | exact hm0 | assumption | omega | decide | exact hP.1) (by first | exact hm9 | assumption | omega | decide | exact hP.1)) (by decide) UVL_chosen LK_L_78 rfl rfl (Nat.le_of_ble_eq_true rfl) hl hcs (dg D_L_bridge (i := 37) rfl) (fun r57 I57 L1 R1 H locs hq hW hT hS => ?_)
  obtain ⟨rfl, hT57, hp57_0, rfl, rfl⟩ := hq
  have hF : Fr SBr I I57 := Fr.tr hF hT57 (fun _ _ h => SAt_SBr h)
  have h2 : I57 67 2 = nI (2 + (drw cy 0 5)) := (hT57 67 2 rfl).trans h2
  have h3 : I57 67 3 = nI (1 + (drw cy 1 3)) := (hT57 67 3 rfl).trans h3
  have h4 : I57 67 4 = nI (drw cy 2 3) := (hT57 67 4 rfl).trans h4
  have h5 : I57 67 5 = nI (1 + (drw cy 3 3)) := (hT57 67 5 rfl).trans h5
  have h6 : I57 67 6 = nI (1 + (drw cy 4 5)) := (hT57 67 6 rfl).trans h6
  have h7 : I57 67 7 = I 67 7 := (hT57 67 7 rfl).trans h7
  have hat : I57 67 1 = nI (6) := hp57_0
  refine n_iadd hx hb (dg D_L_bridge (i := 38) rfl) ?_
  refine gL_puti (v := nI (1 + (drw cy 5 2))) X hA hW hS FI_L_96 (by decide +kernel) (by decide +kernel) rfl (by decide) (dg D_L_bridge (i := 39) rfl) (fun H locs hW hS => ?_)
  have hF : Fr SBr I (u2 I57 67 7 (nI (1 + (drw cy 5 2)))) := Fr.put hF rfl
  obtain ⟨J61, eJ61⟩ : ∃ J, J = u2 I57 67 7 (nI (1 + (drw cy 5 2))) := ⟨_, rfl⟩
  rw [← eJ61] at hW hF
  have h2 : J61 67 2 = nI (2 + (drw cy 0 5)) := by rw [eJ61, u2_off (Or.inr (by decide))]; exact h2
  have h3 : J61 67 3 = nI (1 + (drw cy 1 3)) := by rw [eJ61, u2_off (Or.inr (by decide))]; exact h3
  have h4 : J61 67 4 = nI (drw cy 2 3) := by rw [eJ61, u2_off (Or.inr (by decide))]; exact h4
  have h5 : J61 67 5 = nI (1 + (drw cy 3 3)) := by rw [eJ61, u2_off (Or.inr (by decide))]; exact h5
  have h6 : J61 67 6 = nI (1 + (drw cy 4 5)) := by rw [eJ61, u2_off (Or.inr (by decide))]; exact h6
  have h7 : J61 67 7 = nI (1 + (drw cy 5 2)) := by rw [eJ61]; exact u2_at
  have hat : J61 67 1 = nI (6) := by rw [eJ61, u2_off (Or.inr (by decide))]; exact hat
  have hT : TW G cy bs s H [] [] := TW.nil hS.1
  refine g_sb X hA hW hT hS hR (by decide) (Nat.le_of_ble_eq_true rfl) hl (⟨by show _ ≤ 466; omega, by show _ ≤ 212000; omega⟩) (dg D_L_bridge (i := 40) rfl) (dg D_L_bridge (i := 41) rfl) (dg D_L_bridge (i := 42) rfl) (fun q64 v64 H locs hW hT hS => ?_)
  have hcs : 0 + 1 + 1 ≤ (rmL 8 466 212000).cells ∧ 0 + 4 + 16 ≤ (rmL 8 466 212000).slots := ⟨by show _ ≤ 466; omega, by show _ ≤ 212000; omega⟩
  refine g_ldc (i := 0) X (by decide) rfl (dg D_L_bridge (i := 43) rfl) ?_
  refine g_appL (i := 0) (t := [98, 114, 105, 100, 103, 101, 32]) X hA hW hT hS hR (by decide) (by decide) rfl (by simp only [List.length_append, List.length_cons, List.length_nil]; omega) (Nat.le_of_ble_eq_true rfl) hl (⟨by show _ ≤ 466; omega, by show _ ≤ 212000; omega⟩) (dg D_L_bridge (i := 44) rfl) (fun v73 H locs hW hT hS => ?_)
  have hT : TW G cy bs s H [(q64, v73, [] ++ [98, 114, 105, 100, 103, 101, 32])] [] := hT
  have hcs : 0 + 1 + 1 + 1 ≤ (rmL 8 466 212000).cells ∧ 0 + 4 + 16 + 600 ≤ (rmL 8 466 212000).slots := ⟨by show _ ≤ 466; omega, by show _ ≤ 212000; omega⟩
  refine lv_aload_n hx hb (dg D_L_bridge (i := 45) rfl) rfl (lv_at hl 0 rfl) ?_
  refine rL_get (v := .int (nI (2 + (drw cy 0 5)))) X hW FI_L_81 (congrArg (fun z => some (Value.int z)) h2) (dg D_L_bridge (i := 46) rfl) ?_
  refine g_appI (x9 := (2 + (drw cy 0 5))) X hA hW hT hS hR (by decide) (by omega) (by simp only [List.length_append, List.length_cons, List.length_nil]; omega) (Nat.le_of_ble_eq_true rfl) hl (⟨by show _ ≤ 466; omega, by show _ ≤ 212000; omega⟩) (dg D_L_bridge (i := 47) rfl) (fun v80 H locs hW hT hS => ?_)
  have hT : TW G cy bs s H [(q64, v80, [] ++ [98, 114, 105, 100, 103, 101, 32] ++ dec2 (2 + (drw cy 0 5)))] [] := hT
  have hcs : 0 + 1 + 1 + 1 + 1 ≤ (rmL 8 466 212000).cells ∧ 0 + 4 + 16 + 600 + 600 ≤ (rmL 8 466 212000).slots := ⟨by show _ ≤ 466; omega, by show _ ≤ 212000; omega⟩
  refine g_ldc (i := 1) X (by decide) rfl (dg D_L_bridge (i := 48) rfl) ?_
  refine g_appL (i := 1) (t := [32]) X hA hW hT hS hR (by decide) (by decide) rfl (by simp only [List.length_append, List.length_cons, List.length_nil]; omega) (Nat.le_of_ble_eq_true rfl) hl (⟨by show _ ≤ 466; omega, by show _ ≤ 212000; omega⟩) (dg D_L_bridge (i := 49) rfl) (fun v85 H locs hW hT hS => ?_)
  have hT : TW G cy bs s H [(q64, v85, [] ++ [98, 114, 105, 100, 103, 101, 32] ++ dec2 (2 + (drw cy 0 5)) ++ [32])] [] := hT
  have hcs : 0 + 1 + 1 + 1 + 1 + 1 ≤ (rmL 8 466 212000).cells ∧ 0 + 4 + 16 + 600 + 600 + 600 ≤ (rmL 8 466 212000).slots := ⟨by show _ ≤ 466; omega, by show _ ≤ 212000; omega⟩
  refine lv_aload_n hx hb (dg D_L_bridge (i := 50) rfl) rfl (lv_at hl 0 rfl) ?_
  refine rL_get (v := .int (nI (1 + (drw cy 1 3)))) X hW FI_L_84 (congrArg (fun z => some (Value.int z)) h3) (dg D_L_bridge (i := 51) rfl) ?_
  refine g_appI (x9 := (1 + (drw cy 1 3))) X hA hW hT hS hR (by decide) (by omega) (by simp only [List.length_append, List.length_cons, List.length_nil]; omega) (Nat.le_of_ble_eq_true rfl) hl (⟨by show _ ≤ 466; omega, by show _ ≤ 212000; omega⟩) (dg D_L_bridge (i := 52) rfl) (fun v92 H locs hW hT hS => ?_)
  have hT : TW G cy bs s H [(q64, v92, [] ++ [98, 114, 105, 100, 103, 101, 32] ++ dec2 (2 + (drw cy 0 5)) ++ [32] ++ dec2 (1 + (drw cy 1 3)))] [] := hT
  have hcs : 0 + 1 + 1 + 1 + 1 + 1 + 1 ≤ (rmL 8 466 212000).cells ∧ 0 + 4 + 16 + 600 + 600 + 600 + 600 ≤ (rmL 8 466 212000).slots := ⟨by show _ ≤ 466; omega, by show _ ≤ 212000; omega⟩
  refine g_ldc (i := 1) X (by decide) rfl (dg D_L_bridge (i := 53) rfl) ?_
  refine g_appL (i := 1) (t := [32]) X hA hW hT hS hR (by decide) (by decide) rfl (by simp only [List.length_append, List.length_cons, List.length_nil]; omega) (Nat.le_of_ble_eq_true rfl) hl (⟨by show _ ≤ 466; omega, by show _ ≤ 212000; omega⟩) (dg D_L_bridge (i := 54) rfl) (fun v97 H locs hW hT hS => ?_)
  have hT : TW G cy bs s H [(q64, v97, [] ++ [98, 114, 105, 100, 103, 101, 32] ++ dec2 (2 + (drw cy 0 5)) ++ [32] ++ dec2 (1 + (drw cy 1 3)) ++ [32])] [] := hT
  have hcs : 0 + 1 + 1 + 1 + 1 + 1 + 1 + 1 ≤ (rmL 8 466 212000).cells ∧ 0 + 4 + 16 + 600 + 600 + 600 + 600 + 600 ≤ (rmL 8 466 212000).slots := ⟨by show _ ≤ 466; omega, by show _ ≤ 212000; omega⟩
  refine lv_aload_n hx hb (dg D_L_bridge (i := 55) rfl) rfl (lv_at hl 0 rfl) ?_
  refine rL_get (v := .int (nI (drw cy 2 3))) X hW FI_L_87 (congrArg (fun z => some (Value.int z)) h4) (dg D_L_bridge (i := 56) rfl) ?_
  refine g_appI (x9 := (drw cy 2 3)) X hA hW hT hS hR (by decide) (by omega) (by simp only [List.length_append, List.length_cons, List.length_nil]; omega) (Nat.le_of_ble_eq_true rfl) hl (⟨by show _ ≤ 466; omega, by show _ ≤ 212000; omega⟩) (dg D_L_bridge (i := 57) rfl) (fun v104 H locs hW hT hS => ?_)
  have hT : TW G cy bs s H [(q64, v104, [] ++ [98, 114, 105, 100, 103, 101, 32] ++ dec2 (2 + (drw cy 0 5)) ++ [32] ++ dec2 (1 + (drw cy 1 3)) ++ [32] ++ dec2 (drw cy 2 3))] [] := hT
  have hcs : 0 + 1 + 1 + 1 + 1 + 1 + 1 + 1 + 1 ≤ (rmL 8 466 212000).cells ∧ 0 + 4 + 16 + 600 + 600 + 600 + 600 + 600 + 600 ≤ (rmL 8 466 212000).slots := ⟨by show _ ≤ 466; omega, by show _ ≤ 212000; omega⟩
  refine g_ldc (i := 2) X (by decide) rfl (dg D_L_bridge (i := 58) rfl) ?_
  refine g_appL (i := 2) (t := [59]) X hA hW hT hS hR (by decide) (by decide) rfl (by simp only [List.length_append, List.length_cons, List.length_nil]; omega) (Nat.le_of_ble_eq_true rfl) hl (⟨by show _ ≤ 466; omega, by show _ ≤ 212000; omega⟩) (dg D_L_bridge (i := 59) rfl) (fun v109 H locs hW hT hS => ?_)
  have hT : TW G cy bs s H [(q64, v109, [] ++ [98, 114, 105, 100, 103, 101, 32] ++ dec2 (2 + (drw cy 0 5)) ++ [32] ++ dec2 (1 + (drw cy 1 3)) ++ [32] ++ dec2 (drw cy 2 3) ++ [59])] [] := hT
  have hcs : 0 + 1 + 1 + 1 + 1 + 1 + 1 + 1 + 1 + 1 ≤ (rmL 8 466 212000).cells ∧ 0 + 4 + 16 + 600 + 600 + 600 + 600 + 600 + 600 + 600 ≤ (rmL 8 466 212000).slots := ⟨by show _ ≤ 466; omega, by show _ ≤ 212000; omega⟩
  refine g_toS X hA hW hT hS hR (by decide) (by simp only [List.length_append, List.length_cons, List.length_nil]; omega) (Nat.le_of_ble_eq_true rfl) hl (⟨by show _ ≤ 466; omega, by show _ + (List.length _ + 4) ≤ 212000; have := (show ([] ++ [98, 114, 105, 100, 103, 101, 32] ++ dec2 (2 + (drw cy 0 5)) ++ [32] ++ dec2 (1 + (drw cy 1 3)) ++ [32] ++ dec2 (drw cy 2 3) ++ [59]).length ≤ 300 from by simp only [List.length_append, List.length_cons, List.length_nil]; omega); omega⟩) (dg D_L_bridge (i := 60) rfl) (fun ⟨a112, w112, t112⟩ H locs htx112 hxc hW hT hS => ?_)
  have htx112 : t112 = [] ++ [98, 114, 105, 100, 103, 101, 32] ++ dec2 (2 + (drw cy 0 5)) ++ [32] ++ dec2 (1 + (drw cy 1 3)) ++ [32] ++ dec2 (drw cy 2 3) ++ [59] := htx112
  subst htx112
  refine W.widen (k := 0 + 1 + 1 + 1 + 1 + 1 + 1 + 1 + 1 + 1 + 2) (n := 0 + 4 + 16 + 600 + 600 + 600 + 600 + 600 + 600 + 600 + 304) (by omega) (by have := (show ([] ++ [98, 114, 105, 100, 103, 101, 32] ++ dec2 (2 + (drw cy 0 5)) ++ [32] ++ dec2 (1 + (drw cy 1 3)) ++ [32] ++ dec2 (drw cy 2 3) ++ [59]).length ≤ 300 from by simp only [List.length_append, List.length_cons, List.length_nil]; omega); omega) ?_
  have hcs : 0 + 1 + 1 + 1 + 1 + 1 + 1 + 1 + 1 + 1 + 2 ≤ (rmL 8 466 212000).cells ∧ 0 + 4 + 16 + 600 + 600 + 600 + 600 + 600 + 600 + 600 + 304 ≤ (rmL 8 466 212000).slots := ⟨by show _ ≤ 466; omega, by show _ ≤ 212000; omega⟩
  refine lv_astore_n (lv' := [(1, .ref a112), (0, .ref (ad bs 67))]) hx hb (dg D_L_bridge (i := 61) rfl) rfl hl (by decide) rfl (fun ls hl => ?_)
  refine n_iconst (a := 0) hx hb (dg D_L_bridge (i := 62) rfl) rfl ?_
  refine lv_istore_n (lv' := [(2, .int (nI 0)), (1, .ref a112), (0, .ref (ad bs 67))]) hx hb (dg D_L_bridge (i := 63) rfl) rfl hl (by decide) rfl (fun ls hl => ?_)
  have loop118 := up_ind (P := fun x1 => ∀ (K118 : CI) (H : Heap) (locs : List Loc) (ls : Array Slot) (a118 w118 : Nat), (Fr SBr I K118) → (K118 67 2 = nI (2 + (drw cy 0 5))) → (K118 67 3 = nI (1 + (drw cy 1 3))) → (K118 67 4 = nI (drw cy 2 3)) → (K118 67 5 = nI (1 + (drw cy 3 3))) → (K118 67 6 = nI (1 + (drw cy 4 5))) → (K118 67 7 = nI (1 + (drw cy 5 2))) → (K118 67 1 = nI (6)) → TW G cy bs s H [] [(a118, w118, (lnT (tA (drw cy)) x1))] → TxC G cy s.heap.size H (a118, w118, (lnT (tA (drw cy)) x1)) → Wd G bs cy K118 L R H → va_S (Ar bs s.heap.size) s.heap H locs → lv_has ls 3 [(0, .ref (ad bs 67)), (1, .ref a118), (2, .int (nI x1))] → W p l e (rmL 8 466 212000) s m args below meth c H locs (20 + 12 * x1) (8000 + 5000 * x1) Qf (F0 m 118 ls [])) (1 + drw cy 3 3) (fun x1 hx118 ih118 => by
      intro K118 H locs ls a118 w118 hF h2 h3 h4 h5 h6 h7 hat hT hxc hW hS hl
      have hcs : 20 + 12 * x1 + 0 ≤ (rmL 8 466 212000).cells ∧ 8000 + 5000 * x1 + 0 ≤ (rmL 8 466 212000).slots := ⟨by show _ ≤ 466; omega, by show _ ≤ 212000; omega⟩
      have hlT := lnT_le (tA (drw cy)) x1
      have hqT := dec2_le (10 * x1)
      refine lv_iload_n hx hb (dg D_L_bridge (i := 64) rfl) rfl (lv_at hl 2 rfl) ?_
      refine lv_aload_n hx hb (dg D_L_bridge (i := 65) rfl) rfl (lv_at hl 0 rfl) ?_
      refine rL_get (v := .int (nI (1 + (drw cy 3 3)))) X hW FI_L_90 (congrArg (fun z => some (Value.int z)) h5) (dg D_L_bridge (i := 66) rfl) ?_
      refine n_icmp_ge (tgt := 177) hx hb (by omega) (by omega) (dg D_L_bridge (i := 67) rfl) (by decide) (fun c123 => ?_) (fun c123 => ?_)
      · obtain rfl : x1 = 1 + drw cy 3 3 := by omega
        refine n_iconst (a := 0) hx hb (dg D_L_bridge (i := 92) rfl) rfl ?_
        refine lv_istore_n (lv' := [(2, .int (nI 0)), (0, .ref (ad bs 67)), (1, .ref a118)]) hx hb (dg D_L_bridge (i := 93) rfl) rfl hl (by decide) rfl (fun ls hl => ?_)
        have loop179 := up_ind (P := fun x2 => ∀ (K179 : CI) (H : Heap) (locs : List Loc) (ls : Array Slot) (a179 w179 : Nat), (Fr SBr I K179) → (K179 67 2 = nI (2 + (drw cy 0 5))) → (K179 67 3 = nI (1 + (drw cy 1 3))) → (K179 67 4 = nI (drw cy 2 3)) → (K179 67 5 = nI (1 + (drw cy 3 3))) → (K179 67 6 = nI (1 + (drw cy 4 5))) → (K179 67 7 = nI (1 + (drw cy 5 2))) → (K179 67 1 = nI (6 + 5 * x2)) → (rowP K179 69 x2 (fun x => nI (drw cy (6 + 5 * x) (1 + drw cy 3 3 + 1)) - nI 1)) → (rowP K179 70 x2 (fun x => nI (1 + drw cy (6 + 5 * x + 1) 30))) → (rowP K179 71 x2 (fun x => nI (drw cy (6 + 5 * x + 2) 60))) → (rowP K179 72 x2 (fun x => nI (1 + drw cy (6 + 5 * x + 3) 20))) → (rowP K179 73 x2 (fun x => nI (30 + drw cy (6 + 5 * x + 4) 60))) → TW G cy bs s H [] [(a179, w179, (spT (drw cy) (1 + drw cy 3 3) (tB (drw cy)) x2))] → TxC G cy s.heap.size H (a179, w179, (spT (drw cy) (1 + drw cy 3 3) (tB (drw cy)) x2)) → Wd G bs cy K179 L R H → va_S (Ar bs s.heap.size) s.heap H locs → lv_has ls 3 [(0, .ref (ad bs 67)), (1, .ref a179), (2, .int (nI x2))] → W p l e (rmL 8 466 212000) s m args below meth c H locs (56 + 50 * x2) (23000 + 25000 * x2) Qf (F0 m 179 ls [])) (1 + drw cy 4 5) (fun x2 hx179 ih179 => by
            intro K179 H locs ls a179 w179 hF h2 h3 h4 h5 h6 h7 hat r69 r70 r71 r72 r73 hT hxc hW hS hl
            have hcs : 56 + 50 * x2 + 0 ≤ (rmL 8 466 212000).cells ∧ 23000 + 25000 * x2 + 0 ≤ (rmL 8 466 212000).slots := ⟨by show _ ≤ 466; omega, by show _ ≤ 212000; omega⟩
            have hlT := spT_le (drw cy) (1 + drw cy 3 3) (tB (drw cy)) x2
            refine lv_iload_n hx hb (dg D_L_bridge (i := 94) rfl) rfl (lv_at hl 2 rfl) ?_
            refine lv_aload_n hx hb (dg D_L_bridge (i := 95) rfl) rfl (lv_at hl 0 rfl) ?_
            refine rL_get (v := .int (nI (1 + (drw cy 4 5)))) X hW FI_L_93 (congrArg (fun z => some (Value.int z)) h6) (dg D_L_bridge (i := 96) rfl) ?_
            refine n_icmp_ge (tgt := 216) hx hb (by omega) (by omega) (dg D_L_bridge (i := 97) rfl) (by decide) (fun c184 => ?_) (fun c184 => ?_)
            · obtain rfl : x2 = 1 + drw cy 4 5 := by omega
              refine n_iconst (a := 0) hx hb (dg D_L_bridge (i := 111) rfl) rfl ?_
              refine lv_istore_n (lv' := [(2, .int (nI 0)), (0, .ref (ad bs 67)), (1, .ref a179)]) hx hb (dg D_L_bridge (i := 112) rfl) rfl hl (by decide) rfl (fun ls hl => ?_)
              have loop218 := up_ind (P := fun x3 => ∀ (K218 : CI) (H : Heap) (locs : List Loc) (ls : Array Slot) (a218 w218 : Nat), (Fr SBr I K218) → (K218 67 2 = nI (2 + (drw cy 0 5))) → (K218 67 3 = nI (1 + (drw cy 1 3))) → (K218 67 4 = nI (drw cy 2 3)) → (K218 67 5 = nI (1 + (drw cy 3 3))) → (K218 67 6 = nI (1 + (drw cy 4 5))) → (K218 67 7 = nI (1 + (drw cy 5 2))) → (K218 67 1 = nI (6 + 5 * (1 + drw cy 4 5) + 2 * x3)) → (rowP K218 74 x3 (fun x => nI (1 + drw cy (6 + 5 * (1 + drw cy 4 5) + 2 * x) 8))) → (rowP K218 75 x3 (fun x => nI (drw cy (6 + 5 * (1 + drw cy 4 5) + 2 * x + 1) 9))) → (rowP K218 69 (1 + drw cy 4 5) (fun x => nI (drw cy (6 + 5 * x) (1 + drw cy 3 3 + 1)) - nI 1)) → (rowP K218 70 (1 + drw cy 4 5) (fun x => nI (1 + drw cy (6 + 5 * x + 1) 30))) → (rowP K218 71 (1 + drw cy 4 5) (fun x => nI (drw cy (6 + 5 * x + 2) 60))) → (rowP K218 72 (1 + drw cy 4 5) (fun x => nI (1 + drw cy (6 + 5 * x + 3) 20))) → (rowP K218 73 (1 + drw cy 4 5) (fun x => nI (30 + drw cy (6 + 5 * x + 4) 60))) → TW G cy bs s H [] [(a218, w218, (gnT (drw cy) (6 + 5 * (1 + drw cy 4 5)) (tC (drw cy)) x3))] → TxC G cy s.heap.size H (a218, w218, (gnT (drw cy) (6 + 5 * (1 + drw cy 4 5)) (tC (drw cy)) x3)) → Wd G bs cy K218 L R H → va_S (Ar bs s.heap.size) s.heap H locs → lv_has ls 3 [(0, .ref (ad bs 67)), (1, .ref a218), (2, .int (nI x3))] → W p l e (rmL 8 466 212000) s m args below meth c H locs (306 + 20 * x3) (148000 + 8000 * x3) Qf (F0 m 218 ls [])) (1 + drw cy 5 2) (fun x3 hx218 ih218 => by
                  intro K218 H locs ls a218 w218 hF h2 h3 h4 h5 h6 h7 hat r74 r75 r69 r70 r71 r72 r73 hT hxc hW hS hl
                  have hcs : 306 + 20 * x3 + 0 ≤ (rmL 8 466 212000).cells ∧ 148000 + 8000 * x3 + 0 ≤ (rmL 8 466 212000).slots := ⟨by show _ ≤ 466; omega, by show _ ≤ 212000; omega⟩
                  have hlT := gnT_le (drw cy) (6 + 5 * (1 + drw cy 4 5)) (tC (drw cy)) x3
                  have hqT := dec2_le (1 + drw cy (6 + 5 * (1 + drw cy 4 5) + 2 * x3) 8)
                  have hqU := dec2_le (drw cy (6 + 5 * (1 + drw cy 4 5) + 2 * x3 + 1) 9)
                  have hg0 : drw cy (6 + 5 * (1 + drw cy 4 5) + 2 * x3) 8 < 8 := amN_lt (by decide)
                  have hg1 : drw cy (6 + 5 * (1 + drw cy 4 5) + 2 * x3 + 1) 9 < 9 := amN_lt (by decide)
                  refine lv_iload_n hx hb (dg D_L_bridge (i := 113) rfl) rfl (lv_at hl 2 rfl) ?_
                  refine lv_aload_n hx hb (dg D_L_bridge (i := 114) rfl) rfl (lv_at hl 0 rfl) ?_
                  refine rL_get (v := .int (nI (1 + (drw cy 5 2)))) X hW FI_L_96 (congrArg (fun z => some (Value.int z)) h7) (dg D_L_bridge (i := 115) rfl) ?_
                  refine n_icmp_ge (tgt := 319) hx hb (by omega) (by omega) (dg D_L_bridge (i := 116) rfl) (by decide) (fun c223 => ?_) (fun c223 => ?_)
                  · obtain rfl : x3 = 1 + drw cy 5 2 := by omega
                    refine n_iconst (a := 0) hx hb (dg D_L_bridge (i := 165) rfl) rfl ?_
                    refine lv_istore_n (lv' := [(2, .int (nI 0)), (0, .ref (ad bs 67)), (1, .ref a218)]) hx hb (dg D_L_bridge (i := 166) rfl) rfl hl (by decide) rfl (fun ls hl => ?_)
                    have loop321 := up_ind (P := fun x4 => ∀ (K321 : CI) (H : Heap) (locs : List Loc) (ls : Array Slot) (a321 w321 : Nat), (Fr SBr I K321) → (K321 67 2 = nI (2 + (drw cy 0 5))) → (K321 67 3 = nI (1 + (drw cy 1 3))) → (K321 67 4 = nI (drw cy 2 3)) → (K321 67 5 = nI (1 + (drw cy 3 3))) → (K321 67 6 = nI (1 + (drw cy 4 5))) → (K321 67 7 = nI (1 + (drw cy 5 2))) → (K321 67 1 = nI (6 + 5 * (1 + drw cy 4 5) + 2 * (1 + drw cy 5 2) + x4)) → (rowP K321 76 x4 (fun x => nI (drw cy (6 + 5 * (1 + drw cy 4 5) + 2 * (1 + drw cy 5 2) + x) 30))) → (rowP K321 74 (1 + drw cy 5 2) (fun x => nI (1 + drw cy (6 + 5 * (1 + drw cy 4 5) + 2 * x) 8))) → (rowP K321 75 (1 + drw cy 5 2) (fun x => nI (drw cy (6 + 5 * (1 + drw cy 4 5) + 2 * x + 1) 9))) → (rowP K321 69 (1 + drw cy 4 5) (fun x => nI (drw cy (6 + 5 * x) (1 + drw cy 3 3 + 1)) - nI 1)) → (rowP K321 70 (1 + drw cy 4 5) (fun x => nI (1 + drw cy (6 + 5 * x + 1) 30))) → (rowP K321 71 (1 + drw cy 4 5) (fun x => nI (drw cy (6 + 5 * x + 2) 60))) → (rowP K321 72 (1 + drw cy 4 5) (fun x => nI (1 + drw cy (6 + 5 * x + 3) 20))) → (rowP K321 73 (1 + drw cy 4 5) (fun x => nI (30 + drw cy (6 + 5 * x + 4) 60))) → TW G cy bs s H [] [(a321, w321, (dyT (drw cy) (6 + 5 * (1 + drw cy 4 5) + 2 * (1 + drw cy 5 2)) (tD (drw cy)) x4))] → TxC G cy s.heap.size H (a321, w321, (dyT (drw cy) (6 + 5 * (1 + drw cy 4 5) + 2 * (1 + drw cy 5 2)) (tD (drw cy)) x4)) → Wd G bs cy K321 L R H → va_S (Ar bs s.heap.size) s.heap H locs → lv_has ls 3 [(0, .ref (ad bs 67)), (1, .ref a321), (2, .int (nI x4))] → W p l e (rmL 8 466 212000) s m args below meth c H locs (346 + 20 * x4) (164000 + 8000 * x4) Qf (F0 m 321 ls [])) (2 + drw cy 0 5) (fun x4 hx321 ih321 => by
                        intro K321 H locs ls a321 w321 hF h2 h3 h4 h5 h6 h7 hat r76 r74 r75 r69 r70 r71 r72 r73 hT hxc hW hS hl
                        have hcs : 346 + 20 * x4 + 0 ≤ (rmL 8 466 212000).cells ∧ 164000 + 8000 * x4 + 0 ≤ (rmL 8 466 212000).slots := ⟨by show _ ≤ 466; omega, by show _ ≤ 212000; omega⟩
                        have hlT := dyT_le (drw cy) (6 + 5 * (1 + drw cy 4 5) + 2 * (1 + drw cy 5 2)) (tD (drw cy)) x4
                        have hqT := dec2_le x4
                        have hqU := dec2_le (drw cy (6 + 5 * (1 + drw cy 4 5) + 2 * (1 + drw cy 5 2) + x4) 30)
                        have hg0 : drw cy (6 + 5 * (1 + drw cy 4 5) + 2 * (1 + drw cy 5 2) + x4) 30 < 30 := amN_lt (by decide)
                        refine lv_iload_n hx hb (dg D_L_bridge (i := 167) rfl) rfl (lv_at hl 2 rfl) ?_
                        refine lv_aload_n hx hb (dg D_L_bridge (i := 168) rfl) rfl (lv_at hl 0 rfl) ?_
                        refine rL_get (v := .int (nI (2 + (drw cy 0 5)))) X hW FI_L_81 (congrArg (fun z => some (Value.int z)) h2) (dg D_L_bridge (i := 169) rfl) ?_
                        refine n_icmp_ge (tgt := 390) hx hb (by omega) (by omega) (dg D_L_bridge (i := 170) rfl) (by decide) (fun c326 => ?_) (fun c326 => ?_)
                        · obtain rfl : x4 = 2 + drw cy 0 5 := by omega
                          refine lv_aload_n hx hb (dg D_L_bridge (i := 200) rfl) rfl (lv_at hl 1 rfl) ?_
                          exact fin (x := (a321, w321, (brT (drw cy)))) (dg D_L_bridge (i := 201) rfl) (by omega) (by omega) hW hS hxc ⟨rfl, hF, (hat.trans (congrArg nI (by omega))), h2, h3, h4, h5, h6, h7, r69, r70, r71, r72, r73, r74, r75, r76, rfl, rfl⟩
                        · refine lv_aload_n hx hb (dg D_L_bridge (i := 171) rfl) rfl (lv_at hl 0 rfl) ?_
                          refine rL_get X hW FI_L_34 rfl (dg D_L_bridge (i := 172) rfl) ?_
                          refine lv_iload_n hx hb (dg D_L_bridge (i := 173) rfl) rfl (lv_at hl 2 rfl) ?_
                          refine lv_aload_n hx hb (dg D_L_bridge (i := 174) rfl) rfl (lv_at hl 0 rfl) ?_
                          refine lv_bipush (v := nI 30) hx hb (dg D_L_bridge (i := 175) rfl) (by decide) ?_
                          refine gO_i X hA hW hT hS hR (c_L_chosen (I := K321) (6 + 5 * (1 + drw cy 4 5) + 2 * (1 + drw cy 5 2) + x4) 30 (by first | exact hR67 | assumption | omega | decide | exact hP.1) (by first | exact hat | assumption | omega | decide | exact hP.1) (by first | exact hk9 | assumption | omega | decide | exact hP.1) (by first | exact hm0 | assumption | omega | decide | exact hP.1) (by first | exact hm9 | assumption | omega | decide | exact hP.1)) (by decide) UVL_chosen LK_L_78 rfl rfl (Nat.le_of_ble_eq_true rfl) hl hcs (dg D_L_bridge (i := 176) rfl) (fun r337 I337 L1 R1 H locs hq hW hT hS => ?_)
                          obtain ⟨rfl, hT337, hp337_0, rfl, rfl⟩ := hq
                          have hF : Fr SBr I I337 := Fr.tr hF hT337 (fun _ _ h => SAt_SBr h)
                          have h2 : I337 67 2 = nI (2 + (drw cy 0 5)) := (hT337 67 2 rfl).trans h2
                          have h3 : I337 67 3 = nI (1 + (drw cy 1 3)) := (hT337 67 3 rfl).trans h3
                          have h4 : I337 67 4 = nI (drw cy 2 3) := (hT337 67 4 rfl).trans h4
                          have h5 : I337 67 5 = nI (1 + (drw cy 3 3)) := (hT337 67 5 rfl).trans h5
                          have h6 : I337 67 6 = nI (1 + (drw cy 4 5)) := (hT337 67 6 rfl).trans h6
                          have h7 : I337 67 7 = nI (1 + (drw cy 5 2)) := (hT337 67 7 rfl).trans h7
                          have r76 : rowP I337 76 x4 (fun x => nI (drw cy (6 + 5 * (1 + drw cy 4 5) + 2 * (1 + drw cy 5 2) + x) 30)) := r76.fr hT337 (fun _ => rfl)
                          have r74 : rowP I337 74 (1 + drw cy 5 2) (fun x => nI (1 + drw cy (6 + 5 * (1 + drw cy 4 5) + 2 * x) 8)) := r74.fr hT337 (fun _ => rfl)
                          have r75 : rowP I337 75 (1 + drw cy 5 2) (fun x => nI (drw cy (6 + 5 * (1 + drw cy 4 5) + 2 * x + 1) 9)) := r75.fr hT337 (fun _ => rfl)
                          have r69 : rowP I337 69 (1 + drw cy 4 5) (fun x => nI (drw cy (6 + 5 * x) (1 + drw cy 3 3 + 1)) - nI 1) := r69.fr hT337 (fun _ => rfl)
                          have r70 : rowP I337 70 (1 + drw cy 4 5) (fun x => nI (1 + drw cy (6 + 5 * x + 1) 30)) := r70.fr hT337 (fun _ => rfl)
                          have r71 : rowP I337 71 (1 + drw cy 4 5) (fun x => nI (drw cy (6 + 5 * x + 2) 60)) := r71.fr hT337 (fun _ => rfl)
                          have r72 : rowP I337 72 (1 + drw cy 4 5) (fun x => nI (1 + drw cy (6 + 5 * x + 3) 20)) := r72.fr hT337 (fun _ => rfl)
                          have r73 : rowP I337 73 (1 + drw cy 4 5) (fun x => nI (30 + drw cy (6 + 5 * x + 4) 60)) := r73.fr hT337 (fun _ => rfl)
                          have hat : I337 67 1 = nI (6 + 5 * (1 + drw cy 4 5) + 2 * (1 + drw cy 5 2) + x4 + 1) := hp337_0
                          refine gL_ast (j := x4) (v := nI (drw cy (6 + 5 * (1 + drw cy 4 5) + 2 * (1 + drw cy 5 2) + x4) 30)) X hA hW hT hS rfl ⟨by decide, by decide⟩ rfl (by omega) (by decide) (dg D_L_bridge (i := 177) rfl) (fun H locs hW hT hS => ?_)
                          have hF : Fr SBr I (u2 I337 76 x4 (nI (drw cy (6 + 5 * (1 + drw cy 4 5) + 2 * (1 + drw cy 5 2) + x4) 30))) := Fr.put hF rfl
                          obtain ⟨J340, eJ340⟩ : ∃ J, J = u2 I337 76 x4 (nI (drw cy (6 + 5 * (1 + drw cy 4 5) + 2 * (1 + drw cy 5 2) + x4) 30)) := ⟨_, rfl⟩
                          rw [← eJ340] at hW hF
                          have h2 : J340 67 2 = nI (2 + (drw cy 0 5)) := by rw [eJ340, u2_off (Or.inl (by decide))]; exact h2
                          have h3 : J340 67 3 = nI (1 + (drw cy 1 3)) := by rw [eJ340, u2_off (Or.inl (by decide))]; exact h3
                          have h4 : J340 67 4 = nI (drw cy 2 3) := by rw [eJ340, u2_off (Or.inl (by decide))]; exact h4
                          have h5 : J340 67 5 = nI (1 + (drw cy 3 3)) := by rw [eJ340, u2_off (Or.inl (by decide))]; exact h5
                          have h6 : J340 67 6 = nI (1 + (drw cy 4 5)) := by rw [eJ340, u2_off (Or.inl (by decide))]; exact h6
                          have h7 : J340 67 7 = nI (1 + (drw cy 5 2)) := by rw [eJ340, u2_off (Or.inl (by decide))]; exact h7
                          have hat : J340 67 1 = nI (6 + 5 * (1 + drw cy 4 5) + 2 * (1 + drw cy 5 2) + x4 + 1) := by rw [eJ340, u2_off (Or.inl (by decide))]; exact hat
                          have r76 : rowP J340 76 (x4 + 1) (fun x => nI (drw cy (6 + 5 * (1 + drw cy 4 5) + 2 * (1 + drw cy 5 2) + x) 30)) := by rw [eJ340]; exact r76.ext rfl
                          have r74 : rowP J340 74 (1 + drw cy 5 2) (fun x => nI (1 + drw cy (6 + 5 * (1 + drw cy 4 5) + 2 * x) 8)) := by rw [eJ340]; exact r74.keep (by decide)
                          have r75 : rowP J340 75 (1 + drw cy 5 2) (fun x => nI (drw cy (6 + 5 * (1 + drw cy 4 5) + 2 * x + 1) 9)) := by rw [eJ340]; exact r75.keep (by decide)
                          have r69 : rowP J340 69 (1 + drw cy 4 5) (fun x => nI (drw cy (6 + 5 * x) (1 + drw cy 3 3 + 1)) - nI 1) := by rw [eJ340]; exact r69.keep (by decide)
                          have r70 : rowP J340 70 (1 + drw cy 4 5) (fun x => nI (1 + drw cy (6 + 5 * x + 1) 30)) := by rw [eJ340]; exact r70.keep (by decide)
                          have r71 : rowP J340 71 (1 + drw cy 4 5) (fun x => nI (drw cy (6 + 5 * x + 2) 60)) := by rw [eJ340]; exact r71.keep (by decide)
                          have r72 : rowP J340 72 (1 + drw cy 4 5) (fun x => nI (1 + drw cy (6 + 5 * x + 3) 20)) := by rw [eJ340]; exact r72.keep (by decide)
                          have r73 : rowP J340 73 (1 + drw cy 4 5) (fun x => nI (30 + drw cy (6 + 5 * x + 4) 60)) := by rw [eJ340]; exact r73.keep (by decide)
                          refine g_sb X hA hW hT hS hR (by decide) (Nat.le_of_ble_eq_true rfl) hl (⟨by show _ ≤ 466; omega, by show _ ≤ 212000; omega⟩) (dg D_L_bridge (i := 178) rfl) (dg D_L_bridge (i := 179) rfl) (dg D_L_bridge (i := 180) rfl) (fun q341 v341 H locs hW hT hS => ?_)
                          have hcs : 346 + 20 * x4 + 1 + 1 ≤ (rmL 8 466 212000).cells ∧ 164000 + 8000 * x4 + 4 + 16 ≤ (rmL 8 466 212000).slots := ⟨by show _ ≤ 466; omega, by show _ ≤ 212000; omega⟩
                          refine lv_aload_n hx hb (dg D_L_bridge (i := 181) rfl) rfl (lv_at hl 1 rfl) ?_
                          refine g_appS (x := (a321, w321, (dyT (drw cy) (6 + 5 * (1 + drw cy 4 5) + 2 * (1 + drw cy 5 2)) (tD (drw cy)) x4))) X hA hW hT hS hR (by decide) (List.mem_of_getElem? (i := 0) rfl) (by simp only [List.length_append, List.length_cons, List.length_nil]; omega) (Nat.le_of_ble_eq_true rfl) hl (⟨by show _ ≤ 466; omega, by show _ ≤ 212000; omega⟩) (dg D_L_bridge (i := 182) rfl) (fun v349 H locs hW hT hS => ?_)
                          have hT : TW G cy bs s H [(q341, v349, [] ++ ((dyT (drw cy) (6 + 5 * (1 + drw cy 4 5) + 2 * (1 + drw cy 5 2)) (tD (drw cy)) x4)))] [(a321, w321, (dyT (drw cy) (6 + 5 * (1 + drw cy 4 5) + 2 * (1 + drw cy 5 2)) (tD (drw cy)) x4))] := hT
                          have hcs : 346 + 20 * x4 + 1 + 1 + 1 ≤ (rmL 8 466 212000).cells ∧ 164000 + 8000 * x4 + 4 + 16 + 600 ≤ (rmL 8 466 212000).slots := ⟨by show _ ≤ 466; omega, by show _ ≤ 212000; omega⟩
                          refine g_ldc (i := 5) X (by decide) rfl (dg D_L_bridge (i := 183) rfl) ?_
                          refine g_appL (i := 5) (t := [119, 101, 97, 116, 104, 101, 114, 32]) X hA hW hT hS hR (by decide) (by decide) rfl (by simp only [List.length_append, List.length_cons, List.length_nil]; omega) (Nat.le_of_ble_eq_true rfl) hl (⟨by show _ ≤ 466; omega, by show _ ≤ 212000; omega⟩) (dg D_L_bridge (i := 184) rfl) (fun v354 H locs hW hT hS => ?_)
                          have hT : TW G cy bs s H [(q341, v354, [] ++ ((dyT (drw cy) (6 + 5 * (1 + drw cy 4 5) + 2 * (1 + drw cy 5 2)) (tD (drw cy)) x4)) ++ [119, 101, 97, 116, 104, 101, 114, 32])] [(a321, w321, (dyT (drw cy) (6 + 5 * (1 + drw cy 4 5) + 2 * (1 + drw cy 5 2)) (tD (drw cy)) x4))] := hT
                          have hcs : 346 + 20 * x4 + 1 + 1 + 1 + 1 ≤ (rmL 8 466 212000).cells ∧ 164000 + 8000 * x4 + 4 + 16 + 600 + 600 ≤ (rmL 8 466 212000).slots := ⟨by show _ ≤ 466; omega, by show _ ≤ 212000; omega⟩
                          refine lv_iload_n hx hb (dg D_L_bridge (i := 185) rfl) rfl (lv_at hl 2 rfl) ?_
                          refine g_appI (x9 := x4) X hA hW hT hS hR (by decide) (by omega) (by simp only [List.length_append, List.length_cons, List.length_nil]; omega) (Nat.le_of_ble_eq_true rfl) hl (⟨by show _ ≤ 466; omega, by show _ ≤ 212000; omega⟩) (dg D_L_bridge (i := 186) rfl) (fun v358 H locs hW hT hS => ?_)
                          have hT : TW G cy bs s H [(q341, v358, [] ++ ((dyT (drw cy) (6 + 5 * (1 + drw cy 4 5) + 2 * (1 + drw cy 5 2)) (tD (drw cy)) x4)) ++ [119, 101, 97, 116, 104, 101, 114, 32] ++ dec2 x4)] [(a321, w321, (dyT (drw cy) (6 + 5 * (1 + drw cy 4 5) + 2 * (1 + drw cy 5 2)) (tD (drw cy)) x4))] := hT
                          have hcs : 346 + 20 * x4 + 1 + 1 + 1 + 1 + 1 ≤ (rmL 8 466 212000).cells ∧ 164000 + 8000 * x4 + 4 + 16 + 600 + 600 + 600 ≤ (rmL 8 466 212000).slots := ⟨by show _ ≤ 466; omega, by show _ ≤ 212000; omega⟩
                          refine g_ldc (i := 1) X (by decide) rfl (dg D_L_bridge (i := 187) rfl) ?_
                          refine g_appL (i := 1) (t := [32]) X hA hW hT hS hR (by decide) (by decide) rfl (by simp only [List.length_append, List.length_cons, List.length_nil]; omega) (Nat.le_of_ble_eq_true rfl) hl (⟨by show _ ≤ 466; omega, by show _ ≤ 212000; omega⟩) (dg D_L_bridge (i := 188) rfl) (fun v363 H locs hW hT hS => ?_)
                          have hT : TW G cy bs s H [(q341, v363, [] ++ ((dyT (drw cy) (6 + 5 * (1 + drw cy 4 5) + 2 * (1 + drw cy 5 2)) (tD (drw cy)) x4)) ++ [119, 101, 97, 116, 104, 101, 114, 32] ++ dec2 x4 ++ [32])] [(a321, w321, (dyT (drw cy) (6 + 5 * (1 + drw cy 4 5) + 2 * (1 + drw cy 5 2)) (tD (drw cy)) x4))] := hT
                          have hcs : 346 + 20 * x4 + 1 + 1 + 1 + 1 + 1 + 1 ≤ (rmL 8 466 212000).cells ∧ 164000 + 8000 * x4 + 4 + 16 + 600 + 600 + 600 + 600 ≤ (rmL 8 466 212000).slots := ⟨by show _ ≤ 466; omega, by show _ ≤ 212000; omega⟩
                          refine lv_aload_n hx hb (dg D_L_bridge (i := 189) rfl) rfl (lv_at hl 0 rfl) ?_
                          refine rL_get X hW FI_L_34 rfl (dg D_L_bridge (i := 190) rfl) ?_
                          refine lv_iload_n hx hb (dg D_L_bridge (i := 191) rfl) rfl (lv_at hl 2 rfl) ?_
                          refine rL_ald (j := x4) (v := nI (drw cy (6 + 5 * (1 + drw cy 4 5) + 2 * (1 + drw cy 5 2) + x4) 30)) X hW rfl ⟨by decide, by decide⟩ rfl (by omega) (by decide) (r76 _ (by omega)) (dg D_L_bridge (i := 192) rfl) ?_
                          refine g_appI (x9 := (drw cy (6 + 5 * (1 + drw cy 4 5) + 2 * (1 + drw cy 5 2) + x4) 30)) X hA hW hT hS hR (by decide) (by omega) (by simp only [List.length_append, List.length_cons, List.length_nil]; omega) (Nat.le_of_ble_eq_true rfl) hl (⟨by show _ ≤ 466; omega, by show _ ≤ 212000; omega⟩) (dg D_L_bridge (i := 193) rfl) (fun v372 H locs hW hT hS => ?_)
                          have hT : TW G cy bs s H [(q341, v372, [] ++ ((dyT (drw cy) (6 + 5 * (1 + drw cy 4 5) + 2 * (1 + drw cy 5 2)) (tD (drw cy)) x4)) ++ [119, 101, 97, 116, 104, 101, 114, 32] ++ dec2 x4 ++ [32] ++ dec2 (drw cy (6 + 5 * (1 + drw cy 4 5) + 2 * (1 + drw cy 5 2) + x4) 30))] [(a321, w321, (dyT (drw cy) (6 + 5 * (1 + drw cy 4 5) + 2 * (1 + drw cy 5 2)) (tD (drw cy)) x4))] := hT
                          have hcs : 346 + 20 * x4 + 1 + 1 + 1 + 1 + 1 + 1 + 1 ≤ (rmL 8 466 212000).cells ∧ 164000 + 8000 * x4 + 4 + 16 + 600 + 600 + 600 + 600 + 600 ≤ (rmL 8 466 212000).slots := ⟨by show _ ≤ 466; omega, by show _ ≤ 212000; omega⟩
                          refine g_ldc (i := 2) X (by decide) rfl (dg D_L_bridge (i := 194) rfl) ?_
                          refine g_appL (i := 2) (t := [59]) X hA hW hT hS hR (by decide) (by decide) rfl (by simp only [List.length_append, List.length_cons, List.length_nil]; omega) (Nat.le_of_ble_eq_true rfl) hl (⟨by show _ ≤ 466; omega, by show _ ≤ 212000; omega⟩) (dg D_L_bridge (i := 195) rfl) (fun v377 H locs hW hT hS => ?_)
                          have hT : TW G cy bs s H [(q341, v377, [] ++ ((dyT (drw cy) (6 + 5 * (1 + drw cy 4 5) + 2 * (1 + drw cy 5 2)) (tD (drw cy)) x4)) ++ [119, 101, 97, 116, 104, 101, 114, 32] ++ dec2 x4 ++ [32] ++ dec2 (drw cy (6 + 5 * (1 + drw cy 4 5) + 2 * (1 + drw cy 5 2) + x4) 30) ++ [59])] [(a321, w321, (dyT (drw cy) (6 + 5 * (1 + drw cy 4 5) + 2 * (1 + drw cy 5 2)) (tD (drw cy)) x4))] := hT
                          have hcs : 346 + 20 * x4 + 1 + 1 + 1 + 1 + 1 + 1 + 1 + 1 ≤ (rmL 8 466 212000).cells ∧ 164000 + 8000 * x4 + 4 + 16 + 600 + 600 + 600 + 600 + 600 + 600 ≤ (rmL 8 466 212000).slots := ⟨by show _ ≤ 466; omega, by show _ ≤ 212000; omega⟩
                          refine g_toS X hA hW hT hS hR (by decide) (by simp only [List.length_append, List.length_cons, List.length_nil]; omega) (Nat.le_of_ble_eq_true rfl) hl (⟨by show _ ≤ 466; omega, by show _ + (List.length _ + 4) ≤ 212000; have := (show ([] ++ ((dyT (drw cy) (6 + 5 * (1 + drw cy 4 5) + 2 * (1 + drw cy 5 2)) (tD (drw cy)) x4)) ++ [119, 101, 97, 116, 104, 101, 114, 32] ++ dec2 x4 ++ [32] ++ dec2 (drw cy (6 + 5 * (1 + drw cy 4 5) + 2 * (1 + drw cy 5 2) + x4) 30) ++ [59]).length ≤ 300 from by simp only [List.length_append, List.length_cons, List.length_nil]; omega); omega⟩) (dg D_L_bridge (i := 196) rfl) (fun ⟨a380, w380, t380⟩ H locs htx380 hxc hW hT hS => ?_)
                          have htx380 : t380 = [] ++ ((dyT (drw cy) (6 + 5 * (1 + drw cy 4 5) + 2 * (1 + drw cy 5 2)) (tD (drw cy)) x4)) ++ [119, 101, 97, 116, 104, 101, 114, 32] ++ dec2 x4 ++ [32] ++ dec2 (drw cy (6 + 5 * (1 + drw cy 4 5) + 2 * (1 + drw cy 5 2) + x4) 30) ++ [59] := htx380
                          subst htx380
                          refine W.widen (k := 346 + 20 * x4 + 1 + 1 + 1 + 1 + 1 + 1 + 1 + 1 + 2) (n := 164000 + 8000 * x4 + 4 + 16 + 600 + 600 + 600 + 600 + 600 + 600 + 304) (by omega) (by have := (show ([] ++ ((dyT (drw cy) (6 + 5 * (1 + drw cy 4 5) + 2 * (1 + drw cy 5 2)) (tD (drw cy)) x4)) ++ [119, 101, 97, 116, 104, 101, 114, 32] ++ dec2 x4 ++ [32] ++ dec2 (drw cy (6 + 5 * (1 + drw cy 4 5) + 2 * (1 + drw cy 5 2) + x4) 30) ++ [59]).length ≤ 300 from by simp only [List.length_append, List.length_cons, List.length_nil]; omega); omega) ?_
                          have hcs : 346 + 20 * x4 + 1 + 1 + 1 + 1 + 1 + 1 + 1 + 1 + 2 ≤ (rmL 8 466 212000).cells ∧ 164000 + 8000 * x4 + 4 + 16 + 600 + 600 + 600 + 600 + 600 + 600 + 304 ≤ (rmL 8 466 212000).slots := ⟨by show _ ≤ 466; omega, by show _ ≤ 212000; omega⟩
                          refine lv_astore_n (lv' := [(1, .ref a380), (0, .ref (ad bs 67)), (2, .int (nI x4))]) hx hb (dg D_L_bridge (i := 197) rfl) rfl hl (by decide) rfl (fun ls hl => ?_)
                          refine lv_iinc (v := nI (x4 + 1)) (lv' := [(2, .int (nI (x4 + 1))), (1, .ref a380), (0, .ref (ad bs 67))]) hx hb (dg D_L_bridge (i := 198) rfl) hl (k := 2) rfl (nI_add _ _) (by decide) rfl (fun ls hl => ?_)
                          refine lv_goto (tgt := 321) hx hb (dg D_L_bridge (i := 199) rfl) (by decide) ?_
                          refine W.widen (k := 346 + 20 * (x4 + 1)) (n := 164000 + 8000 * (x4 + 1)) (by omega) (by omega) ?_
                          exact ih321 (by omega) J340 _ _ _ a380 w380 hF h2 h3 h4 h5 h6 h7 (hat.trans (congrArg nI (by omega))) r76 r74 r75 r69 r70 r71 r72 r73 hT.hd hxc hW hS (lv_sub hl [2, 1, 0] rfl))
                    refine W.widen (k := 346 + 20 * 0) (n := 164000 + 8000 * 0) (by omega) (by omega) ?_
                    exact loop321 0 (Nat.zero_le _) K218 _ _ _ a218 w218 hF h2 h3 h4 h5 h6 h7 (hat.trans (congrArg nI (by omega))) rowP.zero r74 r75 r69 r70 r71 r72 r73 hT.hd hxc hW hS (lv_sub hl [1, 2, 0] rfl)
                  · refine lv_aload_n hx hb (dg D_L_bridge (i := 117) rfl) rfl (lv_at hl 0 rfl) ?_
                    refine rL_get X hW FI_L_28 rfl (dg D_L_bridge (i := 118) rfl) ?_
                    refine lv_iload_n hx hb (dg D_L_bridge (i := 119) rfl) rfl (lv_at hl 2 rfl) ?_
                    refine n_iconst (a := 1) hx hb (dg D_L_bridge (i := 120) rfl) rfl ?_
                    refine lv_aload_n hx hb (dg D_L_bridge (i := 121) rfl) rfl (lv_at hl 0 rfl) ?_
                    refine lv_bipush (v := nI 8) hx hb (dg D_L_bridge (i := 122) rfl) (by decide) ?_
                    refine gO_i X hA hW hT hS hR (c_L_chosen (I := K218) (6 + 5 * (1 + drw cy 4 5) + 2 * x3) 8 (by first | exact hR67 | assumption | omega | decide | exact hP.1) (by first | exact hat | assumption | omega | decide | exact hP.1) (by first | exact hk9 | assumption | omega | decide | exact hP.1) (by first | exact hm0 | assumption | omega | decide | exact hP.1) (by first | exact hm9 | assumption | omega | decide | exact hP.1)) (by decide) UVL_chosen LK_L_78 rfl rfl (Nat.le_of_ble_eq_true rfl) hl hcs (dg D_L_bridge (i := 123) rfl) (fun r235 I235 L1 R1 H locs hq hW hT hS => ?_)
                    obtain ⟨rfl, hT235, hp235_0, rfl, rfl⟩ := hq
                    have hF : Fr SBr I I235 := Fr.tr hF hT235 (fun _ _ h => SAt_SBr h)
                    have h2 : I235 67 2 = nI (2 + (drw cy 0 5)) := (hT235 67 2 rfl).trans h2
                    have h3 : I235 67 3 = nI (1 + (drw cy 1 3)) := (hT235 67 3 rfl).trans h3
                    have h4 : I235 67 4 = nI (drw cy 2 3) := (hT235 67 4 rfl).trans h4
                    have h5 : I235 67 5 = nI (1 + (drw cy 3 3)) := (hT235 67 5 rfl).trans h5
                    have h6 : I235 67 6 = nI (1 + (drw cy 4 5)) := (hT235 67 6 rfl).trans h6
                    have h7 : I235 67 7 = nI (1 + (drw cy 5 2)) := (hT235 67 7 rfl).trans h7
                    have r74 : rowP I235 74 x3 (fun x => nI (1 + drw cy (6 + 5 * (1 + drw cy 4 5) + 2 * x) 8)) := r74.fr hT235 (fun _ => rfl)
                    have r75 : rowP I235 75 x3 (fun x => nI (drw cy (6 + 5 * (1 + drw cy 4 5) + 2 * x + 1) 9)) := r75.fr hT235 (fun _ => rfl)
                    have r69 : rowP I235 69 (1 + drw cy 4 5) (fun x => nI (drw cy (6 + 5 * x) (1 + drw cy 3 3 + 1)) - nI 1) := r69.fr hT235 (fun _ => rfl)
                    have r70 : rowP I235 70 (1 + drw cy 4 5) (fun x => nI (1 + drw cy (6 + 5 * x + 1) 30)) := r70.fr hT235 (fun _ => rfl)
                    have r71 : rowP I235 71 (1 + drw cy 4 5) (fun x => nI (drw cy (6 + 5 * x + 2) 60)) := r71.fr hT235 (fun _ => rfl)
                    have r72 : rowP I235 72 (1 + drw cy 4 5) (fun x => nI (1 + drw cy (6 + 5 * x + 3) 20)) := r72.fr hT235 (fun _ => rfl)
                    have r73 : rowP I235 73 (1 + drw cy 4 5) (fun x => nI (30 + drw cy (6 + 5 * x + 4) 60)) := r73.fr hT235 (fun _ => rfl)
                    have hat : I235 67 1 = nI (6 + 5 * (1 + drw cy 4 5) + 2 * x3 + 1) := hp235_0
                    refine n_iadd hx hb (dg D_L_bridge (i := 124) rfl) ?_
                    refine gL_ast (j := x3) (v := nI (1 + (drw cy (6 + 5 * (1 + drw cy 4 5) + 2 * x3) 8))) X hA hW hT hS rfl ⟨by decide, by decide⟩ rfl (by omega) (by decide) (dg D_L_bridge (i := 125) rfl) (fun H locs hW hT hS => ?_)
                    have hF : Fr SBr I (u2 I235 74 x3 (nI (1 + (drw cy (6 + 5 * (1 + drw cy 4 5) + 2 * x3) 8)))) := Fr.put hF rfl
                    obtain ⟨J239, eJ239⟩ : ∃ J, J = u2 I235 74 x3 (nI (1 + (drw cy (6 + 5 * (1 + drw cy 4 5) + 2 * x3) 8))) := ⟨_, rfl⟩
                    rw [← eJ239] at hW hF
                    have h2 : J239 67 2 = nI (2 + (drw cy 0 5)) := by rw [eJ239, u2_off (Or.inl (by decide))]; exact h2
                    have h3 : J239 67 3 = nI (1 + (drw cy 1 3)) := by rw [eJ239, u2_off (Or.inl (by decide))]; exact h3
                    have h4 : J239 67 4 = nI (drw cy 2 3) := by rw [eJ239, u2_off (Or.inl (by decide))]; exact h4
                    have h5 : J239 67 5 = nI (1 + (drw cy 3 3)) := by rw [eJ239, u2_off (Or.inl (by decide))]; exact h5
                    have h6 : J239 67 6 = nI (1 + (drw cy 4 5)) := by rw [eJ239, u2_off (Or.inl (by decide))]; exact h6
                    have h7 : J239 67 7 = nI (1 + (drw cy 5 2)) := by rw [eJ239, u2_off (Or.inl (by decide))]; exact h7
                    have hat : J239 67 1 = nI (6 + 5 * (1 + drw cy 4 5) + 2 * x3 + 1) := by rw [eJ239, u2_off (Or.inl (by decide))]; exact hat
                    have r74 : rowP J239 74 (x3 + 1) (fun x => nI (1 + drw cy (6 + 5 * (1 + drw cy 4 5) + 2 * x) 8)) := by rw [eJ239]; exact r74.ext rfl
                    have r75 : rowP J239 75 x3 (fun x => nI (drw cy (6 + 5 * (1 + drw cy 4 5) + 2 * x + 1) 9)) := by rw [eJ239]; exact r75.keep (by decide)
                    have r69 : rowP J239 69 (1 + drw cy 4 5) (fun x => nI (drw cy (6 + 5 * x) (1 + drw cy 3 3 + 1)) - nI 1) := by rw [eJ239]; exact r69.keep (by decide)
                    have r70 : rowP J239 70 (1 + drw cy 4 5) (fun x => nI (1 + drw cy (6 + 5 * x + 1) 30)) := by rw [eJ239]; exact r70.keep (by decide)
                    have r71 : rowP J239 71 (1 + drw cy 4 5) (fun x => nI (drw cy (6 + 5 * x + 2) 60)) := by rw [eJ239]; exact r71.keep (by decide)
                    have r72 : rowP J239 72 (1 + drw cy 4 5) (fun x => nI (1 + drw cy (6 + 5 * x + 3) 20)) := by rw [eJ239]; exact r72.keep (by decide)
                    have r73 : rowP J239 73 (1 + drw cy 4 5) (fun x => nI (30 + drw cy (6 + 5 * x + 4) 60)) := by rw [eJ239]; exact r73.keep (by decide)
                    refine lv_aload_n hx hb (dg D_L_bridge (i := 126) rfl) rfl (lv_at hl 0 rfl) ?_
                    refine rL_get X hW FI_L_31 rfl (dg D_L_bridge (i := 127) rfl) ?_
                    refine lv_iload_n hx hb (dg D_L_bridge (i := 128) rfl) rfl (lv_at hl 2 rfl) ?_
                    refine lv_aload_n hx hb (dg D_L_bridge (i := 129) rfl) rfl (lv_at hl 0 rfl) ?_
                    refine lv_bipush (v := nI 9) hx hb (dg D_L_bridge (i := 130) rfl) (by decide) ?_
                    refine gO_i X hA hW hT hS hR (c_L_chosen (I := J239) (6 + 5 * (1 + drw cy 4 5) + 2 * x3 + 1) 9 (by first | exact hR67 | assumption | omega | decide | exact hP.1) (by first | exact hat | assumption | omega | decide | exact hP.1) (by first | exact hk9 | assumption | omega | decide | exact hP.1) (by first | exact hm0 | assumption | omega | decide | exact hP.1) (by first | exact hm9 | assumption | omega | decide | exact hP.1)) (by decide) UVL_chosen LK_L_78 rfl rfl (Nat.le_of_ble_eq_true rfl) hl hcs (dg D_L_bridge (i := 131) rfl) (fun r248 I248 L1 R1 H locs hq hW hT hS => ?_)
                    obtain ⟨rfl, hT248, hp248_0, rfl, rfl⟩ := hq
                    have hF : Fr SBr I I248 := Fr.tr hF hT248 (fun _ _ h => SAt_SBr h)
                    have h2 : I248 67 2 = nI (2 + (drw cy 0 5)) := (hT248 67 2 rfl).trans h2
                    have h3 : I248 67 3 = nI (1 + (drw cy 1 3)) := (hT248 67 3 rfl).trans h3
                    have h4 : I248 67 4 = nI (drw cy 2 3) := (hT248 67 4 rfl).trans h4
                    have h5 : I248 67 5 = nI (1 + (drw cy 3 3)) := (hT248 67 5 rfl).trans h5
                    have h6 : I248 67 6 = nI (1 + (drw cy 4 5)) := (hT248 67 6 rfl).trans h6
                    have h7 : I248 67 7 = nI (1 + (drw cy 5 2)) := (hT248 67 7 rfl).trans h7
                    have r74 : rowP I248 74 (x3 + 1) (fun x => nI (1 + drw cy (6 + 5 * (1 + drw cy 4 5) + 2 * x) 8)) := r74.fr hT248 (fun _ => rfl)
                    have r75 : rowP I248 75 x3 (fun x => nI (drw cy (6 + 5 * (1 + drw cy 4 5) + 2 * x + 1) 9)) := r75.fr hT248 (fun _ => rfl)
                    have r69 : rowP I248 69 (1 + drw cy 4 5) (fun x => nI (drw cy (6 + 5 * x) (1 + drw cy 3 3 + 1)) - nI 1) := r69.fr hT248 (fun _ => rfl)
                    have r70 : rowP I248 70 (1 + drw cy 4 5) (fun x => nI (1 + drw cy (6 + 5 * x + 1) 30)) := r70.fr hT248 (fun _ => rfl)
                    have r71 : rowP I248 71 (1 + drw cy 4 5) (fun x => nI (drw cy (6 + 5 * x + 2) 60)) := r71.fr hT248 (fun _ => rfl)
                    have r72 : rowP I248 72 (1 + drw cy 4 5) (fun x => nI (1 + drw cy (6 + 5 * x + 3) 20)) := r72.fr hT248 (fun _ => rfl)
                    have r73 : rowP I248 73 (1 + drw cy 4 5) (fun x => nI (30 + drw cy (6 + 5 * x + 4) 60)) := r73.fr hT248 (fun _ => rfl)
                    have hat : I248 67 1 = nI (6 + 5 * (1 + drw cy 4 5) + 2 * x3 + 1 + 1) := hp248_0
                    refine gL_ast (j := x3) (v := nI (drw cy (6 + 5 * (1 + drw cy 4 5) + 2 * x3 + 1) 9)) X hA hW hT hS rfl ⟨by decide, by decide⟩ rfl (by omega) (by decide) (dg D_L_bridge (i := 132) rfl) (fun H locs hW hT hS => ?_)
                    have hF : Fr SBr I (u2 I248 75 x3 (nI (drw cy (6 + 5 * (1 + drw cy 4 5) + 2 * x3 + 1) 9))) := Fr.put hF rfl
                    obtain ⟨J251, eJ251⟩ : ∃ J, J = u2 I248 75 x3 (nI (drw cy (6 + 5 * (1 + drw cy 4 5) + 2 * x3 + 1) 9)) := ⟨_, rfl⟩
                    rw [← eJ251] at hW hF
                    have h2 : J251 67 2 = nI (2 + (drw cy 0 5)) := by rw [eJ251, u2_off (Or.inl (by decide))]; exact h2
                    have h3 : J251 67 3 = nI (1 + (drw cy 1 3)) := by rw [eJ251, u2_off (Or.inl (by decide))]; exact h3
                    have h4 : J251 67 4 = nI (drw cy 2 3) := by rw [eJ251, u2_off (Or.inl (by decide))]; exact h4
                    have h5 : J251 67 5 = nI (1 + (drw cy 3 3)) := by rw [eJ251, u2_off (Or.inl (by decide))]; exact h5
                    have h6 : J251 67 6 = nI (1 + (drw cy 4 5)) := by rw [eJ251, u2_off (Or.inl (by decide))]; exact h6
                    have h7 : J251 67 7 = nI (1 + (drw cy 5 2)) := by rw [eJ251, u2_off (Or.inl (by decide))]; exact h7
                    have hat : J251 67 1 = nI (6 + 5 * (1 + drw cy 4 5) + 2 * x3 + 1 + 1) := by rw [eJ251, u2_off (Or.inl (by decide))]; exact hat
                    have r74 : rowP J251 74 (x3 + 1) (fun x => nI (1 + drw cy (6 + 5 * (1 + drw cy 4 5) + 2 * x) 8)) := by rw [eJ251]; exact r74.keep (by decide)
                    have r75 : rowP J251 75 (x3 + 1) (fun x => nI (drw cy (6 + 5 * (1 + drw cy 4 5) + 2 * x + 1) 9)) := by rw [eJ251]; exact r75.ext rfl
                    have r69 : rowP J251 69 (1 + drw cy 4 5) (fun x => nI (drw cy (6 + 5 * x) (1 + drw cy 3 3 + 1)) - nI 1) := by rw [eJ251]; exact r69.keep (by decide)
                    have r70 : rowP J251 70 (1 + drw cy 4 5) (fun x => nI (1 + drw cy (6 + 5 * x + 1) 30)) := by rw [eJ251]; exact r70.keep (by decide)
                    have r71 : rowP J251 71 (1 + drw cy 4 5) (fun x => nI (drw cy (6 + 5 * x + 2) 60)) := by rw [eJ251]; exact r71.keep (by decide)
                    have r72 : rowP J251 72 (1 + drw cy 4 5) (fun x => nI (1 + drw cy (6 + 5 * x + 3) 20)) := by rw [eJ251]; exact r72.keep (by decide)
                    have r73 : rowP J251 73 (1 + drw cy 4 5) (fun x => nI (30 + drw cy (6 + 5 * x + 4) 60)) := by rw [eJ251]; exact r73.keep (by decide)
                    refine g_sb X hA hW hT hS hR (by decide) (Nat.le_of_ble_eq_true rfl) hl (⟨by show _ ≤ 466; omega, by show _ ≤ 212000; omega⟩) (dg D_L_bridge (i := 133) rfl) (dg D_L_bridge (i := 134) rfl) (dg D_L_bridge (i := 135) rfl) (fun q252 v252 H locs hW hT hS => ?_)
                    have hcs : 306 + 20 * x3 + 1 + 1 ≤ (rmL 8 466 212000).cells ∧ 148000 + 8000 * x3 + 4 + 16 ≤ (rmL 8 466 212000).slots := ⟨by show _ ≤ 466; omega, by show _ ≤ 212000; omega⟩
                    refine lv_aload_n hx hb (dg D_L_bridge (i := 136) rfl) rfl (lv_at hl 1 rfl) ?_
                    refine g_appS (x := (a218, w218, (gnT (drw cy) (6 + 5 * (1 + drw cy 4 5)) (tC (drw cy)) x3))) X hA hW hT hS hR (by decide) (List.mem_of_getElem? (i := 0) rfl) (by simp only [List.length_append, List.length_cons, List.length_nil]; omega) (Nat.le_of_ble_eq_true rfl) hl (⟨by show _ ≤ 466; omega, by show _ ≤ 212000; omega⟩) (dg D_L_bridge (i := 137) rfl) (fun v260 H locs hW hT hS => ?_)
                    have hT : TW G cy bs s H [(q252, v260, [] ++ ((gnT (drw cy) (6 + 5 * (1 + drw cy 4 5)) (tC (drw cy)) x3)))] [(a218, w218, (gnT (drw cy) (6 + 5 * (1 + drw cy 4 5)) (tC (drw cy)) x3))] := hT
                    have hcs : 306 + 20 * x3 + 1 + 1 + 1 ≤ (rmL 8 466 212000).cells ∧ 148000 + 8000 * x3 + 4 + 16 + 600 ≤ (rmL 8 466 212000).slots := ⟨by show _ ≤ 466; omega, by show _ ≤ 212000; omega⟩
                    refine g_ldc (i := 4) X (by decide) rfl (dg D_L_bridge (i := 138) rfl) ?_
                    refine g_appL (i := 4) (t := [103, 97, 110, 103, 32, 103]) X hA hW hT hS hR (by decide) (by decide) rfl (by simp only [List.length_append, List.length_cons, List.length_nil]; omega) (Nat.le_of_ble_eq_true rfl) hl (⟨by show _ ≤ 466; omega, by show _ ≤ 212000; omega⟩) (dg D_L_bridge (i := 139) rfl) (fun v265 H locs hW hT hS => ?_)
                    have hT : TW G cy bs s H [(q252, v265, [] ++ ((gnT (drw cy) (6 + 5 * (1 + drw cy 4 5)) (tC (drw cy)) x3)) ++ [103, 97, 110, 103, 32, 103])] [(a218, w218, (gnT (drw cy) (6 + 5 * (1 + drw cy 4 5)) (tC (drw cy)) x3))] := hT
                    have hcs : 306 + 20 * x3 + 1 + 1 + 1 + 1 ≤ (rmL 8 466 212000).cells ∧ 148000 + 8000 * x3 + 4 + 16 + 600 + 600 ≤ (rmL 8 466 212000).slots := ⟨by show _ ≤ 466; omega, by show _ ≤ 212000; omega⟩
                    refine lv_bipush (v := nI 97) hx hb (dg D_L_bridge (i := 140) rfl) (by decide) ?_
                    refine lv_iload_n hx hb (dg D_L_bridge (i := 141) rfl) rfl (lv_at hl 2 rfl) ?_
                    refine n_iadd hx hb (dg D_L_bridge (i := 142) rfl) ?_
                    refine lv_i2c (v := ((nI (97 + x3)).toUInt32 % 65536).toInt32) hx hb (dg D_L_bridge (i := 143) rfl) rfl ?_
                    rw [show ((nI (97 + x3)).toUInt32 % 65536).toInt32 = nI (97 + x3) from chr6 _ (by omega)]
                    refine g_appC (ch := (97 + x3)) X hA hW hT hS hR (by decide) (by omega) (by simp only [List.length_append, List.length_cons, List.length_nil]; omega) (Nat.le_of_ble_eq_true rfl) hl (⟨by show _ ≤ 466; omega, by show _ ≤ 212000; omega⟩) (dg D_L_bridge (i := 144) rfl) (fun v273 H locs hW hT hS => ?_)
                    have hT : TW G cy bs s H [(q252, v273, [] ++ ((gnT (drw cy) (6 + 5 * (1 + drw cy 4 5)) (tC (drw cy)) x3)) ++ [103, 97, 110, 103, 32, 103] ++ [97 + x3])] [(a218, w218, (gnT (drw cy) (6 + 5 * (1 + drw cy 4 5)) (tC (drw cy)) x3))] := hT
                    have hcs : 306 + 20 * x3 + 1 + 1 + 1 + 1 + 1 ≤ (rmL 8 466 212000).cells ∧ 148000 + 8000 * x3 + 4 + 16 + 600 + 600 + 600 ≤ (rmL 8 466 212000).slots := ⟨by show _ ≤ 466; omega, by show _ ≤ 212000; omega⟩
                    refine g_ldc (i := 1) X (by decide) rfl (dg D_L_bridge (i := 145) rfl) ?_
                    refine g_appL (i := 1) (t := [32]) X hA hW hT hS hR (by decide) (by decide) rfl (by simp only [List.length_append, List.length_cons, List.length_nil]; omega) (Nat.le_of_ble_eq_true rfl) hl (⟨by show _ ≤ 466; omega, by show _ ≤ 212000; omega⟩) (dg D_L_bridge (i := 146) rfl) (fun v278 H locs hW hT hS => ?_)
                    have hT : TW G cy bs s H [(q252, v278, [] ++ ((gnT (drw cy) (6 + 5 * (1 + drw cy 4 5)) (tC (drw cy)) x3)) ++ [103, 97, 110, 103, 32, 103] ++ [97 + x3] ++ [32])] [(a218, w218, (gnT (drw cy) (6 + 5 * (1 + drw cy 4 5)) (tC (drw cy)) x3))] := hT
                    have hcs : 306 + 20 * x3 + 1 + 1 + 1 + 1 + 1 + 1 ≤ (rmL 8 466 212000).cells ∧ 148000 + 8000 * x3 + 4 + 16 + 600 + 600 + 600 + 600 ≤ (rmL 8 466 212000).slots := ⟨by show _ ≤ 466; omega, by show _ ≤ 212000; omega⟩
                    refine lv_aload_n hx hb (dg D_L_bridge (i := 147) rfl) rfl (lv_at hl 0 rfl) ?_
                    refine rL_get X hW FI_L_28 rfl (dg D_L_bridge (i := 148) rfl) ?_
                    refine lv_iload_n hx hb (dg D_L_bridge (i := 149) rfl) rfl (lv_at hl 2 rfl) ?_
                    refine rL_ald (j := x3) (v := nI (1 + drw cy (6 + 5 * (1 + drw cy 4 5) + 2 * x3) 8)) X hW rfl ⟨by decide, by decide⟩ rfl (by omega) (by decide) (r74 _ (by omega)) (dg D_L_bridge (i := 150) rfl) ?_
                    refine g_appI (x9 := (1 + drw cy (6 + 5 * (1 + drw cy 4 5) + 2 * x3) 8)) X hA hW hT hS hR (by decide) (by omega) (by simp only [List.length_append, List.length_cons, List.length_nil]; omega) (Nat.le_of_ble_eq_true rfl) hl (⟨by show _ ≤ 466; omega, by show _ ≤ 212000; omega⟩) (dg D_L_bridge (i := 151) rfl) (fun v287 H locs hW hT hS => ?_)
                    have hT : TW G cy bs s H [(q252, v287, [] ++ ((gnT (drw cy) (6 + 5 * (1 + drw cy 4 5)) (tC (drw cy)) x3)) ++ [103, 97, 110, 103, 32, 103] ++ [97 + x3] ++ [32] ++ dec2 (1 + drw cy (6 + 5 * (1 + drw cy 4 5) + 2 * x3) 8))] [(a218, w218, (gnT (drw cy) (6 + 5 * (1 + drw cy 4 5)) (tC (drw cy)) x3))] := hT
                    have hcs : 306 + 20 * x3 + 1 + 1 + 1 + 1 + 1 + 1 + 1 ≤ (rmL 8 466 212000).cells ∧ 148000 + 8000 * x3 + 4 + 16 + 600 + 600 + 600 + 600 + 600 ≤ (rmL 8 466 212000).slots := ⟨by show _ ≤ 466; omega, by show _ ≤ 212000; omega⟩
                    refine g_ldc (i := 1) X (by decide) rfl (dg D_L_bridge (i := 152) rfl) ?_
                    refine g_appL (i := 1) (t := [32]) X hA hW hT hS hR (by decide) (by decide) rfl (by simp only [List.length_append, List.length_cons, List.length_nil]; omega) (Nat.le_of_ble_eq_true rfl) hl (⟨by show _ ≤ 466; omega, by show _ ≤ 212000; omega⟩) (dg D_L_bridge (i := 153) rfl) (fun v292 H locs hW hT hS => ?_)
                    have hT : TW G cy bs s H [(q252, v292, [] ++ ((gnT (drw cy) (6 + 5 * (1 + drw cy 4 5)) (tC (drw cy)) x3)) ++ [103, 97, 110, 103, 32, 103] ++ [97 + x3] ++ [32] ++ dec2 (1 + drw cy (6 + 5 * (1 + drw cy 4 5) + 2 * x3) 8) ++ [32])] [(a218, w218, (gnT (drw cy) (6 + 5 * (1 + drw cy 4 5)) (tC (drw cy)) x3))] := hT
                    have hcs : 306 + 20 * x3 + 1 + 1 + 1 + 1 + 1 + 1 + 1 + 1 ≤ (rmL 8 466 212000).cells ∧ 148000 + 8000 * x3 + 4 + 16 + 600 + 600 + 600 + 600 + 600 + 600 ≤ (rmL 8 466 212000).slots := ⟨by show _ ≤ 466; omega, by show _ ≤ 212000; omega⟩
                    refine lv_aload_n hx hb (dg D_L_bridge (i := 154) rfl) rfl (lv_at hl 0 rfl) ?_
                    refine rL_get X hW FI_L_31 rfl (dg D_L_bridge (i := 155) rfl) ?_
                    refine lv_iload_n hx hb (dg D_L_bridge (i := 156) rfl) rfl (lv_at hl 2 rfl) ?_
                    refine rL_ald (j := x3) (v := nI (drw cy (6 + 5 * (1 + drw cy 4 5) + 2 * x3 + 1) 9)) X hW rfl ⟨by decide, by decide⟩ rfl (by omega) (by decide) (r75 _ (by omega)) (dg D_L_bridge (i := 157) rfl) ?_
                    refine g_appI (x9 := (drw cy (6 + 5 * (1 + drw cy 4 5) + 2 * x3 + 1) 9)) X hA hW hT hS hR (by decide) (by omega) (by simp only [List.length_append, List.length_cons, List.length_nil]; omega) (Nat.le_of_ble_eq_true rfl) hl (⟨by show _ ≤ 466; omega, by show _ ≤ 212000; omega⟩) (dg D_L_bridge (i := 158) rfl) (fun v301 H locs hW hT hS => ?_)
                    have hT : TW G cy bs s H [(q252, v301, [] ++ ((gnT (drw cy) (6 + 5 * (1 + drw cy 4 5)) (tC (drw cy)) x3)) ++ [103, 97, 110, 103, 32, 103] ++ [97 + x3] ++ [32] ++ dec2 (1 + drw cy (6 + 5 * (1 + drw cy 4 5) + 2 * x3) 8) ++ [32] ++ dec2 (drw cy (6 + 5 * (1 + drw cy 4 5) + 2 * x3 + 1) 9))] [(a218, w218, (gnT (drw cy) (6 + 5 * (1 + drw cy 4 5)) (tC (drw cy)) x3))] := hT
                    have hcs : 306 + 20 * x3 + 1 + 1 + 1 + 1 + 1 + 1 + 1 + 1 + 1 ≤ (rmL 8 466 212000).cells ∧ 148000 + 8000 * x3 + 4 + 16 + 600 + 600 + 600 + 600 + 600 + 600 + 600 ≤ (rmL 8 466 212000).slots := ⟨by show _ ≤ 466; omega, by show _ ≤ 212000; omega⟩
                    refine g_ldc (i := 2) X (by decide) rfl (dg D_L_bridge (i := 159) rfl) ?_
                    refine g_appL (i := 2) (t := [59]) X hA hW hT hS hR (by decide) (by decide) rfl (by simp only [List.length_append, List.length_cons, List.length_nil]; omega) (Nat.le_of_ble_eq_true rfl) hl (⟨by show _ ≤ 466; omega, by show _ ≤ 212000; omega⟩) (dg D_L_bridge (i := 160) rfl) (fun v306 H locs hW hT hS => ?_)
                    have hT : TW G cy bs s H [(q252, v306, [] ++ ((gnT (drw cy) (6 + 5 * (1 + drw cy 4 5)) (tC (drw cy)) x3)) ++ [103, 97, 110, 103, 32, 103] ++ [97 + x3] ++ [32] ++ dec2 (1 + drw cy (6 + 5 * (1 + drw cy 4 5) + 2 * x3) 8) ++ [32] ++ dec2 (drw cy (6 + 5 * (1 + drw cy 4 5) + 2 * x3 + 1) 9) ++ [59])] [(a218, w218, (gnT (drw cy) (6 + 5 * (1 + drw cy 4 5)) (tC (drw cy)) x3))] := hT
                    have hcs : 306 + 20 * x3 + 1 + 1 + 1 + 1 + 1 + 1 + 1 + 1 + 1 + 1 ≤ (rmL 8 466 212000).cells ∧ 148000 + 8000 * x3 + 4 + 16 + 600 + 600 + 600 + 600 + 600 + 600 + 600 + 600 ≤ (rmL 8 466 212000).slots := ⟨by show _ ≤ 466; omega, by show _ ≤ 212000; omega⟩
                    refine g_toS X hA hW hT hS hR (by decide) (by simp only [List.length_append, List.length_cons, List.length_nil]; omega) (Nat.le_of_ble_eq_true rfl) hl (⟨by show _ ≤ 466; omega, by show _ + (List.length _ + 4) ≤ 212000; have := (show ([] ++ ((gnT (drw cy) (6 + 5 * (1 + drw cy 4 5)) (tC (drw cy)) x3)) ++ [103, 97, 110, 103, 32, 103] ++ [97 + x3] ++ [32] ++ dec2 (1 + drw cy (6 + 5 * (1 + drw cy 4 5) + 2 * x3) 8) ++ [32] ++ dec2 (drw cy (6 + 5 * (1 + drw cy 4 5) + 2 * x3 + 1) 9) ++ [59]).length ≤ 300 from by simp only [List.length_append, List.length_cons, List.length_nil]; omega); omega⟩) (dg D_L_bridge (i := 161) rfl) (fun ⟨a309, w309, t309⟩ H locs htx309 hxc hW hT hS => ?_)
                    have htx309 : t309 = [] ++ ((gnT (drw cy) (6 + 5 * (1 + drw cy 4 5)) (tC (drw cy)) x3)) ++ [103, 97, 110, 103, 32, 103] ++ [97 + x3] ++ [32] ++ dec2 (1 + drw cy (6 + 5 * (1 + drw cy 4 5) + 2 * x3) 8) ++ [32] ++ dec2 (drw cy (6 + 5 * (1 + drw cy 4 5) + 2 * x3 + 1) 9) ++ [59] := htx309
                    subst htx309
                    refine W.widen (k := 306 + 20 * x3 + 1 + 1 + 1 + 1 + 1 + 1 + 1 + 1 + 1 + 1 + 2) (n := 148000 + 8000 * x3 + 4 + 16 + 600 + 600 + 600 + 600 + 600 + 600 + 600 + 600 + 304) (by omega) (by have := (show ([] ++ ((gnT (drw cy) (6 + 5 * (1 + drw cy 4 5)) (tC (drw cy)) x3)) ++ [103, 97, 110, 103, 32, 103] ++ [97 + x3] ++ [32] ++ dec2 (1 + drw cy (6 + 5 * (1 + drw cy 4 5) + 2 * x3) 8) ++ [32] ++ dec2 (drw cy (6 + 5 * (1 + drw cy 4 5) + 2 * x3 + 1) 9) ++ [59]).length ≤ 300 from by simp only [List.length_append, List.length_cons, List.length_nil]; omega); omega) ?_
                    have hcs : 306 + 20 * x3 + 1 + 1 + 1 + 1 + 1 + 1 + 1 + 1 + 1 + 1 + 2 ≤ (rmL 8 466 212000).cells ∧ 148000 + 8000 * x3 + 4 + 16 + 600 + 600 + 600 + 600 + 600 + 600 + 600 + 600 + 304 ≤ (rmL 8 466 212000).slots := ⟨by show _ ≤ 466; omega, by show _ ≤ 212000; omega⟩
                    refine lv_astore_n (lv' := [(1, .ref a309), (0, .ref (ad bs 67)), (2, .int (nI x3))]) hx hb (dg D_L_bridge (i := 162) rfl) rfl hl (by decide) rfl (fun ls hl => ?_)
                    refine lv_iinc (v := nI (x3 + 1)) (lv' := [(2, .int (nI (x3 + 1))), (1, .ref a309), (0, .ref (ad bs 67))]) hx hb (dg D_L_bridge (i := 163) rfl) hl (k := 2) rfl (nI_add _ _) (by decide) rfl (fun ls hl => ?_)
                    refine lv_goto (tgt := 218) hx hb (dg D_L_bridge (i := 164) rfl) (by decide) ?_
                    refine W.widen (k := 306 + 20 * (x3 + 1)) (n := 148000 + 8000 * (x3 + 1)) (by omega) (by omega) ?_
                    exact ih218 (by omega) J251 _ _ _ a309 w309 hF h2 h3 h4 h5 h6 h7 (hat.trans (congrArg nI (by omega))) r74 r75 r69 r70 r71 r72 r73 hT.hd hxc hW hS (lv_sub hl [2, 1, 0] rfl))
              refine W.widen (k := 306 + 20 * 0) (n := 148000 + 8000 * 0) (by omega) (by omega) ?_
              exact loop218 0 (Nat.zero_le _) K179 _ _ _ a179 w179 hF h2 h3 h4 h5 h6 h7 (hat.trans (congrArg nI (by omega))) rowP.zero rowP.zero r69 r70 r71 r72 r73 hT.hd hxc hW hS (lv_sub hl [1, 2, 0] rfl)
            · refine g_sb X hA hW hT hS hR (by decide) (Nat.le_of_ble_eq_true rfl) hl (⟨by show _ ≤ 466; omega, by show _ ≤ 212000; omega⟩) (dg D_L_bridge (i := 98) rfl) (dg D_L_bridge (i := 99) rfl) (dg D_L_bridge (i := 100) rfl) (fun q187 v187 H locs hW hT hS => ?_)
              have hcs : 56 + 50 * x2 + 1 + 1 ≤ (rmL 8 466 212000).cells ∧ 23000 + 25000 * x2 + 4 + 16 ≤ (rmL 8 466 212000).slots := ⟨by show _ ≤ 466; omega, by show _ ≤ 212000; omega⟩
              refine lv_aload_n hx hb (dg D_L_bridge (i := 101) rfl) rfl (lv_at hl 1 rfl) ?_
              refine g_appS (x := (a179, w179, (spT (drw cy) (1 + drw cy 3 3) (tB (drw cy)) x2))) X hA hW hT hS hR (by decide) (List.mem_of_getElem? (i := 0) rfl) (by simp only [List.length_append, List.length_cons, List.length_nil]; omega) (Nat.le_of_ble_eq_true rfl) hl (⟨by show _ ≤ 466; omega, by show _ ≤ 212000; omega⟩) (dg D_L_bridge (i := 102) rfl) (fun v195 H locs hW hT hS => ?_)
              have hT : TW G cy bs s H [(q187, v195, [] ++ ((spT (drw cy) (1 + drw cy 3 3) (tB (drw cy)) x2)))] [(a179, w179, (spT (drw cy) (1 + drw cy 3 3) (tB (drw cy)) x2))] := hT
              have hcs : 56 + 50 * x2 + 1 + 1 + 1 ≤ (rmL 8 466 212000).cells ∧ 23000 + 25000 * x2 + 4 + 16 + 600 ≤ (rmL 8 466 212000).slots := ⟨by show _ ≤ 466; omega, by show _ ≤ 212000; omega⟩
              refine lv_aload_n hx hb (dg D_L_bridge (i := 103) rfl) rfl (lv_at hl 0 rfl) ?_
              refine lv_iload_n hx hb (dg D_L_bridge (i := 104) rfl) rfl (lv_at hl 2 rfl) ?_
              refine gA_r X hA hW hT hS hR (c_L_span (sz := H.size) (I := K179) x2 (6 + 5 * x2) (1 + drw cy 3 3) (by first | assumption | omega | decide | exact hP.1) (by first | assumption | omega | decide | exact hP.1) (by first | assumption | omega | decide | exact hP.1) (by first | assumption | omega | decide | exact hP.1) (by first | assumption | omega | decide | exact hP.1) (by first | assumption | omega | decide | exact hP.1)) (Nat.le_of_ble_eq_true rfl) UVL_span LK_L_124 rfl rfl (Nat.le_of_ble_eq_true rfl) hl (⟨by show _ ≤ 466; omega, by show _ ≤ 212000; omega⟩) (dg D_L_bridge (i := 105) rfl) (fun ⟨a200, w200, t200⟩ I200 L1 R1 H locs hq hxc hW hT hS => ?_)
              obtain ⟨htx200, hFc200, hp200_0, hp200_1, hp200_2, hp200_3, hp200_4, hp200_5, hL9, hR9⟩ := hq
              rw [hL9, hR9] at hW
              have htx200 : t200 = spanT x2 (drw cy (6 + 5 * x2) ((1 + drw cy 3 3) + 1)) (1 + drw cy ((6 + 5 * x2) + 1) 30) (drw cy ((6 + 5 * x2) + 2) 60) (1 + drw cy ((6 + 5 * x2) + 3) 20) (30 + drw cy ((6 + 5 * x2) + 4) 60) := htx200
              subst htx200
              have hF : Fr SBr I I200 := Fr.tr hF hFc200 (fun _ _ h => SSn_SBr h)
              have h2 : I200 67 2 = nI (2 + (drw cy 0 5)) := (hFc200 67 2 rfl).trans h2
              have h3 : I200 67 3 = nI (1 + (drw cy 1 3)) := (hFc200 67 3 rfl).trans h3
              have h4 : I200 67 4 = nI (drw cy 2 3) := (hFc200 67 4 rfl).trans h4
              have h5 : I200 67 5 = nI (1 + (drw cy 3 3)) := (hFc200 67 5 rfl).trans h5
              have h6 : I200 67 6 = nI (1 + (drw cy 4 5)) := (hFc200 67 6 rfl).trans h6
              have h7 : I200 67 7 = nI (1 + (drw cy 5 2)) := (hFc200 67 7 rfl).trans h7
              have r69 : rowP I200 69 (x2 + 1) (fun x => nI (drw cy (6 + 5 * x) (1 + drw cy 3 3 + 1)) - nI 1) := r69.up hp200_1 rfl
              have r70 : rowP I200 70 (x2 + 1) (fun x => nI (1 + drw cy (6 + 5 * x + 1) 30)) := r70.up hp200_2 rfl
              have r71 : rowP I200 71 (x2 + 1) (fun x => nI (drw cy (6 + 5 * x + 2) 60)) := r71.up hp200_3 rfl
              have r72 : rowP I200 72 (x2 + 1) (fun x => nI (1 + drw cy (6 + 5 * x + 3) 20)) := r72.up hp200_4 rfl
              have r73 : rowP I200 73 (x2 + 1) (fun x => nI (30 + drw cy (6 + 5 * x + 4) 60)) := r73.up hp200_5 rfl
              have hat : I200 67 1 = nI (6 + 5 * x2 + 5) := hp200_0
              have hcs : 56 + 50 * x2 + 1 + 1 + 1 + 40 ≤ (rmL 8 466 212000).cells ∧ 23000 + 25000 * x2 + 4 + 16 + 600 + 20000 ≤ (rmL 8 466 212000).slots := ⟨by show _ ≤ 466; omega, by show _ ≤ 212000; omega⟩
              have hsp := spanT_le x2 (drw cy (6 + 5 * x2) (1 + drw cy 3 3 + 1)) (1 + drw cy (6 + 5 * x2 + 1) 30) (drw cy (6 + 5 * x2 + 2) 60) (1 + drw cy (6 + 5 * x2 + 3) 20) (30 + drw cy (6 + 5 * x2 + 4) 60)
              refine g_appS (x := (a200, w200, spanT x2 (drw cy (6 + 5 * x2) ((1 + drw cy 3 3) + 1)) (1 + drw cy ((6 + 5 * x2) + 1) 30) (drw cy ((6 + 5 * x2) + 2) 60) (1 + drw cy ((6 + 5 * x2) + 3) 20) (30 + drw cy ((6 + 5 * x2) + 4) 60))) X hA hW hT hS hR (by decide) (List.mem_of_getElem? (i := 0) rfl) (by simp only [List.length_append, List.length_cons, List.length_nil]; omega) (Nat.le_of_ble_eq_true rfl) hl (⟨by show _ ≤ 466; omega, by show _ ≤ 212000; omega⟩) (dg D_L_bridge (i := 106) rfl) (fun v203 H locs hW hT hS => ?_)
              have hT : TW G cy bs s H [(q187, v203, [] ++ ((spT (drw cy) (1 + drw cy 3 3) (tB (drw cy)) x2)) ++ (spanT x2 (drw cy (6 + 5 * x2) ((1 + drw cy 3 3) + 1)) (1 + drw cy ((6 + 5 * x2) + 1) 30) (drw cy ((6 + 5 * x2) + 2) 60) (1 + drw cy ((6 + 5 * x2) + 3) 20) (30 + drw cy ((6 + 5 * x2) + 4) 60)))] [(a200, w200, spanT x2 (drw cy (6 + 5 * x2) ((1 + drw cy 3 3) + 1)) (1 + drw cy ((6 + 5 * x2) + 1) 30) (drw cy ((6 + 5 * x2) + 2) 60) (1 + drw cy ((6 + 5 * x2) + 3) 20) (30 + drw cy ((6 + 5 * x2) + 4) 60)), (a179, w179, (spT (drw cy) (1 + drw cy 3 3) (tB (drw cy)) x2))] := hT
              have hcs : 56 + 50 * x2 + 1 + 1 + 1 + 40 + 1 ≤ (rmL 8 466 212000).cells ∧ 23000 + 25000 * x2 + 4 + 16 + 600 + 20000 + 600 ≤ (rmL 8 466 212000).slots := ⟨by show _ ≤ 466; omega, by show _ ≤ 212000; omega⟩
              refine g_toS X hA hW hT hS hR (by decide) (by simp only [List.length_append, List.length_cons, List.length_nil]; omega) (Nat.le_of_ble_eq_true rfl) hl (⟨by show _ ≤ 466; omega, by show _ + (List.length _ + 4) ≤ 212000; have := (show ([] ++ ((spT (drw cy) (1 + drw cy 3 3) (tB (drw cy)) x2)) ++ (spanT x2 (drw cy (6 + 5 * x2) ((1 + drw cy 3 3) + 1)) (1 + drw cy ((6 + 5 * x2) + 1) 30) (drw cy ((6 + 5 * x2) + 2) 60) (1 + drw cy ((6 + 5 * x2) + 3) 20) (30 + drw cy ((6 + 5 * x2) + 4) 60))).length ≤ 300 from by simp only [List.length_append, List.length_cons, List.length_nil]; omega); omega⟩) (dg D_L_bridge (i := 107) rfl) (fun ⟨a206, w206, t206⟩ H locs htx206 hxc hW hT hS => ?_)
              have htx206 : t206 = [] ++ ((spT (drw cy) (1 + drw cy 3 3) (tB (drw cy)) x2)) ++ (spanT x2 (drw cy (6 + 5 * x2) ((1 + drw cy 3 3) + 1)) (1 + drw cy ((6 + 5 * x2) + 1) 30) (drw cy ((6 + 5 * x2) + 2) 60) (1 + drw cy ((6 + 5 * x2) + 3) 20) (30 + drw cy ((6 + 5 * x2) + 4) 60)) := htx206
              subst htx206
              refine W.widen (k := 56 + 50 * x2 + 1 + 1 + 1 + 40 + 1 + 2) (n := 23000 + 25000 * x2 + 4 + 16 + 600 + 20000 + 600 + 304) (by omega) (by have := (show ([] ++ ((spT (drw cy) (1 + drw cy 3 3) (tB (drw cy)) x2)) ++ (spanT x2 (drw cy (6 + 5 * x2) ((1 + drw cy 3 3) + 1)) (1 + drw cy ((6 + 5 * x2) + 1) 30) (drw cy ((6 + 5 * x2) + 2) 60) (1 + drw cy ((6 + 5 * x2) + 3) 20) (30 + drw cy ((6 + 5 * x2) + 4) 60))).length ≤ 300 from by simp only [List.length_append, List.length_cons, List.length_nil]; omega); omega) ?_
              have hcs : 56 + 50 * x2 + 1 + 1 + 1 + 40 + 1 + 2 ≤ (rmL 8 466 212000).cells ∧ 23000 + 25000 * x2 + 4 + 16 + 600 + 20000 + 600 + 304 ≤ (rmL 8 466 212000).slots := ⟨by show _ ≤ 466; omega, by show _ ≤ 212000; omega⟩
              refine lv_astore_n (lv' := [(1, .ref a206), (0, .ref (ad bs 67)), (2, .int (nI x2))]) hx hb (dg D_L_bridge (i := 108) rfl) rfl hl (by decide) rfl (fun ls hl => ?_)
              refine lv_iinc (v := nI (x2 + 1)) (lv' := [(2, .int (nI (x2 + 1))), (1, .ref a206), (0, .ref (ad bs 67))]) hx hb (dg D_L_bridge (i := 109) rfl) hl (k := 2) rfl (nI_add _ _) (by decide) rfl (fun ls hl => ?_)
              refine lv_goto (tgt := 179) hx hb (dg D_L_bridge (i := 110) rfl) (by decide) ?_
              refine W.widen (k := 56 + 50 * (x2 + 1)) (n := 23000 + 25000 * (x2 + 1)) (by omega) (by omega) ?_
              exact ih179 (by omega) I200 _ _ _ a206 w206 hF h2 h3 h4 h5 h6 h7 (hat.trans (congrArg nI (by omega))) r69 r70 r71 r72 r73 hT.hd hxc hW hS (lv_sub hl [2, 1, 0] rfl))
        refine W.widen (k := 56 + 50 * 0) (n := 23000 + 25000 * 0) (by omega) (by omega) ?_
        exact loop179 0 (Nat.zero_le _) K118 _ _ _ a118 w118 hF h2 h3 h4 h5 h6 h7 (hat.trans (congrArg nI (by omega))) rowP.zero rowP.zero rowP.zero rowP.zero rowP.zero hT.hd hxc hW hS (lv_sub hl [1, 2, 0] rfl)
      · refine g_sb X hA hW hT hS hR (by decide) (Nat.le_of_ble_eq_true rfl) hl (⟨by show _ ≤ 466; omega, by show _ ≤ 212000; omega⟩) (dg D_L_bridge (i := 68) rfl) (dg D_L_bridge (i := 69) rfl) (dg D_L_bridge (i := 70) rfl) (fun q126 v126 H locs hW hT hS => ?_)
        have hcs : 20 + 12 * x1 + 1 + 1 ≤ (rmL 8 466 212000).cells ∧ 8000 + 5000 * x1 + 4 + 16 ≤ (rmL 8 466 212000).slots := ⟨by show _ ≤ 466; omega, by show _ ≤ 212000; omega⟩
        refine lv_aload_n hx hb (dg D_L_bridge (i := 71) rfl) rfl (lv_at hl 1 rfl) ?_
        refine g_appS (x := (a118, w118, (lnT (tA (drw cy)) x1))) X hA hW hT hS hR (by decide) (List.mem_of_getElem? (i := 0) rfl) (by simp only [List.length_append, List.length_cons, List.length_nil]; omega) (Nat.le_of_ble_eq_true rfl) hl (⟨by show _ ≤ 466; omega, by show _ ≤ 212000; omega⟩) (dg D_L_bridge (i := 72) rfl) (fun v134 H locs hW hT hS => ?_)
        have hT : TW G cy bs s H [(q126, v134, [] ++ ((lnT (tA (drw cy)) x1)))] [(a118, w118, (lnT (tA (drw cy)) x1))] := hT
        have hcs : 20 + 12 * x1 + 1 + 1 + 1 ≤ (rmL 8 466 212000).cells ∧ 8000 + 5000 * x1 + 4 + 16 + 600 ≤ (rmL 8 466 212000).slots := ⟨by show _ ≤ 466; omega, by show _ ≤ 212000; omega⟩
        refine g_ldc (i := 3) X (by decide) rfl (dg D_L_bridge (i := 73) rfl) ?_
        refine g_appL (i := 3) (t := [108, 97, 110, 101, 32, 108]) X hA hW hT hS hR (by decide) (by decide) rfl (by simp only [List.length_append, List.length_cons, List.length_nil]; omega) (Nat.le_of_ble_eq_true rfl) hl (⟨by show _ ≤ 466; omega, by show _ ≤ 212000; omega⟩) (dg D_L_bridge (i := 74) rfl) (fun v139 H locs hW hT hS => ?_)
        have hT : TW G cy bs s H [(q126, v139, [] ++ ((lnT (tA (drw cy)) x1)) ++ [108, 97, 110, 101, 32, 108])] [(a118, w118, (lnT (tA (drw cy)) x1))] := hT
        have hcs : 20 + 12 * x1 + 1 + 1 + 1 + 1 ≤ (rmL 8 466 212000).cells ∧ 8000 + 5000 * x1 + 4 + 16 + 600 + 600 ≤ (rmL 8 466 212000).slots := ⟨by show _ ≤ 466; omega, by show _ ≤ 212000; omega⟩
        refine lv_bipush (v := nI 97) hx hb (dg D_L_bridge (i := 75) rfl) (by decide) ?_
        refine lv_iload_n hx hb (dg D_L_bridge (i := 76) rfl) rfl (lv_at hl 2 rfl) ?_
        refine n_iadd hx hb (dg D_L_bridge (i := 77) rfl) ?_
        refine lv_i2c (v := ((nI (97 + x1)).toUInt32 % 65536).toInt32) hx hb (dg D_L_bridge (i := 78) rfl) rfl ?_
        rw [show ((nI (97 + x1)).toUInt32 % 65536).toInt32 = nI (97 + x1) from chr6 _ (by omega)]
        refine g_appC (ch := (97 + x1)) X hA hW hT hS hR (by decide) (by omega) (by simp only [List.length_append, List.length_cons, List.length_nil]; omega) (Nat.le_of_ble_eq_true rfl) hl (⟨by show _ ≤ 466; omega, by show _ ≤ 212000; omega⟩) (dg D_L_bridge (i := 79) rfl) (fun v147 H locs hW hT hS => ?_)
        have hT : TW G cy bs s H [(q126, v147, [] ++ ((lnT (tA (drw cy)) x1)) ++ [108, 97, 110, 101, 32, 108] ++ [97 + x1])] [(a118, w118, (lnT (tA (drw cy)) x1))] := hT
        have hcs : 20 + 12 * x1 + 1 + 1 + 1 + 1 + 1 ≤ (rmL 8 466 212000).cells ∧ 8000 + 5000 * x1 + 4 + 16 + 600 + 600 + 600 ≤ (rmL 8 466 212000).slots := ⟨by show _ ≤ 466; omega, by show _ ≤ 212000; omega⟩
        refine g_ldc (i := 1) X (by decide) rfl (dg D_L_bridge (i := 80) rfl) ?_
        refine g_appL (i := 1) (t := [32]) X hA hW hT hS hR (by decide) (by decide) rfl (by simp only [List.length_append, List.length_cons, List.length_nil]; omega) (Nat.le_of_ble_eq_true rfl) hl (⟨by show _ ≤ 466; omega, by show _ ≤ 212000; omega⟩) (dg D_L_bridge (i := 81) rfl) (fun v152 H locs hW hT hS => ?_)
        have hT : TW G cy bs s H [(q126, v152, [] ++ ((lnT (tA (drw cy)) x1)) ++ [108, 97, 110, 101, 32, 108] ++ [97 + x1] ++ [32])] [(a118, w118, (lnT (tA (drw cy)) x1))] := hT
        have hcs : 20 + 12 * x1 + 1 + 1 + 1 + 1 + 1 + 1 ≤ (rmL 8 466 212000).cells ∧ 8000 + 5000 * x1 + 4 + 16 + 600 + 600 + 600 + 600 ≤ (rmL 8 466 212000).slots := ⟨by show _ ≤ 466; omega, by show _ ≤ 212000; omega⟩
        refine lv_bipush (v := nI 10) hx hb (dg D_L_bridge (i := 82) rfl) (by decide) ?_
        refine lv_iload_n hx hb (dg D_L_bridge (i := 83) rfl) rfl (lv_at hl 2 rfl) ?_
        refine n_imul hx hb (dg D_L_bridge (i := 84) rfl) ?_
        refine g_appI (x9 := (10 * x1)) X hA hW hT hS hR (by decide) (by omega) (by simp only [List.length_append, List.length_cons, List.length_nil]; omega) (Nat.le_of_ble_eq_true rfl) hl (⟨by show _ ≤ 466; omega, by show _ ≤ 212000; omega⟩) (dg D_L_bridge (i := 85) rfl) (fun v159 H locs hW hT hS => ?_)
        have hT : TW G cy bs s H [(q126, v159, [] ++ ((lnT (tA (drw cy)) x1)) ++ [108, 97, 110, 101, 32, 108] ++ [97 + x1] ++ [32] ++ dec2 (10 * x1))] [(a118, w118, (lnT (tA (drw cy)) x1))] := hT
        have hcs : 20 + 12 * x1 + 1 + 1 + 1 + 1 + 1 + 1 + 1 ≤ (rmL 8 466 212000).cells ∧ 8000 + 5000 * x1 + 4 + 16 + 600 + 600 + 600 + 600 + 600 ≤ (rmL 8 466 212000).slots := ⟨by show _ ≤ 466; omega, by show _ ≤ 212000; omega⟩
        refine g_ldc (i := 2) X (by decide) rfl (dg D_L_bridge (i := 86) rfl) ?_
        refine g_appL (i := 2) (t := [59]) X hA hW hT hS hR (by decide) (by decide) rfl (by simp only [List.length_append, List.length_cons, List.length_nil]; omega) (Nat.le_of_ble_eq_true rfl) hl (⟨by show _ ≤ 466; omega, by show _ ≤ 212000; omega⟩) (dg D_L_bridge (i := 87) rfl) (fun v164 H locs hW hT hS => ?_)
        have hT : TW G cy bs s H [(q126, v164, [] ++ ((lnT (tA (drw cy)) x1)) ++ [108, 97, 110, 101, 32, 108] ++ [97 + x1] ++ [32] ++ dec2 (10 * x1) ++ [59])] [(a118, w118, (lnT (tA (drw cy)) x1))] := hT
        have hcs : 20 + 12 * x1 + 1 + 1 + 1 + 1 + 1 + 1 + 1 + 1 ≤ (rmL 8 466 212000).cells ∧ 8000 + 5000 * x1 + 4 + 16 + 600 + 600 + 600 + 600 + 600 + 600 ≤ (rmL 8 466 212000).slots := ⟨by show _ ≤ 466; omega, by show _ ≤ 212000; omega⟩
        refine g_toS X hA hW hT hS hR (by decide) (by simp only [List.length_append, List.length_cons, List.length_nil]; omega) (Nat.le_of_ble_eq_true rfl) hl (⟨by show _ ≤ 466; omega, by show _ + (List.length _ + 4) ≤ 212000; have := (show ([] ++ ((lnT (tA (drw cy)) x1)) ++ [108, 97, 110, 101, 32, 108] ++ [97 + x1] ++ [32] ++ dec2 (10 * x1) ++ [59]).length ≤ 300 from by simp only [List.length_append, List.length_cons, List.length_nil]; omega); omega⟩) (dg D_L_bridge (i := 88) rfl) (fun ⟨a167, w167, t167⟩ H locs htx167 hxc hW hT hS => ?_)
        have htx167 : t167 = [] ++ ((lnT (tA (drw cy)) x1)) ++ [108, 97, 110, 101, 32, 108] ++ [97 + x1] ++ [32] ++ dec2 (10 * x1) ++ [59] := htx167
        subst htx167
        refine W.widen (k := 20 + 12 * x1 + 1 + 1 + 1 + 1 + 1 + 1 + 1 + 1 + 2) (n := 8000 + 5000 * x1 + 4 + 16 + 600 + 600 + 600 + 600 + 600 + 600 + 304) (by omega) (by have := (show ([] ++ ((lnT (tA (drw cy)) x1)) ++ [108, 97, 110, 101, 32, 108] ++ [97 + x1] ++ [32] ++ dec2 (10 * x1) ++ [59]).length ≤ 300 from by simp only [List.length_append, List.length_cons, List.length_nil]; omega); omega) ?_
        have hcs : 20 + 12 * x1 + 1 + 1 + 1 + 1 + 1 + 1 + 1 + 1 + 2 ≤ (rmL 8 466 212000).cells ∧ 8000 + 5000 * x1 + 4 + 16 + 600 + 600 + 600 + 600 + 600 + 600 + 304 ≤ (rmL 8 466 212000).slots := ⟨by show _ ≤ 466; omega, by show _ ≤ 212000; omega⟩
        refine lv_astore_n (lv' := [(1, .ref a167), (0, .ref (ad bs 67)), (2, .int (nI x1))]) hx hb (dg D_L_bridge (i := 89) rfl) rfl hl (by decide) rfl (fun ls hl => ?_)
        refine lv_iinc (v := nI (x1 + 1)) (lv' := [(2, .int (nI (x1 + 1))), (1, .ref a167), (0, .ref (ad bs 67))]) hx hb (dg D_L_bridge (i := 90) rfl) hl (k := 2) rfl (nI_add _ _) (by decide) rfl (fun ls hl => ?_)
        refine lv_goto (tgt := 118) hx hb (dg D_L_bridge (i := 91) rfl) (by decide) ?_
        refine W.widen (k := 20 + 12 * (x1 + 1)) (n := 8000 + 5000 * (x1 + 1)) (by omega) (by omega) ?_
        exact ih118 (by omega) K118 _ _ _ a167 w167 hF h2 h3 h4 h5 h6 h7 hat hT.hd hxc hW hS (lv_sub hl [2, 1, 0] rfl))
  refine W.widen (k := 20 + 12 * 0) (n := 8000 + 5000 * 0) (by omega) (by omega) ?_
  exact loop118 0 (Nat.zero_le _) J61 _ _ _ a112 w112 hF h2 h3 h4 h5 h6 h7 hat hT.hd hxc hW hS (lv_sub hl [2, 1, 0] rfl)

