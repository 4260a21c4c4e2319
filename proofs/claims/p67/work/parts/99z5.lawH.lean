set_option maxHeartbeats 4000000 in
set_option maxRecDepth 100000 in
theorem c_L_span {l : Launch} {G : va_G} {bs : Nat} {cy : Nat → ClassId} {I : CI} {L : CL} {R : CR} (k : Nat) (K0 : Nat) (ln9 : Nat) (hR67 : R 67 0 = cy 70) (hat : I 67 1 = nI K0) (hK : K0 ≤ 800) (hk : k < 5) (hln : I 67 5 = nI ln9) (hl3 : ln9 ≤ 3) {sz : Nat} : MAr l G bs cy ML_span 7 [.ref (ad bs 67), .int (nI k)] sz I L R (fun tx I1 L1 R1 => tx = spanT k (drw cy K0 (ln9 + 1)) (1 + drw cy (K0 + 1) 30) (drw cy (K0 + 2) 60) (1 + drw cy (K0 + 3) 20) (30 + drw cy (K0 + 4) 60) ∧ Fr SSn I I1 ∧ I1 67 1 = nI (K0 + 5) ∧ I1 69 = upd (I 69) k (nI (drw cy K0 (ln9 + 1)) - nI 1) ∧ I1 70 = upd (I 70) k (nI (1 + drw cy (K0 + 1) 30)) ∧ I1 71 = upd (I 71) k (nI (drw cy (K0 + 2) 60)) ∧ I1 72 = upd (I 72) k (nI (1 + drw cy (K0 + 3) 20)) ∧ I1 73 = upd (I 73) k (nI (30 + drw cy (K0 + 4) 60)) ∧ L1 = L ∧ R1 = R) 40 20000 := by
  refine MAr.of (Or.inl ⟨_, rfl⟩) (own := RL) pn_RL rfl (Nat.le_of_ble_eq_true rfl) ?_
  intro p e s m args below meth c Qf X hW hS fin ls hl
  have hx := X.1
  have hb := X.2.1
  have hR : RmOK (rmL 7 40 20000) 7 := ⟨rfl, rfl⟩
  have hcs : 0 ≤ (rmL 7 40 20000).cells ∧ 0 ≤ (rmL 7 40 20000).slots := ⟨Nat.zero_le _, Nat.zero_le _⟩
  have hsz0 := hW.sz
  have hA : AOK bs s.heap.size (Ar bs s.heap.size) := ArOK hsz0
  have hT : TW G cy bs s s.heap [] [] := TW.nil (Nat.le_refl _)
  have hl : lv_has ls 2 [(0, .ref (ad bs 67)), (1, .int (nI k))] := hl
  have hF : Fr SSn I I := Fr.rf
  have h69 : I 69 = I 69 := rfl
  have h70 : I 70 = I 70 := rfl
  have h71 : I 71 = I 71 := rfl
  have h72 : I 72 = I 72 := rfl
  have h73 : I 73 = I 73 := rfl
  have hd0 : drw cy K0 (ln9 + 1) < ln9 + 1 := amN_lt (by omega)
  have hd1 : drw cy (K0 + 1) 30 < 30 := amN_lt (by decide)
  have hd2 : drw cy (K0 + 2) 60 < 60 := amN_lt (by decide)
  have hd3 : drw cy (K0 + 3) 20 < 20 := amN_lt (by decide)
  have hd4 : drw cy (K0 + 4) 60 < 60 := amN_lt (by decide)
  have hq1 := dec2_le (1 + drw cy (K0 + 1) 30)
  have hq2 := dec2_le (drw cy (K0 + 2) 60)
  have hq3 := dec2_le (1 + drw cy (K0 + 3) 20)
  have hq4 := dec2_le (30 + drw cy (K0 + 4) 60)
  refine lv_aload_n hx hb (dg D_L_span (i := 0) rfl) rfl (lv_at hl 0 rfl) ?_
  refine rL_get X hW FI_L_13 rfl (dg D_L_span (i := 1) rfl) ?_
  refine lv_iload_n hx hb (dg D_L_span (i := 2) rfl) rfl (lv_at hl 1 rfl) ?_
  refine lv_aload_n hx hb (dg D_L_span (i := 3) rfl) rfl (lv_at hl 0 rfl) ?_
  refine lv_aload_n hx hb (dg D_L_span (i := 4) rfl) rfl (lv_at hl 0 rfl) ?_
  refine rL_get (v := .int (nI ln9)) X hW FI_L_90 (congrArg (fun z => some (Value.int z)) hln) (dg D_L_span (i := 5) rfl) ?_
  refine n_iconst (a := 1) hx hb (dg D_L_span (i := 6) rfl) rfl ?_
  refine n_iadd hx hb (dg D_L_span (i := 7) rfl) ?_
  refine gO_i X hA hW hT hS hR (c_L_chosen (I := I) K0 (ln9 + 1) (by first | exact hR67 | assumption | omega | decide | exact hP.1) (by first | exact hat | assumption | omega | decide | exact hP.1) (by first | exact hk9 | assumption | omega | decide | exact hP.1) (by first | exact hm0 | assumption | omega | decide | exact hP.1) (by first | exact hm9 | assumption | omega | decide | exact hP.1)) (by decide) UVL_chosen LK_L_78 rfl rfl (Nat.le_of_ble_eq_true rfl) hl hcs (dg D_L_span (i := 8) rfl) (fun r12 I12 L1 R1 H locs hq hW hT hS => ?_)
  obtain ⟨rfl, hT12, hp12_0, rfl, rfl⟩ := hq
  have hF : Fr SSn I I12 := Fr.tr hF hT12 (fun _ _ h => SAt_SSn h)
  have hln : I12 67 5 = nI ln9 := (hT12 67 5 rfl).trans hln
  have h69 : I12 69 = I 69 := (Fr.row hT12 (fun _ => rfl)).trans h69
  have h70 : I12 70 = I 70 := (Fr.row hT12 (fun _ => rfl)).trans h70
  have h71 : I12 71 = I 71 := (Fr.row hT12 (fun _ => rfl)).trans h71
  have h72 : I12 72 = I 72 := (Fr.row hT12 (fun _ => rfl)).trans h72
  have h73 : I12 73 = I 73 := (Fr.row hT12 (fun _ => rfl)).trans h73
  have hat : I12 67 1 = nI (K0 + 1) := hp12_0
  refine n_iconst (a := 1) hx hb (dg D_L_span (i := 9) rfl) rfl ?_
  refine lv_isub hx hb (dg D_L_span (i := 10) rfl) ?_
  rw [show (nI (drw cy K0 (ln9 + 1))) - (nI 1) = nI (drw cy K0 (ln9 + 1)) - nI 1 from rfl]
  refine gL_ast (j := k) (v := nI (drw cy K0 (ln9 + 1)) - nI 1) X hA hW hT hS rfl ⟨by decide, by decide⟩ rfl (by omega) (by decide) (dg D_L_span (i := 11) rfl) (fun H locs hW hT hS => ?_)
  have hF : Fr SSn I (u2 I12 69 k (nI (drw cy K0 (ln9 + 1)) - nI 1)) := Fr.put hF rfl
  have hln : (u2 I12 69 k (nI (drw cy K0 (ln9 + 1)) - nI 1)) 67 5 = nI ln9 := hln
  have h69 : (u2 I12 69 k (nI (drw cy K0 (ln9 + 1)) - nI 1)) 69 = upd (I 69) k (nI (drw cy K0 (ln9 + 1)) - nI 1) := by rw [u2_eq, h69]
  have h70 : (u2 I12 69 k (nI (drw cy K0 (ln9 + 1)) - nI 1)) 70 = I 70 := h70
  have h71 : (u2 I12 69 k (nI (drw cy K0 (ln9 + 1)) - nI 1)) 71 = I 71 := h71
  have h72 : (u2 I12 69 k (nI (drw cy K0 (ln9 + 1)) - nI 1)) 72 = I 72 := h72
  have h73 : (u2 I12 69 k (nI (drw cy K0 (ln9 + 1)) - nI 1)) 73 = I 73 := h73
  obtain ⟨J17, eJ17⟩ : ∃ J, J = u2 I12 69 k (nI (drw cy K0 (ln9 + 1)) - nI 1) := ⟨_, rfl⟩
  rw [← eJ17] at hW hF hln h69 h70 h71 h72 h73
  have hat : J17 67 1 = nI (K0 + 1) := by rw [eJ17, u2_off (Or.inl (by decide))]; exact hat
  refine lv_aload_n hx hb (dg D_L_span (i := 12) rfl) rfl (lv_at hl 0 rfl) ?_
  refine rL_get X hW FI_L_16 rfl (dg D_L_span (i := 13) rfl) ?_
  refine lv_iload_n hx hb (dg D_L_span (i := 14) rfl) rfl (lv_at hl 1 rfl) ?_
  refine n_iconst (a := 1) hx hb (dg D_L_span (i := 15) rfl) rfl ?_
  refine lv_aload_n hx hb (dg D_L_span (i := 16) rfl) rfl (lv_at hl 0 rfl) ?_
  refine lv_bipush (v := nI 30) hx hb (dg D_L_span (i := 17) rfl) (by decide) ?_
  refine gO_i X hA hW hT hS hR (c_L_chosen (I := J17) (K0 + 1) 30 (by first | exact hR67 | assumption | omega | decide | exact hP.1) (by first | exact hat | assumption | omega | decide | exact hP.1) (by first | exact hk9 | assumption | omega | decide | exact hP.1) (by first | exact hm0 | assumption | omega | decide | exact hP.1) (by first | exact hm9 | assumption | omega | decide | exact hP.1)) (by decide) UVL_chosen LK_L_78 rfl rfl (Nat.le_of_ble_eq_true rfl) hl hcs (dg D_L_span (i := 18) rfl) (fun r27 I27 L1 R1 H locs hq hW hT hS => ?_)
  obtain ⟨rfl, hT27, hp27_0, rfl, rfl⟩ := hq
  have hF : Fr SSn I I27 := Fr.tr hF hT27 (fun _ _ h => SAt_SSn h)
  have hln : I27 67 5 = nI ln9 := (hT27 67 5 rfl).trans hln
  have h69 : I27 69 = upd (I 69) k (nI (drw cy K0 (ln9 + 1)) - nI 1) := (Fr.row hT27 (fun _ => rfl)).trans h69
  have h70 : I27 70 = I 70 := (Fr.row hT27 (fun _ => rfl)).trans h70
  have h71 : I27 71 = I 71 := (Fr.row hT27 (fun _ => rfl)).trans h71
  have h72 : I27 72 = I 72 := (Fr.row hT27 (fun _ => rfl)).trans h72
  have h73 : I27 73 = I 73 := (Fr.row hT27 (fun _ => rfl)).trans h73
  have hat : I27 67 1 = nI (K0 + 2) := hp27_0
  refine n_iadd hx hb (dg D_L_span (i := 19) rfl) ?_
  refine gL_ast (j := k) (v := nI (1 + (drw cy (K0 + 1) 30))) X hA hW hT hS rfl ⟨by decide, by decide⟩ rfl (by omega) (by decide) (dg D_L_span (i := 20) rfl) (fun H locs hW hT hS => ?_)
  have hF : Fr SSn I (u2 I27 70 k (nI (1 + (drw cy (K0 + 1) 30)))) := Fr.put hF rfl
  have hln : (u2 I27 70 k (nI (1 + (drw cy (K0 + 1) 30)))) 67 5 = nI ln9 := hln
  have h69 : (u2 I27 70 k (nI (1 + (drw cy (K0 + 1) 30)))) 69 = upd (I 69) k (nI (drw cy K0 (ln9 + 1)) - nI 1) := h69
  have h70 : (u2 I27 70 k (nI (1 + (drw cy (K0 + 1) 30)))) 70 = upd (I 70) k (nI (1 + drw cy (K0 + 1) 30)) := by rw [u2_eq, h70]
  have h71 : (u2 I27 70 k (nI (1 + (drw cy (K0 + 1) 30)))) 71 = I 71 := h71
  have h72 : (u2 I27 70 k (nI (1 + (drw cy (K0 + 1) 30)))) 72 = I 72 := h72
  have h73 : (u2 I27 70 k (nI (1 + (drw cy (K0 + 1) 30)))) 73 = I 73 := h73
  obtain ⟨J31, eJ31⟩ : ∃ J, J = u2 I27 70 k (nI (1 + (drw cy (K0 + 1) 30))) := ⟨_, rfl⟩
  rw [← eJ31] at hW hF hln h69 h70 h71 h72 h73
  have hat : J31 67 1 = nI (K0 + 2) := by rw [eJ31, u2_off (Or.inl (by decide))]; exact hat
  refine lv_aload_n hx hb (dg D_L_span (i := 21) rfl) rfl (lv_at hl 0 rfl) ?_
  refine rL_get X hW FI_L_19 rfl (dg D_L_span (i := 22) rfl) ?_
  refine lv_iload_n hx hb (dg D_L_span (i := 23) rfl) rfl (lv_at hl 1 rfl) ?_
  refine lv_aload_n hx hb (dg D_L_span (i := 24) rfl) rfl (lv_at hl 0 rfl) ?_
  refine lv_bipush (v := nI 60) hx hb (dg D_L_span (i := 25) rfl) (by decide) ?_
  refine gO_i X hA hW hT hS hR (c_L_chosen (I := J31) (K0 + 2) 60 (by first | exact hR67 | assumption | omega | decide | exact hP.1) (by first | exact hat | assumption | omega | decide | exact hP.1) (by first | exact hk9 | assumption | omega | decide | exact hP.1) (by first | exact hm0 | assumption | omega | decide | exact hP.1) (by first | exact hm9 | assumption | omega | decide | exact hP.1)) (by decide) UVL_chosen LK_L_78 rfl rfl (Nat.le_of_ble_eq_true rfl) hl hcs (dg D_L_span (i := 26) rfl) (fun r40 I40 L1 R1 H locs hq hW hT hS => ?_)
  obtain ⟨rfl, hT40, hp40_0, rfl, rfl⟩ := hq
  have hF : Fr SSn I I40 := Fr.tr hF hT40 (fun _ _ h => SAt_SSn h)
  have hln : I40 67 5 = nI ln9 := (hT40 67 5 rfl).trans hln
  have h69 : I40 69 = upd (I 69) k (nI (drw cy K0 (ln9 + 1)) - nI 1) := (Fr.row hT40 (fun _ => rfl)).trans h69
  have h70 : I40 70 = upd (I 70) k (nI (1 + drw cy (K0 + 1) 30)) := (Fr.row hT40 (fun _ => rfl)).trans h70
  have h71 : I40 71 = I 71 := (Fr.row hT40 (fun _ => rfl)).trans h71
  have h72 : I40 72 = I 72 := (Fr.row hT40 (fun _ => rfl)).trans h72
  have h73 : I40 73 = I 73 := (Fr.row hT40 (fun _ => rfl)).trans h73
  have hat : I40 67 1 = nI (K0 + 3) := hp40_0
  refine gL_ast (j := k) (v := nI (drw cy (K0 + 2) 60)) X hA hW hT hS rfl ⟨by decide, by decide⟩ rfl (by omega) (by decide) (dg D_L_span (i := 27) rfl) (fun H locs hW hT hS => ?_)
  have hF : Fr SSn I (u2 I40 71 k (nI (drw cy (K0 + 2) 60))) := Fr.put hF rfl
  have hln : (u2 I40 71 k (nI (drw cy (K0 + 2) 60))) 67 5 = nI ln9 := hln
  have h69 : (u2 I40 71 k (nI (drw cy (K0 + 2) 60))) 69 = upd (I 69) k (nI (drw cy K0 (ln9 + 1)) - nI 1) := h69
  have h70 : (u2 I40 71 k (nI (drw cy (K0 + 2) 60))) 70 = upd (I 70) k (nI (1 + drw cy (K0 + 1) 30)) := h70
  have h71 : (u2 I40 71 k (nI (drw cy (K0 + 2) 60))) 71 = upd (I 71) k (nI (drw cy (K0 + 2) 60)) := by rw [u2_eq, h71]
  have h72 : (u2 I40 71 k (nI (drw cy (K0 + 2) 60))) 72 = I 72 := h72
  have h73 : (u2 I40 71 k (nI (drw cy (K0 + 2) 60))) 73 = I 73 := h73
  obtain ⟨J43, eJ43⟩ : ∃ J, J = u2 I40 71 k (nI (drw cy (K0 + 2) 60)) := ⟨_, rfl⟩
  rw [← eJ43] at hW hF hln h69 h70 h71 h72 h73
  have hat : J43 67 1 = nI (K0 + 3) := by rw [eJ43, u2_off (Or.inl (by decide))]; exact hat
  refine lv_aload_n hx hb (dg D_L_span (i := 28) rfl) rfl (lv_at hl 0 rfl) ?_
  refine rL_get X hW FI_L_22 rfl (dg D_L_span (i := 29) rfl) ?_
  refine lv_iload_n hx hb (dg D_L_span (i := 30) rfl) rfl (lv_at hl 1 rfl) ?_
  refine n_iconst (a := 1) hx hb (dg D_L_span (i := 31) rfl) rfl ?_
  refine lv_aload_n hx hb (dg D_L_span (i := 32) rfl) rfl (lv_at hl 0 rfl) ?_
  refine lv_bipush (v := nI 20) hx hb (dg D_L_span (i := 33) rfl) (by decide) ?_
  refine gO_i X hA hW hT hS hR (c_L_chosen (I := J43) (K0 + 3) 20 (by first | exact hR67 | assumption | omega | decide | exact hP.1) (by first | exact hat | assumption | omega | decide | exact hP.1) (by first | exact hk9 | assumption | omega | decide | exact hP.1) (by first | exact hm0 | assumption | omega | decide | exact hP.1) (by first | exact hm9 | assumption | omega | decide | exact hP.1)) (by decide) UVL_chosen LK_L_78 rfl rfl (Nat.le_of_ble_eq_true rfl) hl hcs (dg D_L_span (i := 34) rfl) (fun r53 I53 L1 R1 H locs hq hW hT hS => ?_)
  obtain ⟨rfl, hT53, hp53_0, rfl, rfl⟩ := hq
  have hF : Fr SSn I I53 := Fr.tr hF hT53 (fun _ _ h => SAt_SSn h)
  have hln : I53 67 5 = nI ln9 := (hT53 67 5 rfl).trans hln
  have h69 : I53 69 = upd (I 69) k (nI (drw cy K0 (ln9 + 1)) - nI 1) := (Fr.row hT53 (fun _ => rfl)).trans h69
  have h70 : I53 70 = upd (I 70) k (nI (1 + drw cy (K0 + 1) 30)) := (Fr.row hT53 (fun _ => rfl)).trans h70
  have h71 : I53 71 = upd (I 71) k (nI (drw cy (K0 + 2) 60)) := (Fr.row hT53 (fun _ => rfl)).trans h71
  have h72 : I53 72 = I 72 := (Fr.row hT53 (fun _ => rfl)).trans h72
  have h73 : I53 73 = I 73 := (Fr.row hT53 (fun _ => rfl)).trans h73
  have hat : I53 67 1 = nI (K0 + 4) := hp53_0
  refine n_iadd hx hb (dg D_L_span (i := 35) rfl) ?_
  refine gL_ast (j := k) (v := nI (1 + (drw cy (K0 + 3) 20))) X hA hW hT hS rfl ⟨by decide, by decide⟩ rfl (by omega) (by decide) (dg D_L_span (i := 36) rfl) (fun H locs hW hT hS => ?_)
  have hF : Fr SSn I (u2 I53 72 k (nI (1 + (drw cy (K0 + 3) 20)))) := Fr.put hF rfl
  have hln : (u2 I53 72 k (nI (1 + (drw cy (K0 + 3) 20)))) 67 5 = nI ln9 := hln
  have h69 : (u2 I53 72 k (nI (1 + (drw cy (K0 + 3) 20)))) 69 = upd (I 69) k (nI (drw cy K0 (ln9 + 1)) - nI 1) := h69
  have h70 : (u2 I53 72 k (nI (1 + (drw cy (K0 + 3) 20)))) 70 = upd (I 70) k (nI (1 + drw cy (K0 + 1) 30)) := h70
  have h71 : (u2 I53 72 k (nI (1 + (drw cy (K0 + 3) 20)))) 71 = upd (I 71) k (nI (drw cy (K0 + 2) 60)) := h71
  have h72 : (u2 I53 72 k (nI (1 + (drw cy (K0 + 3) 20)))) 72 = upd (I 72) k (nI (1 + drw cy (K0 + 3) 20)) := by rw [u2_eq, h72]
  have h73 : (u2 I53 72 k (nI (1 + (drw cy (K0 + 3) 20)))) 73 = I 73 := h73
  obtain ⟨J57, eJ57⟩ : ∃ J, J = u2 I53 72 k (nI (1 + (drw cy (K0 + 3) 20))) := ⟨_, rfl⟩
  rw [← eJ57] at hW hF hln h69 h70 h71 h72 h73
  have hat : J57 67 1 = nI (K0 + 4) := by rw [eJ57, u2_off (Or.inl (by decide))]; exact hat
  refine lv_aload_n hx hb (dg D_L_span (i := 37) rfl) rfl (lv_at hl 0 rfl) ?_
  refine rL_get X hW FI_L_25 rfl (dg D_L_span (i := 38) rfl) ?_
  refine lv_iload_n hx hb (dg D_L_span (i := 39) rfl) rfl (lv_at hl 1 rfl) ?_
  refine lv_bipush (v := nI 30) hx hb (dg D_L_span (i := 40) rfl) (by decide) ?_
  refine lv_aload_n hx hb (dg D_L_span (i := 41) rfl) rfl (lv_at hl 0 rfl) ?_
  refine lv_bipush (v := nI 60) hx hb (dg D_L_span (i := 42) rfl) (by decide) ?_
  refine gO_i X hA hW hT hS hR (c_L_chosen (I := J57) (K0 + 4) 60 (by first | exact hR67 | assumption | omega | decide | exact hP.1) (by first | exact hat | assumption | omega | decide | exact hP.1) (by first | exact hk9 | assumption | omega | decide | exact hP.1) (by first | exact hm0 | assumption | omega | decide | exact hP.1) (by first | exact hm9 | assumption | omega | decide | exact hP.1)) (by decide) UVL_chosen LK_L_78 rfl rfl (Nat.le_of_ble_eq_true rfl) hl hcs (dg D_L_span (i := 43) rfl) (fun r68 I68 L1 R1 H locs hq hW hT hS => ?_)
  obtain ⟨rfl, hT68, hp68_0, rfl, rfl⟩ := hq
  have hF : Fr SSn I I68 := Fr.tr hF hT68 (fun _ _ h => SAt_SSn h)
  have hln : I68 67 5 = nI ln9 := (hT68 67 5 rfl).trans hln
  have h69 : I68 69 = upd (I 69) k (nI (drw cy K0 (ln9 + 1)) - nI 1) := (Fr.row hT68 (fun _ => rfl)).trans h69
  have h70 : I68 70 = upd (I 70) k (nI (1 + drw cy (K0 + 1) 30)) := (Fr.row hT68 (fun _ => rfl)).trans h70
  have h71 : I68 71 = upd (I 71) k (nI (drw cy (K0 + 2) 60)) := (Fr.row hT68 (fun _ => rfl)).trans h71
  have h72 : I68 72 = upd (I 72) k (nI (1 + drw cy (K0 + 3) 20)) := (Fr.row hT68 (fun _ => rfl)).trans h72
  have h73 : I68 73 = I 73 := (Fr.row hT68 (fun _ => rfl)).trans h73
  have hat : I68 67 1 = nI (K0 + 5) := hp68_0
  refine n_iadd hx hb (dg D_L_span (i := 44) rfl) ?_
  refine gL_ast (j := k) (v := nI (30 + (drw cy (K0 + 4) 60))) X hA hW hT hS rfl ⟨by decide, by decide⟩ rfl (by omega) (by decide) (dg D_L_span (i := 45) rfl) (fun H locs hW hT hS => ?_)
  have hF : Fr SSn I (u2 I68 73 k (nI (30 + (drw cy (K0 + 4) 60)))) := Fr.put hF rfl
  have hln : (u2 I68 73 k (nI (30 + (drw cy (K0 + 4) 60)))) 67 5 = nI ln9 := hln
  have h69 : (u2 I68 73 k (nI (30 + (drw cy (K0 + 4) 60)))) 69 = upd (I 69) k (nI (drw cy K0 (ln9 + 1)) - nI 1) := h69
  have h70 : (u2 I68 73 k (nI (30 + (drw cy (K0 + 4) 60)))) 70 = upd (I 70) k (nI (1 + drw cy (K0 + 1) 30)) := h70
  have h71 : (u2 I68 73 k (nI (30 + (drw cy (K0 + 4) 60)))) 71 = upd (I 71) k (nI (drw cy (K0 + 2) 60)) := h71
  have h72 : (u2 I68 73 k (nI (30 + (drw cy (K0 + 4) 60)))) 72 = upd (I 72) k (nI (1 + drw cy (K0 + 3) 20)) := h72
  have h73 : (u2 I68 73 k (nI (30 + (drw cy (K0 + 4) 60)))) 73 = upd (I 73) k (nI (30 + drw cy (K0 + 4) 60)) := by rw [u2_eq, h73]
  obtain ⟨J72, eJ72⟩ : ∃ J, J = u2 I68 73 k (nI (30 + (drw cy (K0 + 4) 60))) := ⟨_, rfl⟩
  rw [← eJ72] at hW hF hln h69 h70 h71 h72 h73
  have hat : J72 67 1 = nI (K0 + 5) := by rw [eJ72, u2_off (Or.inl (by decide))]; exact hat
  refine g_sb X hA hW hT hS hR (by decide) (Nat.le_of_ble_eq_true rfl) hl (⟨by show _ ≤ 40; omega, by show _ ≤ 20000; omega⟩) (dg D_L_span (i := 46) rfl) (dg D_L_span (i := 47) rfl) (dg D_L_span (i := 48) rfl) (fun q73 v73 H locs hW hT hS => ?_)
  have hcs : 0 + 1 + 1 ≤ (rmL 7 40 20000).cells ∧ 0 + 4 + 16 ≤ (rmL 7 40 20000).slots := ⟨by show _ ≤ 40; omega, by show _ ≤ 20000; omega⟩
  refine g_ldc (i := 6) X (by decide) rfl (dg D_L_span (i := 49) rfl) ?_
  refine g_appL (i := 6) (t := [115, 112, 97, 110, 32, 115]) X hA hW hT hS hR (by decide) (by decide) rfl (by simp only [List.length_append, List.length_cons, List.length_nil]; omega) (Nat.le_of_ble_eq_true rfl) hl (⟨by show _ ≤ 40; omega, by show _ ≤ 20000; omega⟩) (dg D_L_span (i := 50) rfl) (fun v82 H locs hW hT hS => ?_)
  have hT : TW G cy bs s H [(q73, v82, [] ++ [115, 112, 97, 110, 32, 115])] [] := hT
  have hcs : 0 + 1 + 1 + 1 ≤ (rmL 7 40 20000).cells ∧ 0 + 4 + 16 + 600 ≤ (rmL 7 40 20000).slots := ⟨by show _ ≤ 40; omega, by show _ ≤ 20000; omega⟩
  refine lv_bipush (v := nI 97) hx hb (dg D_L_span (i := 51) rfl) (by decide) ?_
  refine lv_iload_n hx hb (dg D_L_span (i := 52) rfl) rfl (lv_at hl 1 rfl) ?_
  refine n_iadd hx hb (dg D_L_span (i := 53) rfl) ?_
  refine lv_i2c (v := ((nI (97 + k)).toUInt32 % 65536).toInt32) hx hb (dg D_L_span (i := 54) rfl) rfl ?_
  rw [show ((nI (97 + k)).toUInt32 % 65536).toInt32 = nI (97 + k) from chr6 _ (by omega)]
  refine g_appC (ch := (97 + k)) X hA hW hT hS hR (by decide) (by omega) (by simp only [List.length_append, List.length_cons, List.length_nil]; omega) (Nat.le_of_ble_eq_true rfl) hl (⟨by show _ ≤ 40; omega, by show _ ≤ 20000; omega⟩) (dg D_L_span (i := 55) rfl) (fun v90 H locs hW hT hS => ?_)
  have hT : TW G cy bs s H [(q73, v90, [] ++ [115, 112, 97, 110, 32, 115] ++ [97 + k])] [] := hT
  have hcs : 0 + 1 + 1 + 1 + 1 ≤ (rmL 7 40 20000).cells ∧ 0 + 4 + 16 + 600 + 600 ≤ (rmL 7 40 20000).slots := ⟨by show _ ≤ 40; omega, by show _ ≤ 20000; omega⟩
  refine g_ldc (i := 1) X (by decide) rfl (dg D_L_span (i := 56) rfl) ?_
  refine g_appL (i := 1) (t := [32]) X hA hW hT hS hR (by decide) (by decide) rfl (by simp only [List.length_append, List.length_cons, List.length_nil]; omega) (Nat.le_of_ble_eq_true rfl) hl (⟨by show _ ≤ 40; omega, by show _ ≤ 20000; omega⟩) (dg D_L_span (i := 57) rfl) (fun v95 H locs hW hT hS => ?_)
  have hT : TW G cy bs s H [(q73, v95, [] ++ [115, 112, 97, 110, 32, 115] ++ [97 + k] ++ [32])] [] := hT
  have hcs : 0 + 1 + 1 + 1 + 1 + 1 ≤ (rmL 7 40 20000).cells ∧ 0 + 4 + 16 + 600 + 600 + 600 ≤ (rmL 7 40 20000).slots := ⟨by show _ ≤ 40; omega, by show _ ≤ 20000; omega⟩
  refine lv_aload_n hx hb (dg D_L_span (i := 58) rfl) rfl (lv_at hl 0 rfl) ?_
  refine rL_get X hW FI_L_13 rfl (dg D_L_span (i := 59) rfl) ?_
  refine lv_iload_n hx hb (dg D_L_span (i := 60) rfl) rfl (lv_at hl 1 rfl) ?_
  refine rL_ald (j := k) (v := nI (drw cy K0 (ln9 + 1)) - nI 1) X hW rfl ⟨by decide, by decide⟩ rfl (by omega) (by decide) (by rw [h69, upd_eq]) (dg D_L_span (i := 61) rfl) ?_
  refine lv_if_ge (tgt := 112) hx hb (dg D_L_span (i := 62) rfl) (by decide) (fun c104 => ?_) (fun c104 => ?_)
  · have hd9 := (ln_ge (by omega)).mp c104
    refine g_sb X hA hW hT hS hR (by decide) (Nat.le_of_ble_eq_true rfl) hl (⟨by show _ ≤ 40; omega, by show _ ≤ 20000; omega⟩) (dg D_L_span (i := 65) rfl) (dg D_L_span (i := 66) rfl) (dg D_L_span (i := 67) rfl) (fun q112 v112 H locs hW hT hS => ?_)
    have hcs : 0 + 1 + 1 + 1 + 1 + 1 + 1 + 1 ≤ (rmL 7 40 20000).cells ∧ 0 + 4 + 16 + 600 + 600 + 600 + 4 + 16 ≤ (rmL 7 40 20000).slots := ⟨by show _ ≤ 40; omega, by show _ ≤ 20000; omega⟩
    refine g_ldc (i := 8) X (by decide) rfl (dg D_L_span (i := 68) rfl) ?_
    refine g_appL (i := 8) (t := [108]) X hA hW hT hS hR (by decide) (by decide) rfl (by simp only [List.length_append, List.length_cons, List.length_nil]; omega) (Nat.le_of_ble_eq_true rfl) hl (⟨by show _ ≤ 40; omega, by show _ ≤ 20000; omega⟩) (dg D_L_span (i := 69) rfl) (fun v121 H locs hW hT hS => ?_)
    have hT : TW G cy bs s H [(q112, v121, [] ++ [108]), (q73, v95, [] ++ [115, 112, 97, 110, 32, 115] ++ [97 + k] ++ [32])] [] := hT
    have hcs : 0 + 1 + 1 + 1 + 1 + 1 + 1 + 1 + 1 ≤ (rmL 7 40 20000).cells ∧ 0 + 4 + 16 + 600 + 600 + 600 + 4 + 16 + 600 ≤ (rmL 7 40 20000).slots := ⟨by show _ ≤ 40; omega, by show _ ≤ 20000; omega⟩
    refine lv_bipush (v := nI 97) hx hb (dg D_L_span (i := 70) rfl) (by decide) ?_
    refine lv_aload_n hx hb (dg D_L_span (i := 71) rfl) rfl (lv_at hl 0 rfl) ?_
    refine rL_get X hW FI_L_13 rfl (dg D_L_span (i := 72) rfl) ?_
    refine lv_iload_n hx hb (dg D_L_span (i := 73) rfl) rfl (lv_at hl 1 rfl) ?_
    refine rL_ald (j := k) (v := nI (drw cy K0 (ln9 + 1)) - nI 1) X hW rfl ⟨by decide, by decide⟩ rfl (by omega) (by decide) (by rw [h69, upd_eq]) (dg D_L_span (i := 74) rfl) ?_
    refine lv_iadd hx hb (dg D_L_span (i := 75) rfl) ?_
    rw [show (nI 97) + (nI (drw cy K0 (ln9 + 1)) - nI 1) = nI (97 + (drw cy K0 (ln9 + 1) - 1)) from by rw [nI_sub hd9, nI_add]]
    refine lv_i2c (v := ((nI (97 + (drw cy K0 (ln9 + 1) - 1))).toUInt32 % 65536).toInt32) hx hb (dg D_L_span (i := 76) rfl) rfl ?_
    rw [show ((nI (97 + (drw cy K0 (ln9 + 1) - 1))).toUInt32 % 65536).toInt32 = nI (97 + (drw cy K0 (ln9 + 1) - 1)) from chr6 _ (by omega)]
    refine g_appC (ch := (97 + (drw cy K0 (ln9 + 1) - 1))) X hA hW hT hS hR (by decide) (by omega) (by simp only [List.length_append, List.length_cons, List.length_nil]; omega) (Nat.le_of_ble_eq_true rfl) hl (⟨by show _ ≤ 40; omega, by show _ ≤ 20000; omega⟩) (dg D_L_span (i := 77) rfl) (fun v134 H locs hW hT hS => ?_)
    have hT : TW G cy bs s H [(q112, v134, [] ++ [108] ++ [97 + (drw cy K0 (ln9 + 1) - 1)]), (q73, v95, [] ++ [115, 112, 97, 110, 32, 115] ++ [97 + k] ++ [32])] [] := hT
    have hcs : 0 + 1 + 1 + 1 + 1 + 1 + 1 + 1 + 1 + 1 ≤ (rmL 7 40 20000).cells ∧ 0 + 4 + 16 + 600 + 600 + 600 + 4 + 16 + 600 + 600 ≤ (rmL 7 40 20000).slots := ⟨by show _ ≤ 40; omega, by show _ ≤ 20000; omega⟩
    refine g_toS X hA hW hT hS hR (by decide) (by simp only [List.length_append, List.length_cons, List.length_nil]; omega) (Nat.le_of_ble_eq_true rfl) hl (⟨by show _ ≤ 40; omega, by show _ + (List.length _ + 4) ≤ 20000; have := (show ([] ++ [108] ++ [97 + (drw cy K0 (ln9 + 1) - 1)]).length ≤ 300 from by simp only [List.length_append, List.length_cons, List.length_nil]; omega); omega⟩) (dg D_L_span (i := 78) rfl) (fun ⟨a137, w137, t137⟩ H locs htx137 hxc hW hT hS => ?_)
    have htx137 : t137 = [] ++ [108] ++ [97 + (drw cy K0 (ln9 + 1) - 1)] := htx137
    subst htx137
    refine W.widen (k := 0 + 1 + 1 + 1 + 1 + 1 + 1 + 1 + 1 + 1 + 2) (n := 0 + 4 + 16 + 600 + 600 + 600 + 4 + 16 + 600 + 600 + 304) (by omega) (by have := (show ([] ++ [108] ++ [97 + (drw cy K0 (ln9 + 1) - 1)]).length ≤ 300 from by simp only [List.length_append, List.length_cons, List.length_nil]; omega); omega) ?_
    have hcs : 0 + 1 + 1 + 1 + 1 + 1 + 1 + 1 + 1 + 1 + 2 ≤ (rmL 7 40 20000).cells ∧ 0 + 4 + 16 + 600 + 600 + 600 + 4 + 16 + 600 + 600 + 304 ≤ (rmL 7 40 20000).slots := ⟨by show _ ≤ 40; omega, by show _ ≤ 20000; omega⟩
    refine g_appS (x := (a137, w137, ([] ++ [108] ++ [97 + (drw cy K0 (ln9 + 1) - 1)]))) X hA hW hT hS hR (by decide) (List.mem_of_getElem? (i := 0) rfl) (by simp only [List.length_append, List.length_cons, List.length_nil]; omega) (Nat.le_of_ble_eq_true rfl) hl (⟨by show _ ≤ 40; omega, by show _ ≤ 20000; omega⟩) (dg D_L_span (i := 79) rfl) (fun v140 H locs hW hT hS => ?_)
    have hT : TW G cy bs s H [(q73, v140, [] ++ [115, 112, 97, 110, 32, 115] ++ [97 + k] ++ [32] ++ (([] ++ [108] ++ [97 + (drw cy K0 (ln9 + 1) - 1)])))] [(a137, w137, ([] ++ [108] ++ [97 + (drw cy K0 (ln9 + 1) - 1)]))] := hT
    have hcs : 0 + 1 + 1 + 1 + 1 + 1 + 1 + 1 + 1 + 1 + 2 + 1 ≤ (rmL 7 40 20000).cells ∧ 0 + 4 + 16 + 600 + 600 + 600 + 4 + 16 + 600 + 600 + 304 + 600 ≤ (rmL 7 40 20000).slots := ⟨by show _ ≤ 40; omega, by show _ ≤ 20000; omega⟩
    refine g_ldc (i := 1) X (by decide) rfl (dg D_L_span (i := 80) rfl) ?_
    refine g_appL (i := 1) (t := [32]) X hA hW hT hS hR (by decide) (by decide) rfl (by simp only [List.length_append, List.length_cons, List.length_nil]; omega) (Nat.le_of_ble_eq_true rfl) hl (⟨by show _ ≤ 40; omega, by show _ ≤ 20000; omega⟩) (dg D_L_span (i := 81) rfl) (fun v145 H locs hW hT hS => ?_)
    have hT : TW G cy bs s H [(q73, v145, [] ++ [115, 112, 97, 110, 32, 115] ++ [97 + k] ++ [32] ++ (([] ++ [108] ++ [97 + (drw cy K0 (ln9 + 1) - 1)])) ++ [32])] [(a137, w137, ([] ++ [108] ++ [97 + (drw cy K0 (ln9 + 1) - 1)]))] := hT
    have hcs : 0 + 1 + 1 + 1 + 1 + 1 + 1 + 1 + 1 + 1 + 2 + 1 + 1 ≤ (rmL 7 40 20000).cells ∧ 0 + 4 + 16 + 600 + 600 + 600 + 4 + 16 + 600 + 600 + 304 + 600 + 600 ≤ (rmL 7 40 20000).slots := ⟨by show _ ≤ 40; omega, by show _ ≤ 20000; omega⟩
    refine lv_aload_n hx hb (dg D_L_span (i := 82) rfl) rfl (lv_at hl 0 rfl) ?_
    refine rL_get X hW FI_L_16 rfl (dg D_L_span (i := 83) rfl) ?_
    refine lv_iload_n hx hb (dg D_L_span (i := 84) rfl) rfl (lv_at hl 1 rfl) ?_
    refine rL_ald (j := k) (v := nI (1 + drw cy (K0 + 1) 30)) X hW rfl ⟨by decide, by decide⟩ rfl (by omega) (by decide) (by rw [h70, upd_eq]) (dg D_L_span (i := 85) rfl) ?_
    refine g_appI (x9 := (1 + drw cy (K0 + 1) 30)) X hA hW hT hS hR (by decide) (by omega) (by simp only [List.length_append, List.length_cons, List.length_nil]; omega) (Nat.le_of_ble_eq_true rfl) hl (⟨by show _ ≤ 40; omega, by show _ ≤ 20000; omega⟩) (dg D_L_span (i := 86) rfl) (fun v154 H locs hW hT hS => ?_)
    have hT : TW G cy bs s H [(q73, v154, [] ++ [115, 112, 97, 110, 32, 115] ++ [97 + k] ++ [32] ++ (([] ++ [108] ++ [97 + (drw cy K0 (ln9 + 1) - 1)])) ++ [32] ++ dec2 (1 + drw cy (K0 + 1) 30))] [(a137, w137, ([] ++ [108] ++ [97 + (drw cy K0 (ln9 + 1) - 1)]))] := hT
    have hcs : 0 + 1 + 1 + 1 + 1 + 1 + 1 + 1 + 1 + 1 + 2 + 1 + 1 + 1 ≤ (rmL 7 40 20000).cells ∧ 0 + 4 + 16 + 600 + 600 + 600 + 4 + 16 + 600 + 600 + 304 + 600 + 600 + 600 ≤ (rmL 7 40 20000).slots := ⟨by show _ ≤ 40; omega, by show _ ≤ 20000; omega⟩
    refine g_ldc (i := 1) X (by decide) rfl (dg D_L_span (i := 87) rfl) ?_
    refine g_appL (i := 1) (t := [32]) X hA hW hT hS hR (by decide) (by decide) rfl (by simp only [List.length_append, List.length_cons, List.length_nil]; omega) (Nat.le_of_ble_eq_true rfl) hl (⟨by show _ ≤ 40; omega, by show _ ≤ 20000; omega⟩) (dg D_L_span (i := 88) rfl) (fun v159 H locs hW hT hS => ?_)
    have hT : TW G cy bs s H [(q73, v159, [] ++ [115, 112, 97, 110, 32, 115] ++ [97 + k] ++ [32] ++ (([] ++ [108] ++ [97 + (drw cy K0 (ln9 + 1) - 1)])) ++ [32] ++ dec2 (1 + drw cy (K0 + 1) 30) ++ [32])] [(a137, w137, ([] ++ [108] ++ [97 + (drw cy K0 (ln9 + 1) - 1)]))] := hT
    have hcs : 0 + 1 + 1 + 1 + 1 + 1 + 1 + 1 + 1 + 1 + 2 + 1 + 1 + 1 + 1 ≤ (rmL 7 40 20000).cells ∧ 0 + 4 + 16 + 600 + 600 + 600 + 4 + 16 + 600 + 600 + 304 + 600 + 600 + 600 + 600 ≤ (rmL 7 40 20000).slots := ⟨by show _ ≤ 40; omega, by show _ ≤ 20000; omega⟩
    refine lv_aload_n hx hb (dg D_L_span (i := 89) rfl) rfl (lv_at hl 0 rfl) ?_
    refine rL_get X hW FI_L_19 rfl (dg D_L_span (i := 90) rfl) ?_
    refine lv_iload_n hx hb (dg D_L_span (i := 91) rfl) rfl (lv_at hl 1 rfl) ?_
    refine rL_ald (j := k) (v := nI (drw cy (K0 + 2) 60)) X hW rfl ⟨by decide, by decide⟩ rfl (by omega) (by decide) (by rw [h71, upd_eq]) (dg D_L_span (i := 92) rfl) ?_
    refine g_appI (x9 := (drw cy (K0 + 2) 60)) X hA hW hT hS hR (by decide) (by omega) (by simp only [List.length_append, List.length_cons, List.length_nil]; omega) (Nat.le_of_ble_eq_true rfl) hl (⟨by show _ ≤ 40; omega, by show _ ≤ 20000; omega⟩) (dg D_L_span (i := 93) rfl) (fun v168 H locs hW hT hS => ?_)
    have hT : TW G cy bs s H [(q73, v168, [] ++ [115, 112, 97, 110, 32, 115] ++ [97 + k] ++ [32] ++ (([] ++ [108] ++ [97 + (drw cy K0 (ln9 + 1) - 1)])) ++ [32] ++ dec2 (1 + drw cy (K0 + 1) 30) ++ [32] ++ dec2 (drw cy (K0 + 2) 60))] [(a137, w137, ([] ++ [108] ++ [97 + (drw cy K0 (ln9 + 1) - 1)]))] := hT
    have hcs : 0 + 1 + 1 + 1 + 1 + 1 + 1 + 1 + 1 + 1 + 2 + 1 + 1 + 1 + 1 + 1 ≤ (rmL 7 40 20000).cells ∧ 0 + 4 + 16 + 600 + 600 + 600 + 4 + 16 + 600 + 600 + 304 + 600 + 600 + 600 + 600 + 600 ≤ (rmL 7 40 20000).slots := ⟨by show _ ≤ 40; omega, by show _ ≤ 20000; omega⟩
    refine g_ldc (i := 1) X (by decide) rfl (dg D_L_span (i := 94) rfl) ?_
    refine g_appL (i := 1) (t := [32]) X hA hW hT hS hR (by decide) (by decide) rfl (by simp only [List.length_append, List.length_cons, List.length_nil]; omega) (Nat.le_of_ble_eq_true rfl) hl (⟨by show _ ≤ 40; omega, by show _ ≤ 20000; omega⟩) (dg D_L_span (i := 95) rfl) (fun v173 H locs hW hT hS => ?_)
    have hT : TW G cy bs s H [(q73, v173, [] ++ [115, 112, 97, 110, 32, 115] ++ [97 + k] ++ [32] ++ (([] ++ [108] ++ [97 + (drw cy K0 (ln9 + 1) - 1)])) ++ [32] ++ dec2 (1 + drw cy (K0 + 1) 30) ++ [32] ++ dec2 (drw cy (K0 + 2) 60) ++ [32])] [(a137, w137, ([] ++ [108] ++ [97 + (drw cy K0 (ln9 + 1) - 1)]))] := hT
    have hcs : 0 + 1 + 1 + 1 + 1 + 1 + 1 + 1 + 1 + 1 + 2 + 1 + 1 + 1 + 1 + 1 + 1 ≤ (rmL 7 40 20000).cells ∧ 0 + 4 + 16 + 600 + 600 + 600 + 4 + 16 + 600 + 600 + 304 + 600 + 600 + 600 + 600 + 600 + 600 ≤ (rmL 7 40 20000).slots := ⟨by show _ ≤ 40; omega, by show _ ≤ 20000; omega⟩
    refine lv_aload_n hx hb (dg D_L_span (i := 96) rfl) rfl (lv_at hl 0 rfl) ?_
    refine rL_get X hW FI_L_22 rfl (dg D_L_span (i := 97) rfl) ?_
    refine lv_iload_n hx hb (dg D_L_span (i := 98) rfl) rfl (lv_at hl 1 rfl) ?_
    refine rL_ald (j := k) (v := nI (1 + drw cy (K0 + 3) 20)) X hW rfl ⟨by decide, by decide⟩ rfl (by omega) (by decide) (by rw [h72, upd_eq]) (dg D_L_span (i := 99) rfl) ?_
    refine g_appI (x9 := (1 + drw cy (K0 + 3) 20)) X hA hW hT hS hR (by decide) (by omega) (by simp only [List.length_append, List.length_cons, List.length_nil]; omega) (Nat.le_of_ble_eq_true rfl) hl (⟨by show _ ≤ 40; omega, by show _ ≤ 20000; omega⟩) (dg D_L_span (i := 100) rfl) (fun v182 H locs hW hT hS => ?_)
    have hT : TW G cy bs s H [(q73, v182, [] ++ [115, 112, 97, 110, 32, 115] ++ [97 + k] ++ [32] ++ (([] ++ [108] ++ [97 + (drw cy K0 (ln9 + 1) - 1)])) ++ [32] ++ dec2 (1 + drw cy (K0 + 1) 30) ++ [32] ++ dec2 (drw cy (K0 + 2) 60) ++ [32] ++ dec2 (1 + drw cy (K0 + 3) 20))] [(a137, w137, ([] ++ [108] ++ [97 + (drw cy K0 (ln9 + 1) - 1)]))] := hT
    have hcs : 0 + 1 + 1 + 1 + 1 + 1 + 1 + 1 + 1 + 1 + 2 + 1 + 1 + 1 + 1 + 1 + 1 + 1 ≤ (rmL 7 40 20000).cells ∧ 0 + 4 + 16 + 600 + 600 + 600 + 4 + 16 + 600 + 600 + 304 + 600 + 600 + 600 + 600 + 600 + 600 + 600 ≤ (rmL 7 40 20000).slots := ⟨by show _ ≤ 40; omega, by show _ ≤ 20000; omega⟩
    refine g_ldc (i := 1) X (by decide) rfl (dg D_L_span (i := 101) rfl) ?_
    refine g_appL (i := 1) (t := [32]) X hA hW hT hS hR (by decide) (by decide) rfl (by simp only [List.length_append, List.length_cons, List.length_nil]; omega) (Nat.le_of_ble_eq_true rfl) hl (⟨by show _ ≤ 40; omega, by show _ ≤ 20000; omega⟩) (dg D_L_span (i := 102) rfl) (fun v187 H locs hW hT hS => ?_)
    have hT : TW G cy bs s H [(q73, v187, [] ++ [115, 112, 97, 110, 32, 115] ++ [97 + k] ++ [32] ++ (([] ++ [108] ++ [97 + (drw cy K0 (ln9 + 1) - 1)])) ++ [32] ++ dec2 (1 + drw cy (K0 + 1) 30) ++ [32] ++ dec2 (drw cy (K0 + 2) 60) ++ [32] ++ dec2 (1 + drw cy (K0 + 3) 20) ++ [32])] [(a137, w137, ([] ++ [108] ++ [97 + (drw cy K0 (ln9 + 1) - 1)]))] := hT
    have hcs : 0 + 1 + 1 + 1 + 1 + 1 + 1 + 1 + 1 + 1 + 2 + 1 + 1 + 1 + 1 + 1 + 1 + 1 + 1 ≤ (rmL 7 40 20000).cells ∧ 0 + 4 + 16 + 600 + 600 + 600 + 4 + 16 + 600 + 600 + 304 + 600 + 600 + 600 + 600 + 600 + 600 + 600 + 600 ≤ (rmL 7 40 20000).slots := ⟨by show _ ≤ 40; omega, by show _ ≤ 20000; omega⟩
    refine lv_aload_n hx hb (dg D_L_span (i := 103) rfl) rfl (lv_at hl 0 rfl) ?_
    refine rL_get X hW FI_L_25 rfl (dg D_L_span (i := 104) rfl) ?_
    refine lv_iload_n hx hb (dg D_L_span (i := 105) rfl) rfl (lv_at hl 1 rfl) ?_
    refine rL_ald (j := k) (v := nI (30 + drw cy (K0 + 4) 60)) X hW rfl ⟨by decide, by decide⟩ rfl (by omega) (by decide) (by rw [h73, upd_eq]) (dg D_L_span (i := 106) rfl) ?_
    refine g_appI (x9 := (30 + drw cy (K0 + 4) 60)) X hA hW hT hS hR (by decide) (by omega) (by simp only [List.length_append, List.length_cons, List.length_nil]; omega) (Nat.le_of_ble_eq_true rfl) hl (⟨by show _ ≤ 40; omega, by show _ ≤ 20000; omega⟩) (dg D_L_span (i := 107) rfl) (fun v196 H locs hW hT hS => ?_)
    have hT : TW G cy bs s H [(q73, v196, [] ++ [115, 112, 97, 110, 32, 115] ++ [97 + k] ++ [32] ++ (([] ++ [108] ++ [97 + (drw cy K0 (ln9 + 1) - 1)])) ++ [32] ++ dec2 (1 + drw cy (K0 + 1) 30) ++ [32] ++ dec2 (drw cy (K0 + 2) 60) ++ [32] ++ dec2 (1 + drw cy (K0 + 3) 20) ++ [32] ++ dec2 (30 + drw cy (K0 + 4) 60))] [(a137, w137, ([] ++ [108] ++ [97 + (drw cy K0 (ln9 + 1) - 1)]))] := hT
    have hcs : 0 + 1 + 1 + 1 + 1 + 1 + 1 + 1 + 1 + 1 + 2 + 1 + 1 + 1 + 1 + 1 + 1 + 1 + 1 + 1 ≤ (rmL 7 40 20000).cells ∧ 0 + 4 + 16 + 600 + 600 + 600 + 4 + 16 + 600 + 600 + 304 + 600 + 600 + 600 + 600 + 600 + 600 + 600 + 600 + 600 ≤ (rmL 7 40 20000).slots := ⟨by show _ ≤ 40; omega, by show _ ≤ 20000; omega⟩
    refine g_ldc (i := 2) X (by decide) rfl (dg D_L_span (i := 108) rfl) ?_
    refine g_appL (i := 2) (t := [59]) X hA hW hT hS hR (by decide) (by decide) rfl (by simp only [List.length_append, List.length_cons, List.length_nil]; omega) (Nat.le_of_ble_eq_true rfl) hl (⟨by show _ ≤ 40; omega, by show _ ≤ 20000; omega⟩) (dg D_L_span (i := 109) rfl) (fun v201 H locs hW hT hS => ?_)
    have hT : TW G cy bs s H [(q73, v201, [] ++ [115, 112, 97, 110, 32, 115] ++ [97 + k] ++ [32] ++ (([] ++ [108] ++ [97 + (drw cy K0 (ln9 + 1) - 1)])) ++ [32] ++ dec2 (1 + drw cy (K0 + 1) 30) ++ [32] ++ dec2 (drw cy (K0 + 2) 60) ++ [32] ++ dec2 (1 + drw cy (K0 + 3) 20) ++ [32] ++ dec2 (30 + drw cy (K0 + 4) 60) ++ [59])] [(a137, w137, ([] ++ [108] ++ [97 + (drw cy K0 (ln9 + 1) - 1)]))] := hT
    have hcs : 0 + 1 + 1 + 1 + 1 + 1 + 1 + 1 + 1 + 1 + 2 + 1 + 1 + 1 + 1 + 1 + 1 + 1 + 1 + 1 + 1 ≤ (rmL 7 40 20000).cells ∧ 0 + 4 + 16 + 600 + 600 + 600 + 4 + 16 + 600 + 600 + 304 + 600 + 600 + 600 + 600 + 600 + 600 + 600 + 600 + 600 + 600 ≤ (rmL 7 40 20000).slots := ⟨by show _ ≤ 40; omega, by show _ ≤ 20000; omega⟩
    refine g_toS X hA hW hT hS hR (by decide) (by simp only [List.length_append, List.length_cons, List.length_nil]; omega) (Nat.le_of_ble_eq_true rfl) hl (⟨by show _ ≤ 40; omega, by show _ + (List.length _ + 4) ≤ 20000; have := (show ([] ++ [115, 112, 97, 110, 32, 115] ++ [97 + k] ++ [32] ++ (([] ++ [108] ++ [97 + (drw cy K0 (ln9 + 1) - 1)])) ++ [32] ++ dec2 (1 + drw cy (K0 + 1) 30) ++ [32] ++ dec2 (drw cy (K0 + 2) 60) ++ [32] ++ dec2 (1 + drw cy (K0 + 3) 20) ++ [32] ++ dec2 (30 + drw cy (K0 + 4) 60) ++ [59]).length ≤ 300 from by simp only [List.length_append, List.length_cons, List.length_nil]; omega); omega⟩) (dg D_L_span (i := 110) rfl) (fun ⟨a204, w204, t204⟩ H locs htx204 hxc hW hT hS => ?_)
    have htx204 : t204 = [] ++ [115, 112, 97, 110, 32, 115] ++ [97 + k] ++ [32] ++ (([] ++ [108] ++ [97 + (drw cy K0 (ln9 + 1) - 1)])) ++ [32] ++ dec2 (1 + drw cy (K0 + 1) 30) ++ [32] ++ dec2 (drw cy (K0 + 2) 60) ++ [32] ++ dec2 (1 + drw cy (K0 + 3) 20) ++ [32] ++ dec2 (30 + drw cy (K0 + 4) 60) ++ [59] := htx204
    subst htx204
    refine W.widen (k := 0 + 1 + 1 + 1 + 1 + 1 + 1 + 1 + 1 + 1 + 2 + 1 + 1 + 1 + 1 + 1 + 1 + 1 + 1 + 1 + 1 + 2) (n := 0 + 4 + 16 + 600 + 600 + 600 + 4 + 16 + 600 + 600 + 304 + 600 + 600 + 600 + 600 + 600 + 600 + 600 + 600 + 600 + 600 + 304) (by omega) (by have := (show ([] ++ [115, 112, 97, 110, 32, 115] ++ [97 + k] ++ [32] ++ (([] ++ [108] ++ [97 + (drw cy K0 (ln9 + 1) - 1)])) ++ [32] ++ dec2 (1 + drw cy (K0 + 1) 30) ++ [32] ++ dec2 (drw cy (K0 + 2) 60) ++ [32] ++ dec2 (1 + drw cy (K0 + 3) 20) ++ [32] ++ dec2 (30 + drw cy (K0 + 4) 60) ++ [59]).length ≤ 300 from by simp only [List.length_append, List.length_cons, List.length_nil]; omega); omega) ?_
    have hcs : 0 + 1 + 1 + 1 + 1 + 1 + 1 + 1 + 1 + 1 + 2 + 1 + 1 + 1 + 1 + 1 + 1 + 1 + 1 + 1 + 1 + 2 ≤ (rmL 7 40 20000).cells ∧ 0 + 4 + 16 + 600 + 600 + 600 + 4 + 16 + 600 + 600 + 304 + 600 + 600 + 600 + 600 + 600 + 600 + 600 + 600 + 600 + 600 + 304 ≤ (rmL 7 40 20000).slots := ⟨by show _ ≤ 40; omega, by show _ ≤ 20000; omega⟩
    exact fin (x := (a204, w204, ([] ++ [115, 112, 97, 110, 32, 115] ++ [97 + k] ++ [32] ++ (([] ++ [108] ++ [97 + (drw cy K0 (ln9 + 1) - 1)])) ++ [32] ++ dec2 (1 + drw cy (K0 + 1) 30) ++ [32] ++ dec2 (drw cy (K0 + 2) 60) ++ [32] ++ dec2 (1 + drw cy (K0 + 3) 20) ++ [32] ++ dec2 (30 + drw cy (K0 + 4) 60) ++ [59]))) (dg D_L_span (i := 111) rfl) (by omega) (by omega) hW hS hxc ⟨by unfold spanT laneT; rw [if_neg (by omega)], hF, hat, h69, h70, h71, h72, h73, rfl, rfl⟩
  · refine g_ldc (i := 7) X (by decide) rfl (dg D_L_span (i := 63) rfl) ?_
    refine lv_goto (tgt := 140) hx hb (dg D_L_span (i := 64) rfl) (by decide) ?_
    refine g_appL (i := 7) (t := [110, 111, 110, 101]) X hA hW hT hS hR (by decide) (by decide) rfl (by simp only [List.length_append, List.length_cons, List.length_nil]; omega) (Nat.le_of_ble_eq_true rfl) hl (⟨by show _ ≤ 40; omega, by show _ ≤ 20000; omega⟩) (dg D_L_span (i := 79) rfl) (fun v140 H locs hW hT hS => ?_)
    have hT : TW G cy bs s H [(q73, v140, [] ++ [115, 112, 97, 110, 32, 115] ++ [97 + k] ++ [32] ++ [110, 111, 110, 101])] [] := hT
    have hcs : 0 + 1 + 1 + 1 + 1 + 1 + 1 ≤ (rmL 7 40 20000).cells ∧ 0 + 4 + 16 + 600 + 600 + 600 + 600 ≤ (rmL 7 40 20000).slots := ⟨by show _ ≤ 40; omega, by show _ ≤ 20000; omega⟩
    refine g_ldc (i := 1) X (by decide) rfl (dg D_L_span (i := 80) rfl) ?_
    refine g_appL (i := 1) (t := [32]) X hA hW hT hS hR (by decide) (by decide) rfl (by simp only [List.length_append, List.length_cons, List.length_nil]; omega) (Nat.le_of_ble_eq_true rfl) hl (⟨by show _ ≤ 40; omega, by show _ ≤ 20000; omega⟩) (dg D_L_span (i := 81) rfl) (fun v145 H locs hW hT hS => ?_)
    have hT : TW G cy bs s H [(q73, v145, [] ++ [115, 112, 97, 110, 32, 115] ++ [97 + k] ++ [32] ++ [110, 111, 110, 101] ++ [32])] [] := hT
    have hcs : 0 + 1 + 1 + 1 + 1 + 1 + 1 + 1 ≤ (rmL 7 40 20000).cells ∧ 0 + 4 + 16 + 600 + 600 + 600 + 600 + 600 ≤ (rmL 7 40 20000).slots := ⟨by show _ ≤ 40; omega, by show _ ≤ 20000; omega⟩
    refine lv_aload_n hx hb (dg D_L_span (i := 82) rfl) rfl (lv_at hl 0 rfl) ?_
    refine rL_get X hW FI_L_16 rfl (dg D_L_span (i := 83) rfl) ?_
    refine lv_iload_n hx hb (dg D_L_span (i := 84) rfl) rfl (lv_at hl 1 rfl) ?_
    refine rL_ald (j := k) (v := nI (1 + drw cy (K0 + 1) 30)) X hW rfl ⟨by decide, by decide⟩ rfl (by omega) (by decide) (by rw [h70, upd_eq]) (dg D_L_span (i := 85) rfl) ?_
    refine g_appI (x9 := (1 + drw cy (K0 + 1) 30)) X hA hW hT hS hR (by decide) (by omega) (by simp only [List.length_append, List.length_cons, List.length_nil]; omega) (Nat.le_of_ble_eq_true rfl) hl (⟨by show _ ≤ 40; omega, by show _ ≤ 20000; omega⟩) (dg D_L_span (i := 86) rfl) (fun v154 H locs hW hT hS => ?_)
    have hT : TW G cy bs s H [(q73, v154, [] ++ [115, 112, 97, 110, 32, 115] ++ [97 + k] ++ [32] ++ [110, 111, 110, 101] ++ [32] ++ dec2 (1 + drw cy (K0 + 1) 30))] [] := hT
    have hcs : 0 + 1 + 1 + 1 + 1 + 1 + 1 + 1 + 1 ≤ (rmL 7 40 20000).cells ∧ 0 + 4 + 16 + 600 + 600 + 600 + 600 + 600 + 600 ≤ (rmL 7 40 20000).slots := ⟨by show _ ≤ 40; omega, by show _ ≤ 20000; omega⟩
    refine g_ldc (i := 1) X (by decide) rfl (dg D_L_span (i := 87) rfl) ?_
    refine g_appL (i := 1) (t := [32]) X hA hW hT hS hR (by decide) (by decide) rfl (by simp only [List.length_append, List.length_cons, List.length_nil]; omega) (Nat.le_of_ble_eq_true rfl) hl (⟨by show _ ≤ 40; omega, by show _ ≤ 20000; omega⟩) (dg D_L_span (i := 88) rfl) (fun v159 H locs hW hT hS => ?_)
    have hT : TW G cy bs s H [(q73, v159, [] ++ [115, 112, 97, 110, 32, 115] ++ [97 + k] ++ [32] ++ [110, 111, 110, 101] ++ [32] ++ dec2 (1 + drw cy (K0 + 1) 30) ++ [32])] [] := hT
    have hcs : 0 + 1 + 1 + 1 + 1 + 1 + 1 + 1 + 1 + 1 ≤ (rmL 7 40 20000).cells ∧ 0 + 4 + 16 + 600 + 600 + 600 + 600 + 600 + 600 + 600 ≤ (rmL 7 40 20000).slots := ⟨by show _ ≤ 40; omega, by show _ ≤ 20000; omega⟩
    refine lv_aload_n hx hb (dg D_L_span (i := 89) rfl) rfl (lv_at hl 0 rfl) ?_
    refine rL_get X hW FI_L_19 rfl (dg D_L_span (i := 90) rfl) ?_
    refine lv_iload_n hx hb (dg D_L_span (i := 91) rfl) rfl (lv_at hl 1 rfl) ?_
    refine rL_ald (j := k) (v := nI (drw cy (K0 + 2) 60)) X hW rfl ⟨by decide, by decide⟩ rfl (by omega) (by decide) (by rw [h71, upd_eq]) (dg D_L_span (i := 92) rfl) ?_
    refine g_appI (x9 := (drw cy (K0 + 2) 60)) X hA hW hT hS hR (by decide) (by omega) (by simp only [List.length_append, List.length_cons, List.length_nil]; omega) (Nat.le_of_ble_eq_true rfl) hl (⟨by show _ ≤ 40; omega, by show _ ≤ 20000; omega⟩) (dg D_L_span (i := 93) rfl) (fun v168 H locs hW hT hS => ?_)
    have hT : TW G cy bs s H [(q73, v168, [] ++ [115, 112, 97, 110, 32, 115] ++ [97 + k] ++ [32] ++ [110, 111, 110, 101] ++ [32] ++ dec2 (1 + drw cy (K0 + 1) 30) ++ [32] ++ dec2 (drw cy (K0 + 2) 60))] [] := hT
    have hcs : 0 + 1 + 1 + 1 + 1 + 1 + 1 + 1 + 1 + 1 + 1 ≤ (rmL 7 40 20000).cells ∧ 0 + 4 + 16 + 600 + 600 + 600 + 600 + 600 + 600 + 600 + 600 ≤ (rmL 7 40 20000).slots := ⟨by show _ ≤ 40; omega, by show _ ≤ 20000; omega⟩
    refine g_ldc (i := 1) X (by decide) rfl (dg D_L_span (i := 94) rfl) ?_
    refine g_appL (i := 1) (t := [32]) X hA hW hT hS hR (by decide) (by decide) rfl (by simp only [List.length_append, List.length_cons, List.length_nil]; omega) (Nat.le_of_ble_eq_true rfl) hl (⟨by show _ ≤ 40; omega, by show _ ≤ 20000; omega⟩) (dg D_L_span (i := 95) rfl) (fun v173 H locs hW hT hS => ?_)
    have hT : TW G cy bs s H [(q73, v173, [] ++ [115, 112, 97, 110, 32, 115] ++ [97 + k] ++ [32] ++ [110, 111, 110, 101] ++ [32] ++ dec2 (1 + drw cy (K0 + 1) 30) ++ [32] ++ dec2 (drw cy (K0 + 2) 60) ++ [32])] [] := hT
    have hcs : 0 + 1 + 1 + 1 + 1 + 1 + 1 + 1 + 1 + 1 + 1 + 1 ≤ (rmL 7 40 20000).cells ∧ 0 + 4 + 16 + 600 + 600 + 600 + 600 + 600 + 600 + 600 + 600 + 600 ≤ (rmL 7 40 20000).slots := ⟨by show _ ≤ 40; omega, by show _ ≤ 20000; omega⟩
    refine lv_aload_n hx hb (dg D_L_span (i := 96) rfl) rfl (lv_at hl 0 rfl) ?_
    refine rL_get X hW FI_L_22 rfl (dg D_L_span (i := 97) rfl) ?_
    refine lv_iload_n hx hb (dg D_L_span (i := 98) rfl) rfl (lv_at hl 1 rfl) ?_
    refine rL_ald (j := k) (v := nI (1 + drw cy (K0 + 3) 20)) X hW rfl ⟨by decide, by decide⟩ rfl (by omega) (by decide) (by rw [h72, upd_eq]) (dg D_L_span (i := 99) rfl) ?_
    refine g_appI (x9 := (1 + drw cy (K0 + 3) 20)) X hA hW hT hS hR (by decide) (by omega) (by simp only [List.length_append, List.length_cons, List.length_nil]; omega) (Nat.le_of_ble_eq_true rfl) hl (⟨by show _ ≤ 40; omega, by show _ ≤ 20000; omega⟩) (dg D_L_span (i := 100) rfl) (fun v182 H locs hW hT hS => ?_)
    have hT : TW G cy bs s H [(q73, v182, [] ++ [115, 112, 97, 110, 32, 115] ++ [97 + k] ++ [32] ++ [110, 111, 110, 101] ++ [32] ++ dec2 (1 + drw cy (K0 + 1) 30) ++ [32] ++ dec2 (drw cy (K0 + 2) 60) ++ [32] ++ dec2 (1 + drw cy (K0 + 3) 20))] [] := hT
    have hcs : 0 + 1 + 1 + 1 + 1 + 1 + 1 + 1 + 1 + 1 + 1 + 1 + 1 ≤ (rmL 7 40 20000).cells ∧ 0 + 4 + 16 + 600 + 600 + 600 + 600 + 600 + 600 + 600 + 600 + 600 + 600 ≤ (rmL 7 40 20000).slots := ⟨by show _ ≤ 40; omega, by show _ ≤ 20000; omega⟩
    refine g_ldc (i := 1) X (by decide) rfl (dg D_L_span (i := 101) rfl) ?_
    refine g_appL (i := 1) (t := [32]) X hA hW hT hS hR (by decide) (by decide) rfl (by simp only [List.length_append, List.length_cons, List.length_nil]; omega) (Nat.le_of_ble_eq_true rfl) hl (⟨by show _ ≤ 40; omega, by show _ ≤ 20000; omega⟩) (dg D_L_span (i := 102) rfl) (fun v187 H locs hW hT hS => ?_)
    have hT : TW G cy bs s H [(q73, v187, [] ++ [115, 112, 97, 110, 32, 115] ++ [97 + k] ++ [32] ++ [110, 111, 110, 101] ++ [32] ++ dec2 (1 + drw cy (K0 + 1) 30) ++ [32] ++ dec2 (drw cy (K0 + 2) 60) ++ [32] ++ dec2 (1 + drw cy (K0 + 3) 20) ++ [32])] [] := hT
    have hcs : 0 + 1 + 1 + 1 + 1 + 1 + 1 + 1 + 1 + 1 + 1 + 1 + 1 + 1 ≤ (rmL 7 40 20000).cells ∧ 0 + 4 + 16 + 600 + 600 + 600 + 600 + 600 + 600 + 600 + 600 + 600 + 600 + 600 ≤ (rmL 7 40 20000).slots := ⟨by show _ ≤ 40; omega, by show _ ≤ 20000; omega⟩
    refine lv_aload_n hx hb (dg D_L_span (i := 103) rfl) rfl (lv_at hl 0 rfl) ?_
    refine rL_get X hW FI_L_25 rfl (dg D_L_span (i := 104) rfl) ?_
    refine lv_iload_n hx hb (dg D_L_span (i := 105) rfl) rfl (lv_at hl 1 rfl) ?_
    refine rL_ald (j := k) (v := nI (30 + drw cy (K0 + 4) 60)) X hW rfl ⟨by decide, by decide⟩ rfl (by omega) (by decide) (by rw [h73, upd_eq]) (dg D_L_span (i := 106) rfl) ?_
    refine g_appI (x9 := (30 + drw cy (K0 + 4) 60)) X hA hW hT hS hR (by decide) (by omega) (by simp only [List.length_append, List.length_cons, List.length_nil]; omega) (Nat.le_of_ble_eq_true rfl) hl (⟨by show _ ≤ 40; omega, by show _ ≤ 20000; omega⟩) (dg D_L_span (i := 107) rfl) (fun v196 H locs hW hT hS => ?_)
    have hT : TW G cy bs s H [(q73, v196, [] ++ [115, 112, 97, 110, 32, 115] ++ [97 + k] ++ [32] ++ [110, 111, 110, 101] ++ [32] ++ dec2 (1 + drw cy (K0 + 1) 30) ++ [32] ++ dec2 (drw cy (K0 + 2) 60) ++ [32] ++ dec2 (1 + drw cy (K0 + 3) 20) ++ [32] ++ dec2 (30 + drw cy (K0 + 4) 60))] [] := hT
    have hcs : 0 + 1 + 1 + 1 + 1 + 1 + 1 + 1 + 1 + 1 + 1 + 1 + 1 + 1 + 1 ≤ (rmL 7 40 20000).cells ∧ 0 + 4 + 16 + 600 + 600 + 600 + 600 + 600 + 600 + 600 + 600 + 600 + 600 + 600 + 600 ≤ (rmL 7 40 20000).slots := ⟨by show _ ≤ 40; omega, by show _ ≤ 20000; omega⟩
    refine g_ldc (i := 2) X (by decide) rfl (dg D_L_span (i := 108) rfl) ?_
    refine g_appL (i := 2) (t := [59]) X hA hW hT hS hR (by decide) (by decide) rfl (by simp only [List.length_append, List.length_cons, List.length_nil]; omega) (Nat.le_of_ble_eq_true rfl) hl (⟨by show _ ≤ 40; omega, by show _ ≤ 20000; omega⟩) (dg D_L_span (i := 109) rfl) (fun v201 H locs hW hT hS => ?_)
    have hT : TW G cy bs s H [(q73, v201, [] ++ [115, 112, 97, 110, 32, 115] ++ [97 + k] ++ [32] ++ [110, 111, 110, 101] ++ [32] ++ dec2 (1 + drw cy (K0 + 1) 30) ++ [32] ++ dec2 (drw cy (K0 + 2) 60) ++ [32] ++ dec2 (1 + drw cy (K0 + 3) 20) ++ [32] ++ dec2 (30 + drw cy (K0 + 4) 60) ++ [59])] [] := hT
    have hcs : 0 + 1 + 1 + 1 + 1 + 1 + 1 + 1 + 1 + 1 + 1 + 1 + 1 + 1 + 1 + 1 ≤ (rmL 7 40 20000).cells ∧ 0 + 4 + 16 + 600 + 600 + 600 + 600 + 600 + 600 + 600 + 600 + 600 + 600 + 600 + 600 + 600 ≤ (rmL 7 40 20000).slots := ⟨by show _ ≤ 40; omega, by show _ ≤ 20000; omega⟩
    refine g_toS X hA hW hT hS hR (by decide) (by simp only [List.length_append, List.length_cons, List.length_nil]; omega) (Nat.le_of_ble_eq_true rfl) hl (⟨by show _ ≤ 40; omega, by show _ + (List.length _ + 4) ≤ 20000; have := (show ([] ++ [115, 112, 97, 110, 32, 115] ++ [97 + k] ++ [32] ++ [110, 111, 110, 101] ++ [32] ++ dec2 (1 + drw cy (K0 + 1) 30) ++ [32] ++ dec2 (drw cy (K0 + 2) 60) ++ [32] ++ dec2 (1 + drw cy (K0 + 3) 20) ++ [32] ++ dec2 (30 + drw cy (K0 + 4) 60) ++ [59]).length ≤ 300 from by simp only [List.length_append, List.length_cons, List.length_nil]; omega); omega⟩) (dg D_L_span (i := 110) rfl) (fun ⟨a204, w204, t204⟩ H locs htx204 hxc hW hT hS => ?_)
    have htx204 : t204 = [] ++ [115, 112, 97, 110, 32, 115] ++ [97 + k] ++ [32] ++ [110, 111, 110, 101] ++ [32] ++ dec2 (1 + drw cy (K0 + 1) 30) ++ [32] ++ dec2 (drw cy (K0 + 2) 60) ++ [32] ++ dec2 (1 + drw cy (K0 + 3) 20) ++ [32] ++ dec2 (30 + drw cy (K0 + 4) 60) ++ [59] := htx204
    subst htx204
    refine W.widen (k := 0 + 1 + 1 + 1 + 1 + 1 + 1 + 1 + 1 + 1 + 1 + 1 + 1 + 1 + 1 + 1 + 2) (n := 0 + 4 + 16 + 600 + 600 + 600 + 600 + 600 + 600 + 600 + 600 + 600 + 600 + 600 + 600 + 600 + 304) (by omega) (by have := (show ([] ++ [115, 112, 97, 110, 32, 115] ++ [97 + k] ++ [32] ++ [110, 111, 110, 101] ++ [32] ++ dec2 (1 + drw cy (K0 + 1) 30) ++ [32] ++ dec2 (drw cy (K0 + 2) 60) ++ [32] ++ dec2 (1 + drw cy (K0 + 3) 20) ++ [32] ++ dec2 (30 + drw cy (K0 + 4) 60) ++ [59]).length ≤ 300 from by simp only [List.length_append, List.length_cons, List.length_nil]; omega); omega) ?_
    have hcs : 0 + 1 + 1 + 1 + 1 + 1 + 1 + 1 + 1 + 1 + 1 + 1 + 1 + 1 + 1 + 1 + 2 ≤ (rmL 7 40 20000).cells ∧ 0 + 4 + 16 + 600 + 600 + 600 + 600 + 600 + 600 + 600 + 600 + 600 + 600 + 600 + 600 + 600 + 304 ≤ (rmL 7 40 20000).slots := ⟨by show _ ≤ 40; omega, by show _ ≤ 20000; omega⟩
    exact fin (x := (a204, w204, ([] ++ [115, 112, 97, 110, 32, 115] ++ [97 + k] ++ [32] ++ [110, 111, 110, 101] ++ [32] ++ dec2 (1 + drw cy (K0 + 1) 30) ++ [32] ++ dec2 (drw cy (K0 + 2) 60) ++ [32] ++ dec2 (1 + drw cy (K0 + 3) 20) ++ [32] ++ dec2 (30 + drw cy (K0 + 4) 60) ++ [59]))) (dg D_L_span (i := 111) rfl) (by omega) (by omega) hW hS hxc ⟨by unfold spanT laneT; rw [if_pos (by rcases Nat.eq_zero_or_pos (drw cy K0 (ln9 + 1)) with z | z; exact z; exact absurd ((ln_ge (by omega)).mpr z) c104)], hF, hat, h69, h70, h71, h72, h73, rfl, rfl⟩

