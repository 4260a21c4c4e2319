set_option maxHeartbeats 4000000 in
set_option maxRecDepth 100000 in
theorem c_L_chosen {l : Launch} {G : va_G} {bs : Nat} {cy : Nat → ClassId} {I : CI} {L : CL} {R : CR} (k9 : Nat) (m9 : Nat) (hR67 : R 67 0 = cy 70) (hat : I 67 1 = nI k9) (hk9 : k9 < 1000) (hm0 : 0 < m9) (hm9 : m9 < 1000) : MTi l G bs cy ML_chosen 2 [.ref (ad bs 67), .int (nI m9)] I L R (fun r I1 L1 R1 => nI (drw cy k9 m9) = r ∧ Fr SAt I I1 ∧ I1 67 1 = nI (k9 + 1) ∧ L = L1 ∧ R = R1) := by
  refine MTi.of (own := RL) pn_RL rfl (Nat.le_of_ble_eq_true rfl) ?_
  intro p e s m args below meth c Qf X hW hS fin ls hl
  have hx := X.1
  have hb := X.2.1
  have hR : RmOK (rmL 2 0 0) 2 := ⟨rfl, rfl⟩
  have hcs : 0 ≤ (rmL 2 0 0).cells ∧ 0 ≤ (rmL 2 0 0).slots := ⟨Nat.zero_le _, Nat.zero_le _⟩
  have hl : lv_has ls 3 [(0, .ref (ad bs 67)), (1, .int (nI m9))] := hl
  have hF : Fr SAt I I := Fr.rf
  have hc9 : (cy 71 : Nat) < 2 ^ 31 := X.2.2.2.2.2.2.2.2.2.2.2.2.2.2.2.2.2.2.2
  refine lv_aload_n hx hb (dg D_L_chosen (i := 0) rfl) rfl (lv_at hl 0 rfl) ?_
  refine rL_get (v := .ref (cy 70)) X hW FI_L_7 (congrArg (fun z => some (Value.ref z)) hR67) (dg D_L_chosen (i := 1) rfl) ?_
  refine lv_aload_n hx hb (dg D_L_chosen (i := 2) rfl) rfl (lv_at hl 0 rfl) ?_
  refine rL_get (v := .int (nI k9)) X hW FI_L_66 (congrArg (fun z => some (Value.int z)) hat) (dg D_L_chosen (i := 3) rfl) ?_
  refine callSi X hW hS hR (c_L_cell (I := I) k9 (by first | exact hk9 | assumption | omega | decide | exact hP.1) (by first | exact hc9 | assumption | omega | decide | exact hP.1)) (by decide) USL_cell LK_L_70 rfl rfl (Nat.le_of_ble_eq_true rfl) hl hcs (dg D_L_chosen (i := 4) rfl) (fun r8 I8 L1 R1 H locs hq hW hS => ?_)
  obtain ⟨rfl, rfl, rfl, rfl⟩ := hq
  refine lv_iload_n hx hb (dg D_L_chosen (i := 5) rfl) rfl (lv_at hl 1 rfl) ?_
  refine callSi X hW hS hR (c_L_among (I := I) (chs cy k9) m9 (by first | exact h0 | assumption | omega | decide | exact hP.1) (by first | exact hn9 | assumption | omega | decide | exact hP.1)) (by decide) USL_among LK_L_74 rfl rfl (Nat.le_of_ble_eq_true rfl) hl hcs (dg D_L_chosen (i := 6) rfl) (fun r12 I12 L1 R1 H locs hq hW hS => ?_)
  obtain ⟨rfl, rfl, rfl, rfl⟩ := hq
  refine lv_istore_n (lv' := [(2, .int (nI (amN (chs cy k9) m9))), (0, .ref (ad bs 67)), (1, .int (nI m9))]) hx hb (dg D_L_chosen (i := 7) rfl) rfl hl (by decide) rfl (fun ls hl => ?_)
  refine lv_aload_n hx hb (dg D_L_chosen (i := 8) rfl) rfl (lv_at hl 1 rfl) ?_
  refine lv_dup hx hb (dg D_L_chosen (i := 9) rfl) rfl ?_
  refine rL_get (v := .int (nI k9)) X hW FI_L_66 (congrArg (fun z => some (Value.int z)) hat) (dg D_L_chosen (i := 10) rfl) ?_
  refine n_iconst (a := 1) hx hb (dg D_L_chosen (i := 11) rfl) rfl ?_
  refine n_iadd hx hb (dg D_L_chosen (i := 12) rfl) ?_
  refine rL_puti (v := nI (k9 + 1)) X hW hS FI_L_66 (by decide +kernel) (by decide +kernel) rfl (by decide) (dg D_L_chosen (i := 13) rfl) (fun H locs hW hS => ?_)
  have hF : Fr SAt I (u2 I 67 1 (nI (k9 + 1))) := Fr.put hF rfl
  obtain ⟨J23, eJ23⟩ : ∃ J, J = u2 I 67 1 (nI (k9 + 1)) := ⟨_, rfl⟩
  rw [← eJ23] at hW hF
  refine lv_iload_n hx hb (dg D_L_chosen (i := 14) rfl) rfl (lv_at hl 0 rfl) ?_
  exact fin (dg D_L_chosen (i := 15) rfl) hW hS ⟨rfl, hF, by rw [eJ23, u2_at], rfl, rfl⟩

