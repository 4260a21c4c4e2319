set_option maxHeartbeats 4000000 in
set_option maxRecDepth 100000 in
theorem c_X1_reset {l : Launch} {G : va_G} {bs : Nat} {cy : Nat → ClassId} {I : CI} {L : CL} {R : CR} (β : Nat) (hβ : isBr β) : MTv l G bs cy MX1_reset 2 [.ref (bs + β)] I L R (fun I1 L1 R1 => Fr (SB9 β) I I1 ∧ (∀ f, BrAt I1 β (iniR f)) ∧ L = L1 ∧ R = R1) := by
  refine MTv.of (own := RX1) pn_RX1 rfl (Nat.le_of_ble_eq_true rfl) ?_
  intro p e s m args below meth c Qf X hW hS fin ls hl
  have hx := X.1
  have hb := X.2.1
  have hR : RmOK (rmL 2 0 0) 2 := ⟨rfl, rfl⟩
  have hcs : 0 ≤ (rmL 2 0 0).cells ∧ 0 ≤ (rmL 2 0 0).slots := ⟨Nat.zero_le _, Nat.zero_le _⟩
  have hl : lv_has ls 1 [(0, .ref (bs + β))] := hl
  have hF : Fr (SB9 β) I I := Fr.rf
  refine lv_aload_n hx hb (dg D_X1_reset (i := 0) rfl) rfl (lv_at hl 0 rfl) ?_
  refine lv_bipush (v := nI 8) hx hb (dg D_X1_reset (i := 1) rfl) (by decide) ?_
  refine r_puti (v := nI 8) (ty := .int) X hW hS FI_X1_45 (shB hβ) (ncB0 hβ) rfl rfl (by decide +kernel) rfl rfl (dg D_X1_reset (i := 2) rfl) (fun H locs hW hS => ?_)
  have hF : Fr (SB9 β) I (u2 I β 0 (nI 8)) := Fr.put hF SB9_0
  obtain ⟨J3, eJ3⟩ : ∃ J, J = u2 I β 0 (nI 8) := ⟨_, rfl⟩
  rw [← eJ3] at hW hF
  have p0 : J3 β 0 = nI 8 := by rw [eJ3]; exact u2_at
  refine lv_aload_n hx hb (dg D_X1_reset (i := 3) rfl) rfl (lv_at hl 0 rfl) ?_
  refine n_iconst (a := 2) hx hb (dg D_X1_reset (i := 4) rfl) rfl ?_
  refine r_puti (v := nI 2) (ty := .int) X hW hS FI_X1_49 (shB hβ) (ncB0 hβ) rfl rfl (by decide +kernel) rfl rfl (dg D_X1_reset (i := 5) rfl) (fun H locs hW hS => ?_)
  have hF : Fr (SB9 β) I (u2 J3 β 1 (nI 2)) := Fr.put hF SB9_0
  obtain ⟨J8, eJ8⟩ : ∃ J, J = u2 J3 β 1 (nI 2) := ⟨_, rfl⟩
  rw [← eJ8] at hW hF
  have p0 : J8 β 0 = nI 8 := by rw [eJ8, u2_off (Or.inr (by decide))]; exact p0
  have p1 : J8 β 1 = nI 2 := by rw [eJ8]; exact u2_at
  refine lv_aload_n hx hb (dg D_X1_reset (i := 6) rfl) rfl (lv_at hl 0 rfl) ?_
  refine n_iconst (a := 3) hx hb (dg D_X1_reset (i := 7) rfl) rfl ?_
  refine r_puti (v := nI 3) (ty := .int) X hW hS FI_X1_52 (shB hβ) (ncB0 hβ) rfl rfl (by decide +kernel) rfl rfl (dg D_X1_reset (i := 8) rfl) (fun H locs hW hS => ?_)
  have hF : Fr (SB9 β) I (u2 J8 β 2 (nI 3)) := Fr.put hF SB9_0
  obtain ⟨J13, eJ13⟩ : ∃ J, J = u2 J8 β 2 (nI 3) := ⟨_, rfl⟩
  rw [← eJ13] at hW hF
  have p0 : J13 β 0 = nI 8 := by rw [eJ13, u2_off (Or.inr (by decide))]; exact p0
  have p1 : J13 β 1 = nI 2 := by rw [eJ13, u2_off (Or.inr (by decide))]; exact p1
  have p2 : J13 β 2 = nI 3 := by rw [eJ13]; exact u2_at
  refine lv_aload_n hx hb (dg D_X1_reset (i := 9) rfl) rfl (lv_at hl 0 rfl) ?_
  refine n_iconst (a := 0) hx hb (dg D_X1_reset (i := 10) rfl) rfl ?_
  refine r_puti (v := nI 0) (ty := .int) X hW hS FI_X1_55 (shB hβ) (ncB0 hβ) rfl rfl (by decide +kernel) rfl rfl (dg D_X1_reset (i := 11) rfl) (fun H locs hW hS => ?_)
  have hF : Fr (SB9 β) I (u2 J13 β 3 (nI 0)) := Fr.put hF SB9_0
  obtain ⟨J18, eJ18⟩ : ∃ J, J = u2 J13 β 3 (nI 0) := ⟨_, rfl⟩
  rw [← eJ18] at hW hF
  have p0 : J18 β 0 = nI 8 := by rw [eJ18, u2_off (Or.inr (by decide))]; exact p0
  have p1 : J18 β 1 = nI 2 := by rw [eJ18, u2_off (Or.inr (by decide))]; exact p1
  have p2 : J18 β 2 = nI 3 := by rw [eJ18, u2_off (Or.inr (by decide))]; exact p2
  have p3 : J18 β 3 = nI 0 := by rw [eJ18]; exact u2_at
  refine lv_aload_n hx hb (dg D_X1_reset (i := 12) rfl) rfl (lv_at hl 0 rfl) ?_
  refine n_iconst (a := 0) hx hb (dg D_X1_reset (i := 13) rfl) rfl ?_
  refine r_puti (v := nI 0) (ty := .int) X hW hS FI_X1_58 (shB hβ) (ncB0 hβ) rfl rfl (by decide +kernel) rfl rfl (dg D_X1_reset (i := 14) rfl) (fun H locs hW hS => ?_)
  have hF : Fr (SB9 β) I (u2 J18 β 4 (nI 0)) := Fr.put hF SB9_0
  obtain ⟨J23, eJ23⟩ : ∃ J, J = u2 J18 β 4 (nI 0) := ⟨_, rfl⟩
  rw [← eJ23] at hW hF
  have p0 : J23 β 0 = nI 8 := by rw [eJ23, u2_off (Or.inr (by decide))]; exact p0
  have p1 : J23 β 1 = nI 2 := by rw [eJ23, u2_off (Or.inr (by decide))]; exact p1
  have p2 : J23 β 2 = nI 3 := by rw [eJ23, u2_off (Or.inr (by decide))]; exact p2
  have p3 : J23 β 3 = nI 0 := by rw [eJ23, u2_off (Or.inr (by decide))]; exact p3
  have p4 : J23 β 4 = nI 0 := by rw [eJ23]; exact u2_at
  refine lv_aload_n hx hb (dg D_X1_reset (i := 15) rfl) rfl (lv_at hl 0 rfl) ?_
  refine n_iconst (a := 0) hx hb (dg D_X1_reset (i := 16) rfl) rfl ?_
  refine r_puti (v := nI 0) (ty := .int) X hW hS FI_X1_61 (shB hβ) (ncB0 hβ) rfl rfl (by decide +kernel) rfl rfl (dg D_X1_reset (i := 17) rfl) (fun H locs hW hS => ?_)
  have hF : Fr (SB9 β) I (u2 J23 β 5 (nI 0)) := Fr.put hF SB9_0
  obtain ⟨J28, eJ28⟩ : ∃ J, J = u2 J23 β 5 (nI 0) := ⟨_, rfl⟩
  rw [← eJ28] at hW hF
  have p0 : J28 β 0 = nI 8 := by rw [eJ28, u2_off (Or.inr (by decide))]; exact p0
  have p1 : J28 β 1 = nI 2 := by rw [eJ28, u2_off (Or.inr (by decide))]; exact p1
  have p2 : J28 β 2 = nI 3 := by rw [eJ28, u2_off (Or.inr (by decide))]; exact p2
  have p3 : J28 β 3 = nI 0 := by rw [eJ28, u2_off (Or.inr (by decide))]; exact p3
  have p4 : J28 β 4 = nI 0 := by rw [eJ28, u2_off (Or.inr (by decide))]; exact p4
  have p5 : J28 β 5 = nI 0 := by rw [eJ28]; exact u2_at
  refine lv_aload_n hx hb (dg D_X1_reset (i := 18) rfl) rfl (lv_at hl 0 rfl) ?_
  refine r_getc (t := β + 9) X hW FI_X1_36 (shB hβ) (ncB0 hβ) rfl (dg D_X1_reset (i := 19) rfl) ?_
  refine lv_bipush (v := nI 100) hx hb (dg D_X1_reset (i := 20) rfl) (by decide) ?_
  refine callSv X hW hS hR (c_J7_fill_53178 (I := J28) (β + 9) 12 (nI 100) (shB9 hβ) (ncB hβ (by decide)) (by decide)) (by decide) USJ7_fill_53178 LK_X1_64 rfl rfl (Nat.le_of_ble_eq_true rfl) hl hcs (dg D_X1_reset (i := 21) rfl) (fun I37 L1 R1 H locs hq hW hS => ?_)
  obtain ⟨hT37, hp37_0, rfl, rfl⟩ := hq
  have hF : Fr (SB9 β) I I37 := Fr.tr hF hT37 (by intro a j h; simp only [SC, SB9, Bool.or_eq_true, Bool.and_eq_true, beq_iff_eq, decide_eq_true_eq] at h ⊢; omega)
  have p0 : I37 β 0 = nI 8 := (hT37 β 0 (SC_ne (by omega))).trans p0
  have p1 : I37 β 1 = nI 2 := (hT37 β 1 (SC_ne (by omega))).trans p1
  have p2 : I37 β 2 = nI 3 := (hT37 β 2 (SC_ne (by omega))).trans p2
  have p3 : I37 β 3 = nI 0 := (hT37 β 3 (SC_ne (by omega))).trans p3
  have p4 : I37 β 4 = nI 0 := (hT37 β 4 (SC_ne (by omega))).trans p4
  have p5 : I37 β 5 = nI 0 := (hT37 β 5 (SC_ne (by omega))).trans p5
  have f9 : ∀ y, y < 12 → I37 (β + 9) y = nI 100 := fun y hy => by rw [hp37_0]; exact if_pos hy
  refine lv_aload_n hx hb (dg D_X1_reset (i := 22) rfl) rfl (lv_at hl 0 rfl) ?_
  refine r_getc (t := β + 10) X hW FI_X1_39 (shB hβ) (ncB0 hβ) rfl (dg D_X1_reset (i := 23) rfl) ?_
  refine n_iconst (a := 0) hx hb (dg D_X1_reset (i := 24) rfl) rfl ?_
  refine callSv X hW hS hR (c_J7_fill_53178 (I := I37) (β + 10) 12 (nI 0) (shB10 hβ) (ncB hβ (by decide)) (by decide)) (by decide) USJ7_fill_53178 LK_X1_64 rfl rfl (Nat.le_of_ble_eq_true rfl) hl hcs (dg D_X1_reset (i := 25) rfl) (fun I45 L1 R1 H locs hq hW hS => ?_)
  obtain ⟨hT45, hp45_0, rfl, rfl⟩ := hq
  have hF : Fr (SB9 β) I I45 := Fr.tr hF hT45 (by intro a j h; simp only [SC, SB9, Bool.or_eq_true, Bool.and_eq_true, beq_iff_eq, decide_eq_true_eq] at h ⊢; omega)
  have f9 : ∀ y, y < 12 → I45 (β + 9) y = nI 100 := fun y hy => by rw [hT45 _ _ (SC_ne (by omega))]; exact f9 y hy
  have p0 : I45 β 0 = nI 8 := (hT45 β 0 (SC_ne (by omega))).trans p0
  have p1 : I45 β 1 = nI 2 := (hT45 β 1 (SC_ne (by omega))).trans p1
  have p2 : I45 β 2 = nI 3 := (hT45 β 2 (SC_ne (by omega))).trans p2
  have p3 : I45 β 3 = nI 0 := (hT45 β 3 (SC_ne (by omega))).trans p3
  have p4 : I45 β 4 = nI 0 := (hT45 β 4 (SC_ne (by omega))).trans p4
  have p5 : I45 β 5 = nI 0 := (hT45 β 5 (SC_ne (by omega))).trans p5
  exact fin (dg D_X1_reset (i := 26) rfl) hW hS ⟨hF, fun f => ini_Br p0 p1 p2 p3 p4 p5 f9 (fun y hy => by rw [hp45_0]; exact if_pos hy), rfl, rfl⟩

set_option maxHeartbeats 4000000 in
set_option maxRecDepth 100000 in
theorem c_X1_saveTo {l : Launch} {G : va_G} {bs : Nat} {cy : Nat → ClassId} {I : CI} {L : CL} {R : CR} (σ : Row) (β : Nat) (h : Nat) (hi : Inv σ) (hβ : isBr β) (hB : BrAt I β σ) (hh : shp h = .inr (0, 186)) (hNh : h < NC) (hh3 : h < 27) : MTv l G bs cy MX1_saveTo 1 [.ref (bs + β), .ref (bs + h)] I L R (fun I1 L1 R1 => Fr (SC h) I I1 ∧ SvB (I1 h) σ ∧ (∀ j, 42 ≤ j → I1 h j = I h j) ∧ L = L1 ∧ R = R1) := by
  refine MTv.of (own := RX1) pn_RX1 rfl (Nat.le_of_ble_eq_true rfl) ?_
  intro p e s m args below meth c Qf X hW hS fin ls hl
  have hx := X.1
  have hb := X.2.1
  have hR : RmOK (rmL 1 0 0) 1 := ⟨rfl, rfl⟩
  have hcs : 0 ≤ (rmL 1 0 0).cells ∧ 0 ≤ (rmL 1 0 0).slots := ⟨Nat.zero_le _, Nat.zero_le _⟩
  have hl : lv_has ls 2 [(0, .ref (bs + β)), (1, .ref (bs + h))] := hl
  have hF : Fr (SC h) I I := Fr.rf
  obtain ⟨hY, hY1, hY12, hLn, hL4, hSn, hS12, hGn, hG5⟩ := id hi
  have hβ3 : 31 ≤ β := by rcases hβ with rfl | rfl <;> omega
  have hhi : ∀ j, 42 ≤ j → I h j = I h j := fun _ _ => rfl
  have hB0 := hB
  refine lv_aload_n hx hb (dg D_X1_saveTo (i := 0) rfl) rfl (lv_at hl 0 rfl) ?_
  refine r_getc (t := β + 9) X hW FI_X1_36 (shB hβ) (ncB0 hβ) rfl (dg D_X1_saveTo (i := 1) rfl) ?_
  refine n_iconst (a := 0) hx hb (dg D_X1_saveTo (i := 2) rfl) rfl ?_
  refine lv_aload_n hx hb (dg D_X1_saveTo (i := 3) rfl) rfl (lv_at hl 1 rfl) ?_
  refine n_iconst (a := 0) hx hb (dg D_X1_saveTo (i := 4) rfl) rfl ?_
  refine lv_bipush (v := nI 12) hx hb (dg D_X1_saveTo (i := 5) rfl) (by decide) ?_
  refine r_copy (fr := 0) (at9 := 0) (cn := 12) X hW hS hR (Nat.le_of_ble_eq_true rfl) LK_X1_70 (shB9 hβ) (ncB hβ (by decide)) hh hNh (by omega) (by omega) (by omega) (by decide) hl (dg D_X1_saveTo (i := 6) rfl) (fun H locs hW hS => ?_)
  obtain ⟨J9, eJ9⟩ : ∃ J, J = uR I h (cpR (I (β + 9)) (I h) 0 0 12) := ⟨_, rfl⟩
  rw [← eJ9] at hW
  have hT9 : Fr (SC h) I J9 := by rw [eJ9]; exact fr_uR
  have hp9_0 : J9 h = cpR (I (β + 9)) (I h) 0 0 12 := by rw [eJ9, uR_eq]
  have hF : Fr (SC h) I J9 := Fr.tr hF hT9 (fun _ _ h => h)
  have hB : BrAt J9 β σ := BrAt.frI hB hT9 in_SC (by omega)
  have hhi : ∀ j, 42 ≤ j → J9 h j = I h j := fun j hj => by rw [hp9_0]; exact (if_neg (by omega)).trans (hhi j hj)
  have f1 : ∀ j, j < 12 → J9 h (j) = σ (80 + j) := fun j hj => by rw [hp9_0]; unfold cpR; rw [if_pos (by omega), show 0 + (j - 0) = j by omega]; exact hB0.da hj
  have hB0 := hB
  refine lv_aload_n hx hb (dg D_X1_saveTo (i := 7) rfl) rfl (lv_at hl 0 rfl) ?_
  refine r_getc (t := β + 10) X hW FI_X1_39 (shB hβ) (ncB0 hβ) rfl (dg D_X1_saveTo (i := 8) rfl) ?_
  refine n_iconst (a := 0) hx hb (dg D_X1_saveTo (i := 9) rfl) rfl ?_
  refine lv_aload_n hx hb (dg D_X1_saveTo (i := 10) rfl) rfl (lv_at hl 1 rfl) ?_
  refine lv_bipush (v := nI 12) hx hb (dg D_X1_saveTo (i := 11) rfl) (by decide) ?_
  refine lv_bipush (v := nI 12) hx hb (dg D_X1_saveTo (i := 12) rfl) (by decide) ?_
  refine r_copy (fr := 0) (at9 := 12) (cn := 12) X hW hS hR (Nat.le_of_ble_eq_true rfl) LK_X1_70 (shB10 hβ) (ncB hβ (by decide)) hh hNh (by omega) (by omega) (by omega) (by decide) hl (dg D_X1_saveTo (i := 13) rfl) (fun H locs hW hS => ?_)
  obtain ⟨J22, eJ22⟩ : ∃ J, J = uR J9 h (cpR (J9 (β + 10)) (J9 h) 0 12 12) := ⟨_, rfl⟩
  rw [← eJ22] at hW
  have hT22 : Fr (SC h) J9 J22 := by rw [eJ22]; exact fr_uR
  have hp22_0 : J22 h = cpR (J9 (β + 10)) (J9 h) 0 12 12 := by rw [eJ22, uR_eq]
  have hF : Fr (SC h) I J22 := Fr.tr hF hT22 (fun _ _ h => h)
  have hB : BrAt J22 β σ := BrAt.frI hB hT22 in_SC (by omega)
  have hhi : ∀ j, 42 ≤ j → J22 h j = I h j := fun j hj => by rw [hp22_0]; exact (if_neg (by omega)).trans (hhi j hj)
  have f1 : ∀ j, j < 12 → J22 h (j) = σ (80 + j) := fun j hj => by rw [hp22_0]; unfold cpR; rw [if_neg (by omega)]; exact f1 j hj
  have f2 : ∀ j, j < 12 → J22 h (12 + j) = σ (92 + j) := fun j hj => by rw [hp22_0]; unfold cpR; rw [if_pos (by omega), show 0 + (12 + j - 12) = j by omega]; exact hB0.cl hj
  have hB0 := hB
  refine lv_aload_n hx hb (dg D_X1_saveTo (i := 14) rfl) rfl (lv_at hl 0 rfl) ?_
  refine r_getc (t := β + 5) X hW FI_X1_24 (shB hβ) (ncB0 hβ) rfl (dg D_X1_saveTo (i := 15) rfl) ?_
  refine n_iconst (a := 0) hx hb (dg D_X1_saveTo (i := 16) rfl) rfl ?_
  refine lv_aload_n hx hb (dg D_X1_saveTo (i := 17) rfl) rfl (lv_at hl 1 rfl) ?_
  refine lv_bipush (v := nI 24) hx hb (dg D_X1_saveTo (i := 18) rfl) (by decide) ?_
  refine lv_bipush (v := nI 12) hx hb (dg D_X1_saveTo (i := 19) rfl) (by decide) ?_
  refine r_copy (fr := 0) (at9 := 24) (cn := 12) X hW hS hR (Nat.le_of_ble_eq_true rfl) LK_X1_70 (shB5 hβ) (ncB hβ (by decide)) hh hNh (by omega) (by omega) (by omega) (by decide) hl (dg D_X1_saveTo (i := 20) rfl) (fun H locs hW hS => ?_)
  obtain ⟨J35, eJ35⟩ : ∃ J, J = uR J22 h (cpR (J22 (β + 5)) (J22 h) 0 24 12) := ⟨_, rfl⟩
  rw [← eJ35] at hW
  have hT35 : Fr (SC h) J22 J35 := by rw [eJ35]; exact fr_uR
  have hp35_0 : J35 h = cpR (J22 (β + 5)) (J22 h) 0 24 12 := by rw [eJ35, uR_eq]
  have hF : Fr (SC h) I J35 := Fr.tr hF hT35 (fun _ _ h => h)
  have hB : BrAt J35 β σ := BrAt.frI hB hT35 in_SC (by omega)
  have hhi : ∀ j, 42 ≤ j → J35 h j = I h j := fun j hj => by rw [hp35_0]; exact (if_neg (by omega)).trans (hhi j hj)
  have f1 : ∀ j, j < 12 → J35 h (j) = σ (80 + j) := fun j hj => by rw [hp35_0]; unfold cpR; rw [if_neg (by omega)]; exact f1 j hj
  have f2 : ∀ j, j < 12 → J35 h (12 + j) = σ (92 + j) := fun j hj => by rw [hp35_0]; unfold cpR; rw [if_neg (by omega)]; exact f2 j hj
  have f3 : ∀ j, j < nS σ → J35 h (24 + j) = σ (10 + 5 * j + 3) := fun j hj => by rw [hp35_0]; unfold cpR; rw [if_pos (by omega), show 0 + (24 + j - 24) = j by omega]; exact hB0.ra hj
  have hB0 := hB
  refine lv_aload_n hx hb (dg D_X1_saveTo (i := 21) rfl) rfl (lv_at hl 0 rfl) ?_
  refine r_getc (t := β + 7) X hW FI_X1_30 (shB hβ) (ncB0 hβ) rfl (dg D_X1_saveTo (i := 22) rfl) ?_
  refine n_iconst (a := 0) hx hb (dg D_X1_saveTo (i := 23) rfl) rfl ?_
  refine lv_aload_n hx hb (dg D_X1_saveTo (i := 24) rfl) rfl (lv_at hl 1 rfl) ?_
  refine lv_bipush (v := nI 36) hx hb (dg D_X1_saveTo (i := 25) rfl) (by decide) ?_
  refine n_iconst (a := 5) hx hb (dg D_X1_saveTo (i := 26) rfl) rfl ?_
  refine r_copy (fr := 0) (at9 := 36) (cn := 5) X hW hS hR (Nat.le_of_ble_eq_true rfl) LK_X1_70 (shB7 hβ) (ncB hβ (by decide)) hh hNh (by omega) (by omega) (by omega) (by decide) hl (dg D_X1_saveTo (i := 27) rfl) (fun H locs hW hS => ?_)
  obtain ⟨J47, eJ47⟩ : ∃ J, J = uR J35 h (cpR (J35 (β + 7)) (J35 h) 0 36 5) := ⟨_, rfl⟩
  rw [← eJ47] at hW
  have hT47 : Fr (SC h) J35 J47 := by rw [eJ47]; exact fr_uR
  have hp47_0 : J47 h = cpR (J35 (β + 7)) (J35 h) 0 36 5 := by rw [eJ47, uR_eq]
  have hF : Fr (SC h) I J47 := Fr.tr hF hT47 (fun _ _ h => h)
  have hB : BrAt J47 β σ := BrAt.frI hB hT47 in_SC (by omega)
  have hhi : ∀ j, 42 ≤ j → J47 h j = I h j := fun j hj => by rw [hp47_0]; exact (if_neg (by omega)).trans (hhi j hj)
  have f1 : ∀ j, j < 12 → J47 h (j) = σ (80 + j) := fun j hj => by rw [hp47_0]; unfold cpR; rw [if_neg (by omega)]; exact f1 j hj
  have f2 : ∀ j, j < 12 → J47 h (12 + j) = σ (92 + j) := fun j hj => by rw [hp47_0]; unfold cpR; rw [if_neg (by omega)]; exact f2 j hj
  have f3 : ∀ j, j < nS σ → J47 h (24 + j) = σ (10 + 5 * j + 3) := fun j hj => by rw [hp47_0]; unfold cpR; rw [if_neg (by omega)]; exact f3 j hj
  have f4 : ∀ j, j < nG σ → J47 h (36 + j) = σ (70 + 2 * j + 0) := fun j hj => by rw [hp47_0]; unfold cpR; rw [if_pos (by omega), show 0 + (36 + j - 36) = j by omega]; exact hB0.sp hj
  refine lv_aload_n hx hb (dg D_X1_saveTo (i := 28) rfl) rfl (lv_at hl 1 rfl) ?_
  refine lv_bipush (v := nI 41) hx hb (dg D_X1_saveTo (i := 29) rfl) (by decide) ?_
  refine lv_aload_n hx hb (dg D_X1_saveTo (i := 30) rfl) rfl (lv_at hl 0 rfl) ?_
  refine r_geti (v := σ 1) X hW FI_X1_49 (shB hβ) (ncB0 hβ) rfl hB.c1 (dg D_X1_saveTo (i := 31) rfl) ?_
  refine r_ast (j := 41) (v := σ 1) X hW hS hh hNh rfl (by omega) (by omega) (dg D_X1_saveTo (i := 32) rfl) (fun H locs hW hS => ?_)
  have hF : Fr (SC h) I (u2 J47 h 41 (σ 1)) := Fr.put hF SC_eq
  have hB : BrAt (u2 J47 h 41 (σ 1)) β σ := BrAt.pu hB (by omega)
  have hhi : ∀ j, 42 ≤ j → (u2 J47 h 41 (σ 1)) h j = I h j := fun j hj => by rw [u2_off (by omega)]; exact hhi j hj
  have f1 : ∀ j, j < 12 → (u2 J47 h 41 (σ 1)) h (j) = σ (80 + j) := fun j hj => by rw [u2_off (by omega)]; exact f1 j hj
  have f2 : ∀ j, j < 12 → (u2 J47 h 41 (σ 1)) h (12 + j) = σ (92 + j) := fun j hj => by rw [u2_off (by omega)]; exact f2 j hj
  have f3 : ∀ j, j < nS σ → (u2 J47 h 41 (σ 1)) h (24 + j) = σ (10 + 5 * j + 3) := fun j hj => by rw [u2_off (by omega)]; exact f3 j hj
  have f4 : ∀ j, j < nG σ → (u2 J47 h 41 (σ 1)) h (36 + j) = σ (70 + 2 * j + 0) := fun j hj => by rw [u2_off (by omega)]; exact f4 j hj
  obtain ⟨J57, eJ57⟩ : ∃ J, J = u2 J47 h 41 (σ 1) := ⟨_, rfl⟩
  rw [← eJ57] at hW hF hB hhi f1 f2 f3 f4
  exact fin (dg D_X1_saveTo (i := 33) rfl) hW hS ⟨hF, ⟨fun y hy => ⟨f1 y hy, f2 y hy⟩, f3, f4, by rw [eJ57]; exact u2_at⟩, hhi, rfl, rfl⟩

set_option maxHeartbeats 4000000 in
set_option maxRecDepth 100000 in
theorem c_X1_restoreFrom {l : Launch} {G : va_G} {bs : Nat} {cy : Nat → ClassId} {I : CI} {L : CL} {R : CR} (σ : Row) (τ : Row) (β : Nat) (h : Nat) (hi : Inv σ) (hiτ : Inv τ) (hβ : isBr β) (hB : BrAt I β σ) (hst : Sta σ τ) (hSv : SvB (I h) τ) (hh : shp h = .inr (0, 186)) (hNh : h < NC) (hh3 : h < 27) : MTv l G bs cy MX1_restoreFrom 1 [.ref (bs + β), .ref (bs + h)] I L R (fun I1 L1 R1 => Fr (SRs β) I I1 ∧ BrAt I1 β τ ∧ L = L1 ∧ R = R1) := by
  refine MTv.of (own := RX1) pn_RX1 rfl (Nat.le_of_ble_eq_true rfl) ?_
  intro p e s m args below meth c Qf X hW hS fin ls hl
  have hx := X.1
  have hb := X.2.1
  have hR : RmOK (rmL 1 0 0) 1 := ⟨rfl, rfl⟩
  have hcs : 0 ≤ (rmL 1 0 0).cells ∧ 0 ≤ (rmL 1 0 0).slots := ⟨Nat.zero_le _, Nat.zero_le _⟩
  have hl : lv_has ls 2 [(0, .ref (bs + β)), (1, .ref (bs + h))] := hl
  have hF : Fr (SRs β) I I := Fr.rf
  obtain ⟨hY, hY1, hY12, hLn, hL4, hSn, hS12, hGn, hG5⟩ := id hiτ
  have hβ3 : 31 ≤ β := by rcases hβ with rfl | rfl <;> omega
  have hhe : I h = I h := rfl
  have hh0 := hhe
  refine lv_aload_n hx hb (dg D_X1_restoreFrom (i := 0) rfl) rfl (lv_at hl 1 rfl) ?_
  refine n_iconst (a := 0) hx hb (dg D_X1_restoreFrom (i := 1) rfl) rfl ?_
  refine lv_aload_n hx hb (dg D_X1_restoreFrom (i := 2) rfl) rfl (lv_at hl 0 rfl) ?_
  refine r_getc (t := β + 9) X hW FI_X1_36 (shB hβ) (ncB0 hβ) rfl (dg D_X1_restoreFrom (i := 3) rfl) ?_
  refine n_iconst (a := 0) hx hb (dg D_X1_restoreFrom (i := 4) rfl) rfl ?_
  refine lv_bipush (v := nI 12) hx hb (dg D_X1_restoreFrom (i := 5) rfl) (by decide) ?_
  refine r_copy (fr := 0) (at9 := 0) (cn := 12) X hW hS hR (Nat.le_of_ble_eq_true rfl) LK_X1_70 hh hNh (shB9 hβ) (ncB hβ (by decide)) (by omega) (by omega) (by omega) (by decide) hl (dg D_X1_restoreFrom (i := 6) rfl) (fun H locs hW hS => ?_)
  obtain ⟨J9, eJ9⟩ : ∃ J, J = uR I (β + 9) (cpR (I h) (I (β + 9)) 0 0 12) := ⟨_, rfl⟩
  rw [← eJ9] at hW
  have hT9 : Fr (SC (β + 9)) I J9 := by rw [eJ9]; exact fr_uR
  have hp9_0 : J9 (β + 9) = cpR (I h) (I (β + 9)) 0 0 12 := by rw [eJ9, uR_eq]
  have hF : Fr (SRs β) I J9 := Fr.tr hF hT9 (fun a j h => by simp only [SC, beq_iff_eq] at h; simp only [SRs, Bool.or_eq_true, Bool.and_eq_true, beq_iff_eq]; omega)
  have hhe : J9 h = I h := (Fr.row hT9 (fun _ => SC_ne (by omega))).trans hhe
  have f1 : ∀ j, j < 12 → J9 (β + 9) j = τ (80 + j) := fun j hj => by rw [hp9_0]; unfold cpR; rw [if_pos (by omega), show 0 + (j - 0) = j by omega, hh0]; exact (hSv.1 j hj).1
  have hh0 := hhe
  refine lv_aload_n hx hb (dg D_X1_restoreFrom (i := 7) rfl) rfl (lv_at hl 1 rfl) ?_
  refine lv_bipush (v := nI 12) hx hb (dg D_X1_restoreFrom (i := 8) rfl) (by decide) ?_
  refine lv_aload_n hx hb (dg D_X1_restoreFrom (i := 9) rfl) rfl (lv_at hl 0 rfl) ?_
  refine r_getc (t := β + 10) X hW FI_X1_39 (shB hβ) (ncB0 hβ) rfl (dg D_X1_restoreFrom (i := 10) rfl) ?_
  refine n_iconst (a := 0) hx hb (dg D_X1_restoreFrom (i := 11) rfl) rfl ?_
  refine lv_bipush (v := nI 12) hx hb (dg D_X1_restoreFrom (i := 12) rfl) (by decide) ?_
  refine r_copy (fr := 12) (at9 := 0) (cn := 12) X hW hS hR (Nat.le_of_ble_eq_true rfl) LK_X1_70 hh hNh (shB10 hβ) (ncB hβ (by decide)) (by omega) (by omega) (by omega) (by decide) hl (dg D_X1_restoreFrom (i := 13) rfl) (fun H locs hW hS => ?_)
  obtain ⟨J22, eJ22⟩ : ∃ J, J = uR J9 (β + 10) (cpR (J9 h) (J9 (β + 10)) 12 0 12) := ⟨_, rfl⟩
  rw [← eJ22] at hW
  have hT22 : Fr (SC (β + 10)) J9 J22 := by rw [eJ22]; exact fr_uR
  have hp22_0 : J22 (β + 10) = cpR (J9 h) (J9 (β + 10)) 12 0 12 := by rw [eJ22, uR_eq]
  have hF : Fr (SRs β) I J22 := Fr.tr hF hT22 (fun a j h => by simp only [SC, beq_iff_eq] at h; simp only [SRs, Bool.or_eq_true, Bool.and_eq_true, beq_iff_eq]; omega)
  have hhe : J22 h = I h := (Fr.row hT22 (fun _ => SC_ne (by omega))).trans hhe
  have f1 : ∀ j, j < 12 → J22 (β + 9) j = τ (80 + j) := fun j hj => by rw [hT22 _ _ (SC_ne (by omega))]; exact f1 j hj
  have f2 : ∀ j, j < 12 → J22 (β + 10) j = τ (92 + j) := fun j hj => by rw [hp22_0]; unfold cpR; rw [if_pos (by omega), show 12 + (j - 0) = 12 + j by omega, hh0]; exact (hSv.1 j hj).2
  have hh0 := hhe
  refine lv_aload_n hx hb (dg D_X1_restoreFrom (i := 14) rfl) rfl (lv_at hl 1 rfl) ?_
  refine lv_bipush (v := nI 24) hx hb (dg D_X1_restoreFrom (i := 15) rfl) (by decide) ?_
  refine lv_aload_n hx hb (dg D_X1_restoreFrom (i := 16) rfl) rfl (lv_at hl 0 rfl) ?_
  refine r_getc (t := β + 5) X hW FI_X1_24 (shB hβ) (ncB0 hβ) rfl (dg D_X1_restoreFrom (i := 17) rfl) ?_
  refine n_iconst (a := 0) hx hb (dg D_X1_restoreFrom (i := 18) rfl) rfl ?_
  refine lv_bipush (v := nI 12) hx hb (dg D_X1_restoreFrom (i := 19) rfl) (by decide) ?_
  refine r_copy (fr := 24) (at9 := 0) (cn := 12) X hW hS hR (Nat.le_of_ble_eq_true rfl) LK_X1_70 hh hNh (shB5 hβ) (ncB hβ (by decide)) (by omega) (by omega) (by omega) (by decide) hl (dg D_X1_restoreFrom (i := 20) rfl) (fun H locs hW hS => ?_)
  obtain ⟨J35, eJ35⟩ : ∃ J, J = uR J22 (β + 5) (cpR (J22 h) (J22 (β + 5)) 24 0 12) := ⟨_, rfl⟩
  rw [← eJ35] at hW
  have hT35 : Fr (SC (β + 5)) J22 J35 := by rw [eJ35]; exact fr_uR
  have hp35_0 : J35 (β + 5) = cpR (J22 h) (J22 (β + 5)) 24 0 12 := by rw [eJ35, uR_eq]
  have hF : Fr (SRs β) I J35 := Fr.tr hF hT35 (fun a j h => by simp only [SC, beq_iff_eq] at h; simp only [SRs, Bool.or_eq_true, Bool.and_eq_true, beq_iff_eq]; omega)
  have hhe : J35 h = I h := (Fr.row hT35 (fun _ => SC_ne (by omega))).trans hhe
  have f1 : ∀ j, j < 12 → J35 (β + 9) j = τ (80 + j) := fun j hj => by rw [hT35 _ _ (SC_ne (by omega))]; exact f1 j hj
  have f2 : ∀ j, j < 12 → J35 (β + 10) j = τ (92 + j) := fun j hj => by rw [hT35 _ _ (SC_ne (by omega))]; exact f2 j hj
  have f3 : ∀ j, j < nS τ → J35 (β + 5) j = τ (10 + 5 * j + 3) := fun j hj => by rw [hp35_0]; unfold cpR; rw [if_pos (by omega), show 24 + (j - 0) = 24 + j by omega, hh0]; exact hSv.2.1 j hj
  have hh0 := hhe
  refine lv_aload_n hx hb (dg D_X1_restoreFrom (i := 21) rfl) rfl (lv_at hl 1 rfl) ?_
  refine lv_bipush (v := nI 36) hx hb (dg D_X1_restoreFrom (i := 22) rfl) (by decide) ?_
  refine lv_aload_n hx hb (dg D_X1_restoreFrom (i := 23) rfl) rfl (lv_at hl 0 rfl) ?_
  refine r_getc (t := β + 7) X hW FI_X1_30 (shB hβ) (ncB0 hβ) rfl (dg D_X1_restoreFrom (i := 24) rfl) ?_
  refine n_iconst (a := 0) hx hb (dg D_X1_restoreFrom (i := 25) rfl) rfl ?_
  refine n_iconst (a := 5) hx hb (dg D_X1_restoreFrom (i := 26) rfl) rfl ?_
  refine r_copy (fr := 36) (at9 := 0) (cn := 5) X hW hS hR (Nat.le_of_ble_eq_true rfl) LK_X1_70 hh hNh (shB7 hβ) (ncB hβ (by decide)) (by omega) (by omega) (by omega) (by decide) hl (dg D_X1_restoreFrom (i := 27) rfl) (fun H locs hW hS => ?_)
  obtain ⟨J47, eJ47⟩ : ∃ J, J = uR J35 (β + 7) (cpR (J35 h) (J35 (β + 7)) 36 0 5) := ⟨_, rfl⟩
  rw [← eJ47] at hW
  have hT47 : Fr (SC (β + 7)) J35 J47 := by rw [eJ47]; exact fr_uR
  have hp47_0 : J47 (β + 7) = cpR (J35 h) (J35 (β + 7)) 36 0 5 := by rw [eJ47, uR_eq]
  have hF : Fr (SRs β) I J47 := Fr.tr hF hT47 (fun a j h => by simp only [SC, beq_iff_eq] at h; simp only [SRs, Bool.or_eq_true, Bool.and_eq_true, beq_iff_eq]; omega)
  have hhe : J47 h = I h := (Fr.row hT47 (fun _ => SC_ne (by omega))).trans hhe
  have f1 : ∀ j, j < 12 → J47 (β + 9) j = τ (80 + j) := fun j hj => by rw [hT47 _ _ (SC_ne (by omega))]; exact f1 j hj
  have f2 : ∀ j, j < 12 → J47 (β + 10) j = τ (92 + j) := fun j hj => by rw [hT47 _ _ (SC_ne (by omega))]; exact f2 j hj
  have f3 : ∀ j, j < nS τ → J47 (β + 5) j = τ (10 + 5 * j + 3) := fun j hj => by rw [hT47 _ _ (SC_ne (by omega))]; exact f3 j hj
  have f4 : ∀ j, j < nG τ → J47 (β + 7) j = τ (70 + 2 * j + 0) := fun j hj => by rw [hp47_0]; unfold cpR; rw [if_pos (by omega), show 36 + (j - 0) = 36 + j by omega, hh0]; exact hSv.2.2.1 j hj
  refine lv_aload_n hx hb (dg D_X1_restoreFrom (i := 28) rfl) rfl (lv_at hl 0 rfl) ?_
  refine lv_aload_n hx hb (dg D_X1_restoreFrom (i := 29) rfl) rfl (lv_at hl 1 rfl) ?_
  refine lv_bipush (v := nI 41) hx hb (dg D_X1_restoreFrom (i := 30) rfl) (by decide) ?_
  refine r_ald (j := 41) (v := I h 41) X hW hh hNh rfl (by omega) (by omega) (congrFun hhe _) (dg D_X1_restoreFrom (i := 31) rfl) ?_
  refine r_puti (v := I h 41) (ty := .int) X hW hS FI_X1_49 (shB hβ) (ncB0 hβ) rfl rfl (by decide +kernel) rfl rfl (dg D_X1_restoreFrom (i := 32) rfl) (fun H locs hW hS => ?_)
  have hF : Fr (SRs β) I (u2 J47 β 1 (I h 41)) := Fr.put hF SRs_1
  have hhe : (u2 J47 β 1 (I h 41)) h = I h := by rw [u2_ne (by omega)]; exact hhe
  have f1 : ∀ j, j < 12 → (u2 J47 β 1 (I h 41)) (β + 9) j = τ (80 + j) := fun j hj => by rw [u2_ne (by omega)]; exact f1 j hj
  have f2 : ∀ j, j < 12 → (u2 J47 β 1 (I h 41)) (β + 10) j = τ (92 + j) := fun j hj => by rw [u2_ne (by omega)]; exact f2 j hj
  have f3 : ∀ j, j < nS τ → (u2 J47 β 1 (I h 41)) (β + 5) j = τ (10 + 5 * j + 3) := fun j hj => by rw [u2_ne (by omega)]; exact f3 j hj
  have f4 : ∀ j, j < nG τ → (u2 J47 β 1 (I h 41)) (β + 7) j = τ (70 + 2 * j + 0) := fun j hj => by rw [u2_ne (by omega)]; exact f4 j hj
  obtain ⟨J55, eJ55⟩ : ∃ J, J = u2 J47 β 1 (I h 41) := ⟨_, rfl⟩
  rw [← eJ55] at hW hF hhe f1 f2 f3 f4
  exact fin (dg D_X1_restoreFrom (i := 33) rfl) hW hS ⟨hF, by
      have hs0 := hst.S
      have hg0 := hst.G
      have hl0 := hst.L
      have e : ∀ k j, k ≤ 10 → (k = 0 → j ≠ 1) → k ≠ 9 → k ≠ 10 → k ≠ 5 → k ≠ 7 → J55 (β + k) j = I (β + k) j := fun k j h0 h1 h2 h3 h4 h5 => hF _ _ (by cases hS : SRs β (β + k) j with | false => rfl | true => simp only [SRs, Bool.or_eq_true, Bool.and_eq_true, beq_iff_eq] at hS; omega)
      refine ⟨⟨?_, ?_, ?_, ?_, ?_, ?_⟩, fun k hk => ?_, fun x hx => ?_, fun g hg => ?_, fun y hy => ⟨f1 y hy, f2 y hy⟩⟩
      · rw [hst.1 0 (by omega)]; exact (e 0 0 (by omega) (by omega) (by omega) (by omega) (by omega) (by omega)).trans hB.1.1
      · rw [eJ55]; exact u2_at.trans hSv.2.2.2
      · rw [hst.1 2 (by omega)]; exact (e 0 2 (by omega) (by omega) (by omega) (by omega) (by omega) (by omega)).trans hB.c2
      · rw [hst.1 3 (by omega)]; exact (e 0 3 (by omega) (by omega) (by omega) (by omega) (by omega) (by omega)).trans hB.1.2.2.2.1
      · rw [hst.1 4 (by omega)]; exact (e 0 4 (by omega) (by omega) (by omega) (by omega) (by omega) (by omega)).trans hB.1.2.2.2.2.1
      · rw [hst.1 5 (by omega)]; exact (e 0 5 (by omega) (by omega) (by omega) (by omega) (by omega) (by omega)).trans hB.1.2.2.2.2.2
      · rw [hl0] at hk; rw [hst.1 _ (by omega)]; exact (e 1 k (by omega) (by omega) (by omega) (by omega) (by omega) (by omega)).trans (hB.tr (by omega))
      · have hx2 := hx
        rw [hs0] at hx2
        obtain ⟨s0, s1, s2, s3⟩ := hst.2.1 x (by omega)
        refine ⟨?_, ?_, ?_, f3 x hx, ?_⟩
        · rw [s0]; exact (e 2 x (by omega) (by omega) (by omega) (by omega) (by omega) (by omega)).trans (hB.ln hx2)
        · rw [s1]; exact (e 3 x (by omega) (by omega) (by omega) (by omega) (by omega) (by omega)).trans (hB.ar hx2)
        · rw [s2]; exact (e 4 x (by omega) (by omega) (by omega) (by omega) (by omega) (by omega)).trans (hB.ru hx2)
        · rw [s3]; exact (e 6 x (by omega) (by omega) (by omega) (by omega) (by omega) (by omega)).trans (hB.li hx2)
      · have hg2 := hg
        rw [hg0] at hg2
        refine ⟨f4 g hg, ?_⟩
        rw [hst.2.2 g (by omega)]; exact (e 8 g (by omega) (by omega) (by omega) (by omega) (by omega) (by omega)).trans (hB.wa hg2), rfl, rfl⟩

set_option maxHeartbeats 4000000 in
set_option maxRecDepth 100000 in
theorem c_X1_addLane {l : Launch} {G : va_G} {bs : Nat} {cy : Nat → ClassId} {I : CI} {L : CL} {R : CR} (σ : Row) (β : Nat) (t9 : Int32) (hi : Inv σ) (hβ : isBr β) (hB : BrAt I β σ) (hn4 : nLn σ < 4) : MTv l G bs cy MX1_addLane 1 [.ref (bs + β), .int t9] I L R (fun I1 L1 R1 => Fr (SB9 β) I I1 ∧ BrAt I1 β (adL σ t9) ∧ L = L1 ∧ R = R1) := by
  refine MTv.of (own := RX1) pn_RX1 rfl (Nat.le_of_ble_eq_true rfl) ?_
  intro p e s m args below meth c Qf X hW hS fin ls hl
  have hx := X.1
  have hb := X.2.1
  have hR : RmOK (rmL 1 0 0) 1 := ⟨rfl, rfl⟩
  have hcs : 0 ≤ (rmL 1 0 0).cells ∧ 0 ≤ (rmL 1 0 0).slots := ⟨Nat.zero_le _, Nat.zero_le _⟩
  have hl : lv_has ls 2 [(0, .ref (bs + β)), (1, .int t9)] := hl
  have hF : Fr (SB9 β) I I := Fr.rf
  obtain ⟨hY, hY1, hY12, hLn, hL4, hSn, hS12, hGn, hG5⟩ := id hi
  have hc : I β 3 = nI (nLn σ) := hB.c3 hi
  refine lv_aload_n hx hb (dg D_X1_addLane (i := 0) rfl) rfl (lv_at hl 0 rfl) ?_
  refine r_getc (t := β + 1) X hW FI_X1_11 (shB hβ) (ncB0 hβ) rfl (dg D_X1_addLane (i := 1) rfl) ?_
  refine lv_aload_n hx hb (dg D_X1_addLane (i := 2) rfl) rfl (lv_at hl 0 rfl) ?_
  refine r_geti (v := nI (nLn σ)) X hW FI_X1_55 (shB hβ) (ncB0 hβ) rfl hc (dg D_X1_addLane (i := 3) rfl) ?_
  refine lv_iload_n hx hb (dg D_X1_addLane (i := 4) rfl) rfl (lv_at hl 1 rfl) ?_
  refine r_ast (j := nLn σ) (v := t9) X hW hS (shB1 hβ) (ncB hβ (by decide)) rfl (by omega) (by omega) (dg D_X1_addLane (i := 5) rfl) (fun H locs hW hS => ?_)
  have hF : Fr (SB9 β) I (u2 I (β + 1) (nLn σ) t9) := Fr.put hF (SB9_k (by decide))
  obtain ⟨J9, eJ9⟩ : ∃ J, J = u2 I (β + 1) (nLn σ) t9 := ⟨_, rfl⟩
  rw [← eJ9] at hW hF
  have hc : J9 β 3 = nI (nLn σ) := by rw [eJ9, u2_off (Or.inl (by omega))]; exact hc
  refine lv_aload_n hx hb (dg D_X1_addLane (i := 6) rfl) rfl (lv_at hl 0 rfl) ?_
  refine lv_dup hx hb (dg D_X1_addLane (i := 7) rfl) rfl ?_
  refine r_geti (v := nI (nLn σ)) X hW FI_X1_55 (shB hβ) (ncB0 hβ) rfl hc (dg D_X1_addLane (i := 8) rfl) ?_
  refine n_iconst (a := 1) hx hb (dg D_X1_addLane (i := 9) rfl) rfl ?_
  refine n_iadd hx hb (dg D_X1_addLane (i := 10) rfl) ?_
  refine r_puti (v := nI ((nLn σ) + 1)) (ty := .int) X hW hS FI_X1_55 (shB hβ) (ncB0 hβ) rfl rfl (by decide +kernel) rfl rfl (dg D_X1_addLane (i := 11) rfl) (fun H locs hW hS => ?_)
  have hF : Fr (SB9 β) I (u2 J9 β 3 (nI ((nLn σ) + 1))) := Fr.put hF SB9_0
  obtain ⟨J17, eJ17⟩ : ∃ J, J = u2 J9 β 3 (nI ((nLn σ) + 1)) := ⟨_, rfl⟩
  rw [← eJ17] at hW hF
  have hc : J17 β 3 = nI ((nLn σ) + 1) := by rw [eJ17]; exact u2_at
  exact fin (dg D_X1_addLane (i := 12) rfl) hW hS ⟨hF, by rw [eJ17, eJ9]; exact BrAt_adL hi hB hn4, rfl, rfl⟩

set_option maxHeartbeats 4000000 in
set_option maxRecDepth 100000 in
theorem c_X1_addSpan {l : Launch} {G : va_G} {bs : Nat} {cy : Nat → ClassId} {I : CI} {L : CL} {R : CR} (σ : Row) (β : Nat) (a9 : Int32) (b9 : Int32) (c9 : Int32) (d9 : Int32) (e9 : Int32) (hi : Inv σ) (hβ : isBr β) (hB : BrAt I β σ) (hn4 : nS σ < 12) : MTv l G bs cy MX1_addSpan 1 [.ref (bs + β), .int a9, .int b9, .int c9, .int d9, .int e9] I L R (fun I1 L1 R1 => Fr (SB9 β) I I1 ∧ BrAt I1 β (adS σ a9 b9 c9 d9 e9) ∧ L = L1 ∧ R = R1) := by
  refine MTv.of (own := RX1) pn_RX1 rfl (Nat.le_of_ble_eq_true rfl) ?_
  intro p e s m args below meth c Qf X hW hS fin ls hl
  have hx := X.1
  have hb := X.2.1
  have hR : RmOK (rmL 1 0 0) 1 := ⟨rfl, rfl⟩
  have hcs : 0 ≤ (rmL 1 0 0).cells ∧ 0 ≤ (rmL 1 0 0).slots := ⟨Nat.zero_le _, Nat.zero_le _⟩
  have hl : lv_has ls 6 [(0, .ref (bs + β)), (1, .int a9), (2, .int b9), (3, .int c9), (4, .int d9), (5, .int e9)] := hl
  have hF : Fr (SB9 β) I I := Fr.rf
  obtain ⟨hY, hY1, hY12, hLn, hL4, hSn, hS12, hGn, hG5⟩ := id hi
  have hc : I β 4 = nI (nS σ) := hB.c4 hi
  refine lv_aload_n hx hb (dg D_X1_addSpan (i := 0) rfl) rfl (lv_at hl 0 rfl) ?_
  refine r_getc (t := β + 2) X hW FI_X1_15 (shB hβ) (ncB0 hβ) rfl (dg D_X1_addSpan (i := 1) rfl) ?_
  refine lv_aload_n hx hb (dg D_X1_addSpan (i := 2) rfl) rfl (lv_at hl 0 rfl) ?_
  refine r_geti (v := nI (nS σ)) X hW FI_X1_58 (shB hβ) (ncB0 hβ) rfl hc (dg D_X1_addSpan (i := 3) rfl) ?_
  refine lv_iload_n hx hb (dg D_X1_addSpan (i := 4) rfl) rfl (lv_at hl 1 rfl) ?_
  refine r_ast (j := nS σ) (v := a9) X hW hS (shB2 hβ) (ncB hβ (by decide)) rfl (by omega) (by omega) (dg D_X1_addSpan (i := 5) rfl) (fun H locs hW hS => ?_)
  have hF : Fr (SB9 β) I (u2 I (β + 2) (nS σ) a9) := Fr.put hF (SB9_k (by decide))
  obtain ⟨J9, eJ9⟩ : ∃ J, J = u2 I (β + 2) (nS σ) a9 := ⟨_, rfl⟩
  rw [← eJ9] at hW hF
  have hc : J9 β 4 = nI (nS σ) := by rw [eJ9, u2_off (Or.inl (by omega))]; exact hc
  refine lv_aload_n hx hb (dg D_X1_addSpan (i := 6) rfl) rfl (lv_at hl 0 rfl) ?_
  refine r_getc (t := β + 3) X hW FI_X1_18 (shB hβ) (ncB0 hβ) rfl (dg D_X1_addSpan (i := 7) rfl) ?_
  refine lv_aload_n hx hb (dg D_X1_addSpan (i := 8) rfl) rfl (lv_at hl 0 rfl) ?_
  refine r_geti (v := nI (nS σ)) X hW FI_X1_58 (shB hβ) (ncB0 hβ) rfl hc (dg D_X1_addSpan (i := 9) rfl) ?_
  refine lv_iload_n hx hb (dg D_X1_addSpan (i := 10) rfl) rfl (lv_at hl 2 rfl) ?_
  refine r_ast (j := nS σ) (v := b9) X hW hS (shB3 hβ) (ncB hβ (by decide)) rfl (by omega) (by omega) (dg D_X1_addSpan (i := 11) rfl) (fun H locs hW hS => ?_)
  have hF : Fr (SB9 β) I (u2 J9 (β + 3) (nS σ) b9) := Fr.put hF (SB9_k (by decide))
  obtain ⟨J19, eJ19⟩ : ∃ J, J = u2 J9 (β + 3) (nS σ) b9 := ⟨_, rfl⟩
  rw [← eJ19] at hW hF
  have hc : J19 β 4 = nI (nS σ) := by rw [eJ19, u2_off (Or.inl (by omega))]; exact hc
  refine lv_aload_n hx hb (dg D_X1_addSpan (i := 12) rfl) rfl (lv_at hl 0 rfl) ?_
  refine r_getc (t := β + 4) X hW FI_X1_21 (shB hβ) (ncB0 hβ) rfl (dg D_X1_addSpan (i := 13) rfl) ?_
  refine lv_aload_n hx hb (dg D_X1_addSpan (i := 14) rfl) rfl (lv_at hl 0 rfl) ?_
  refine r_geti (v := nI (nS σ)) X hW FI_X1_58 (shB hβ) (ncB0 hβ) rfl hc (dg D_X1_addSpan (i := 15) rfl) ?_
  refine lv_iload_n hx hb (dg D_X1_addSpan (i := 16) rfl) rfl (lv_at hl 3 rfl) ?_
  refine r_ast (j := nS σ) (v := c9) X hW hS (shB4 hβ) (ncB hβ (by decide)) rfl (by omega) (by omega) (dg D_X1_addSpan (i := 17) rfl) (fun H locs hW hS => ?_)
  have hF : Fr (SB9 β) I (u2 J19 (β + 4) (nS σ) c9) := Fr.put hF (SB9_k (by decide))
  obtain ⟨J29, eJ29⟩ : ∃ J, J = u2 J19 (β + 4) (nS σ) c9 := ⟨_, rfl⟩
  rw [← eJ29] at hW hF
  have hc : J29 β 4 = nI (nS σ) := by rw [eJ29, u2_off (Or.inl (by omega))]; exact hc
  refine lv_aload_n hx hb (dg D_X1_addSpan (i := 18) rfl) rfl (lv_at hl 0 rfl) ?_
  refine r_getc (t := β + 5) X hW FI_X1_24 (shB hβ) (ncB0 hβ) rfl (dg D_X1_addSpan (i := 19) rfl) ?_
  refine lv_aload_n hx hb (dg D_X1_addSpan (i := 20) rfl) rfl (lv_at hl 0 rfl) ?_
  refine r_geti (v := nI (nS σ)) X hW FI_X1_58 (shB hβ) (ncB0 hβ) rfl hc (dg D_X1_addSpan (i := 21) rfl) ?_
  refine lv_iload hx hb (dg D_X1_addSpan (i := 22) rfl) (lv_at hl 4 rfl) ?_
  refine r_ast (j := nS σ) (v := d9) X hW hS (shB5 hβ) (ncB hβ (by decide)) rfl (by omega) (by omega) (dg D_X1_addSpan (i := 23) rfl) (fun H locs hW hS => ?_)
  have hF : Fr (SB9 β) I (u2 J29 (β + 5) (nS σ) d9) := Fr.put hF (SB9_k (by decide))
  obtain ⟨J40, eJ40⟩ : ∃ J, J = u2 J29 (β + 5) (nS σ) d9 := ⟨_, rfl⟩
  rw [← eJ40] at hW hF
  have hc : J40 β 4 = nI (nS σ) := by rw [eJ40, u2_off (Or.inl (by omega))]; exact hc
  refine lv_aload_n hx hb (dg D_X1_addSpan (i := 24) rfl) rfl (lv_at hl 0 rfl) ?_
  refine r_getc (t := β + 6) X hW FI_X1_27 (shB hβ) (ncB0 hβ) rfl (dg D_X1_addSpan (i := 25) rfl) ?_
  refine lv_aload_n hx hb (dg D_X1_addSpan (i := 26) rfl) rfl (lv_at hl 0 rfl) ?_
  refine r_geti (v := nI (nS σ)) X hW FI_X1_58 (shB hβ) (ncB0 hβ) rfl hc (dg D_X1_addSpan (i := 27) rfl) ?_
  refine lv_iload hx hb (dg D_X1_addSpan (i := 28) rfl) (lv_at hl 5 rfl) ?_
  refine r_ast (j := nS σ) (v := e9) X hW hS (shB6 hβ) (ncB hβ (by decide)) rfl (by omega) (by omega) (dg D_X1_addSpan (i := 29) rfl) (fun H locs hW hS => ?_)
  have hF : Fr (SB9 β) I (u2 J40 (β + 6) (nS σ) e9) := Fr.put hF (SB9_k (by decide))
  obtain ⟨J51, eJ51⟩ : ∃ J, J = u2 J40 (β + 6) (nS σ) e9 := ⟨_, rfl⟩
  rw [← eJ51] at hW hF
  have hc : J51 β 4 = nI (nS σ) := by rw [eJ51, u2_off (Or.inl (by omega))]; exact hc
  refine lv_aload_n hx hb (dg D_X1_addSpan (i := 30) rfl) rfl (lv_at hl 0 rfl) ?_
  refine lv_dup hx hb (dg D_X1_addSpan (i := 31) rfl) rfl ?_
  refine r_geti (v := nI (nS σ)) X hW FI_X1_58 (shB hβ) (ncB0 hβ) rfl hc (dg D_X1_addSpan (i := 32) rfl) ?_
  refine n_iconst (a := 1) hx hb (dg D_X1_addSpan (i := 33) rfl) rfl ?_
  refine n_iadd hx hb (dg D_X1_addSpan (i := 34) rfl) ?_
  refine r_puti (v := nI ((nS σ) + 1)) (ty := .int) X hW hS FI_X1_58 (shB hβ) (ncB0 hβ) rfl rfl (by decide +kernel) rfl rfl (dg D_X1_addSpan (i := 35) rfl) (fun H locs hW hS => ?_)
  have hF : Fr (SB9 β) I (u2 J51 β 4 (nI ((nS σ) + 1))) := Fr.put hF SB9_0
  obtain ⟨J59, eJ59⟩ : ∃ J, J = u2 J51 β 4 (nI ((nS σ) + 1)) := ⟨_, rfl⟩
  rw [← eJ59] at hW hF
  have hc : J59 β 4 = nI ((nS σ) + 1) := by rw [eJ59]; exact u2_at
  exact fin (dg D_X1_addSpan (i := 36) rfl) hW hS ⟨hF, by rw [eJ59, eJ51, eJ40, eJ29, eJ19, eJ9]; exact BrAt_adS hi hB hn4, rfl, rfl⟩

set_option maxHeartbeats 4000000 in
set_option maxRecDepth 100000 in
theorem c_X1_addGang {l : Launch} {G : va_G} {bs : Nat} {cy : Nat → ClassId} {I : CI} {L : CL} {R : CR} (σ : Row) (β : Nat) (a9 : Int32) (b9 : Int32) (hi : Inv σ) (hβ : isBr β) (hB : BrAt I β σ) (hn4 : nG σ < 5) : MTv l G bs cy MX1_addGang 1 [.ref (bs + β), .int a9, .int b9] I L R (fun I1 L1 R1 => Fr (SB9 β) I I1 ∧ BrAt I1 β (adG σ a9 b9) ∧ L = L1 ∧ R = R1) := by
  refine MTv.of (own := RX1) pn_RX1 rfl (Nat.le_of_ble_eq_true rfl) ?_
  intro p e s m args below meth c Qf X hW hS fin ls hl
  have hx := X.1
  have hb := X.2.1
  have hR : RmOK (rmL 1 0 0) 1 := ⟨rfl, rfl⟩
  have hcs : 0 ≤ (rmL 1 0 0).cells ∧ 0 ≤ (rmL 1 0 0).slots := ⟨Nat.zero_le _, Nat.zero_le _⟩
  have hl : lv_has ls 3 [(0, .ref (bs + β)), (1, .int a9), (2, .int b9)] := hl
  have hF : Fr (SB9 β) I I := Fr.rf
  obtain ⟨hY, hY1, hY12, hLn, hL4, hSn, hS12, hGn, hG5⟩ := id hi
  have hc : I β 5 = nI (nG σ) := hB.c5 hi
  refine lv_aload_n hx hb (dg D_X1_addGang (i := 0) rfl) rfl (lv_at hl 0 rfl) ?_
  refine r_getc (t := β + 7) X hW FI_X1_30 (shB hβ) (ncB0 hβ) rfl (dg D_X1_addGang (i := 1) rfl) ?_
  refine lv_aload_n hx hb (dg D_X1_addGang (i := 2) rfl) rfl (lv_at hl 0 rfl) ?_
  refine r_geti (v := nI (nG σ)) X hW FI_X1_61 (shB hβ) (ncB0 hβ) rfl hc (dg D_X1_addGang (i := 3) rfl) ?_
  refine lv_iload_n hx hb (dg D_X1_addGang (i := 4) rfl) rfl (lv_at hl 1 rfl) ?_
  refine r_ast (j := nG σ) (v := a9) X hW hS (shB7 hβ) (ncB hβ (by decide)) rfl (by omega) (by omega) (dg D_X1_addGang (i := 5) rfl) (fun H locs hW hS => ?_)
  have hF : Fr (SB9 β) I (u2 I (β + 7) (nG σ) a9) := Fr.put hF (SB9_k (by decide))
  obtain ⟨J9, eJ9⟩ : ∃ J, J = u2 I (β + 7) (nG σ) a9 := ⟨_, rfl⟩
  rw [← eJ9] at hW hF
  have hc : J9 β 5 = nI (nG σ) := by rw [eJ9, u2_off (Or.inl (by omega))]; exact hc
  refine lv_aload_n hx hb (dg D_X1_addGang (i := 6) rfl) rfl (lv_at hl 0 rfl) ?_
  refine r_getc (t := β + 8) X hW FI_X1_33 (shB hβ) (ncB0 hβ) rfl (dg D_X1_addGang (i := 7) rfl) ?_
  refine lv_aload_n hx hb (dg D_X1_addGang (i := 8) rfl) rfl (lv_at hl 0 rfl) ?_
  refine r_geti (v := nI (nG σ)) X hW FI_X1_61 (shB hβ) (ncB0 hβ) rfl hc (dg D_X1_addGang (i := 9) rfl) ?_
  refine lv_iload_n hx hb (dg D_X1_addGang (i := 10) rfl) rfl (lv_at hl 2 rfl) ?_
  refine r_ast (j := nG σ) (v := b9) X hW hS (shB8 hβ) (ncB hβ (by decide)) rfl (by omega) (by omega) (dg D_X1_addGang (i := 11) rfl) (fun H locs hW hS => ?_)
  have hF : Fr (SB9 β) I (u2 J9 (β + 8) (nG σ) b9) := Fr.put hF (SB9_k (by decide))
  obtain ⟨J19, eJ19⟩ : ∃ J, J = u2 J9 (β + 8) (nG σ) b9 := ⟨_, rfl⟩
  rw [← eJ19] at hW hF
  have hc : J19 β 5 = nI (nG σ) := by rw [eJ19, u2_off (Or.inl (by omega))]; exact hc
  refine lv_aload_n hx hb (dg D_X1_addGang (i := 12) rfl) rfl (lv_at hl 0 rfl) ?_
  refine lv_dup hx hb (dg D_X1_addGang (i := 13) rfl) rfl ?_
  refine r_geti (v := nI (nG σ)) X hW FI_X1_61 (shB hβ) (ncB0 hβ) rfl hc (dg D_X1_addGang (i := 14) rfl) ?_
  refine n_iconst (a := 1) hx hb (dg D_X1_addGang (i := 15) rfl) rfl ?_
  refine n_iadd hx hb (dg D_X1_addGang (i := 16) rfl) ?_
  refine r_puti (v := nI ((nG σ) + 1)) (ty := .int) X hW hS FI_X1_61 (shB hβ) (ncB0 hβ) rfl rfl (by decide +kernel) rfl rfl (dg D_X1_addGang (i := 17) rfl) (fun H locs hW hS => ?_)
  have hF : Fr (SB9 β) I (u2 J19 β 5 (nI ((nG σ) + 1))) := Fr.put hF SB9_0
  obtain ⟨J27, eJ27⟩ : ∃ J, J = u2 J19 β 5 (nI ((nG σ) + 1)) := ⟨_, rfl⟩
  rw [← eJ27] at hW hF
  have hc : J27 β 5 = nI ((nG σ) + 1) := by rw [eJ27]; exact u2_at
  exact fin (dg D_X1_addGang (i := 18) rfl) hW hS ⟨hF, by rw [eJ27, eJ19, eJ9]; exact BrAt_adG hi hB hn4, rfl, rfl⟩

