set_option maxHeartbeats 4000000 in
set_option maxRecDepth 100000 in
theorem c_X12_remember {l : Launch} {G : va_G} {bs : Nat} {cy : Nat → ClassId} {I : CI} {L : CL} {R : CR} (σ : Row) (k : Nat) (U : Nat → Row) (hs : I 68 = σ) (hU : HisM I k U) (hed : I 67 5 = nI k) : MTv l G bs cy MX12_remember 2 [.ref (bs + 67)] I L R (fun I1 L1 R1 => Fr SH I I1 ∧ HisM I1 (min 16 (k + 1)) (pushU σ U) ∧ I1 67 5 = nI (min 16 (k + 1)) ∧ L = L1 ∧ R = R1) := by
  refine MTv.of (own := RX12) pn_RX12 rfl (Nat.le_of_ble_eq_true rfl) ?_
  intro p e s m args below meth c Qf X hW hS fin ls hl
  have hx := X.1
  have hb := X.2.1
  have hR : RmOK (rmL 2 0 0) 2 := ⟨rfl, rfl⟩
  have hcs : 0 ≤ (rmL 2 0 0).cells ∧ 0 ≤ (rmL 2 0 0).slots := ⟨Nat.zero_le _, Nat.zero_le _⟩
  have hl : lv_has ls 2 [(0, .ref (bs + 67))] := hl
  have hF : Fr SH I I := Fr.rf
  have hk16 := hU.1
  refine lv_aload_n hx hb (dg D_X12_remember (i := 0) rfl) rfl (lv_at hl 0 rfl) ?_
  refine r_geti (v := nI k) X hW FI_X12_77 rfl (by decide) rfl hed (dg D_X12_remember (i := 1) rfl) ?_
  refine lv_bipush (v := nI 16) hx hb (dg D_X12_remember (i := 2) rfl) (by decide) ?_
  refine n_icmp_ne (tgt := 52) hx hb (by omega) (by omega) (dg D_X12_remember (i := 3) rfl) (by decide) (fun c6 => ?_) (fun c6 => ?_)
  · have h72 : I 72 = I 72 := rfl
    have h68 : I 68 = σ := hs
    refine lv_aload_n hx hb (dg D_X12_remember (i := 27) rfl) rfl (lv_at hl 0 rfl) ?_
    refine r_getc (t := 68) X hW FI_X12_7 rfl (by decide) rfl (dg D_X12_remember (i := 28) rfl) ?_
    refine n_iconst (a := 0) hx hb (dg D_X12_remember (i := 29) rfl) rfl ?_
    refine lv_aload_n hx hb (dg D_X12_remember (i := 30) rfl) rfl (lv_at hl 0 rfl) ?_
    refine r_getc (t := 72) X hW FI_X12_22 rfl (by decide) rfl (dg D_X12_remember (i := 31) rfl) ?_
    refine lv_sipush (v := nI 248) hx hb (dg D_X12_remember (i := 32) rfl) (by decide) ?_
    refine lv_aload_n hx hb (dg D_X12_remember (i := 33) rfl) rfl (lv_at hl 0 rfl) ?_
    refine r_geti (v := nI k) X hW FI_X12_77 rfl (by decide) rfl hed (dg D_X12_remember (i := 34) rfl) ?_
    refine n_imul hx hb (dg D_X12_remember (i := 35) rfl) ?_
    refine callSv X hW hS hR (c_X12_copy (I := I) 68 248 0 72 3968 (248 * k) (rfl) (by first | assumption | omega | decide | exact hP.1) (rfl) (by first | assumption | omega | decide | exact hP.1) (by first | assumption | omega | decide | exact hP.1) (by first | assumption | omega | decide | exact hP.1) (by first | assumption | omega | decide | exact hP.1) (by first | assumption | omega | decide | exact hP.1)) (by decide) USX12_copy LK_X12_80 rfl rfl (Nat.le_of_ble_eq_true rfl) hl hcs (dg D_X12_remember (i := 36) rfl) (fun I69 L1 R1 H locs hq hW hS => ?_)
    obtain ⟨hT69, hp69_0, rfl, rfl⟩ := hq
    have hF : Fr SH I I69 := Fr.tr hF hT69 (by intro a j h; simp only [SC, SH, Bool.or_eq_true, Bool.and_eq_true, beq_iff_eq, decide_eq_true_eq] at h ⊢; omega)
    have hs : I69 68 = σ := by rw [Fr.row hT69 (fun _ => rfl)]; exact hs
    have hed : I69 67 5 = nI k := (hT69 67 5 rfl).trans hed
    refine lv_aload_n hx hb (dg D_X12_remember (i := 37) rfl) rfl (lv_at hl 0 rfl) ?_
    refine lv_dup hx hb (dg D_X12_remember (i := 38) rfl) rfl ?_
    refine r_geti (v := nI k) X hW FI_X12_77 rfl (by decide) rfl hed (dg D_X12_remember (i := 39) rfl) ?_
    refine n_iconst (a := 1) hx hb (dg D_X12_remember (i := 40) rfl) rfl ?_
    refine n_iadd hx hb (dg D_X12_remember (i := 41) rfl) ?_
    refine r_puti (v := nI (k + 1)) (ty := .int) X hW hS FI_X12_77 rfl (by decide) rfl rfl (by decide +kernel) rfl rfl (dg D_X12_remember (i := 42) rfl) (fun H locs hW hS => ?_)
    have hF : Fr SH I (u2 I69 67 5 (nI (k + 1))) := Fr.put hF rfl
    have hs : (u2 I69 67 5 (nI (k + 1))) 68 = σ := hs
    obtain ⟨J79, eJ79⟩ : ∃ J, J = u2 I69 67 5 (nI (k + 1)) := ⟨_, rfl⟩
    rw [← eJ79] at hW hF hs
    have hed : J79 67 5 = nI (k + 1) := by rw [eJ79]; exact u2_at
    exact fin (dg D_X12_remember (i := 43) rfl) hW hS ⟨hF, by show HisR (J79 72) _ _; rw [eJ79, u2_ne (by decide), hp69_0, h68, h72]; rw [show min 16 (k + 1) = k + 1 by omega]; exact HisR.push hU (by omega), by rw [hed]; exact congrArg nI (by omega), rfl, rfl⟩
  · refine lv_sipush (v := nI 248) hx hb (dg D_X12_remember (i := 4) rfl) (by decide) ?_
    refine lv_istore_n (lv' := [(1, .int (nI 248)), (0, .ref (bs + 67))]) hx hb (dg D_X12_remember (i := 5) rfl) rfl hl (by decide) rfl (fun ls hl => ?_)
    have loop13 := up_ind (P := fun i => ∀ (K13 : CI) (H : Heap) (locs : List Loc) (ls : Array Slot) (v1 : Int32), v1 = nI i → (Fr SH I K13) → (K13 68 = σ) → (K13 72 = shR (I 72) i) → (K13 67 5 = nI k) → (248 ≤ i) → Wd G bs cy K13 L R H → va_S (Aq bs) s.heap H locs → lv_has ls 2 [(0, .ref (bs + 67)), (1, .int v1)] → W p l e (rmL 2 0 0) s m args below meth c H locs 0 0 Qf (F0 m 13 ls [])) 3968 (fun i hx13 ih13 => by
        intro K13 H locs ls v1 q1 hF hs hC hed hi2 hW hS hl
        subst q1
        refine lv_iload_n hx hb (dg D_X12_remember (i := 6) rfl) rfl (lv_at hl 1 rfl) ?_
        refine lv_sipush (v := nI 3968) hx hb (dg D_X12_remember (i := 7) rfl) (by decide) ?_
        refine n_icmp_ge (tgt := 42) hx hb (by omega) (by omega) (dg D_X12_remember (i := 8) rfl) (by decide) (fun c17 => ?_) (fun c17 => ?_)
        · refine lv_aload_n hx hb (dg D_X12_remember (i := 21) rfl) rfl (lv_at hl 0 rfl) ?_
          refine lv_dup hx hb (dg D_X12_remember (i := 22) rfl) rfl ?_
          refine r_geti (v := nI k) X hW FI_X12_77 rfl (by decide) rfl hed (dg D_X12_remember (i := 23) rfl) ?_
          refine n_iconst (a := 1) hx hb (dg D_X12_remember (i := 24) rfl) rfl ?_
          refine n_isub hx hb (dg D_X12_remember (i := 25) rfl) (by omega) ?_
          refine r_puti (v := nI (k - 1)) (ty := .int) X hW hS FI_X12_77 rfl (by decide) rfl rfl (by decide +kernel) rfl rfl (dg D_X12_remember (i := 26) rfl) (fun H locs hW hS => ?_)
          have hF : Fr SH I (u2 K13 67 5 (nI (k - 1))) := Fr.put hF rfl
          have hs : (u2 K13 67 5 (nI (k - 1))) 68 = σ := hs
          obtain ⟨J49, eJ49⟩ : ∃ J, J = u2 K13 67 5 (nI (k - 1)) := ⟨_, rfl⟩
          rw [← eJ49] at hW hF hs
          have hed : J49 67 5 = nI (k - 1) := by rw [eJ49]; exact u2_at
          have h72 : J49 72 = shR (I 72) 3968 := by rw [eJ49, u2_ne (by decide), hC, show i = 3968 by omega]
          have h68 : J49 68 = σ := hs
          refine lv_aload_n hx hb (dg D_X12_remember (i := 27) rfl) rfl (lv_at hl 0 rfl) ?_
          refine r_getc (t := 68) X hW FI_X12_7 rfl (by decide) rfl (dg D_X12_remember (i := 28) rfl) ?_
          refine n_iconst (a := 0) hx hb (dg D_X12_remember (i := 29) rfl) rfl ?_
          refine lv_aload_n hx hb (dg D_X12_remember (i := 30) rfl) rfl (lv_at hl 0 rfl) ?_
          refine r_getc (t := 72) X hW FI_X12_22 rfl (by decide) rfl (dg D_X12_remember (i := 31) rfl) ?_
          refine lv_sipush (v := nI 248) hx hb (dg D_X12_remember (i := 32) rfl) (by decide) ?_
          refine lv_aload_n hx hb (dg D_X12_remember (i := 33) rfl) rfl (lv_at hl 0 rfl) ?_
          refine r_geti (v := nI (k - 1)) X hW FI_X12_77 rfl (by decide) rfl hed (dg D_X12_remember (i := 34) rfl) ?_
          refine n_imul hx hb (dg D_X12_remember (i := 35) rfl) ?_
          refine callSv X hW hS hR (c_X12_copy (I := J49) 68 248 0 72 3968 (248 * (k - 1)) (rfl) (by first | assumption | omega | decide | exact hP.1) (rfl) (by first | assumption | omega | decide | exact hP.1) (by first | assumption | omega | decide | exact hP.1) (by first | assumption | omega | decide | exact hP.1) (by first | assumption | omega | decide | exact hP.1) (by first | assumption | omega | decide | exact hP.1)) (by decide) USX12_copy LK_X12_80 rfl rfl (Nat.le_of_ble_eq_true rfl) hl hcs (dg D_X12_remember (i := 36) rfl) (fun I69 L1 R1 H locs hq hW hS => ?_)
          obtain ⟨hT69, hp69_0, rfl, rfl⟩ := hq
          have hF : Fr SH I I69 := Fr.tr hF hT69 (by intro a j h; simp only [SC, SH, Bool.or_eq_true, Bool.and_eq_true, beq_iff_eq, decide_eq_true_eq] at h ⊢; omega)
          have hs : I69 68 = σ := by rw [Fr.row hT69 (fun _ => rfl)]; exact hs
          have hed : I69 67 5 = nI (k - 1) := (hT69 67 5 rfl).trans hed
          refine lv_aload_n hx hb (dg D_X12_remember (i := 37) rfl) rfl (lv_at hl 0 rfl) ?_
          refine lv_dup hx hb (dg D_X12_remember (i := 38) rfl) rfl ?_
          refine r_geti (v := nI (k - 1)) X hW FI_X12_77 rfl (by decide) rfl hed (dg D_X12_remember (i := 39) rfl) ?_
          refine n_iconst (a := 1) hx hb (dg D_X12_remember (i := 40) rfl) rfl ?_
          refine n_iadd hx hb (dg D_X12_remember (i := 41) rfl) ?_
          refine r_puti (v := nI ((k - 1) + 1)) (ty := .int) X hW hS FI_X12_77 rfl (by decide) rfl rfl (by decide +kernel) rfl rfl (dg D_X12_remember (i := 42) rfl) (fun H locs hW hS => ?_)
          have hF : Fr SH I (u2 I69 67 5 (nI ((k - 1) + 1))) := Fr.put hF rfl
          have hs : (u2 I69 67 5 (nI ((k - 1) + 1))) 68 = σ := hs
          obtain ⟨J79, eJ79⟩ : ∃ J, J = u2 I69 67 5 (nI ((k - 1) + 1)) := ⟨_, rfl⟩
          rw [← eJ79] at hW hF hs
          have hed : J79 67 5 = nI ((k - 1) + 1) := by rw [eJ79]; exact u2_at
          exact fin (dg D_X12_remember (i := 43) rfl) hW hS ⟨hF, by show HisR (J79 72) _ _; rw [eJ79, u2_ne (by decide), hp69_0, h68, h72]; subst c6; exact HisR.full hU, by rw [hed]; exact congrArg nI (by omega), rfl, rfl⟩
        · refine lv_aload_n hx hb (dg D_X12_remember (i := 9) rfl) rfl (lv_at hl 0 rfl) ?_
          refine r_getc (t := 72) X hW FI_X12_22 rfl (by decide) rfl (dg D_X12_remember (i := 10) rfl) ?_
          refine lv_iload_n hx hb (dg D_X12_remember (i := 11) rfl) rfl (lv_at hl 1 rfl) ?_
          refine lv_sipush (v := nI 248) hx hb (dg D_X12_remember (i := 12) rfl) (by decide) ?_
          refine n_isub hx hb (dg D_X12_remember (i := 13) rfl) (by omega) ?_
          refine lv_aload_n hx hb (dg D_X12_remember (i := 14) rfl) rfl (lv_at hl 0 rfl) ?_
          refine r_getc (t := 72) X hW FI_X12_22 rfl (by decide) rfl (dg D_X12_remember (i := 15) rfl) ?_
          refine lv_iload_n hx hb (dg D_X12_remember (i := 16) rfl) rfl (lv_at hl 1 rfl) ?_
          refine r_ald (j := i) (v := I 72 i) X hW rfl (by decide) rfl (by omega) (by decide) (by rw [hC]; exact shR_i) (dg D_X12_remember (i := 17) rfl) ?_
          refine r_ast (j := i - 248) (v := I 72 i) X hW hS rfl (by decide) rfl (by omega) (by decide) (dg D_X12_remember (i := 18) rfl) (fun H locs hW hS => ?_)
          have hF : Fr SH I (u2 K13 72 (i - 248) (I 72 i)) := Fr.put hF rfl
          have hs : (u2 K13 72 (i - 248) (I 72 i)) 68 = σ := hs
          obtain ⟨J35, eJ35⟩ : ∃ J, J = u2 K13 72 (i - 248) (I 72 i) := ⟨_, rfl⟩
          rw [← eJ35] at hW hF hs
          have hed : J35 67 5 = nI k := by rw [eJ35, u2_off (Or.inl (by decide))]; exact hed
          refine lv_iinc (v := nI (i + 1)) (lv' := [(1, .int (nI (i + 1))), (0, .ref (bs + 67))]) hx hb (dg D_X12_remember (i := 19) rfl) hl (k := 1) rfl (nI_add _ _) (by decide) rfl (fun ls hl => ?_)
          refine lv_goto (tgt := 13) hx hb (dg D_X12_remember (i := 20) rfl) (by decide) ?_
          exact ih13 (by omega) J35 _ _ _ _ (congrArg nI (by omega)) hF hs (by rw [eJ35, u2_eq, hC]; exact shR_s hi2) hed (by omega) hW hS (lv_sub hl [1, 0] rfl))
    exact loop13 248 (by decide) I _ _ _ _ (congrArg nI (by omega)) hF hs shR_0.symm hed (Nat.le_refl _) hW hS (lv_sub hl [1, 0] rfl)

set_option maxHeartbeats 4000000 in
set_option maxRecDepth 100000 in
theorem c_X12_undo {l : Launch} {G : va_G} {bs : Nat} {cy : Nat → ClassId} {I : CI} {L : CL} {R : CR} (σ : Row) (k : Nat) (U : Nat → Row) (hs : I 68 = σ) (hU : HisM I k U) (hed : I 67 5 = nI k) : MTi l G bs cy MX12_undo 2 [.ref (bs + 67)] I L R (fun r I1 L1 R1 => (if k = 0 then NOTF else nI (k - 1)) = r ∧ Fr SU I I1 ∧ I1 67 6 = nI 0 ∧ I1 68 = (if k = 0 then σ else mixR (U 0) σ) ∧ HisM I1 (k - 1) (if k = 0 then U else popU U) ∧ I1 67 5 = nI (k - 1) ∧ L = L1 ∧ R = R1) := by
  refine MTi.of (own := RX12) pn_RX12 rfl (Nat.le_of_ble_eq_true rfl) ?_
  intro p e s m args below meth c Qf X hW hS fin ls hl
  have hx := X.1
  have hb := X.2.1
  have hR : RmOK (rmL 2 0 0) 2 := ⟨rfl, rfl⟩
  have hcs : 0 ≤ (rmL 2 0 0).cells ∧ 0 ≤ (rmL 2 0 0).slots := ⟨Nat.zero_le _, Nat.zero_le _⟩
  have hl : lv_has ls 1 [(0, .ref (bs + 67))] := hl
  have hF : Fr SU I I := Fr.rf
  have hk16 := hU.1
  refine lv_aload_n hx hb (dg D_X12_undo (i := 0) rfl) rfl (lv_at hl 0 rfl) ?_
  refine n_iconst (a := 0) hx hb (dg D_X12_undo (i := 1) rfl) rfl ?_
  refine r_puti (v := nI 0) (ty := .int) X hW hS FI_X12_74 rfl (by decide) rfl rfl (by decide +kernel) rfl rfl (dg D_X12_undo (i := 2) rfl) (fun H locs hW hS => ?_)
  have hF : Fr SU I (u2 I 67 6 (nI 0)) := Fr.put hF rfl
  have hs : (u2 I 67 6 (nI 0)) 68 = σ := hs
  have hU : HisM (u2 I 67 6 (nI 0)) k U := hU
  obtain ⟨J2, eJ2⟩ : ∃ J, J = u2 I 67 6 (nI 0) := ⟨_, rfl⟩
  rw [← eJ2] at hW hF hs hU
  have hed : J2 67 5 = nI k := by rw [eJ2, u2_off (Or.inr (by decide))]; exact hed
  have hth : J2 67 6 = nI 0 := by rw [eJ2]; exact u2_at
  refine lv_aload_n hx hb (dg D_X12_undo (i := 3) rfl) rfl (lv_at hl 0 rfl) ?_
  refine r_geti (v := nI k) X hW FI_X12_77 rfl (by decide) rfl hed (dg D_X12_undo (i := 4) rfl) ?_
  refine n_if_ne (tgt := 15) hx hb (by omega) (dg D_X12_undo (i := 5) rfl) (by decide) (fun c9 => ?_) (fun c9 => ?_)
  · refine lv_aload_n hx hb (dg D_X12_undo (i := 8) rfl) rfl (lv_at hl 0 rfl) ?_
    refine lv_dup hx hb (dg D_X12_undo (i := 9) rfl) rfl ?_
    refine r_geti (v := nI k) X hW FI_X12_77 rfl (by decide) rfl hed (dg D_X12_undo (i := 10) rfl) ?_
    refine n_iconst (a := 1) hx hb (dg D_X12_undo (i := 11) rfl) rfl ?_
    refine n_isub hx hb (dg D_X12_undo (i := 12) rfl) (by omega) ?_
    refine r_puti (v := nI (k - 1)) (ty := .int) X hW hS FI_X12_77 rfl (by decide) rfl rfl (by decide +kernel) rfl rfl (dg D_X12_undo (i := 13) rfl) (fun H locs hW hS => ?_)
    have hF : Fr SU I (u2 J2 67 5 (nI (k - 1))) := Fr.put hF rfl
    have hs : (u2 J2 67 5 (nI (k - 1))) 68 = σ := hs
    have hU : HisM (u2 J2 67 5 (nI (k - 1))) k U := hU
    obtain ⟨J22, eJ22⟩ : ∃ J, J = u2 J2 67 5 (nI (k - 1)) := ⟨_, rfl⟩
    rw [← eJ22] at hW hF hs hU
    have hed : J22 67 5 = nI (k - 1) := by rw [eJ22]; exact u2_at
    have hth : J22 67 6 = nI 0 := by rw [eJ22, u2_off (Or.inr (by decide))]; exact hth
    refine lv_aload_n hx hb (dg D_X12_undo (i := 14) rfl) rfl (lv_at hl 0 rfl) ?_
    refine r_getc (t := 72) X hW FI_X12_22 rfl (by decide) rfl (dg D_X12_undo (i := 15) rfl) ?_
    refine lv_sipush (v := nI 248) hx hb (dg D_X12_undo (i := 16) rfl) (by decide) ?_
    refine lv_aload_n hx hb (dg D_X12_undo (i := 17) rfl) rfl (lv_at hl 0 rfl) ?_
    refine r_geti (v := nI (k - 1)) X hW FI_X12_77 rfl (by decide) rfl hed (dg D_X12_undo (i := 18) rfl) ?_
    refine n_imul hx hb (dg D_X12_undo (i := 19) rfl) ?_
    refine lv_aload_n hx hb (dg D_X12_undo (i := 20) rfl) rfl (lv_at hl 0 rfl) ?_
    refine r_getc (t := 68) X hW FI_X12_7 rfl (by decide) rfl (dg D_X12_undo (i := 21) rfl) ?_
    refine n_iconst (a := 0) hx hb (dg D_X12_undo (i := 22) rfl) rfl ?_
    have hUc : HisM J22 k U := hU
    have hsc : J22 68 = σ := hs
    refine callSv X hW hS hR (c_X12_copy (I := J22) 72 3968 (248 * (k - 1)) 68 248 0 (rfl) (by first | assumption | omega | decide | exact hP.1) (rfl) (by first | assumption | omega | decide | exact hP.1) (by first | assumption | omega | decide | exact hP.1) (by first | assumption | omega | decide | exact hP.1) (by first | assumption | omega | decide | exact hP.1) (by first | assumption | omega | decide | exact hP.1)) (by decide) USX12_copy LK_X12_80 rfl rfl (Nat.le_of_ble_eq_true rfl) hl hcs (dg D_X12_undo (i := 23) rfl) (fun I42 L1 R1 H locs hq hW hS => ?_)
    obtain ⟨hT42, hp42_0, rfl, rfl⟩ := hq
    have hF : Fr SU I I42 := Fr.tr hF hT42 (by intro a j h; simp only [SC, SU, Bool.or_eq_true, Bool.and_eq_true, beq_iff_eq, decide_eq_true_eq] at h ⊢; omega)
    have hs : I42 68 = mixR (U 0) σ := by rw [hp42_0, hsc]; exact HisR.top (by rw [show k - 1 + 1 = k by omega]; exact hUc)
    have hU : HisM I42 k U := HisM.row hU (Fr.row hT42 (fun _ => rfl))
    have hed : I42 67 5 = nI (k - 1) := (hT42 67 5 rfl).trans hed
    have hth : I42 67 6 = nI 0 := (hT42 67 6 rfl).trans hth
    refine lv_aload_n hx hb (dg D_X12_undo (i := 24) rfl) rfl (lv_at hl 0 rfl) ?_
    refine r_geti (v := nI (k - 1)) X hW FI_X12_77 rfl (by decide) rfl hed (dg D_X12_undo (i := 25) rfl) ?_
    exact fin (dg D_X12_undo (i := 26) rfl) hW hS ⟨by rw [if_neg c9], hF, hth, by rw [if_neg c9]; exact hs, by rw [if_neg c9]; exact HisR.pop (by rw [show k - 1 + 1 = k by omega]; exact hU), hed, rfl, rfl⟩
  · refine r_ldc X CK_X12_28 (dg D_X12_undo (i := 6) rfl) ?_
    exact fin (dg D_X12_undo (i := 7) rfl) hW hS ⟨by rw [if_pos c9], hF, hth, by rw [if_pos c9]; exact hs, by rw [if_pos c9, c9]; rw [c9] at hU; exact hU, by rw [hed, c9], rfl, rfl⟩

