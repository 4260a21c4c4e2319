set_option maxHeartbeats 4000000 in
set_option maxRecDepth 100000 in
theorem c_X12_append {l : Launch} {G : va_G} {bs : Nat} {cy : Nat → ClassId} {I : CI} {L : CL} {R : CR} (v : Int32) (n : Nat) (hbf : I 67 8 = nI n) (hn : n + 4 ≤ 900) : MTv l G bs cy MX12_append 1 [.ref (bs + 67), .int v] I L R (fun I1 L1 R1 => Fr SB I I1 ∧ I1 67 8 = nI (n + 4) ∧ I1 73 = ap4 (I 73) n v ∧ L = L1 ∧ R = R1) := by
  refine MTv.of (own := RX12) pn_RX12 rfl (Nat.le_of_ble_eq_true rfl) ?_
  intro p e s m args below meth c Qf X hW hS fin ls hl
  have hx := X.1
  have hb := X.2.1
  have hR : RmOK (rmL 1 0 0) 1 := ⟨rfl, rfl⟩
  have hcs : 0 ≤ (rmL 1 0 0).cells ∧ 0 ≤ (rmL 1 0 0).slots := ⟨Nat.zero_le _, Nat.zero_le _⟩
  have hl : lv_has ls 3 [(0, .ref (bs + 67)), (1, .int v)] := hl
  have hF : Fr SB I I := Fr.rf
  have hb3 : I 73 = I 73 := rfl
  refine lv_bipush (v := nI 24) hx hb (dg D_X12_append (i := 0) rfl) (by decide) ?_
  refine lv_istore_n (lv' := [(2, .int (nI 24)), (0, .ref (bs + 67)), (1, .int v)]) hx hb (dg D_X12_append (i := 1) rfl) rfl hl (by decide) rfl (fun ls hl => ?_)
  refine lv_iload_n hx hb (dg D_X12_append (i := 2) rfl) rfl (lv_at hl 0 rfl) ?_
  refine n_if_lt (tgt := 39) hx hb (by omega) (dg D_X12_append (i := 3) rfl) (by decide) (fun c4 => ?_) (fun c4 => ?_)
  · exact absurd c4 (by decide)
  · refine lv_aload_n hx hb (dg D_X12_append (i := 4) rfl) rfl (lv_at hl 1 rfl) ?_
    refine r_getc (t := 73) X hW FI_X12_25 rfl (by decide) rfl (dg D_X12_append (i := 5) rfl) ?_
    refine lv_aload_n hx hb (dg D_X12_append (i := 6) rfl) rfl (lv_at hl 1 rfl) ?_
    refine r_geti (v := nI n) X hW FI_X12_99 rfl (by decide) rfl hbf (dg D_X12_append (i := 7) rfl) ?_
    refine lv_iload_n hx hb (dg D_X12_append (i := 8) rfl) rfl (lv_at hl 2 rfl) ?_
    refine lv_iload_n hx hb (dg D_X12_append (i := 9) rfl) rfl (lv_at hl 0 rfl) ?_
    refine lv_iushr (v := (v.toUInt32 >>> ((nI 24).toUInt32 &&& Int32.toUInt32 31)).toInt32) hx hb (dg D_X12_append (i := 10) rfl) rfl ?_
    refine lv_sipush (v := nI 255) hx hb (dg D_X12_append (i := 11) rfl) (by decide) ?_
    refine lv_iand hx hb (dg D_X12_append (i := 12) rfl) ?_
    refine r_ast (j := n) (v := ((v.toUInt32 >>> ((nI 24).toUInt32 &&& Int32.toUInt32 31)).toInt32) &&& (nI 255)) X hW hS rfl (by decide) rfl (by omega) (by decide) (dg D_X12_append (i := 13) rfl) (fun H locs hW hS => ?_)
    have hF : Fr SB I (u2 I 73 n (((v.toUInt32 >>> ((nI 24).toUInt32 &&& Int32.toUInt32 31)).toInt32) &&& (nI 255))) := Fr.put hF rfl
    have hb3 : (u2 I 73 n (((v.toUInt32 >>> ((nI 24).toUInt32 &&& Int32.toUInt32 31)).toInt32) &&& (nI 255))) 73 = upd (I 73) n (((v.toUInt32 >>> ((nI 24).toUInt32 &&& Int32.toUInt32 31)).toInt32) &&& (nI 255)) := by rw [u2_eq, hb3]
    obtain ⟨J22, eJ22⟩ : ∃ J, J = u2 I 73 n (((v.toUInt32 >>> ((nI 24).toUInt32 &&& Int32.toUInt32 31)).toInt32) &&& (nI 255)) := ⟨_, rfl⟩
    rw [← eJ22] at hW hF hb3
    have hbf : J22 67 8 = nI n := by rw [eJ22, u2_off (Or.inl (by decide))]; exact hbf
    refine lv_aload_n hx hb (dg D_X12_append (i := 14) rfl) rfl (lv_at hl 1 rfl) ?_
    refine lv_dup hx hb (dg D_X12_append (i := 15) rfl) rfl ?_
    refine r_geti (v := nI n) X hW FI_X12_99 rfl (by decide) rfl hbf (dg D_X12_append (i := 16) rfl) ?_
    refine n_iconst (a := 1) hx hb (dg D_X12_append (i := 17) rfl) rfl ?_
    refine n_iadd hx hb (dg D_X12_append (i := 18) rfl) ?_
    refine r_puti (v := nI (n + 1)) (ty := .int) X hW hS FI_X12_99 rfl (by decide) rfl rfl (by decide +kernel) rfl rfl (dg D_X12_append (i := 19) rfl) (fun H locs hW hS => ?_)
    have hF : Fr SB I (u2 J22 67 8 (nI (n + 1))) := Fr.put hF rfl
    have hb3 : (u2 J22 67 8 (nI (n + 1))) 73 = upd (I 73) n (((v.toUInt32 >>> ((nI 24).toUInt32 &&& Int32.toUInt32 31)).toInt32) &&& (nI 255)) := hb3
    obtain ⟨J30, eJ30⟩ : ∃ J, J = u2 J22 67 8 (nI (n + 1)) := ⟨_, rfl⟩
    rw [← eJ30] at hW hF hb3
    have hbf : J30 67 8 = nI (n + 1) := by rw [eJ30]; exact u2_at
    refine lv_iinc (v := nI 16) (lv' := [(2, .int (nI 16)), (0, .ref (bs + 67)), (1, .int v)]) hx hb (dg D_X12_append (i := 20) rfl) hl (k := 0) rfl (by decide) (by decide) rfl (fun ls hl => ?_)
    refine lv_goto (tgt := 3) hx hb (dg D_X12_append (i := 21) rfl) (by decide) ?_
    refine lv_iload_n hx hb (dg D_X12_append (i := 2) rfl) rfl (lv_at hl 0 rfl) ?_
    refine n_if_lt (tgt := 39) hx hb (by omega) (dg D_X12_append (i := 3) rfl) (by decide) (fun c4 => ?_) (fun c4 => ?_)
    · exact absurd c4 (by decide)
    · refine lv_aload_n hx hb (dg D_X12_append (i := 4) rfl) rfl (lv_at hl 1 rfl) ?_
      refine r_getc (t := 73) X hW FI_X12_25 rfl (by decide) rfl (dg D_X12_append (i := 5) rfl) ?_
      refine lv_aload_n hx hb (dg D_X12_append (i := 6) rfl) rfl (lv_at hl 1 rfl) ?_
      refine r_geti (v := nI (n + 1)) X hW FI_X12_99 rfl (by decide) rfl hbf (dg D_X12_append (i := 7) rfl) ?_
      refine lv_iload_n hx hb (dg D_X12_append (i := 8) rfl) rfl (lv_at hl 2 rfl) ?_
      refine lv_iload_n hx hb (dg D_X12_append (i := 9) rfl) rfl (lv_at hl 0 rfl) ?_
      refine lv_iushr (v := (v.toUInt32 >>> ((nI 16).toUInt32 &&& Int32.toUInt32 31)).toInt32) hx hb (dg D_X12_append (i := 10) rfl) rfl ?_
      refine lv_sipush (v := nI 255) hx hb (dg D_X12_append (i := 11) rfl) (by decide) ?_
      refine lv_iand hx hb (dg D_X12_append (i := 12) rfl) ?_
      refine r_ast (j := n + 1) (v := ((v.toUInt32 >>> ((nI 16).toUInt32 &&& Int32.toUInt32 31)).toInt32) &&& (nI 255)) X hW hS rfl (by decide) rfl (by omega) (by decide) (dg D_X12_append (i := 13) rfl) (fun H locs hW hS => ?_)
      have hF : Fr SB I (u2 J30 73 (n + 1) (((v.toUInt32 >>> ((nI 16).toUInt32 &&& Int32.toUInt32 31)).toInt32) &&& (nI 255))) := Fr.put hF rfl
      have hb3 : (u2 J30 73 (n + 1) (((v.toUInt32 >>> ((nI 16).toUInt32 &&& Int32.toUInt32 31)).toInt32) &&& (nI 255))) 73 = upd (upd (I 73) n (((v.toUInt32 >>> ((nI 24).toUInt32 &&& Int32.toUInt32 31)).toInt32) &&& (nI 255))) (n + 1) (((v.toUInt32 >>> ((nI 16).toUInt32 &&& Int32.toUInt32 31)).toInt32) &&& (nI 255)) := by rw [u2_eq, hb3]
      obtain ⟨J22, eJ22⟩ : ∃ J, J = u2 J30 73 (n + 1) (((v.toUInt32 >>> ((nI 16).toUInt32 &&& Int32.toUInt32 31)).toInt32) &&& (nI 255)) := ⟨_, rfl⟩
      rw [← eJ22] at hW hF hb3
      have hbf : J22 67 8 = nI (n + 1) := by rw [eJ22, u2_off (Or.inl (by decide))]; exact hbf
      refine lv_aload_n hx hb (dg D_X12_append (i := 14) rfl) rfl (lv_at hl 1 rfl) ?_
      refine lv_dup hx hb (dg D_X12_append (i := 15) rfl) rfl ?_
      refine r_geti (v := nI (n + 1)) X hW FI_X12_99 rfl (by decide) rfl hbf (dg D_X12_append (i := 16) rfl) ?_
      refine n_iconst (a := 1) hx hb (dg D_X12_append (i := 17) rfl) rfl ?_
      refine n_iadd hx hb (dg D_X12_append (i := 18) rfl) ?_
      refine r_puti (v := nI ((n + 1) + 1)) (ty := .int) X hW hS FI_X12_99 rfl (by decide) rfl rfl (by decide +kernel) rfl rfl (dg D_X12_append (i := 19) rfl) (fun H locs hW hS => ?_)
      have hF : Fr SB I (u2 J22 67 8 (nI ((n + 1) + 1))) := Fr.put hF rfl
      have hb3 : (u2 J22 67 8 (nI ((n + 1) + 1))) 73 = upd (upd (I 73) n (((v.toUInt32 >>> ((nI 24).toUInt32 &&& Int32.toUInt32 31)).toInt32) &&& (nI 255))) (n + 1) (((v.toUInt32 >>> ((nI 16).toUInt32 &&& Int32.toUInt32 31)).toInt32) &&& (nI 255)) := hb3
      obtain ⟨J30, eJ30⟩ : ∃ J, J = u2 J22 67 8 (nI ((n + 1) + 1)) := ⟨_, rfl⟩
      rw [← eJ30] at hW hF hb3
      have hbf : J30 67 8 = nI ((n + 1) + 1) := by rw [eJ30]; exact u2_at
      refine lv_iinc (v := nI 8) (lv' := [(2, .int (nI 8)), (0, .ref (bs + 67)), (1, .int v)]) hx hb (dg D_X12_append (i := 20) rfl) hl (k := 0) rfl (by decide) (by decide) rfl (fun ls hl => ?_)
      refine lv_goto (tgt := 3) hx hb (dg D_X12_append (i := 21) rfl) (by decide) ?_
      refine lv_iload_n hx hb (dg D_X12_append (i := 2) rfl) rfl (lv_at hl 0 rfl) ?_
      refine n_if_lt (tgt := 39) hx hb (by omega) (dg D_X12_append (i := 3) rfl) (by decide) (fun c4 => ?_) (fun c4 => ?_)
      · exact absurd c4 (by decide)
      · refine lv_aload_n hx hb (dg D_X12_append (i := 4) rfl) rfl (lv_at hl 1 rfl) ?_
        refine r_getc (t := 73) X hW FI_X12_25 rfl (by decide) rfl (dg D_X12_append (i := 5) rfl) ?_
        refine lv_aload_n hx hb (dg D_X12_append (i := 6) rfl) rfl (lv_at hl 1 rfl) ?_
        refine r_geti (v := nI ((n + 1) + 1)) X hW FI_X12_99 rfl (by decide) rfl hbf (dg D_X12_append (i := 7) rfl) ?_
        refine lv_iload_n hx hb (dg D_X12_append (i := 8) rfl) rfl (lv_at hl 2 rfl) ?_
        refine lv_iload_n hx hb (dg D_X12_append (i := 9) rfl) rfl (lv_at hl 0 rfl) ?_
        refine lv_iushr (v := (v.toUInt32 >>> ((nI 8).toUInt32 &&& Int32.toUInt32 31)).toInt32) hx hb (dg D_X12_append (i := 10) rfl) rfl ?_
        refine lv_sipush (v := nI 255) hx hb (dg D_X12_append (i := 11) rfl) (by decide) ?_
        refine lv_iand hx hb (dg D_X12_append (i := 12) rfl) ?_
        refine r_ast (j := (n + 1) + 1) (v := ((v.toUInt32 >>> ((nI 8).toUInt32 &&& Int32.toUInt32 31)).toInt32) &&& (nI 255)) X hW hS rfl (by decide) rfl (by omega) (by decide) (dg D_X12_append (i := 13) rfl) (fun H locs hW hS => ?_)
        have hF : Fr SB I (u2 J30 73 ((n + 1) + 1) (((v.toUInt32 >>> ((nI 8).toUInt32 &&& Int32.toUInt32 31)).toInt32) &&& (nI 255))) := Fr.put hF rfl
        have hb3 : (u2 J30 73 ((n + 1) + 1) (((v.toUInt32 >>> ((nI 8).toUInt32 &&& Int32.toUInt32 31)).toInt32) &&& (nI 255))) 73 = upd (upd (upd (I 73) n (((v.toUInt32 >>> ((nI 24).toUInt32 &&& Int32.toUInt32 31)).toInt32) &&& (nI 255))) (n + 1) (((v.toUInt32 >>> ((nI 16).toUInt32 &&& Int32.toUInt32 31)).toInt32) &&& (nI 255))) ((n + 1) + 1) (((v.toUInt32 >>> ((nI 8).toUInt32 &&& Int32.toUInt32 31)).toInt32) &&& (nI 255)) := by rw [u2_eq, hb3]
        obtain ⟨J22, eJ22⟩ : ∃ J, J = u2 J30 73 ((n + 1) + 1) (((v.toUInt32 >>> ((nI 8).toUInt32 &&& Int32.toUInt32 31)).toInt32) &&& (nI 255)) := ⟨_, rfl⟩
        rw [← eJ22] at hW hF hb3
        have hbf : J22 67 8 = nI ((n + 1) + 1) := by rw [eJ22, u2_off (Or.inl (by decide))]; exact hbf
        refine lv_aload_n hx hb (dg D_X12_append (i := 14) rfl) rfl (lv_at hl 1 rfl) ?_
        refine lv_dup hx hb (dg D_X12_append (i := 15) rfl) rfl ?_
        refine r_geti (v := nI ((n + 1) + 1)) X hW FI_X12_99 rfl (by decide) rfl hbf (dg D_X12_append (i := 16) rfl) ?_
        refine n_iconst (a := 1) hx hb (dg D_X12_append (i := 17) rfl) rfl ?_
        refine n_iadd hx hb (dg D_X12_append (i := 18) rfl) ?_
        refine r_puti (v := nI (((n + 1) + 1) + 1)) (ty := .int) X hW hS FI_X12_99 rfl (by decide) rfl rfl (by decide +kernel) rfl rfl (dg D_X12_append (i := 19) rfl) (fun H locs hW hS => ?_)
        have hF : Fr SB I (u2 J22 67 8 (nI (((n + 1) + 1) + 1))) := Fr.put hF rfl
        have hb3 : (u2 J22 67 8 (nI (((n + 1) + 1) + 1))) 73 = upd (upd (upd (I 73) n (((v.toUInt32 >>> ((nI 24).toUInt32 &&& Int32.toUInt32 31)).toInt32) &&& (nI 255))) (n + 1) (((v.toUInt32 >>> ((nI 16).toUInt32 &&& Int32.toUInt32 31)).toInt32) &&& (nI 255))) ((n + 1) + 1) (((v.toUInt32 >>> ((nI 8).toUInt32 &&& Int32.toUInt32 31)).toInt32) &&& (nI 255)) := hb3
        obtain ⟨J30, eJ30⟩ : ∃ J, J = u2 J22 67 8 (nI (((n + 1) + 1) + 1)) := ⟨_, rfl⟩
        rw [← eJ30] at hW hF hb3
        have hbf : J30 67 8 = nI (((n + 1) + 1) + 1) := by rw [eJ30]; exact u2_at
        refine lv_iinc (v := nI 0) (lv' := [(2, .int (nI 0)), (0, .ref (bs + 67)), (1, .int v)]) hx hb (dg D_X12_append (i := 20) rfl) hl (k := 0) rfl (by decide) (by decide) rfl (fun ls hl => ?_)
        refine lv_goto (tgt := 3) hx hb (dg D_X12_append (i := 21) rfl) (by decide) ?_
        refine lv_iload_n hx hb (dg D_X12_append (i := 2) rfl) rfl (lv_at hl 0 rfl) ?_
        refine n_if_lt (tgt := 39) hx hb (by omega) (dg D_X12_append (i := 3) rfl) (by decide) (fun c4 => ?_) (fun c4 => ?_)
        · exact absurd c4 (by decide)
        · refine lv_aload_n hx hb (dg D_X12_append (i := 4) rfl) rfl (lv_at hl 1 rfl) ?_
          refine r_getc (t := 73) X hW FI_X12_25 rfl (by decide) rfl (dg D_X12_append (i := 5) rfl) ?_
          refine lv_aload_n hx hb (dg D_X12_append (i := 6) rfl) rfl (lv_at hl 1 rfl) ?_
          refine r_geti (v := nI (((n + 1) + 1) + 1)) X hW FI_X12_99 rfl (by decide) rfl hbf (dg D_X12_append (i := 7) rfl) ?_
          refine lv_iload_n hx hb (dg D_X12_append (i := 8) rfl) rfl (lv_at hl 2 rfl) ?_
          refine lv_iload_n hx hb (dg D_X12_append (i := 9) rfl) rfl (lv_at hl 0 rfl) ?_
          refine lv_iushr (v := (v.toUInt32 >>> ((nI 0).toUInt32 &&& Int32.toUInt32 31)).toInt32) hx hb (dg D_X12_append (i := 10) rfl) rfl ?_
          refine lv_sipush (v := nI 255) hx hb (dg D_X12_append (i := 11) rfl) (by decide) ?_
          refine lv_iand hx hb (dg D_X12_append (i := 12) rfl) ?_
          refine r_ast (j := ((n + 1) + 1) + 1) (v := ((v.toUInt32 >>> ((nI 0).toUInt32 &&& Int32.toUInt32 31)).toInt32) &&& (nI 255)) X hW hS rfl (by decide) rfl (by omega) (by decide) (dg D_X12_append (i := 13) rfl) (fun H locs hW hS => ?_)
          have hF : Fr SB I (u2 J30 73 (((n + 1) + 1) + 1) (((v.toUInt32 >>> ((nI 0).toUInt32 &&& Int32.toUInt32 31)).toInt32) &&& (nI 255))) := Fr.put hF rfl
          have hb3 : (u2 J30 73 (((n + 1) + 1) + 1) (((v.toUInt32 >>> ((nI 0).toUInt32 &&& Int32.toUInt32 31)).toInt32) &&& (nI 255))) 73 = upd (upd (upd (upd (I 73) n (((v.toUInt32 >>> ((nI 24).toUInt32 &&& Int32.toUInt32 31)).toInt32) &&& (nI 255))) (n + 1) (((v.toUInt32 >>> ((nI 16).toUInt32 &&& Int32.toUInt32 31)).toInt32) &&& (nI 255))) ((n + 1) + 1) (((v.toUInt32 >>> ((nI 8).toUInt32 &&& Int32.toUInt32 31)).toInt32) &&& (nI 255))) (((n + 1) + 1) + 1) (((v.toUInt32 >>> ((nI 0).toUInt32 &&& Int32.toUInt32 31)).toInt32) &&& (nI 255)) := by rw [u2_eq, hb3]
          obtain ⟨J22, eJ22⟩ : ∃ J, J = u2 J30 73 (((n + 1) + 1) + 1) (((v.toUInt32 >>> ((nI 0).toUInt32 &&& Int32.toUInt32 31)).toInt32) &&& (nI 255)) := ⟨_, rfl⟩
          rw [← eJ22] at hW hF hb3
          have hbf : J22 67 8 = nI (((n + 1) + 1) + 1) := by rw [eJ22, u2_off (Or.inl (by decide))]; exact hbf
          refine lv_aload_n hx hb (dg D_X12_append (i := 14) rfl) rfl (lv_at hl 1 rfl) ?_
          refine lv_dup hx hb (dg D_X12_append (i := 15) rfl) rfl ?_
          refine r_geti (v := nI (((n + 1) + 1) + 1)) X hW FI_X12_99 rfl (by decide) rfl hbf (dg D_X12_append (i := 16) rfl) ?_
          refine n_iconst (a := 1) hx hb (dg D_X12_append (i := 17) rfl) rfl ?_
          refine n_iadd hx hb (dg D_X12_append (i := 18) rfl) ?_
          refine r_puti (v := nI ((((n + 1) + 1) + 1) + 1)) (ty := .int) X hW hS FI_X12_99 rfl (by decide) rfl rfl (by decide +kernel) rfl rfl (dg D_X12_append (i := 19) rfl) (fun H locs hW hS => ?_)
          have hF : Fr SB I (u2 J22 67 8 (nI ((((n + 1) + 1) + 1) + 1))) := Fr.put hF rfl
          have hb3 : (u2 J22 67 8 (nI ((((n + 1) + 1) + 1) + 1))) 73 = upd (upd (upd (upd (I 73) n (((v.toUInt32 >>> ((nI 24).toUInt32 &&& Int32.toUInt32 31)).toInt32) &&& (nI 255))) (n + 1) (((v.toUInt32 >>> ((nI 16).toUInt32 &&& Int32.toUInt32 31)).toInt32) &&& (nI 255))) ((n + 1) + 1) (((v.toUInt32 >>> ((nI 8).toUInt32 &&& Int32.toUInt32 31)).toInt32) &&& (nI 255))) (((n + 1) + 1) + 1) (((v.toUInt32 >>> ((nI 0).toUInt32 &&& Int32.toUInt32 31)).toInt32) &&& (nI 255)) := hb3
          obtain ⟨J30, eJ30⟩ : ∃ J, J = u2 J22 67 8 (nI ((((n + 1) + 1) + 1) + 1)) := ⟨_, rfl⟩
          rw [← eJ30] at hW hF hb3
          have hbf : J30 67 8 = nI ((((n + 1) + 1) + 1) + 1) := by rw [eJ30]; exact u2_at
          refine lv_iinc (v := (-8)) (lv' := [(2, .int ((-8))), (0, .ref (bs + 67)), (1, .int v)]) hx hb (dg D_X12_append (i := 20) rfl) hl (k := 0) rfl (by decide) (by decide) rfl (fun ls hl => ?_)
          refine lv_goto (tgt := 3) hx hb (dg D_X12_append (i := 21) rfl) (by decide) ?_
          refine lv_iload_n hx hb (dg D_X12_append (i := 2) rfl) rfl (lv_at hl 0 rfl) ?_
          refine lv_if_lt (tgt := 39) hx hb (dg D_X12_append (i := 3) rfl) (by decide) (fun c4 => ?_) (fun c4 => ?_)
          · exact fin (dg D_X12_append (i := 22) rfl) hW hS ⟨hF, hbf, hb3, rfl, rfl⟩
          · exact absurd c4 (by decide)

set_option maxHeartbeats 4000000 in
set_option maxRecDepth 100000 in
theorem c_X12_feed {l : Launch} {G : va_G} {bs : Nat} {cy : Nat → ClassId} {I : CI} {L : CL} {R : CR} (n : Nat) (a9 : Int32) (b9 : Int32) (c9 : Int32) (d9 : Int32) (e9 : Int32) (hbf : I 67 8 = nI n) (hn : n ≤ 900) : MTi l G bs cy MX12_feed 2 [.ref (bs + 67), .int a9, .int b9, .int c9, .int d9, .int e9] I L R (fun r I1 L1 R1 => (if n + 20 ≤ 900 then nI (n + 20) else FULLI) = r ∧ Fr SFD I I1 ∧ I1 67 6 = nI 0 ∧ I1 67 8 = (if n + 20 ≤ 900 then nI (n + 20) else nI n) ∧ I1 73 = (if n + 20 ≤ 900 then fdT (I 73) n a9 b9 c9 d9 e9 else I 73) ∧ L = L1 ∧ R = R1) := by
  refine MTi.of (own := RX12) pn_RX12 rfl (Nat.le_of_ble_eq_true rfl) ?_
  intro p e s m args below meth c Qf X hW hS fin ls hl
  have hx := X.1
  have hb := X.2.1
  have hR : RmOK (rmL 2 0 0) 2 := ⟨rfl, rfl⟩
  have hcs : 0 ≤ (rmL 2 0 0).cells ∧ 0 ≤ (rmL 2 0 0).slots := ⟨Nat.zero_le _, Nat.zero_le _⟩
  have hl : lv_has ls 6 [(0, .ref (bs + 67)), (1, .int a9), (2, .int b9), (3, .int c9), (4, .int d9), (5, .int e9)] := hl
  have hF : Fr SFD I I := Fr.rf
  have hb3 : I 73 = I 73 := rfl
  refine lv_aload_n hx hb (dg D_X12_feed (i := 0) rfl) rfl (lv_at hl 0 rfl) ?_
  refine n_iconst (a := 0) hx hb (dg D_X12_feed (i := 1) rfl) rfl ?_
  refine r_puti (v := nI 0) (ty := .int) X hW hS FI_X12_74 rfl (by decide) rfl rfl (by decide +kernel) rfl rfl (dg D_X12_feed (i := 2) rfl) (fun H locs hW hS => ?_)
  have hF : Fr SFD I (u2 I 67 6 (nI 0)) := Fr.put hF rfl
  have hb3 : (u2 I 67 6 (nI 0)) 73 = I 73 := hb3
  obtain ⟨J2, eJ2⟩ : ∃ J, J = u2 I 67 6 (nI 0) := ⟨_, rfl⟩
  rw [← eJ2] at hW hF hb3
  have hbf : J2 67 8 = nI n := by rw [eJ2, u2_off (Or.inr (by decide))]; exact hbf
  have hth : J2 67 6 = nI 0 := by rw [eJ2]; exact u2_at
  refine lv_aload_n hx hb (dg D_X12_feed (i := 3) rfl) rfl (lv_at hl 0 rfl) ?_
  refine r_geti (v := nI n) X hW FI_X12_99 rfl (by decide) rfl hbf (dg D_X12_feed (i := 4) rfl) ?_
  refine lv_bipush (v := nI 20) hx hb (dg D_X12_feed (i := 5) rfl) (by decide) ?_
  refine n_iadd hx hb (dg D_X12_feed (i := 6) rfl) ?_
  refine lv_sipush (v := nI 900) hx hb (dg D_X12_feed (i := 7) rfl) (by decide) ?_
  refine n_icmp_le (tgt := 21) hx hb (by omega) (by omega) (dg D_X12_feed (i := 8) rfl) (by decide) (fun c15 => ?_) (fun c15 => ?_)
  · refine lv_aload_n hx hb (dg D_X12_feed (i := 11) rfl) rfl (lv_at hl 0 rfl) ?_
    refine lv_iload_n hx hb (dg D_X12_feed (i := 12) rfl) rfl (lv_at hl 1 rfl) ?_
    refine callVv X hW hS hR (c_X12_append (I := J2) a9 n (by first | assumption | omega | decide | exact hP.1) (by first | assumption | omega | decide | exact hP.1)) (by decide) UVX12_append LK_X12_103 rfl (by decide) rfl rfl rfl (Nat.le_of_ble_eq_true rfl) hl hcs (dg D_X12_feed (i := 13) rfl) (fun I23 L1 R1 H locs hq hW hS => ?_)
    obtain ⟨hT23, hp23_0, hp23_1, rfl, rfl⟩ := hq
    have hF : Fr SFD I I23 := Fr.tr hF hT23 (by intro a j h; simp only [SB, SFD, Bool.or_eq_true, Bool.and_eq_true, beq_iff_eq, decide_eq_true_eq] at h ⊢; omega)
    have hb3 : I23 73 = ap4 (I 73) n a9 := by rw [hp23_1, hb3]
    have hth : I23 67 6 = nI 0 := (hT23 67 6 rfl).trans hth
    have hbf : I23 67 8 = nI (n + 4) := hp23_0
    refine lv_aload_n hx hb (dg D_X12_feed (i := 14) rfl) rfl (lv_at hl 0 rfl) ?_
    refine lv_iload_n hx hb (dg D_X12_feed (i := 15) rfl) rfl (lv_at hl 2 rfl) ?_
    refine callVv X hW hS hR (c_X12_append (I := I23) b9 (n + 4) (by first | assumption | omega | decide | exact hP.1) (by first | assumption | omega | decide | exact hP.1)) (by decide) UVX12_append LK_X12_103 rfl (by decide) rfl rfl rfl (Nat.le_of_ble_eq_true rfl) hl hcs (dg D_X12_feed (i := 16) rfl) (fun I28 L1 R1 H locs hq hW hS => ?_)
    obtain ⟨hT28, hp28_0, hp28_1, rfl, rfl⟩ := hq
    have hF : Fr SFD I I28 := Fr.tr hF hT28 (by intro a j h; simp only [SB, SFD, Bool.or_eq_true, Bool.and_eq_true, beq_iff_eq, decide_eq_true_eq] at h ⊢; omega)
    have hb3 : I28 73 = ap4 (ap4 (I 73) n a9) (n + 4) b9 := by rw [hp28_1, hb3]
    have hth : I28 67 6 = nI 0 := (hT28 67 6 rfl).trans hth
    have hbf : I28 67 8 = nI (n + 4 + 4) := hp28_0
    refine lv_aload_n hx hb (dg D_X12_feed (i := 17) rfl) rfl (lv_at hl 0 rfl) ?_
    refine lv_iload_n hx hb (dg D_X12_feed (i := 18) rfl) rfl (lv_at hl 3 rfl) ?_
    refine callVv X hW hS hR (c_X12_append (I := I28) c9 (n + 4 + 4) (by first | assumption | omega | decide | exact hP.1) (by first | assumption | omega | decide | exact hP.1)) (by decide) UVX12_append LK_X12_103 rfl (by decide) rfl rfl rfl (Nat.le_of_ble_eq_true rfl) hl hcs (dg D_X12_feed (i := 19) rfl) (fun I33 L1 R1 H locs hq hW hS => ?_)
    obtain ⟨hT33, hp33_0, hp33_1, rfl, rfl⟩ := hq
    have hF : Fr SFD I I33 := Fr.tr hF hT33 (by intro a j h; simp only [SB, SFD, Bool.or_eq_true, Bool.and_eq_true, beq_iff_eq, decide_eq_true_eq] at h ⊢; omega)
    have hb3 : I33 73 = ap4 (ap4 (ap4 (I 73) n a9) (n + 4) b9) (n + 4 + 4) c9 := by rw [hp33_1, hb3]
    have hth : I33 67 6 = nI 0 := (hT33 67 6 rfl).trans hth
    have hbf : I33 67 8 = nI (n + 4 + 4 + 4) := hp33_0
    refine lv_aload_n hx hb (dg D_X12_feed (i := 20) rfl) rfl (lv_at hl 0 rfl) ?_
    refine lv_iload hx hb (dg D_X12_feed (i := 21) rfl) (lv_at hl 4 rfl) ?_
    refine callVv X hW hS hR (c_X12_append (I := I33) d9 (n + 4 + 4 + 4) (by first | assumption | omega | decide | exact hP.1) (by first | assumption | omega | decide | exact hP.1)) (by decide) UVX12_append LK_X12_103 rfl (by decide) rfl rfl rfl (Nat.le_of_ble_eq_true rfl) hl hcs (dg D_X12_feed (i := 22) rfl) (fun I39 L1 R1 H locs hq hW hS => ?_)
    obtain ⟨hT39, hp39_0, hp39_1, rfl, rfl⟩ := hq
    have hF : Fr SFD I I39 := Fr.tr hF hT39 (by intro a j h; simp only [SB, SFD, Bool.or_eq_true, Bool.and_eq_true, beq_iff_eq, decide_eq_true_eq] at h ⊢; omega)
    have hb3 : I39 73 = ap4 (ap4 (ap4 (ap4 (I 73) n a9) (n + 4) b9) (n + 4 + 4) c9) (n + 4 + 4 + 4) d9 := by rw [hp39_1, hb3]
    have hth : I39 67 6 = nI 0 := (hT39 67 6 rfl).trans hth
    have hbf : I39 67 8 = nI (n + 4 + 4 + 4 + 4) := hp39_0
    refine lv_aload_n hx hb (dg D_X12_feed (i := 23) rfl) rfl (lv_at hl 0 rfl) ?_
    refine lv_iload hx hb (dg D_X12_feed (i := 24) rfl) (lv_at hl 5 rfl) ?_
    refine callVv X hW hS hR (c_X12_append (I := I39) e9 (n + 4 + 4 + 4 + 4) (by first | assumption | omega | decide | exact hP.1) (by first | assumption | omega | decide | exact hP.1)) (by decide) UVX12_append LK_X12_103 rfl (by decide) rfl rfl rfl (Nat.le_of_ble_eq_true rfl) hl hcs (dg D_X12_feed (i := 25) rfl) (fun I45 L1 R1 H locs hq hW hS => ?_)
    obtain ⟨hT45, hp45_0, hp45_1, rfl, rfl⟩ := hq
    have hF : Fr SFD I I45 := Fr.tr hF hT45 (by intro a j h; simp only [SB, SFD, Bool.or_eq_true, Bool.and_eq_true, beq_iff_eq, decide_eq_true_eq] at h ⊢; omega)
    have hb3 : I45 73 = ap4 (ap4 (ap4 (ap4 (ap4 (I 73) n a9) (n + 4) b9) (n + 4 + 4) c9) (n + 4 + 4 + 4) d9) (n + 4 + 4 + 4 + 4) e9 := by rw [hp45_1, hb3]
    have hth : I45 67 6 = nI 0 := (hT45 67 6 rfl).trans hth
    have hbf : I45 67 8 = nI (n + 4 + 4 + 4 + 4 + 4) := hp45_0
    refine lv_aload_n hx hb (dg D_X12_feed (i := 26) rfl) rfl (lv_at hl 0 rfl) ?_
    refine r_geti (v := nI (n + 4 + 4 + 4 + 4 + 4)) X hW FI_X12_99 rfl (by decide) rfl hbf (dg D_X12_feed (i := 27) rfl) ?_
    exact fin (dg D_X12_feed (i := 28) rfl) hW hS ⟨by rw [if_pos (by omega)], hF, hth, by rw [if_pos (by omega)]; exact hbf, by rw [if_pos (by omega)]; exact hb3, rfl, rfl⟩
  · refine r_ldc X CK_X12_102 (dg D_X12_feed (i := 9) rfl) ?_
    exact fin (dg D_X12_feed (i := 10) rfl) hW hS ⟨by rw [if_neg (by omega)], hF, hth, by rw [if_neg (by omega)]; exact hbf, by rw [if_neg (by omega)]; exact hb3, rfl, rfl⟩

set_option maxHeartbeats 4000000 in
set_option maxRecDepth 100000 in
theorem c_X12_errorKind {l : Launch} {G : va_G} {bs : Nat} {cy : Nat → ClassId} {I : CI} {L : CL} {R : CR} (v : Int32) (hv : I 67 9 = v) : MTi l G bs cy MX12_errorKind 1 [.ref (bs + 67)] I L R (fun r I1 L1 R1 => v = r ∧ Fr ST I I1 ∧ I1 67 6 = nI 0 ∧ L = L1 ∧ R = R1) := by
  refine MTi.of (own := RX12) pn_RX12 rfl (Nat.le_of_ble_eq_true rfl) ?_
  intro p e s m args below meth c Qf X hW hS fin ls hl
  have hx := X.1
  have hb := X.2.1
  have hR : RmOK (rmL 1 0 0) 1 := ⟨rfl, rfl⟩
  have hcs : 0 ≤ (rmL 1 0 0).cells ∧ 0 ≤ (rmL 1 0 0).slots := ⟨Nat.zero_le _, Nat.zero_le _⟩
  have hl : lv_has ls 1 [(0, .ref (bs + 67))] := hl
  have hF : Fr ST I I := Fr.rf
  refine lv_aload_n hx hb (dg D_X12_errorKind (i := 0) rfl) rfl (lv_at hl 0 rfl) ?_
  refine n_iconst (a := 0) hx hb (dg D_X12_errorKind (i := 1) rfl) rfl ?_
  refine r_puti (v := nI 0) (ty := .int) X hW hS FI_X12_74 rfl (by decide) rfl rfl (by decide +kernel) rfl rfl (dg D_X12_errorKind (i := 2) rfl) (fun H locs hW hS => ?_)
  have hF : Fr ST I (u2 I 67 6 (nI 0)) := Fr.put hF rfl
  obtain ⟨J2, eJ2⟩ : ∃ J, J = u2 I 67 6 (nI 0) := ⟨_, rfl⟩
  rw [← eJ2] at hW hF
  have hv : J2 67 9 = v := by rw [eJ2, u2_off (Or.inr (by decide))]; exact hv
  have hth : J2 67 6 = nI 0 := by rw [eJ2]; exact u2_at
  refine lv_aload_n hx hb (dg D_X12_errorKind (i := 3) rfl) rfl (lv_at hl 0 rfl) ?_
  refine r_geti (v := v) X hW FI_X12_220 rfl (by decide) rfl hv (dg D_X12_errorKind (i := 4) rfl) ?_
  exact fin (dg D_X12_errorKind (i := 5) rfl) hW hS ⟨rfl, hF, hth, rfl, rfl⟩

set_option maxHeartbeats 4000000 in
set_option maxRecDepth 100000 in
theorem c_X12_errorPosition {l : Launch} {G : va_G} {bs : Nat} {cy : Nat → ClassId} {I : CI} {L : CL} {R : CR} (v : Int32) (hv : I 67 10 = v) : MTi l G bs cy MX12_errorPosition 1 [.ref (bs + 67)] I L R (fun r I1 L1 R1 => v = r ∧ Fr ST I I1 ∧ I1 67 6 = nI 0 ∧ L = L1 ∧ R = R1) := by
  refine MTi.of (own := RX12) pn_RX12 rfl (Nat.le_of_ble_eq_true rfl) ?_
  intro p e s m args below meth c Qf X hW hS fin ls hl
  have hx := X.1
  have hb := X.2.1
  have hR : RmOK (rmL 1 0 0) 1 := ⟨rfl, rfl⟩
  have hcs : 0 ≤ (rmL 1 0 0).cells ∧ 0 ≤ (rmL 1 0 0).slots := ⟨Nat.zero_le _, Nat.zero_le _⟩
  have hl : lv_has ls 1 [(0, .ref (bs + 67))] := hl
  have hF : Fr ST I I := Fr.rf
  refine lv_aload_n hx hb (dg D_X12_errorPosition (i := 0) rfl) rfl (lv_at hl 0 rfl) ?_
  refine n_iconst (a := 0) hx hb (dg D_X12_errorPosition (i := 1) rfl) rfl ?_
  refine r_puti (v := nI 0) (ty := .int) X hW hS FI_X12_74 rfl (by decide) rfl rfl (by decide +kernel) rfl rfl (dg D_X12_errorPosition (i := 2) rfl) (fun H locs hW hS => ?_)
  have hF : Fr ST I (u2 I 67 6 (nI 0)) := Fr.put hF rfl
  obtain ⟨J2, eJ2⟩ : ∃ J, J = u2 I 67 6 (nI 0) := ⟨_, rfl⟩
  rw [← eJ2] at hW hF
  have hv : J2 67 10 = v := by rw [eJ2, u2_off (Or.inr (by decide))]; exact hv
  have hth : J2 67 6 = nI 0 := by rw [eJ2]; exact u2_at
  refine lv_aload_n hx hb (dg D_X12_errorPosition (i := 3) rfl) rfl (lv_at hl 0 rfl) ?_
  refine r_geti (v := v) X hW FI_X12_29 rfl (by decide) rfl hv (dg D_X12_errorPosition (i := 4) rfl) ?_
  exact fin (dg D_X12_errorPosition (i := 5) rfl) hW hS ⟨rfl, hF, hth, rfl, rfl⟩

set_option maxHeartbeats 4000000 in
set_option maxRecDepth 100000 in
theorem c_X12_thrown {l : Launch} {G : va_G} {bs : Nat} {cy : Nat → ClassId} {I : CI} {L : CL} {R : CR} (v : Int32) (hv : I 67 6 = v) : MTi l G bs cy MX12_thrown 1 [.ref (bs + 67)] I L R (fun r I1 L1 R1 => v = r ∧ I = I1 ∧ L = L1 ∧ R = R1) := by
  refine MTi.of (own := RX12) pn_RX12 rfl (Nat.le_of_ble_eq_true rfl) ?_
  intro p e s m args below meth c Qf X hW hS fin ls hl
  have hx := X.1
  have hb := X.2.1
  have hR : RmOK (rmL 1 0 0) 1 := ⟨rfl, rfl⟩
  have hcs : 0 ≤ (rmL 1 0 0).cells ∧ 0 ≤ (rmL 1 0 0).slots := ⟨Nat.zero_le _, Nat.zero_le _⟩
  have hl : lv_has ls 1 [(0, .ref (bs + 67))] := hl
  refine lv_aload_n hx hb (dg D_X12_thrown (i := 0) rfl) rfl (lv_at hl 0 rfl) ?_
  refine r_geti (v := v) X hW FI_X12_74 rfl (by decide) rfl hv (dg D_X12_thrown (i := 1) rfl) ?_
  exact fin (dg D_X12_thrown (i := 2) rfl) hW hS ⟨rfl, rfl, rfl, rfl⟩

set_option maxHeartbeats 4000000 in
set_option maxRecDepth 100000 in
theorem c_X12_clearPlan {l : Launch} {G : va_G} {bs : Nat} {cy : Nat → ClassId} {I : CI} {L : CL} {R : CR} (σ : Row) (hs : I 68 = σ) : MTv l G bs cy MX12_clearPlan 1 [.ref (bs + 67)] I L R (fun I1 L1 R1 => Fr SP I I1 ∧ I1 68 = clP σ ∧ L = L1 ∧ R = R1) := by
  refine MTv.of (own := RX12) pn_RX12 rfl (Nat.le_of_ble_eq_true rfl) ?_
  intro p e s m args below meth c Qf X hW hS fin ls hl
  have hx := X.1
  have hb := X.2.1
  have hR : RmOK (rmL 1 0 0) 1 := ⟨rfl, rfl⟩
  have hcs : 0 ≤ (rmL 1 0 0).cells ∧ 0 ≤ (rmL 1 0 0).slots := ⟨Nat.zero_le _, Nat.zero_le _⟩
  have hl : lv_has ls 2 [(0, .ref (bs + 67))] := hl
  have hF : Fr SP I I := Fr.rf
  refine lv_bipush (v := nI 104) hx hb (dg D_X12_clearPlan (i := 0) rfl) (by decide) ?_
  refine lv_istore_n (lv' := [(1, .int (nI 104)), (0, .ref (bs + 67))]) hx hb (dg D_X12_clearPlan (i := 1) rfl) rfl hl (by decide) rfl (fun ls hl => ?_)
  have loop3 := up_ind (P := fun i => ∀ (K3 : CI) (H : Heap) (locs : List Loc) (ls : Array Slot) (v1 : Int32), v1 = nI i → (Fr SP I K3) → (K3 68 = clR σ i) → (104 ≤ i) → Wd G bs cy K3 L R H → va_S (Aq bs) s.heap H locs → lv_has ls 2 [(0, .ref (bs + 67)), (1, .int v1)] → W p l e (rmL 1 0 0) s m args below meth c H locs 0 0 Qf (F0 m 3 ls [])) 248 (fun i hx3 ih3 => by
      intro K3 H locs ls v1 q1 hF hC hi2 hW hS hl
      subst q1
      refine lv_iload_n hx hb (dg D_X12_clearPlan (i := 2) rfl) rfl (lv_at hl 1 rfl) ?_
      refine lv_sipush (v := nI 248) hx hb (dg D_X12_clearPlan (i := 3) rfl) (by decide) ?_
      refine n_icmp_ge (tgt := 23) hx hb (by omega) (by omega) (dg D_X12_clearPlan (i := 4) rfl) (by decide) (fun c7 => ?_) (fun c7 => ?_)
      · exact fin (dg D_X12_clearPlan (i := 12) rfl) hW hS ⟨hF, by rw [hC, show i = 248 by omega]; rfl, rfl, rfl⟩
      · refine lv_aload_n hx hb (dg D_X12_clearPlan (i := 5) rfl) rfl (lv_at hl 0 rfl) ?_
        refine r_getc (t := 68) X hW FI_X12_7 rfl (by decide) rfl (dg D_X12_clearPlan (i := 6) rfl) ?_
        refine lv_iload_n hx hb (dg D_X12_clearPlan (i := 7) rfl) rfl (lv_at hl 1 rfl) ?_
        refine n_iconst (a := 0) hx hb (dg D_X12_clearPlan (i := 8) rfl) rfl ?_
        refine r_ast (j := i) (v := nI 0) X hW hS rfl (by decide) rfl (by omega) (by decide) (dg D_X12_clearPlan (i := 9) rfl) (fun H locs hW hS => ?_)
        have hF : Fr SP I (u2 K3 68 i (nI 0)) := Fr.put hF rfl
        obtain ⟨J16, eJ16⟩ : ∃ J, J = u2 K3 68 i (nI 0) := ⟨_, rfl⟩
        rw [← eJ16] at hW hF
        refine lv_iinc (v := nI (i + 1)) (lv' := [(1, .int (nI (i + 1))), (0, .ref (bs + 67))]) hx hb (dg D_X12_clearPlan (i := 10) rfl) hl (k := 1) rfl (nI_add _ _) (by decide) rfl (fun ls hl => ?_)
        refine lv_goto (tgt := 3) hx hb (dg D_X12_clearPlan (i := 11) rfl) (by decide) ?_
        exact ih3 (by omega) J16 _ _ _ _ (congrArg nI (by omega)) hF (by rw [eJ16, u2_eq, hC]; exact clR_s hi2) (by omega) hW hS (lv_sub hl [1, 0] rfl))
  exact loop3 104 (by decide) I _ _ _ _ (congrArg nI (by omega)) hF (hs.trans clR_0.symm) (Nat.le_refl _) hW hS (lv_sub hl [1, 0] rfl)

set_option maxHeartbeats 4000000 in
set_option maxRecDepth 100000 in
theorem c_X12_putAside {l : Launch} {G : va_G} {bs : Nat} {cy : Nat → ClassId} {I : CI} {L : CL} {R : CR} (σ : Row) (hs : I 68 = σ) : MTv l G bs cy MX12_putAside 2 [.ref (bs + 67)] I L R (fun I1 L1 R1 => Fr (SC 70) I I1 ∧ I1 70 = mixR σ (I 70) ∧ L = L1 ∧ R = R1) := by
  refine MTv.of (own := RX12) pn_RX12 rfl (Nat.le_of_ble_eq_true rfl) ?_
  intro p e s m args below meth c Qf X hW hS fin ls hl
  have hx := X.1
  have hb := X.2.1
  have hR : RmOK (rmL 2 0 0) 2 := ⟨rfl, rfl⟩
  have hcs : 0 ≤ (rmL 2 0 0).cells ∧ 0 ≤ (rmL 2 0 0).slots := ⟨Nat.zero_le _, Nat.zero_le _⟩
  have hl : lv_has ls 1 [(0, .ref (bs + 67))] := hl
  have hF : Fr (SC 70) I I := Fr.rf
  refine lv_aload_n hx hb (dg D_X12_putAside (i := 0) rfl) rfl (lv_at hl 0 rfl) ?_
  refine r_getc (t := 68) X hW FI_X12_7 rfl (by decide) rfl (dg D_X12_putAside (i := 1) rfl) ?_
  refine n_iconst (a := 0) hx hb (dg D_X12_putAside (i := 2) rfl) rfl ?_
  refine lv_aload_n hx hb (dg D_X12_putAside (i := 3) rfl) rfl (lv_at hl 0 rfl) ?_
  refine r_getc (t := 70) X hW FI_X12_16 rfl (by decide) rfl (dg D_X12_putAside (i := 4) rfl) ?_
  refine n_iconst (a := 0) hx hb (dg D_X12_putAside (i := 5) rfl) rfl ?_
  refine callSv X hW hS hR (c_X12_copy (I := I) 68 248 0 70 248 0 (rfl) (by first | assumption | omega | decide | exact hP.1) (rfl) (by first | assumption | omega | decide | exact hP.1) (by first | assumption | omega | decide | exact hP.1) (by first | assumption | omega | decide | exact hP.1) (by first | assumption | omega | decide | exact hP.1) (by first | assumption | omega | decide | exact hP.1)) (by decide) USX12_copy LK_X12_80 rfl rfl (Nat.le_of_ble_eq_true rfl) hl hcs (dg D_X12_putAside (i := 6) rfl) (fun I10 L1 R1 H locs hq hW hS => ?_)
  obtain ⟨hT10, hp10_0, rfl, rfl⟩ := hq
  have hF : Fr (SC 70) I I10 := Fr.tr hF hT10 (fun _ _ h => h)
  exact fin (dg D_X12_putAside (i := 7) rfl) hW hS ⟨hF, by rw [hp10_0, hs]; exact cpR_mix, rfl, rfl⟩

set_option maxHeartbeats 4000000 in
set_option maxRecDepth 100000 in
theorem c_X12_isPlanAside {l : Launch} {G : va_G} {bs : Nat} {cy : Nat → ClassId} {I : CI} {L : CL} {R : CR} (σ : Row) (τ : Row) (hs : I 68 = σ) (ht : I 70 = τ) : MTi l G bs cy MX12_isPlanAside 1 [.ref (bs + 67)] I L R (fun r I1 L1 R1 => bI (eqPl σ τ) = r ∧ I = I1 ∧ L = L1 ∧ R = R1) := by
  refine MTz.of (own := RX12) pn_RX12 rfl (Nat.le_of_ble_eq_true rfl) ?_
  intro p e s m args below meth c Qf X hW hS fin ls hl
  have hx := X.1
  have hb := X.2.1
  have hR : RmOK (rmL 1 0 0) 1 := ⟨rfl, rfl⟩
  have hcs : 0 ≤ (rmL 1 0 0).cells ∧ 0 ≤ (rmL 1 0 0).slots := ⟨Nat.zero_le _, Nat.zero_le _⟩
  have hl : lv_has ls 2 [(0, .ref (bs + 67))] := hl
  refine lv_bipush (v := nI 104) hx hb (dg D_X12_isPlanAside (i := 0) rfl) (by decide) ?_
  refine lv_istore_n (lv' := [(1, .int (nI 104)), (0, .ref (bs + 67))]) hx hb (dg D_X12_isPlanAside (i := 1) rfl) rfl hl (by decide) rfl (fun ls hl => ?_)
  have loop3 := up_ind (P := fun i => ∀ (H : Heap) (locs : List Loc) (ls : Array Slot) (v1 : Int32), v1 = nI i → (104 ≤ i) → (allB (fun j => decide (σ (104 + j) = τ (104 + j))) (i - 104) = true) → Wd G bs cy I L R H → va_S (Aq bs) s.heap H locs → lv_has ls 2 [(0, .ref (bs + 67)), (1, .int v1)] → W p l e (rmL 1 0 0) s m args below meth c H locs 0 0 Qf (F0 m 3 ls [])) 248 (fun i hx3 ih3 => by
      intro H locs ls v1 q1 hi2 hq hW hS hl
      subst q1
      refine lv_iload_n hx hb (dg D_X12_isPlanAside (i := 2) rfl) rfl (lv_at hl 1 rfl) ?_
      refine lv_sipush (v := nI 248) hx hb (dg D_X12_isPlanAside (i := 3) rfl) (by decide) ?_
      refine n_icmp_ge (tgt := 33) hx hb (by omega) (by omega) (dg D_X12_isPlanAside (i := 4) rfl) (by decide) (fun c7 => ?_) (fun c7 => ?_)
      · refine n_iconst (a := 1) hx hb (dg D_X12_isPlanAside (i := 18) rfl) rfl ?_
        exact fin (dg D_X12_isPlanAside (i := 19) rfl) hW hS (show _ = bI true from rfl) ⟨congrArg bI (by have h := hq; rw [show i = 248 by omega] at h; exact h), rfl, rfl, rfl⟩
      · refine lv_aload_n hx hb (dg D_X12_isPlanAside (i := 5) rfl) rfl (lv_at hl 0 rfl) ?_
        refine r_getc (t := 68) X hW FI_X12_7 rfl (by decide) rfl (dg D_X12_isPlanAside (i := 6) rfl) ?_
        refine lv_iload_n hx hb (dg D_X12_isPlanAside (i := 7) rfl) rfl (lv_at hl 1 rfl) ?_
        refine r_ald (j := i) (v := σ i) X hW rfl (by decide) rfl (by omega) (by decide) (congrFun hs _) (dg D_X12_isPlanAside (i := 8) rfl) ?_
        refine lv_aload_n hx hb (dg D_X12_isPlanAside (i := 9) rfl) rfl (lv_at hl 0 rfl) ?_
        refine r_getc (t := 70) X hW FI_X12_16 rfl (by decide) rfl (dg D_X12_isPlanAside (i := 10) rfl) ?_
        refine lv_iload_n hx hb (dg D_X12_isPlanAside (i := 11) rfl) rfl (lv_at hl 1 rfl) ?_
        refine r_ald (j := i) (v := τ i) X hW rfl (by decide) rfl (by omega) (by decide) (congrFun ht _) (dg D_X12_isPlanAside (i := 12) rfl) ?_
        refine lv_icmp_eq (tgt := 27) hx hb (dg D_X12_isPlanAside (i := 13) rfl) (by decide) (fun c22 => ?_) (fun c22 => ?_)
        · refine lv_iinc (v := nI (i + 1)) (lv' := [(1, .int (nI (i + 1))), (0, .ref (bs + 67))]) hx hb (dg D_X12_isPlanAside (i := 16) rfl) hl (k := 1) rfl (nI_add _ _) (by decide) rfl (fun ls hl => ?_)
          refine lv_goto (tgt := 3) hx hb (dg D_X12_isPlanAside (i := 17) rfl) (by decide) ?_
          exact ih3 (by omega) _ _ _ _ (congrArg nI (by omega)) (by omega) (by rw [show i + 1 - 104 = i - 104 + 1 by omega]; exact allB_3 hq (decide_eq_true (by rw [show 104 + (i - 104) = i by omega]; exact c22))) hW hS (lv_sub hl [1, 0] rfl)
        · refine n_iconst (a := 0) hx hb (dg D_X12_isPlanAside (i := 14) rfl) rfl ?_
          exact fin (dg D_X12_isPlanAside (i := 15) rfl) hW hS (show _ = bI false from rfl) ⟨congrArg bI (allB_no (k := i - 104) (decide_eq_false (by rw [show 104 + (i - 104) = i by omega]; exact c22)) 144 (by omega)), rfl, rfl, rfl⟩)
  exact loop3 104 (by decide) _ _ _ _ (congrArg nI (by omega)) (Nat.le_refl _) rfl hW hS (lv_sub hl [1, 0] rfl)

set_option maxHeartbeats 4000000 in
set_option maxRecDepth 100000 in
theorem c_X12_adopt {l : Launch} {G : va_G} {bs : Nat} {cy : Nat → ClassId} {I : CI} {L : CL} {R : CR} (σ : Row) (τ : Row) (k : Nat) (U : Nat → Row) (hs : I 68 = σ) (ht : I 70 = τ) (hU : HisM I k U) (hed : I 67 5 = nI k) : MTi l G bs cy MX12_adopt 3 [.ref (bs + 67)] I L R (fun r I1 L1 R1 => (if eqPl σ τ = true then UNCH else nI 0) = r ∧ Fr SA I I1 ∧ (if eqPl σ τ = true then (I1 68 = mixR τ σ ∧ HisM I1 k U ∧ I1 67 5 = nI k) else (I1 68 = σ ∧ HisM I1 (min 16 (k + 1)) (pushU (mixR τ σ) U) ∧ I1 67 5 = nI (min 16 (k + 1)))) ∧ L = L1 ∧ R = R1) := by
  refine MTi.of (own := RX12) pn_RX12 rfl (Nat.le_of_ble_eq_true rfl) ?_
  intro p e s m args below meth c Qf X hW hS fin ls hl
  have hx := X.1
  have hb := X.2.1
  have hR : RmOK (rmL 3 0 0) 3 := ⟨rfl, rfl⟩
  have hcs : 0 ≤ (rmL 3 0 0).cells ∧ 0 ≤ (rmL 3 0 0).slots := ⟨Nat.zero_le _, Nat.zero_le _⟩
  have hl : lv_has ls 2 [(0, .ref (bs + 67))] := hl
  have hF : Fr SA I I := Fr.rf
  have ho : I 71 = I 71 := rfl
  refine lv_aload_n hx hb (dg D_X12_adopt (i := 0) rfl) rfl (lv_at hl 0 rfl) ?_
  refine callVi X hW hS hR (c_X12_isPlanAside (I := I) σ τ (by first | assumption | omega | decide | exact hP.1) (by first | assumption | omega | decide | exact hP.1)) (by decide) UVX12_isPlanAside LK_X12_373 rfl (by decide) rfl rfl rfl (Nat.le_of_ble_eq_true rfl) hl hcs (dg D_X12_adopt (i := 1) rfl) (fun r1 I1 L1 R1 H locs hq hW hS => ?_)
  obtain ⟨rfl, rfl, rfl, rfl⟩ := hq
  refine lv_istore_n (lv' := [(1, .int (bI (eqPl σ τ))), (0, .ref (bs + 67))]) hx hb (dg D_X12_adopt (i := 2) rfl) rfl hl (by decide) rfl (fun ls hl => ?_)
  refine lv_aload_n hx hb (dg D_X12_adopt (i := 3) rfl) rfl (lv_at hl 1 rfl) ?_
  refine r_getc (t := 68) X hW FI_X12_7 rfl (by decide) rfl (dg D_X12_adopt (i := 4) rfl) ?_
  refine n_iconst (a := 0) hx hb (dg D_X12_adopt (i := 5) rfl) rfl ?_
  refine lv_aload_n hx hb (dg D_X12_adopt (i := 6) rfl) rfl (lv_at hl 1 rfl) ?_
  refine r_getc (t := 71) X hW FI_X12_19 rfl (by decide) rfl (dg D_X12_adopt (i := 7) rfl) ?_
  refine n_iconst (a := 0) hx hb (dg D_X12_adopt (i := 8) rfl) rfl ?_
  refine callSv X hW hS hR (c_X12_copy (I := I) 68 248 0 71 248 0 (rfl) (by first | assumption | omega | decide | exact hP.1) (rfl) (by first | assumption | omega | decide | exact hP.1) (by first | assumption | omega | decide | exact hP.1) (by first | assumption | omega | decide | exact hP.1) (by first | assumption | omega | decide | exact hP.1) (by first | assumption | omega | decide | exact hP.1)) (by decide) USX12_copy LK_X12_80 rfl rfl (Nat.le_of_ble_eq_true rfl) hl hcs (dg D_X12_adopt (i := 9) rfl) (fun I15 L1 R1 H locs hq hW hS => ?_)
  obtain ⟨hT15, hp15_0, rfl, rfl⟩ := hq
  have hF : Fr SA I I15 := Fr.tr hF hT15 (by intro a j h; simp only [SC, SA, Bool.or_eq_true, Bool.and_eq_true, beq_iff_eq, decide_eq_true_eq] at h ⊢; omega)
  have ho : I15 71 = mixR σ (I 71) := by rw [hp15_0, hs, ho]; exact cpR_mix
  have hs : I15 68 = σ := by rw [Fr.row hT15 (fun _ => rfl)]; exact hs
  have hU : HisM I15 k U := HisM.row hU (Fr.row hT15 (fun _ => rfl))
  have ht : I15 70 = τ := by rw [Fr.row hT15 (fun _ => rfl)]; exact ht
  have hed : I15 67 5 = nI k := (hT15 67 5 rfl).trans hed
  refine lv_aload_n hx hb (dg D_X12_adopt (i := 10) rfl) rfl (lv_at hl 1 rfl) ?_
  refine r_getc (t := 70) X hW FI_X12_16 rfl (by decide) rfl (dg D_X12_adopt (i := 11) rfl) ?_
  refine n_iconst (a := 0) hx hb (dg D_X12_adopt (i := 12) rfl) rfl ?_
  refine lv_aload_n hx hb (dg D_X12_adopt (i := 13) rfl) rfl (lv_at hl 1 rfl) ?_
  refine r_getc (t := 68) X hW FI_X12_7 rfl (by decide) rfl (dg D_X12_adopt (i := 14) rfl) ?_
  refine n_iconst (a := 0) hx hb (dg D_X12_adopt (i := 15) rfl) rfl ?_
  refine callSv X hW hS hR (c_X12_copy (I := I15) 70 248 0 68 248 0 (rfl) (by first | assumption | omega | decide | exact hP.1) (rfl) (by first | assumption | omega | decide | exact hP.1) (by first | assumption | omega | decide | exact hP.1) (by first | assumption | omega | decide | exact hP.1) (by first | assumption | omega | decide | exact hP.1) (by first | assumption | omega | decide | exact hP.1)) (by decide) USX12_copy LK_X12_80 rfl rfl (Nat.le_of_ble_eq_true rfl) hl hcs (dg D_X12_adopt (i := 16) rfl) (fun I28 L1 R1 H locs hq hW hS => ?_)
  obtain ⟨hT28, hp28_0, rfl, rfl⟩ := hq
  have hF : Fr SA I I28 := Fr.tr hF hT28 (by intro a j h; simp only [SC, SA, Bool.or_eq_true, Bool.and_eq_true, beq_iff_eq, decide_eq_true_eq] at h ⊢; omega)
  have ho : I28 71 = mixR σ (I 71) := by rw [Fr.row hT28 (fun _ => rfl)]; exact ho
  have hs : I28 68 = mixR τ σ := by rw [hp28_0, ht, hs]; exact cpR_mix
  have hU : HisM I28 k U := HisM.row hU (Fr.row hT28 (fun _ => rfl))
  have ht : I28 70 = τ := by rw [Fr.row hT28 (fun _ => rfl)]; exact ht
  have hed : I28 67 5 = nI k := (hT28 67 5 rfl).trans hed
  refine lv_iload_n hx hb (dg D_X12_adopt (i := 17) rfl) rfl (lv_at hl 0 rfl) ?_
  refine z_if_eq (tgt := 39) hx hb (dg D_X12_adopt (i := 18) rfl) (by decide) (fun c32 => ?_) (fun c32 => ?_)
  · refine lv_aload_n hx hb (dg D_X12_adopt (i := 21) rfl) rfl (lv_at hl 1 rfl) ?_
    refine callVv X hW hS hR (c_X12_remember (I := I28) (mixR τ σ) k U (by first | assumption | omega | decide | exact hP.1) (by first | assumption | omega | decide | exact hP.1) (by first | assumption | omega | decide | exact hP.1)) (by decide) UVX12_remember LK_X12_336 rfl (by decide) rfl rfl rfl (Nat.le_of_ble_eq_true rfl) hl hcs (dg D_X12_adopt (i := 22) rfl) (fun I40 L1 R1 H locs hq hW hS => ?_)
    obtain ⟨hT40, hp40_0, hp40_1, rfl, rfl⟩ := hq
    have hF : Fr SA I I40 := Fr.tr hF hT40 (by intro a j h; simp only [SH, SA, Bool.or_eq_true, Bool.and_eq_true, beq_iff_eq, decide_eq_true_eq] at h ⊢; omega)
    have ho : I40 71 = mixR σ (I 71) := by rw [Fr.row hT40 (fun _ => rfl)]; exact ho
    have hs : I40 68 = mixR τ σ := by rw [Fr.row hT40 (fun _ => rfl)]; exact hs
    have hU : HisM I40 (min 16 (k + 1)) (pushU (mixR τ σ) U) := hp40_0
    have ht : I40 70 = τ := by rw [Fr.row hT40 (fun _ => rfl)]; exact ht
    have hed : I40 67 5 = nI (min 16 (k + 1)) := hp40_1
    refine lv_aload_n hx hb (dg D_X12_adopt (i := 23) rfl) rfl (lv_at hl 1 rfl) ?_
    refine r_getc (t := 71) X hW FI_X12_19 rfl (by decide) rfl (dg D_X12_adopt (i := 24) rfl) ?_
    refine n_iconst (a := 0) hx hb (dg D_X12_adopt (i := 25) rfl) rfl ?_
    refine lv_aload_n hx hb (dg D_X12_adopt (i := 26) rfl) rfl (lv_at hl 1 rfl) ?_
    refine r_getc (t := 68) X hW FI_X12_7 rfl (by decide) rfl (dg D_X12_adopt (i := 27) rfl) ?_
    refine n_iconst (a := 0) hx hb (dg D_X12_adopt (i := 28) rfl) rfl ?_
    have ho9 := ho
    refine callSv X hW hS hR (c_X12_copy (I := I40) 71 248 0 68 248 0 (rfl) (by first | assumption | omega | decide | exact hP.1) (rfl) (by first | assumption | omega | decide | exact hP.1) (by first | assumption | omega | decide | exact hP.1) (by first | assumption | omega | decide | exact hP.1) (by first | assumption | omega | decide | exact hP.1) (by first | assumption | omega | decide | exact hP.1)) (by decide) USX12_copy LK_X12_80 rfl rfl (Nat.le_of_ble_eq_true rfl) hl hcs (dg D_X12_adopt (i := 29) rfl) (fun I53 L1 R1 H locs hq hW hS => ?_)
    obtain ⟨hT53, hp53_0, rfl, rfl⟩ := hq
    have hF : Fr SA I I53 := Fr.tr hF hT53 (by intro a j h; simp only [SC, SA, Bool.or_eq_true, Bool.and_eq_true, beq_iff_eq, decide_eq_true_eq] at h ⊢; omega)
    have ho : I53 71 = mixR σ (I 71) := by rw [Fr.row hT53 (fun _ => rfl)]; exact ho
    have hs : I53 68 = σ := by rw [hp53_0, ho9, hs, cpR_mix]; exact mixR_b _ _ _
    have hU : HisM I53 (min 16 (k + 1)) (pushU (mixR τ σ) U) := HisM.row hU (Fr.row hT53 (fun _ => rfl))
    have ht : I53 70 = τ := by rw [Fr.row hT53 (fun _ => rfl)]; exact ht
    have hed : I53 67 5 = nI (min 16 (k + 1)) := (hT53 67 5 rfl).trans hed
    refine n_iconst (a := 0) hx hb (dg D_X12_adopt (i := 30) rfl) rfl ?_
    exact fin (dg D_X12_adopt (i := 31) rfl) hW hS ⟨by rw [if_neg (by rw [c32]; decide)], hF, by rw [if_neg (by rw [c32]; decide)]; exact ⟨hs, hU, hed⟩, rfl, rfl⟩
  · refine r_ldcw X CK_X12_339 (dg D_X12_adopt (i := 19) rfl) ?_
    exact fin (dg D_X12_adopt (i := 20) rfl) hW hS ⟨by rw [if_pos c32], hF, by rw [if_pos c32]; exact ⟨hs, hU, hed⟩, rfl, rfl⟩

set_option maxHeartbeats 4000000 in
set_option maxRecDepth 100000 in
theorem c_X12_put {l : Launch} {G : va_G} {bs : Nat} {cy : Nat → ClassId} {I : CI} {L : CL} {R : CR} (v : Int32) (n : Nat) (hln : I 67 38 = nI n) (hn : n < 1400) : MTv l G bs cy MX12_put 1 [.ref (bs + 67), .int v] I L R (fun I1 L1 R1 => Fr SO I I1 ∧ I1 67 38 = nI (n + 1) ∧ I1 85 = upd (I 85) n v ∧ L = L1 ∧ R = R1) := by
  refine MTv.of (own := RX12) pn_RX12 rfl (Nat.le_of_ble_eq_true rfl) ?_
  intro p e s m args below meth c Qf X hW hS fin ls hl
  have hx := X.1
  have hb := X.2.1
  have hR : RmOK (rmL 1 0 0) 1 := ⟨rfl, rfl⟩
  have hcs : 0 ≤ (rmL 1 0 0).cells ∧ 0 ≤ (rmL 1 0 0).slots := ⟨Nat.zero_le _, Nat.zero_le _⟩
  have hl : lv_has ls 2 [(0, .ref (bs + 67)), (1, .int v)] := hl
  have hF : Fr SO I I := Fr.rf
  have hb3 : I 85 = I 85 := rfl
  refine lv_aload_n hx hb (dg D_X12_put (i := 0) rfl) rfl (lv_at hl 0 rfl) ?_
  refine r_getc (t := 85) X hW FI_X12_67 rfl (by decide) rfl (dg D_X12_put (i := 1) rfl) ?_
  refine lv_aload_n hx hb (dg D_X12_put (i := 2) rfl) rfl (lv_at hl 0 rfl) ?_
  refine r_geti (v := nI n) X hW FI_X12_405 rfl (by decide) rfl hln (dg D_X12_put (i := 3) rfl) ?_
  refine lv_iload_n hx hb (dg D_X12_put (i := 4) rfl) rfl (lv_at hl 1 rfl) ?_
  refine r_ast (j := n) (v := v) X hW hS rfl (by decide) rfl (by omega) (by decide) (dg D_X12_put (i := 5) rfl) (fun H locs hW hS => ?_)
  have hF : Fr SO I (u2 I 85 n v) := Fr.put hF rfl
  have hb3 : (u2 I 85 n v) 85 = upd (I 85) n v := by rw [u2_eq, hb3]
  obtain ⟨J9, eJ9⟩ : ∃ J, J = u2 I 85 n v := ⟨_, rfl⟩
  rw [← eJ9] at hW hF hb3
  have hln : J9 67 38 = nI n := by rw [eJ9, u2_off (Or.inl (by decide))]; exact hln
  refine lv_aload_n hx hb (dg D_X12_put (i := 6) rfl) rfl (lv_at hl 0 rfl) ?_
  refine lv_dup hx hb (dg D_X12_put (i := 7) rfl) rfl ?_
  refine r_geti (v := nI n) X hW FI_X12_405 rfl (by decide) rfl hln (dg D_X12_put (i := 8) rfl) ?_
  refine n_iconst (a := 1) hx hb (dg D_X12_put (i := 9) rfl) rfl ?_
  refine n_iadd hx hb (dg D_X12_put (i := 10) rfl) ?_
  refine r_puti (v := nI (n + 1)) (ty := .int) X hW hS FI_X12_405 rfl (by decide) rfl rfl (by decide +kernel) rfl rfl (dg D_X12_put (i := 11) rfl) (fun H locs hW hS => ?_)
  have hF : Fr SO I (u2 J9 67 38 (nI (n + 1))) := Fr.put hF rfl
  have hb3 : (u2 J9 67 38 (nI (n + 1))) 85 = upd (I 85) n v := hb3
  obtain ⟨J17, eJ17⟩ : ∃ J, J = u2 J9 67 38 (nI (n + 1)) := ⟨_, rfl⟩
  rw [← eJ17] at hW hF hb3
  have hln : J17 67 38 = nI (n + 1) := by rw [eJ17]; exact u2_at
  exact fin (dg D_X12_put (i := 12) rfl) hW hS ⟨hF, hln, hb3, rfl, rfl⟩

set_option maxHeartbeats 4000000 in
set_option maxRecDepth 100000 in
theorem c_X12_putNumber {l : Launch} {G : va_G} {bs : Nat} {cy : Nat → ClassId} {I : CI} {L : CL} {R : CR} (v : Nat) (o : Out) (hln : I 67 38 = nI o.2) (ho : I 85 = o.1) (hn : o.2 + 2 ≤ 1400) (hv : v < 100) : MTv l G bs cy MX12_putNumber 2 [.ref (bs + 67), .int (nI v)] I L R (fun I1 L1 R1 => Fr SO I I1 ∧ I1 67 38 = nI (oN o v).2 ∧ I1 85 = (oN o v).1 ∧ L = L1 ∧ R = R1) := by
  refine MTv.of (own := RX12) pn_RX12 rfl (Nat.le_of_ble_eq_true rfl) ?_
  intro p e s m args below meth c Qf X hW hS fin ls hl
  have hx := X.1
  have hb := X.2.1
  have hR : RmOK (rmL 2 0 0) 2 := ⟨rfl, rfl⟩
  have hcs : 0 ≤ (rmL 2 0 0).cells ∧ 0 ≤ (rmL 2 0 0).slots := ⟨Nat.zero_le _, Nat.zero_le _⟩
  have hl : lv_has ls 2 [(0, .ref (bs + 67)), (1, .int (nI v))] := hl
  have hF : Fr SO I I := Fr.rf
  refine lv_iload_n hx hb (dg D_X12_putNumber (i := 0) rfl) rfl (lv_at hl 1 rfl) ?_
  refine lv_bipush (v := nI 9) hx hb (dg D_X12_putNumber (i := 1) rfl) (by decide) ?_
  refine n_icmp_le (tgt := 17) hx hb (by omega) (by omega) (dg D_X12_putNumber (i := 2) rfl) (by decide) (fun c3 => ?_) (fun c3 => ?_)
  · refine lv_aload_n hx hb (dg D_X12_putNumber (i := 10) rfl) rfl (lv_at hl 0 rfl) ?_
    refine lv_bipush (v := nI 48) hx hb (dg D_X12_putNumber (i := 11) rfl) (by decide) ?_
    refine lv_iload_n hx hb (dg D_X12_putNumber (i := 12) rfl) rfl (lv_at hl 1 rfl) ?_
    refine lv_bipush (v := nI 10) hx hb (dg D_X12_putNumber (i := 13) rfl) (by decide) ?_
    refine lv_irem hx hb (dg D_X12_putNumber (i := 14) rfl) (by decide) ?_
    refine lv_iadd hx hb (dg D_X12_putNumber (i := 15) rfl) ?_
    refine callVv X hW hS hR (c_X12_put (I := I) ((nI 48) + ((nI v) - (nI v) / (nI 10) * (nI 10))) o.2 (by first | assumption | omega | decide | exact hP.1) (by show _ < _; first | omega | (show o.2 + 1 < 1400; omega))) (by decide) UVX12_put LK_X12_408 rfl (by decide) rfl rfl rfl (Nat.le_of_ble_eq_true rfl) hl hcs (dg D_X12_putNumber (i := 16) rfl) (fun I25 L1 R1 H locs hq hW hS => ?_)
    obtain ⟨hT25, hp25_0, hp25_1, rfl, rfl⟩ := hq
    have hF : Fr SO I I25 := Fr.tr hF hT25 (fun _ _ h => h)
    have ho : I25 85 = (oN o v).1 := by rw [hp25_1, ho, oN_0 c3]; rfl
    have hln : I25 67 38 = nI (oN o v).2 := by rw [hp25_0, oN_0 c3]; rfl
    exact fin (dg D_X12_putNumber (i := 17) rfl) hW hS ⟨hF, hln, ho, rfl, rfl⟩
  · refine lv_aload_n hx hb (dg D_X12_putNumber (i := 3) rfl) rfl (lv_at hl 0 rfl) ?_
    refine lv_bipush (v := nI 48) hx hb (dg D_X12_putNumber (i := 4) rfl) (by decide) ?_
    refine lv_iload_n hx hb (dg D_X12_putNumber (i := 5) rfl) rfl (lv_at hl 1 rfl) ?_
    refine lv_bipush (v := nI 10) hx hb (dg D_X12_putNumber (i := 6) rfl) (by decide) ?_
    refine lv_idiv hx hb (dg D_X12_putNumber (i := 7) rfl) (by decide) ?_
    refine lv_iadd hx hb (dg D_X12_putNumber (i := 8) rfl) ?_
    refine callVv X hW hS hR (c_X12_put (I := I) ((nI 48) + ((nI v) / (nI 10))) o.2 (by first | assumption | omega | decide | exact hP.1) (by first | assumption | omega | decide | exact hP.1)) (by decide) UVX12_put LK_X12_408 rfl (by decide) rfl rfl rfl (Nat.le_of_ble_eq_true rfl) hl hcs (dg D_X12_putNumber (i := 9) rfl) (fun I14 L1 R1 H locs hq hW hS => ?_)
    obtain ⟨hT14, hp14_0, hp14_1, rfl, rfl⟩ := hq
    have hF : Fr SO I I14 := Fr.tr hF hT14 (fun _ _ h => h)
    have ho : I14 85 = (oP o (dgH v)).1 := by rw [hp14_1, ho]; rfl
    have hln : I14 67 38 = nI (oP o (dgH v)).2 := hp14_0
    refine lv_aload_n hx hb (dg D_X12_putNumber (i := 10) rfl) rfl (lv_at hl 0 rfl) ?_
    refine lv_bipush (v := nI 48) hx hb (dg D_X12_putNumber (i := 11) rfl) (by decide) ?_
    refine lv_iload_n hx hb (dg D_X12_putNumber (i := 12) rfl) rfl (lv_at hl 1 rfl) ?_
    refine lv_bipush (v := nI 10) hx hb (dg D_X12_putNumber (i := 13) rfl) (by decide) ?_
    refine lv_irem hx hb (dg D_X12_putNumber (i := 14) rfl) (by decide) ?_
    refine lv_iadd hx hb (dg D_X12_putNumber (i := 15) rfl) ?_
    refine callVv X hW hS hR (c_X12_put (I := I14) ((nI 48) + ((nI v) - (nI v) / (nI 10) * (nI 10))) ((oP o (dgH v)).2) (by first | assumption | omega | decide | exact hP.1) (by show _ < _; first | omega | (show o.2 + 1 < 1400; omega))) (by decide) UVX12_put LK_X12_408 rfl (by decide) rfl rfl rfl (Nat.le_of_ble_eq_true rfl) hl hcs (dg D_X12_putNumber (i := 16) rfl) (fun I25 L1 R1 H locs hq hW hS => ?_)
    obtain ⟨hT25, hp25_0, hp25_1, rfl, rfl⟩ := hq
    have hF : Fr SO I I25 := Fr.tr hF hT25 (fun _ _ h => h)
    have ho : I25 85 = (oN o v).1 := by rw [hp25_1, ho, oN_1 c3]; rfl
    have hln : I25 67 38 = nI (oN o v).2 := by rw [hp25_0, oN_1 c3]; rfl
    exact fin (dg D_X12_putNumber (i := 17) rfl) hW hS ⟨hF, hln, ho, rfl, rfl⟩

