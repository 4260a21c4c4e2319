set_option maxHeartbeats 4000000 in
set_option maxRecDepth 100000 in
theorem c_J0_coder_7d493 {l : Launch} {G : va_G} {bs : Nat} {cy : Nat → ClassId} {I : CI} {L : CL} {R : CR} : MTi l G bs cy MJ0_coder_7d493 1 [.ref (cy 10)] I L R (fun r I1 L1 R1 => nI 0 = r ∧ I = I1 ∧ L = L1 ∧ R = R1) := by
  refine MTn.of (own := RJ0) pn_RJ0 rfl (Nat.le_of_ble_eq_true rfl) ?_
  intro p e s m args below meth c Qf X hW hS fin ls hl
  have hx := X.1
  have hb := X.2.1
  have hR : RmOK (rmL 1 0 0) 1 := ⟨rfl, rfl⟩
  have hcs : 0 ≤ (rmL 1 0 0).cells ∧ 0 ≤ (rmL 1 0 0).slots := ⟨Nat.zero_le _, Nat.zero_le _⟩
  have hl : lv_has ls 1 [(0, .ref (cy 10))] := hl
  refine r_kcs X hS (dg D_J0_coder_7d493 (i := 0) rfl) ?_
  refine n_if_eq (tgt := 13) hx hb (by omega) (dg D_J0_coder_7d493 (i := 1) rfl) (by decide) (fun c3 => ?_) (fun c3 => ?_)
  · exact absurd c3 (by decide)
  · refine lv_aload_n hx hb (dg D_J0_coder_7d493 (i := 2) rfl) rfl (lv_at hl 0 rfl) ?_
    refine r_kcod X hS (dg D_J0_coder_7d493 (i := 3) rfl) ?_
    refine lv_goto (tgt := 14) hx hb (dg D_J0_coder_7d493 (i := 4) rfl) (by decide) ?_
    exact fin (dg D_J0_coder_7d493 (i := 6) rfl) hW hS rfl ⟨rfl, rfl, rfl, rfl⟩

set_option maxHeartbeats 4000000 in
set_option maxRecDepth 100000 in
theorem c_J0_length_8abf5 {l : Launch} {G : va_G} {bs : Nat} {cy : Nat → ClassId} {I : CI} {L : CL} {R : CR} : MTi l G bs cy MJ0_length_8abf5 2 [.ref (cy 10)] I L R (fun r I1 L1 R1 => nI 48 = r ∧ I = I1 ∧ L = L1 ∧ R = R1) := by
  refine MTi.of (own := RJ0) pn_RJ0 rfl (Nat.le_of_ble_eq_true rfl) ?_
  intro p e s m args below meth c Qf X hW hS fin ls hl
  have hx := X.1
  have hb := X.2.1
  have hR : RmOK (rmL 2 0 0) 2 := ⟨rfl, rfl⟩
  have hcs : 0 ≤ (rmL 2 0 0).cells ∧ 0 ≤ (rmL 2 0 0).slots := ⟨Nat.zero_le _, Nat.zero_le _⟩
  have hl : lv_has ls 1 [(0, .ref (cy 10))] := hl
  refine lv_aload_n hx hb (dg D_J0_length_8abf5 (i := 0) rfl) rfl (lv_at hl 0 rfl) ?_
  refine r_kval X hS (dg D_J0_length_8abf5 (i := 1) rfl) ?_
  refine r_klen X hS (dg D_J0_length_8abf5 (i := 2) rfl) ?_
  refine lv_aload_n hx hb (dg D_J0_length_8abf5 (i := 3) rfl) rfl (lv_at hl 0 rfl) ?_
  refine callKi X hW hS hR (c_J0_coder_7d493 (I := I) ) (by decide) UVJ0_coder_7d493 LK_J0_335 rfl rfl (Nat.le_of_ble_eq_true rfl) hl hcs (dg D_J0_length_8abf5 (i := 4) rfl) (fun r6 I6 L1 R1 H locs hq hW hS => ?_)
  obtain ⟨rfl, rfl, rfl, rfl⟩ := hq
  refine lv_ishr hx hb (dg D_J0_length_8abf5 (i := 5) rfl) ?_
  rw [show (nI 48) >>> ((nI 0) &&& 31) = nI 48 from (by decide)]
  exact fin (dg D_J0_length_8abf5 (i := 6) rfl) hW hS ⟨rfl, rfl, rfl, rfl⟩

set_option maxHeartbeats 4000000 in
set_option maxRecDepth 100000 in
theorem c_J0_isLatin1_aae02 {l : Launch} {G : va_G} {bs : Nat} {cy : Nat → ClassId} {I : CI} {L : CL} {R : CR} : MTi l G bs cy MJ0_isLatin1_aae02 1 [.ref (cy 10)] I L R (fun r I1 L1 R1 => bI true = r ∧ I = I1 ∧ L = L1 ∧ R = R1) := by
  refine MTz.of (own := RJ0) pn_RJ0 rfl (Nat.le_of_ble_eq_true rfl) ?_
  intro p e s m args below meth c Qf X hW hS fin ls hl
  have hx := X.1
  have hb := X.2.1
  have hR : RmOK (rmL 1 0 0) 1 := ⟨rfl, rfl⟩
  have hcs : 0 ≤ (rmL 1 0 0).cells ∧ 0 ≤ (rmL 1 0 0).slots := ⟨Nat.zero_le _, Nat.zero_le _⟩
  have hl : lv_has ls 1 [(0, .ref (cy 10))] := hl
  refine r_kcs X hS (dg D_J0_isLatin1_aae02 (i := 0) rfl) ?_
  refine n_if_eq (tgt := 17) hx hb (by omega) (dg D_J0_isLatin1_aae02 (i := 1) rfl) (by decide) (fun c3 => ?_) (fun c3 => ?_)
  · exact absurd c3 (by decide)
  · refine lv_aload_n hx hb (dg D_J0_isLatin1_aae02 (i := 2) rfl) rfl (lv_at hl 0 rfl) ?_
    refine r_kcod X hS (dg D_J0_isLatin1_aae02 (i := 3) rfl) ?_
    refine n_if_ne (tgt := 17) hx hb (by omega) (dg D_J0_isLatin1_aae02 (i := 4) rfl) (by decide) (fun c10 => ?_) (fun c10 => ?_)
    · exact absurd c10 (by decide)
    · refine n_iconst (a := 1) hx hb (dg D_J0_isLatin1_aae02 (i := 5) rfl) rfl ?_
      refine lv_goto (tgt := 18) hx hb (dg D_J0_isLatin1_aae02 (i := 6) rfl) (by decide) ?_
      exact fin (dg D_J0_isLatin1_aae02 (i := 8) rfl) hW hS (show _ = bI true from rfl) ⟨by simp_all, rfl, rfl, rfl⟩

set_option maxHeartbeats 4000000 in
set_option maxRecDepth 100000 in
theorem c_J3_checkIndex_8e157 {l : Launch} {G : va_G} {bs : Nat} {cy : Nat → ClassId} {I : CI} {L : CL} {R : CR} (k : Nat) (n : Nat) (t9 : Nat) (hk : k < n) (hn : n < 2 ^ 31) : MTi l G bs cy MJ3_checkIndex_8e157 1 [.int (nI k), .int (nI n), .ref t9] I L R (fun r I1 L1 R1 => nI k = r ∧ I = I1 ∧ L = L1 ∧ R = R1) := by
  refine MTi.of (own := RJ3) pn_RJ3 rfl (Nat.le_of_ble_eq_true rfl) ?_
  intro p e s m args below meth c Qf X hW hS fin ls hl
  have hx := X.1
  have hb := X.2.1
  have hR : RmOK (rmL 1 0 0) 1 := ⟨rfl, rfl⟩
  have hcs : 0 ≤ (rmL 1 0 0).cells ∧ 0 ≤ (rmL 1 0 0).slots := ⟨Nat.zero_le _, Nat.zero_le _⟩
  have hl : lv_has ls 3 [(0, .int (nI k)), (1, .int (nI n)), (2, .ref t9)] := hl
  refine lv_iload_n hx hb (dg D_J3_checkIndex_8e157 (i := 0) rfl) rfl (lv_at hl 0 rfl) ?_
  refine n_if_lt (tgt := 9) hx hb (by omega) (dg D_J3_checkIndex_8e157 (i := 1) rfl) (by decide) (fun c1 => ?_) (fun c1 => ?_)
  · exact absurd c1 (by first | omega | exact fun z => z.elim | simp)
  · refine lv_iload_n hx hb (dg D_J3_checkIndex_8e157 (i := 2) rfl) rfl (lv_at hl 0 rfl) ?_
    refine lv_iload_n hx hb (dg D_J3_checkIndex_8e157 (i := 3) rfl) rfl (lv_at hl 1 rfl) ?_
    refine n_icmp_lt (tgt := 16) hx hb (by omega) (by omega) (dg D_J3_checkIndex_8e157 (i := 4) rfl) (by decide) (fun c6 => ?_) (fun c6 => ?_)
    · refine lv_iload_n hx hb (dg D_J3_checkIndex_8e157 (i := 10) rfl) rfl (lv_at hl 0 rfl) ?_
      exact fin (dg D_J3_checkIndex_8e157 (i := 11) rfl) hW hS ⟨rfl, rfl, rfl, rfl⟩
    · exact absurd hk (Nat.not_lt.mpr c6)

set_option maxHeartbeats 4000000 in
set_option maxRecDepth 100000 in
theorem cN_J3_checkIndex {l : Launch} {G : va_G} {bs : Nat} {cy : Nat → ClassId} {I : CI} {L : CL} {R : CR} (k : Nat) (n : Nat) (hk : k < n) (hn : n < 2 ^ 31) : MTi l G bs cy MJ3_checkIndex_8e157 1 [.int (nI k), .int (nI n), .null] I L R (fun r I1 L1 R1 => nI k = r ∧ I = I1 ∧ L = L1 ∧ R = R1) := by
  refine MTi.of (own := RJ3) pn_RJ3 rfl (Nat.le_of_ble_eq_true rfl) ?_
  intro p e s m args below meth c Qf X hW hS fin ls hl
  have hx := X.1
  have hb := X.2.1
  have hR : RmOK (rmL 1 0 0) 1 := ⟨rfl, rfl⟩
  have hcs : 0 ≤ (rmL 1 0 0).cells ∧ 0 ≤ (rmL 1 0 0).slots := ⟨Nat.zero_le _, Nat.zero_le _⟩
  have hl : lv_has ls 3 [(0, .int (nI k)), (1, .int (nI n)), (2, .null)] := hl
  refine lv_iload_n hx hb (dg D_J3_checkIndex_8e157 (i := 0) rfl) rfl (lv_at hl 0 rfl) ?_
  refine n_if_lt (tgt := 9) hx hb (by omega) (dg D_J3_checkIndex_8e157 (i := 1) rfl) (by decide) (fun c1 => ?_) (fun c1 => ?_)
  · exact absurd c1 (by first | omega | exact fun z => z.elim | simp)
  · refine lv_iload_n hx hb (dg D_J3_checkIndex_8e157 (i := 2) rfl) rfl (lv_at hl 0 rfl) ?_
    refine lv_iload_n hx hb (dg D_J3_checkIndex_8e157 (i := 3) rfl) rfl (lv_at hl 1 rfl) ?_
    refine n_icmp_lt (tgt := 16) hx hb (by omega) (by omega) (dg D_J3_checkIndex_8e157 (i := 4) rfl) (by decide) (fun c6 => ?_) (fun c6 => ?_)
    · refine lv_iload_n hx hb (dg D_J3_checkIndex_8e157 (i := 10) rfl) rfl (lv_at hl 0 rfl) ?_
      exact fin (dg D_J3_checkIndex_8e157 (i := 11) rfl) hW hS ⟨rfl, rfl, rfl, rfl⟩
    · exact absurd hk (Nat.not_lt.mpr c6)

set_option maxHeartbeats 4000000 in
set_option maxRecDepth 100000 in
theorem c_J0_checkIndex_df160 {l : Launch} {G : va_G} {bs : Nat} {cy : Nat → ClassId} {I : CI} {L : CL} {R : CR} (k : Nat) (n : Nat) (hk : k < n) (hn : n < 2 ^ 31) : MTv l G bs cy MJ0_checkIndex_df160 2 [.int (nI k), .int (nI n)] I L R (fun I1 L1 R1 => I = I1 ∧ L = L1 ∧ R = R1) := by
  refine MTv.of (own := RJ0) pn_RJ0 rfl (Nat.le_of_ble_eq_true rfl) ?_
  intro p e s m args below meth c Qf X hW hS fin ls hl
  have hx := X.1
  have hb := X.2.1
  have hR : RmOK (rmL 2 0 0) 2 := ⟨rfl, rfl⟩
  have hcs : 0 ≤ (rmL 2 0 0).cells ∧ 0 ≤ (rmL 2 0 0).slots := ⟨Nat.zero_le _, Nat.zero_le _⟩
  have hl : lv_has ls 2 [(0, .int (nI k)), (1, .int (nI n))] := hl
  refine lv_iload_n hx hb (dg D_J0_checkIndex_df160 (i := 0) rfl) rfl (lv_at hl 0 rfl) ?_
  refine lv_iload_n hx hb (dg D_J0_checkIndex_df160 (i := 1) rfl) rfl (lv_at hl 1 rfl) ?_
  refine r_kfm X hS (dg D_J0_checkIndex_df160 (i := 2) rfl) ?_ (fun t9 => ?_)
  · refine callSi X hW hS hR (cN_J3_checkIndex (I := I) k n (by first | assumption | omega | decide | exact hP.1) (by first | assumption | omega | decide | exact hP.1)) (by decide) USJ3_checkIndex_8e157 LK_J0_1059 rfl rfl (Nat.le_of_ble_eq_true rfl) hl hcs (dg D_J0_checkIndex_df160 (i := 3) rfl) (fun r5 I5 L1 R1 H locs hq hW hS => ?_)
    obtain ⟨rfl, rfl, rfl, rfl⟩ := hq
    refine lv_pop hx hb (dg D_J0_checkIndex_df160 (i := 4) rfl) rfl ?_
    exact fin (dg D_J0_checkIndex_df160 (i := 5) rfl) hW hS ⟨rfl, rfl, rfl⟩
  · refine callSi X hW hS hR (c_J3_checkIndex_8e157 (I := I) k n t9 (by first | assumption | omega | decide | exact hP.1) (by first | assumption | omega | decide | exact hP.1)) (by decide) USJ3_checkIndex_8e157 LK_J0_1059 rfl rfl (Nat.le_of_ble_eq_true rfl) hl hcs (dg D_J0_checkIndex_df160 (i := 3) rfl) (fun r5 I5 L1 R1 H locs hq hW hS => ?_)
    obtain ⟨rfl, rfl, rfl, rfl⟩ := hq
    refine lv_pop hx hb (dg D_J0_checkIndex_df160 (i := 4) rfl) rfl ?_
    exact fin (dg D_J0_checkIndex_df160 (i := 5) rfl) hW hS ⟨rfl, rfl, rfl⟩

set_option maxHeartbeats 4000000 in
set_option maxRecDepth 100000 in
theorem c_J1_charAt_3b067 {l : Launch} {G : va_G} {bs : Nat} {cy : Nat → ClassId} {I : CI} {L : CL} {R : CR} (k : Nat) (hk : k < 48) : MTi l G bs cy MJ1_charAt_3b067 3 [.ref (cy 11), .int (nI k)] I L R (fun r I1 L1 R1 => nI (KW k) = r ∧ I = I1 ∧ L = L1 ∧ R = R1) := by
  refine MTn.of (own := RJ1) pn_RJ1 rfl (Nat.le_of_ble_eq_true rfl) ?_
  intro p e s m args below meth c Qf X hW hS fin ls hl
  have hx := X.1
  have hb := X.2.1
  have hR : RmOK (rmL 3 0 0) 3 := ⟨rfl, rfl⟩
  have hcs : 0 ≤ (rmL 3 0 0).cells ∧ 0 ≤ (rmL 3 0 0).slots := ⟨Nat.zero_le _, Nat.zero_le _⟩
  have hl : lv_has ls 2 [(0, .ref (cy 11)), (1, .int (nI k))] := hl
  refine lv_iload_n hx hb (dg D_J1_charAt_3b067 (i := 0) rfl) rfl (lv_at hl 1 rfl) ?_
  refine lv_aload_n hx hb (dg D_J1_charAt_3b067 (i := 1) rfl) rfl (lv_at hl 0 rfl) ?_
  refine r_klen X hS (dg D_J1_charAt_3b067 (i := 2) rfl) ?_
  refine callSv X hW hS hR (c_J0_checkIndex_df160 (I := I) k 48 (by first | assumption | omega | decide | exact hP.1) (by first | assumption | omega | decide | exact hP.1)) (by decide) USJ0_checkIndex_df160 LK_J1_9 rfl rfl (Nat.le_of_ble_eq_true rfl) hl hcs (dg D_J1_charAt_3b067 (i := 3) rfl) (fun I3 L1 R1 H locs hq hW hS => ?_)
  obtain ⟨rfl, rfl, rfl⟩ := hq
  refine lv_aload_n hx hb (dg D_J1_charAt_3b067 (i := 4) rfl) rfl (lv_at hl 0 rfl) ?_
  refine lv_iload_n hx hb (dg D_J1_charAt_3b067 (i := 5) rfl) rfl (lv_at hl 1 rfl) ?_
  refine r_kald (j := k) X hS (by omega) (dg D_J1_charAt_3b067 (i := 6) rfl) ?_
  refine lv_sipush (v := nI 255) hx hb (dg D_J1_charAt_3b067 (i := 7) rfl) (by decide) ?_
  refine lv_iand hx hb (dg D_J1_charAt_3b067 (i := 8) rfl) ?_
  refine lv_i2c (v := (((kwB.getD k 0) &&& (nI 255)).toUInt32 % 65536).toInt32) hx hb (dg D_J1_charAt_3b067 (i := 9) rfl) rfl ?_
  rw [show (((kwB.getD k 0) &&& (nI 255)).toUInt32 % 65536).toInt32 = nI (KW k) from (kw_get k hk).1]
  exact fin (dg D_J1_charAt_3b067 (i := 10) rfl) hW hS (kw_get k hk).2.1 ⟨rfl, rfl, rfl, rfl⟩

set_option maxHeartbeats 4000000 in
set_option maxRecDepth 100000 in
theorem c_J0_charAt_5068e {l : Launch} {G : va_G} {bs : Nat} {cy : Nat → ClassId} {I : CI} {L : CL} {R : CR} (k : Nat) (hk : k < 48) : MTi l G bs cy MJ0_charAt_5068e 4 [.ref (cy 10), .int (nI k)] I L R (fun r I1 L1 R1 => nI (KW k) = r ∧ I = I1 ∧ L = L1 ∧ R = R1) := by
  refine MTn.of (own := RJ0) pn_RJ0 rfl (Nat.le_of_ble_eq_true rfl) ?_
  intro p e s m args below meth c Qf X hW hS fin ls hl
  have hx := X.1
  have hb := X.2.1
  have hR : RmOK (rmL 4 0 0) 4 := ⟨rfl, rfl⟩
  have hcs : 0 ≤ (rmL 4 0 0).cells ∧ 0 ≤ (rmL 4 0 0).slots := ⟨Nat.zero_le _, Nat.zero_le _⟩
  have hl : lv_has ls 2 [(0, .ref (cy 10)), (1, .int (nI k))] := hl
  refine lv_aload_n hx hb (dg D_J0_charAt_5068e (i := 0) rfl) rfl (lv_at hl 0 rfl) ?_
  refine callKi X hW hS hR (c_J0_isLatin1_aae02 (I := I) ) (by decide) UVJ0_isLatin1_aae02 LK_J0_492 rfl rfl (Nat.le_of_ble_eq_true rfl) hl hcs (dg D_J0_charAt_5068e (i := 1) rfl) (fun r1 I1 L1 R1 H locs hq hW hS => ?_)
  obtain ⟨rfl, rfl, rfl, rfl⟩ := hq
  refine z_if_eq (tgt := 16) hx hb (dg D_J0_charAt_5068e (i := 2) rfl) (by decide) (fun c4 => ?_) (fun c4 => ?_)
  · exact absurd c4 (by decide)
  · refine lv_aload_n hx hb (dg D_J0_charAt_5068e (i := 3) rfl) rfl (lv_at hl 0 rfl) ?_
    refine r_kval X hS (dg D_J0_charAt_5068e (i := 4) rfl) ?_
    refine lv_iload_n hx hb (dg D_J0_charAt_5068e (i := 5) rfl) rfl (lv_at hl 1 rfl) ?_
    refine callSi X hW hS hR (c_J1_charAt_3b067 (I := I) k (by first | assumption | omega | decide | exact hP.1)) (by decide) USJ1_charAt_3b067 LK_J0_495 rfl rfl (Nat.le_of_ble_eq_true rfl) hl hcs (dg D_J0_charAt_5068e (i := 6) rfl) (fun r12 I12 L1 R1 H locs hq hW hS => ?_)
    obtain ⟨rfl, rfl, rfl, rfl⟩ := hq
    exact fin (dg D_J0_charAt_5068e (i := 7) rfl) hW hS (kw_get k hk).2.1 ⟨rfl, rfl, rfl, rfl⟩

