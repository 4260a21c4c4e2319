set_option maxHeartbeats 4000000 in
set_option maxRecDepth 100000 in
theorem c_X10_takeLetters {l : Launch} {G : va_G} {bs : Nat} {cy : Nat → ClassId} {I : CI} {L : CL} {R : CR} (b : Nat → Int32) (n : Nat) (z : Nat) (hTx : rowP I 30 n (fun j => sg (b j))) (hln : I 66 1 = nI n) (hT : TB b n) (hn : n ≤ 900) (hen : I 66 3 = nI z) (hz : z ≤ n) : MTv l G bs cy MX10_takeLetters 1 [.ref (bs + 66)] I L R (fun I1 L1 R1 => Fr STe I I1 ∧ I1 66 3 = nI (lE b n z) ∧ L1 66 6 = wdI b z (lE b n z - z) ∧ FL SLc L L1 ∧ R = R1) := by
  refine MTv.of (own := RX10) pn_RX10 rfl (Nat.le_of_ble_eq_true rfl) ?_
  intro p e s m args below meth c Qf X hW hS fin ls hl
  have hx := X.1
  have hb := X.2.1
  have hR : RmOK (rmL 1 0 0) 1 := ⟨rfl, rfl⟩
  have hcs : 0 ≤ (rmL 1 0 0).cells ∧ 0 ≤ (rmL 1 0 0).slots := ⟨Nat.zero_le _, Nat.zero_le _⟩
  have hl : lv_has ls 1 [(0, .ref (bs + 66))] := hl
  have hF : Fr STe I I := Fr.rf
  have hFL : FL SLc L L := FL.rf
  have en := hen
  refine lv_aload_n hx hb (dg D_X10_takeLetters (i := 0) rfl) rfl (lv_at hl 0 rfl) ?_
  refine lv_lconst (v := 0) hx hb (dg D_X10_takeLetters (i := 1) rfl) rfl ?_
  refine r_putl (v := 0) X hW hS FI_X10_47 rfl (by decide) rfl rfl (by decide +kernel) (dg D_X10_takeLetters (i := 2) rfl) (fun H locs hW hS => ?_)
  have hFL : FL SLc L (u2L L 66 6 0) := FL.put hFL rfl
  obtain ⟨LJ2, eLJ2⟩ : ∃ J, J = u2L L 66 6 0 := ⟨_, rfl⟩
  rw [← eLJ2] at hW hFL 
  have loop5 := up_ind (P := fun y => ∀ (K5 : CI) (KL5 : CL) (H : Heap) (locs : List Loc) (ls : Array Slot), (Fr STe I K5) → (rowP K5 30 n (fun j => sg (b j))) → (K5 66 3 = nI y) → (K5 66 1 = nI n) → (FL SLc L KL5) → (KL5 66 6 = wdI b z (y - z)) → (z ≤ y) → (runE isL b n y = lE b n z) → Wd G bs cy K5 KL5 R H → va_S (Aq bs) s.heap H locs → lv_has ls 1 [(0, .ref (bs + 66))] → W p l e (rmL 1 0 0) s m args below meth c H locs 0 0 Qf (F0 m 5 ls [])) n (fun y hx5 ih5 => by
      intro K5 KL5 H locs ls hF hTx en hln hFL hwd hy1 hy2 hW hS hl
      refine lv_aload_n hx hb (dg D_X10_takeLetters (i := 3) rfl) rfl (lv_at hl 0 rfl) ?_
      refine r_geti (v := nI y) X hW FI_X10_31 rfl (by decide) rfl en (dg D_X10_takeLetters (i := 4) rfl) ?_
      refine lv_aload_n hx hb (dg D_X10_takeLetters (i := 5) rfl) rfl (lv_at hl 0 rfl) ?_
      refine r_geti (v := nI n) X hW FI_X10_25 rfl (by decide) rfl hln (dg D_X10_takeLetters (i := 6) rfl) ?_
      refine n_icmp_ge (tgt := 88) hx hb (by omega) (by omega) (dg D_X10_takeLetters (i := 7) rfl) (by decide) (fun c13 => ?_) (fun c13 => ?_)
      · have hye : lE b n z = y := hy2.symm.trans (runE_stop (by omega) (fun h => absurd h (by omega)))
        exact fin (dg D_X10_takeLetters (i := 45) rfl) hW hS ⟨hF, by rw [hye]; exact en, by rw [hye]; exact hwd, hFL, rfl⟩
      · refine lv_aload_n hx hb (dg D_X10_takeLetters (i := 8) rfl) rfl (lv_at hl 0 rfl) ?_
        refine r_getc (t := 29) X hW FI_X10_7 rfl (by decide) rfl (dg D_X10_takeLetters (i := 9) rfl) ?_
        refine rn_getc (t := 30) X hW FN_X10_37 rfl (by decide) rfl (dg D_X10_takeLetters (i := 10) rfl) ?_
        refine lv_aload_n hx hb (dg D_X10_takeLetters (i := 11) rfl) rfl (lv_at hl 0 rfl) ?_
        refine r_geti (v := nI y) X hW FI_X10_31 rfl (by decide) rfl en (dg D_X10_takeLetters (i := 12) rfl) ?_
        refine r_bald (j := y) (v := sg (b y)) X hW rfl (by decide) rfl (by omega) (by decide) (hTx _ (by omega)) (dg D_X10_takeLetters (i := 13) rfl) ?_
        refine lv_bipush (v := nI 97) hx hb (dg D_X10_takeLetters (i := 14) rfl) (by decide) ?_
        refine lv_icmp_lt (tgt := 88) hx hb (dg D_X10_takeLetters (i := 15) rfl) (by decide) (fun c30 => ?_) (fun c30 => ?_)
        · have hye : lE b n z = y := hy2.symm.trans (runE_stop (by omega) (cl_nL hT (Or.inl c30)))
          exact fin (dg D_X10_takeLetters (i := 45) rfl) hW hS ⟨hF, by rw [hye]; exact en, by rw [hye]; exact hwd, hFL, rfl⟩
        · refine lv_aload_n hx hb (dg D_X10_takeLetters (i := 16) rfl) rfl (lv_at hl 0 rfl) ?_
          refine r_getc (t := 29) X hW FI_X10_7 rfl (by decide) rfl (dg D_X10_takeLetters (i := 17) rfl) ?_
          refine rn_getc (t := 30) X hW FN_X10_37 rfl (by decide) rfl (dg D_X10_takeLetters (i := 18) rfl) ?_
          refine lv_aload_n hx hb (dg D_X10_takeLetters (i := 19) rfl) rfl (lv_at hl 0 rfl) ?_
          refine r_geti (v := nI y) X hW FI_X10_31 rfl (by decide) rfl en (dg D_X10_takeLetters (i := 20) rfl) ?_
          refine r_bald (j := y) (v := sg (b y)) X hW rfl (by decide) rfl (by omega) (by decide) (hTx _ (by omega)) (dg D_X10_takeLetters (i := 21) rfl) ?_
          refine lv_bipush (v := nI 122) hx hb (dg D_X10_takeLetters (i := 22) rfl) (by decide) ?_
          refine lv_icmp_gt (tgt := 88) hx hb (dg D_X10_takeLetters (i := 23) rfl) (by decide) (fun c47 => ?_) (fun c47 => ?_)
          · have hye : lE b n z = y := hy2.symm.trans (runE_stop (by omega) (cl_nL hT (Or.inr c47)))
            exact fin (dg D_X10_takeLetters (i := 45) rfl) hW hS ⟨hF, by rw [hye]; exact en, by rw [hye]; exact hwd, hFL, rfl⟩
          · refine lv_aload_n hx hb (dg D_X10_takeLetters (i := 24) rfl) rfl (lv_at hl 0 rfl) ?_
            refine lv_aload_n hx hb (dg D_X10_takeLetters (i := 25) rfl) rfl (lv_at hl 0 rfl) ?_
            refine r_getl (v := wdI b z (y - z)) X hW FI_X10_47 rfl (by decide) rfl hwd (dg D_X10_takeLetters (i := 26) rfl) ?_
            refine lv_bipush (v := nI 8) hx hb (dg D_X10_takeLetters (i := 27) rfl) (by decide) ?_
            refine lv_lshl (v := (wdI b z (y - z)) <<< ((nI 8).toInt64 &&& 63)) hx hb (dg D_X10_takeLetters (i := 28) rfl) rfl ?_
            refine lv_aload_n hx hb (dg D_X10_takeLetters (i := 29) rfl) rfl (lv_at hl 0 rfl) ?_
            refine r_getc (t := 29) X hW FI_X10_7 rfl (by decide) rfl (dg D_X10_takeLetters (i := 30) rfl) ?_
            refine rn_getc (t := 30) X hW FN_X10_37 rfl (by decide) rfl (dg D_X10_takeLetters (i := 31) rfl) ?_
            refine lv_aload_n hx hb (dg D_X10_takeLetters (i := 32) rfl) rfl (lv_at hl 0 rfl) ?_
            refine r_geti (v := nI y) X hW FI_X10_31 rfl (by decide) rfl en (dg D_X10_takeLetters (i := 33) rfl) ?_
            refine r_bald (j := y) (v := sg (b y)) X hW rfl (by decide) rfl (by omega) (by decide) (hTx _ (by omega)) (dg D_X10_takeLetters (i := 34) rfl) ?_
            refine lv_i2l (v := (sg (b y)).toInt64) hx hb (dg D_X10_takeLetters (i := 35) rfl) rfl ?_
            refine lv_lor hx hb (dg D_X10_takeLetters (i := 36) rfl) ?_
            refine r_putl (v := ((wdI b z (y - z)) <<< ((nI 8).toInt64 &&& 63)) ||| ((sg (b y)).toInt64)) X hW hS FI_X10_47 rfl (by decide) rfl rfl (by decide +kernel) (dg D_X10_takeLetters (i := 37) rfl) (fun H locs hW hS => ?_)
            have hFL : FL SLc L (u2L KL5 66 6 (((wdI b z (y - z)) <<< ((nI 8).toInt64 &&& 63)) ||| ((sg (b y)).toInt64))) := FL.put hFL rfl
            obtain ⟨LJ72, eLJ72⟩ : ∃ J, J = u2L KL5 66 6 (((wdI b z (y - z)) <<< ((nI 8).toInt64 &&& 63)) ||| ((sg (b y)).toInt64)) := ⟨_, rfl⟩
            rw [← eLJ72] at hW hFL 
            refine lv_aload_n hx hb (dg D_X10_takeLetters (i := 38) rfl) rfl (lv_at hl 0 rfl) ?_
            refine lv_dup hx hb (dg D_X10_takeLetters (i := 39) rfl) rfl ?_
            refine r_geti (v := nI y) X hW FI_X10_31 rfl (by decide) rfl en (dg D_X10_takeLetters (i := 40) rfl) ?_
            refine n_iconst (a := 1) hx hb (dg D_X10_takeLetters (i := 41) rfl) rfl ?_
            refine n_iadd hx hb (dg D_X10_takeLetters (i := 42) rfl) ?_
            refine r_puti (v := nI (y + 1)) (ty := .int) X hW hS FI_X10_31 rfl (by decide) rfl rfl (by decide +kernel) rfl rfl (dg D_X10_takeLetters (i := 43) rfl) (fun H locs hW hS => ?_)
            have hF : Fr STe I (u2 K5 66 3 (nI (y + 1))) := Fr.put hF rfl
            have hTx : rowP (u2 K5 66 3 (nI (y + 1))) 30 n (fun j => sg (b j)) := hTx.keep (by decide)
            obtain ⟨J82, eJ82⟩ : ∃ J, J = u2 K5 66 3 (nI (y + 1)) := ⟨_, rfl⟩
            rw [← eJ82] at hW hF hTx
            have hln : J82 66 1 = nI n := by rw [eJ82, u2_off (Or.inr (by decide))]; exact hln
            have en : J82 66 3 = nI (y + 1) := by rw [eJ82]; exact u2_at
            refine lv_goto (tgt := 5) hx hb (dg D_X10_takeLetters (i := 44) rfl) (by decide) ?_
            exact ih5 (by omega) J82 LJ72 _ _ _ hF hTx en hln hFL (by rw [eLJ72, show y + 1 - z = y - z + 1 by omega, u2L_at]; show _ = wdI b z (y - z) <<< _ ||| _; rw [show z + (y - z) = y by omega]) (by omega) (by rw [← hy2]; exact (runE_step (by omega) (cl_yL hT (by omega) c30 c47)).symm) hW hS (lv_sub hl [0] rfl))
  exact loop5 z hz I LJ2 _ _ _ hF hTx en hln hFL (by rw [eLJ2, Nat.sub_self]; exact u2L_at) (Nat.le_refl _) rfl hW hS (lv_sub hl [0] rfl)

set_option maxHeartbeats 4000000 in
set_option maxRecDepth 100000 in
theorem c_X10_takeDigits {l : Launch} {G : va_G} {bs : Nat} {cy : Nat → ClassId} {I : CI} {L : CL} {R : CR} (b : Nat → Int32) (n : Nat) (z : Nat) (hTx : rowP I 30 n (fun j => sg (b j))) (hln : I 66 1 = nI n) (hT : TB b n) (hn : n ≤ 900) (hen : I 66 3 = nI z) (hz : z ≤ n) : MTv l G bs cy MX10_takeDigits 1 [.ref (bs + 66)] I L R (fun I1 L1 R1 => Fr STd I I1 ∧ I1 66 3 = nI (runE isDg b n z) ∧ I1 66 5 = nI (wF 10 (d10 b) z (runE isDg b n z - z)) ∧ L = L1 ∧ R = R1) := by
  refine MTv.of (own := RX10) pn_RX10 rfl (Nat.le_of_ble_eq_true rfl) ?_
  intro p e s m args below meth c Qf X hW hS fin ls hl
  have hx := X.1
  have hb := X.2.1
  have hR : RmOK (rmL 1 0 0) 1 := ⟨rfl, rfl⟩
  have hcs : 0 ≤ (rmL 1 0 0).cells ∧ 0 ≤ (rmL 1 0 0).slots := ⟨Nat.zero_le _, Nat.zero_le _⟩
  have hl : lv_has ls 1 [(0, .ref (bs + 66))] := hl
  have hF : Fr STd I I := Fr.rf
  have en := hen
  refine lv_aload_n hx hb (dg D_X10_takeDigits (i := 0) rfl) rfl (lv_at hl 0 rfl) ?_
  refine n_iconst (a := 0) hx hb (dg D_X10_takeDigits (i := 1) rfl) rfl ?_
  refine r_puti (v := nI 0) (ty := .int) X hW hS FI_X10_51 rfl (by decide) rfl rfl (by decide +kernel) rfl rfl (dg D_X10_takeDigits (i := 2) rfl) (fun H locs hW hS => ?_)
  have hF : Fr STd I (u2 I 66 5 (nI 0)) := Fr.put hF rfl
  have hTx : rowP (u2 I 66 5 (nI 0)) 30 n (fun j => sg (b j)) := hTx.keep (by decide)
  obtain ⟨J2, eJ2⟩ : ∃ J, J = u2 I 66 5 (nI 0) := ⟨_, rfl⟩
  rw [← eJ2] at hW hF hTx
  have hln : J2 66 1 = nI n := by rw [eJ2, u2_off (Or.inr (by decide))]; exact hln
  have en : J2 66 3 = nI z := by rw [eJ2, u2_off (Or.inr (by decide))]; exact en
  have hv0 : J2 66 5 = nI 0 := by rw [eJ2]; exact u2_at
  have loop5 := up_ind (P := fun y => ∀ (K5 : CI) (H : Heap) (locs : List Loc) (ls : Array Slot), (Fr STd I K5) → (rowP K5 30 n (fun j => sg (b j))) → (K5 66 3 = nI y) → (K5 66 5 = nI (wF 10 (d10 b) z (y - z))) → (K5 66 1 = nI n) → (z ≤ y) → (runE isDg b n y = runE isDg b n z) → Wd G bs cy K5 L R H → va_S (Aq bs) s.heap H locs → lv_has ls 1 [(0, .ref (bs + 66))] → W p l e (rmL 1 0 0) s m args below meth c H locs 0 0 Qf (F0 m 5 ls [])) n (fun y hx5 ih5 => by
      intro K5 H locs ls hF hTx en hnu hln hy1 hy2 hW hS hl
      refine lv_aload_n hx hb (dg D_X10_takeDigits (i := 3) rfl) rfl (lv_at hl 0 rfl) ?_
      refine r_geti (v := nI y) X hW FI_X10_31 rfl (by decide) rfl en (dg D_X10_takeDigits (i := 4) rfl) ?_
      refine lv_aload_n hx hb (dg D_X10_takeDigits (i := 5) rfl) rfl (lv_at hl 0 rfl) ?_
      refine r_geti (v := nI n) X hW FI_X10_25 rfl (by decide) rfl hln (dg D_X10_takeDigits (i := 6) rfl) ?_
      refine n_icmp_ge (tgt := 90) hx hb (by omega) (by omega) (dg D_X10_takeDigits (i := 7) rfl) (by decide) (fun c13 => ?_) (fun c13 => ?_)
      · have hye : runE isDg b n z = y := hy2.symm.trans (runE_stop (by omega) (fun h => absurd h (by omega)))
        exact fin (dg D_X10_takeDigits (i := 46) rfl) hW hS ⟨hF, by rw [hye]; exact en, by rw [hye]; exact hnu, rfl, rfl⟩
      · refine lv_aload_n hx hb (dg D_X10_takeDigits (i := 8) rfl) rfl (lv_at hl 0 rfl) ?_
        refine r_getc (t := 29) X hW FI_X10_7 rfl (by decide) rfl (dg D_X10_takeDigits (i := 9) rfl) ?_
        refine rn_getc (t := 30) X hW FN_X10_37 rfl (by decide) rfl (dg D_X10_takeDigits (i := 10) rfl) ?_
        refine lv_aload_n hx hb (dg D_X10_takeDigits (i := 11) rfl) rfl (lv_at hl 0 rfl) ?_
        refine r_geti (v := nI y) X hW FI_X10_31 rfl (by decide) rfl en (dg D_X10_takeDigits (i := 12) rfl) ?_
        refine r_bald (j := y) (v := sg (b y)) X hW rfl (by decide) rfl (by omega) (by decide) (hTx _ (by omega)) (dg D_X10_takeDigits (i := 13) rfl) ?_
        refine lv_bipush (v := nI 48) hx hb (dg D_X10_takeDigits (i := 14) rfl) (by decide) ?_
        refine lv_icmp_lt (tgt := 90) hx hb (dg D_X10_takeDigits (i := 15) rfl) (by decide) (fun c30 => ?_) (fun c30 => ?_)
        · have hye : runE isDg b n z = y := hy2.symm.trans (runE_stop (by omega) (cl_nD hT (Or.inl c30)))
          exact fin (dg D_X10_takeDigits (i := 46) rfl) hW hS ⟨hF, by rw [hye]; exact en, by rw [hye]; exact hnu, rfl, rfl⟩
        · refine lv_aload_n hx hb (dg D_X10_takeDigits (i := 16) rfl) rfl (lv_at hl 0 rfl) ?_
          refine r_getc (t := 29) X hW FI_X10_7 rfl (by decide) rfl (dg D_X10_takeDigits (i := 17) rfl) ?_
          refine rn_getc (t := 30) X hW FN_X10_37 rfl (by decide) rfl (dg D_X10_takeDigits (i := 18) rfl) ?_
          refine lv_aload_n hx hb (dg D_X10_takeDigits (i := 19) rfl) rfl (lv_at hl 0 rfl) ?_
          refine r_geti (v := nI y) X hW FI_X10_31 rfl (by decide) rfl en (dg D_X10_takeDigits (i := 20) rfl) ?_
          refine r_bald (j := y) (v := sg (b y)) X hW rfl (by decide) rfl (by omega) (by decide) (hTx _ (by omega)) (dg D_X10_takeDigits (i := 21) rfl) ?_
          refine lv_bipush (v := nI 57) hx hb (dg D_X10_takeDigits (i := 22) rfl) (by decide) ?_
          refine lv_icmp_gt (tgt := 90) hx hb (dg D_X10_takeDigits (i := 23) rfl) (by decide) (fun c47 => ?_) (fun c47 => ?_)
          · have hye : runE isDg b n z = y := hy2.symm.trans (runE_stop (by omega) (cl_nD hT (Or.inr c47)))
            exact fin (dg D_X10_takeDigits (i := 46) rfl) hW hS ⟨hF, by rw [hye]; exact en, by rw [hye]; exact hnu, rfl, rfl⟩
          · refine lv_aload_n hx hb (dg D_X10_takeDigits (i := 24) rfl) rfl (lv_at hl 0 rfl) ?_
            refine lv_aload_n hx hb (dg D_X10_takeDigits (i := 25) rfl) rfl (lv_at hl 0 rfl) ?_
            refine r_geti (v := nI (wF 10 (d10 b) z (y - z))) X hW FI_X10_51 rfl (by decide) rfl hnu (dg D_X10_takeDigits (i := 26) rfl) ?_
            refine lv_bipush (v := nI 10) hx hb (dg D_X10_takeDigits (i := 27) rfl) (by decide) ?_
            refine n_imul hx hb (dg D_X10_takeDigits (i := 28) rfl) ?_
            refine lv_aload_n hx hb (dg D_X10_takeDigits (i := 29) rfl) rfl (lv_at hl 0 rfl) ?_
            refine r_getc (t := 29) X hW FI_X10_7 rfl (by decide) rfl (dg D_X10_takeDigits (i := 30) rfl) ?_
            refine rn_getc (t := 30) X hW FN_X10_37 rfl (by decide) rfl (dg D_X10_takeDigits (i := 31) rfl) ?_
            refine lv_aload_n hx hb (dg D_X10_takeDigits (i := 32) rfl) rfl (lv_at hl 0 rfl) ?_
            refine r_geti (v := nI y) X hW FI_X10_31 rfl (by decide) rfl en (dg D_X10_takeDigits (i := 33) rfl) ?_
            refine r_bald (j := y) (v := sg (b y)) X hW rfl (by decide) rfl (by omega) (by decide) (hTx _ (by omega)) (dg D_X10_takeDigits (i := 34) rfl) ?_
            refine lv_iadd hx hb (dg D_X10_takeDigits (i := 35) rfl) ?_
            refine lv_bipush (v := nI 48) hx hb (dg D_X10_takeDigits (i := 36) rfl) (by decide) ?_
            refine lv_isub hx hb (dg D_X10_takeDigits (i := 37) rfl) ?_
            rw [show ((nI ((wF 10 (d10 b) z (y - z)) * 10)) + (sg (b y))) - (nI 48) = nI (10 * wF 10 (d10 b) z (y - z) + d10 b y) from (by rw [cl_dg hT (by omega) (cl_yD hT (by omega) c30 c47), nI_add, nI_sub (by omega)]; exact congrArg nI (by omega))]
            refine r_puti (v := nI (10 * wF 10 (d10 b) z (y - z) + d10 b y)) (ty := .int) X hW hS FI_X10_51 rfl (by decide) rfl rfl (by decide +kernel) rfl rfl (dg D_X10_takeDigits (i := 38) rfl) (fun H locs hW hS => ?_)
            have hF : Fr STd I (u2 K5 66 5 (nI (10 * wF 10 (d10 b) z (y - z) + d10 b y))) := Fr.put hF rfl
            have hTx : rowP (u2 K5 66 5 (nI (10 * wF 10 (d10 b) z (y - z) + d10 b y))) 30 n (fun j => sg (b j)) := hTx.keep (by decide)
            obtain ⟨J74, eJ74⟩ : ∃ J, J = u2 K5 66 5 (nI (10 * wF 10 (d10 b) z (y - z) + d10 b y)) := ⟨_, rfl⟩
            rw [← eJ74] at hW hF hTx
            have hln : J74 66 1 = nI n := by rw [eJ74, u2_off (Or.inr (by decide))]; exact hln
            have en : J74 66 3 = nI y := by rw [eJ74, u2_off (Or.inr (by decide))]; exact en
            have hnu : J74 66 5 = nI (10 * wF 10 (d10 b) z (y - z) + d10 b y) := by rw [eJ74]; exact u2_at
            refine lv_aload_n hx hb (dg D_X10_takeDigits (i := 39) rfl) rfl (lv_at hl 0 rfl) ?_
            refine lv_dup hx hb (dg D_X10_takeDigits (i := 40) rfl) rfl ?_
            refine r_geti (v := nI y) X hW FI_X10_31 rfl (by decide) rfl en (dg D_X10_takeDigits (i := 41) rfl) ?_
            refine n_iconst (a := 1) hx hb (dg D_X10_takeDigits (i := 42) rfl) rfl ?_
            refine n_iadd hx hb (dg D_X10_takeDigits (i := 43) rfl) ?_
            refine r_puti (v := nI (y + 1)) (ty := .int) X hW hS FI_X10_31 rfl (by decide) rfl rfl (by decide +kernel) rfl rfl (dg D_X10_takeDigits (i := 44) rfl) (fun H locs hW hS => ?_)
            have hF : Fr STd I (u2 J74 66 3 (nI (y + 1))) := Fr.put hF rfl
            have hTx : rowP (u2 J74 66 3 (nI (y + 1))) 30 n (fun j => sg (b j)) := hTx.keep (by decide)
            obtain ⟨J84, eJ84⟩ : ∃ J, J = u2 J74 66 3 (nI (y + 1)) := ⟨_, rfl⟩
            rw [← eJ84] at hW hF hTx
            have hln : J84 66 1 = nI n := by rw [eJ84, u2_off (Or.inr (by decide))]; exact hln
            have en : J84 66 3 = nI (y + 1) := by rw [eJ84]; exact u2_at
            have hnu : J84 66 5 = nI (10 * wF 10 (d10 b) z (y - z) + d10 b y) := by rw [eJ84, u2_off (Or.inr (by decide))]; exact hnu
            refine lv_goto (tgt := 5) hx hb (dg D_X10_takeDigits (i := 45) rfl) (by decide) ?_
            exact ih5 (by omega) J84 _ _ _ hF hTx en (by rw [show y + 1 - z = y - z + 1 by omega]; show _ = nI (10 * wF 10 (d10 b) z (y - z) + d10 b (z + (y - z))); rw [show z + (y - z) = y by omega]; exact hnu) hln (by omega) (by rw [← hy2]; exact (runE_step (by omega) (cl_yD hT (by omega) c30 c47)).symm) hW hS (lv_sub hl [0] rfl))
  exact loop5 z hz J2 _ _ _ hF hTx en (by rw [Nat.sub_self]; exact hv0) hln (Nat.le_refl _) rfl hW hS (lv_sub hl [0] rfl)

set_option maxHeartbeats 1000000 in
set_option maxRecDepth 100000 in
theorem c_X10_next {l : Launch} {G : va_G} {bs : Nat} {cy : Nat → ClassId} {I : CI} {L : CL} {R : CR} (b : Nat → Int32) (n : Nat) (p9 : Nat) (hTx : rowP I 30 n (fun j => sg (b j))) (hln : I 66 1 = nI n) (hT : TB b n) (hn : n ≤ 900) (hen : I 66 3 = nI p9) (hp : p9 ≤ n) : MTv l G bs cy MX10_next 2 [.ref (bs + 66)] I L R (fun I1 L1 R1 => Fr STc I I1 ∧ TokC b n I1 L1 p9 ∧ FL SLc L L1 ∧ R = R1) := by
  refine MTv.of (own := RX10) pn_RX10 rfl (Nat.le_of_ble_eq_true rfl) ?_
  intro p e s m args below meth c Qf X hW hS fin ls hl
  have hx := X.1
  have hb := X.2.1
  have hR : RmOK (rmL 2 0 0) 2 := ⟨rfl, rfl⟩
  have hcs : 0 ≤ (rmL 2 0 0).cells ∧ 0 ≤ (rmL 2 0 0).slots := ⟨Nat.zero_le _, Nat.zero_le _⟩
  have hl : lv_has ls 1 [(0, .ref (bs + 66))] := hl
  have hF : Fr STc I I := Fr.rf
  have hFL : FL SLc L L := FL.rf
  have hlq : ∀ z, z ≤ n → lE b n z ≤ n ∧ runE isDg b n z ≤ n := fun z hz => ⟨lE_le hz, runE_le hz⟩
  have loop0 := up_ind (P := fun z => ∀ (K0 : CI) (H : Heap) (locs : List Loc) (ls : Array Slot), (Fr STc I K0) → (rowP K0 30 n (fun j => sg (b j))) → (K0 66 3 = nI z) → (K0 66 1 = nI n) → (runE isSp b n z = tS b n p9) → Wd G bs cy K0 L R H → va_S (Aq bs) s.heap H locs → lv_has ls 1 [(0, .ref (bs + 66))] → W p l e (rmL 2 0 0) s m args below meth c H locs 0 0 Qf (F0 m 0 ls [])) n (fun z hx0 ih0 => by
      intro K0 H locs ls hF hTx en hln hz1 hW hS hl
      refine lv_aload_n hx hb (dg D_X10_next (i := 0) rfl) rfl (lv_at hl 0 rfl) ?_
      refine r_geti (v := nI z) X hW FI_X10_31 rfl (by decide) rfl en (dg D_X10_next (i := 1) rfl) ?_
      refine lv_aload_n hx hb (dg D_X10_next (i := 2) rfl) rfl (lv_at hl 0 rfl) ?_
      refine r_geti (v := nI n) X hW FI_X10_25 rfl (by decide) rfl hln (dg D_X10_next (i := 3) rfl) ?_
      refine n_icmp_ge (tgt := 58) hx hb (by omega) (by omega) (dg D_X10_next (i := 4) rfl) (by decide) (fun c8 => ?_) (fun c8 => ?_)
      · have hs9 : tS b n p9 = z := hz1.symm.trans (runE_stop (by omega) (fun h => absurd h (by omega)))
        refine lv_aload_n hx hb (dg D_X10_next (i := 28) rfl) rfl (lv_at hl 0 rfl) ?_
        refine lv_aload_n hx hb (dg D_X10_next (i := 29) rfl) rfl (lv_at hl 0 rfl) ?_
        refine r_geti (v := nI z) X hW FI_X10_31 rfl (by decide) rfl en (dg D_X10_next (i := 30) rfl) ?_
        refine r_puti (v := nI z) (ty := .int) X hW hS FI_X10_28 rfl (by decide) rfl rfl (by decide +kernel) rfl rfl (dg D_X10_next (i := 31) rfl) (fun H locs hW hS => ?_)
        have hF : Fr STc I (u2 K0 66 2 (nI z)) := Fr.put hF rfl
        have hTx : rowP (u2 K0 66 2 (nI z)) 30 n (fun j => sg (b j)) := hTx.keep (by decide)
        obtain ⟨J63, eJ63⟩ : ∃ J, J = u2 K0 66 2 (nI z) := ⟨_, rfl⟩
        rw [← eJ63] at hW hF hTx
        have hln : J63 66 1 = nI n := by rw [eJ63, u2_off (Or.inr (by decide))]; exact hln
        have en : J63 66 3 = nI z := by rw [eJ63, u2_off (Or.inr (by decide))]; exact en
        have hst : J63 66 2 = nI z := by rw [eJ63]; exact u2_at
        refine lv_aload_n hx hb (dg D_X10_next (i := 32) rfl) rfl (lv_at hl 0 rfl) ?_
        refine r_geti (v := nI z) X hW FI_X10_31 rfl (by decide) rfl en (dg D_X10_next (i := 33) rfl) ?_
        refine lv_aload_n hx hb (dg D_X10_next (i := 34) rfl) rfl (lv_at hl 0 rfl) ?_
        refine r_geti (v := nI n) X hW FI_X10_25 rfl (by decide) rfl hln (dg D_X10_next (i := 35) rfl) ?_
        refine n_icmp_lt (tgt := 83) hx hb (by omega) (by omega) (dg D_X10_next (i := 36) rfl) (by decide) (fun c74 => ?_) (fun c74 => ?_)
        · obtain ⟨hq1, hq2⟩ := hlq z (by omega)
          refine lv_aload_n hx hb (dg D_X10_next (i := 41) rfl) rfl (lv_at hl 0 rfl) ?_
          refine callVv X hW hS hR (c_X10_takeLetters (I := J63) b n z (by first | assumption | omega | decide | exact hP.1) (by first | assumption | omega | decide | exact hP.1) (by first | assumption | omega | decide | exact hP.1) (by first | assumption | omega | decide | exact hP.1) (en) (by first | assumption | omega | decide | exact hP.1)) (by decide) UVX10_takeLetters LK_X10_41 rfl (by decide) rfl rfl rfl (Nat.le_of_ble_eq_true rfl) hl hcs (dg D_X10_next (i := 42) rfl) (fun I84 Lc84 R1 H locs hq hW hS => ?_)
          obtain ⟨hT84, hp84_0, hp84_1, hL84, rfl⟩ := hq
          have hF : Fr STc I I84 := Fr.tr hF hT84 (by intro a j h; simp only [STe, STc, Bool.or_eq_true, Bool.and_eq_true, beq_iff_eq, decide_eq_true_eq] at h ⊢; omega)
          have hTx : rowP I84 30 n (fun j => sg (b j)) := hTx.fr hT84 (fun _ => rfl)
          have hln : I84 66 1 = nI n := (hT84 66 1 rfl).trans hln
          have hst : I84 66 2 = nI z := (hT84 66 2 rfl).trans hst
          have hFL : FL SLc L Lc84 := FL.tr hFL hL84 (fun _ _ h => h)
          have en : I84 66 3 = nI (lE b n z) := hp84_0
          refine lv_aload_n hx hb (dg D_X10_next (i := 43) rfl) rfl (lv_at hl 0 rfl) ?_
          refine r_geti (v := nI (lE b n z)) X hW FI_X10_31 rfl (by decide) rfl en (dg D_X10_next (i := 44) rfl) ?_
          refine lv_aload_n hx hb (dg D_X10_next (i := 45) rfl) rfl (lv_at hl 0 rfl) ?_
          refine r_geti (v := nI z) X hW FI_X10_28 rfl (by decide) rfl hst (dg D_X10_next (i := 46) rfl) ?_
          refine n_icmp_le (tgt := 122) hx hb (by omega) (by omega) (dg D_X10_next (i := 47) rfl) (by decide) (fun c95 => ?_) (fun c95 => ?_)
          · have hlz0 : lE b n z = z := by have := runE_ge (f := isL) (b := b) (n := n) (p := z); have h2 : lE b n z = runE isL b n z := rfl; omega
            refine lv_aload_n hx hb (dg D_X10_next (i := 61) rfl) rfl (lv_at hl 0 rfl) ?_
            refine callVv X hW hS hR (c_X10_takeDigits (I := I84) b n z (by first | assumption | omega | decide | exact hP.1) (by first | assumption | omega | decide | exact hP.1) (by first | assumption | omega | decide | exact hP.1) (by first | assumption | omega | decide | exact hP.1) (by rw [en, hlz0]) (by first | assumption | omega | decide | exact hP.1)) (by decide) UVX10_takeDigits LK_X10_44 rfl (by decide) rfl rfl rfl (Nat.le_of_ble_eq_true rfl) hl hcs (dg D_X10_next (i := 62) rfl) (fun I123 L1 R1 H locs hq hW hS => ?_)
            obtain ⟨hT123, hp123_0, hp123_1, rfl, rfl⟩ := hq
            have hF : Fr STc I I123 := Fr.tr hF hT123 (by intro a j h; simp only [STd, STc, Bool.or_eq_true, Bool.and_eq_true, beq_iff_eq, decide_eq_true_eq] at h ⊢; omega)
            have hTx : rowP I123 30 n (fun j => sg (b j)) := hTx.fr hT123 (fun _ => rfl)
            have hln : I123 66 1 = nI n := (hT123 66 1 rfl).trans hln
            have hst : I123 66 2 = nI z := (hT123 66 2 rfl).trans hst
            have en : I123 66 3 = nI (runE isDg b n z) := hp123_0
            have hnu := hp123_1
            refine lv_aload_n hx hb (dg D_X10_next (i := 63) rfl) rfl (lv_at hl 0 rfl) ?_
            refine r_geti (v := nI (runE isDg b n z)) X hW FI_X10_31 rfl (by decide) rfl en (dg D_X10_next (i := 64) rfl) ?_
            refine lv_aload_n hx hb (dg D_X10_next (i := 65) rfl) rfl (lv_at hl 0 rfl) ?_
            refine r_geti (v := nI z) X hW FI_X10_28 rfl (by decide) rfl hst (dg D_X10_next (i := 66) rfl) ?_
            refine n_icmp_le (tgt := 160) hx hb (by omega) (by omega) (dg D_X10_next (i := 67) rfl) (by decide) (fun c134 => ?_) (fun c134 => ?_)
            · have hdz0 : runE isDg b n z = z := by have := runE_ge (f := isDg) (b := b) (n := n) (p := z); omega
              have en : I123 66 3 = nI z := by rw [en, hdz0]
              refine lv_aload_n hx hb (dg D_X10_next (i := 81) rfl) rfl (lv_at hl 0 rfl) ?_
              refine lv_aload_n hx hb (dg D_X10_next (i := 82) rfl) rfl (lv_at hl 0 rfl) ?_
              refine r_getc (t := 29) X hW FI_X10_7 rfl (by decide) rfl (dg D_X10_next (i := 83) rfl) ?_
              refine rn_getc (t := 30) X hW FN_X10_37 rfl (by decide) rfl (dg D_X10_next (i := 84) rfl) ?_
              refine lv_aload_n hx hb (dg D_X10_next (i := 85) rfl) rfl (lv_at hl 0 rfl) ?_
              refine r_geti (v := nI z) X hW FI_X10_31 rfl (by decide) rfl en (dg D_X10_next (i := 86) rfl) ?_
              refine r_bald (j := z) (v := sg (b z)) X hW rfl (by decide) rfl (by omega) (by decide) (hTx _ (by omega)) (dg D_X10_next (i := 87) rfl) ?_
              refine lv_bipush (v := nI 59) hx hb (dg D_X10_next (i := 88) rfl) (by decide) ?_
              refine lv_icmp_ne (tgt := 182) hx hb (dg D_X10_next (i := 89) rfl) (by decide) (fun c175 => ?_) (fun c175 => ?_)
              · refine n_iconst (a := 4) hx hb (dg D_X10_next (i := 92) rfl) rfl ?_
                refine r_puti (v := nI 4) (ty := .int) X hW hS FI_X10_34 rfl (by decide) rfl rfl (by decide +kernel) rfl rfl (dg D_X10_next (i := 93) rfl) (fun H locs hW hS => ?_)
                have hF : Fr STc I (u2 I123 66 4 (nI 4)) := Fr.put hF rfl
                have hTx : rowP (u2 I123 66 4 (nI 4)) 30 n (fun j => sg (b j)) := hTx.keep (by decide)
                obtain ⟨J183, eJ183⟩ : ∃ J, J = u2 I123 66 4 (nI 4) := ⟨_, rfl⟩
                rw [← eJ183] at hW hF hTx
                have hln : J183 66 1 = nI n := by rw [eJ183, u2_off (Or.inr (by decide))]; exact hln
                have hst : J183 66 2 = nI z := by rw [eJ183, u2_off (Or.inr (by decide))]; exact hst
                have hnu : J183 66 5 = nI (wF 10 (d10 b) z (runE isDg b n z - z)) := by rw [eJ183, u2_off (Or.inr (by decide))]; exact hnu
                have en : J183 66 3 = nI z := by rw [eJ183, u2_off (Or.inr (by decide))]; exact en
                have hki : J183 66 4 = nI 4 := by rw [eJ183]; exact u2_at
                refine lv_aload_n hx hb (dg D_X10_next (i := 94) rfl) rfl (lv_at hl 0 rfl) ?_
                refine lv_dup hx hb (dg D_X10_next (i := 95) rfl) rfl ?_
                refine r_geti (v := nI z) X hW FI_X10_31 rfl (by decide) rfl en (dg D_X10_next (i := 96) rfl) ?_
                refine n_iconst (a := 1) hx hb (dg D_X10_next (i := 97) rfl) rfl ?_
                refine n_iadd hx hb (dg D_X10_next (i := 98) rfl) ?_
                refine r_puti (v := nI (z + 1)) (ty := .int) X hW hS FI_X10_31 rfl (by decide) rfl rfl (by decide +kernel) rfl rfl (dg D_X10_next (i := 99) rfl) (fun H locs hW hS => ?_)
                have hF : Fr STc I (u2 J183 66 3 (nI (z + 1))) := Fr.put hF rfl
                have hTx : rowP (u2 J183 66 3 (nI (z + 1))) 30 n (fun j => sg (b j)) := hTx.keep (by decide)
                obtain ⟨J193, eJ193⟩ : ∃ J, J = u2 J183 66 3 (nI (z + 1)) := ⟨_, rfl⟩
                rw [← eJ193] at hW hF hTx
                have hln : J193 66 1 = nI n := by rw [eJ193, u2_off (Or.inr (by decide))]; exact hln
                have hst : J193 66 2 = nI z := by rw [eJ193, u2_off (Or.inr (by decide))]; exact hst
                have hnu : J193 66 5 = nI (wF 10 (d10 b) z (runE isDg b n z - z)) := by rw [eJ193, u2_off (Or.inr (by decide))]; exact hnu
                have en : J193 66 3 = nI (z + 1) := by rw [eJ193]; exact u2_at
                have hki : J193 66 4 = nI 4 := by rw [eJ193, u2_off (Or.inr (by decide))]; exact hki
                have hlz : lE b n z = z := by have := runE_ge (f := isL) (b := b) (n := n) (p := z); have h2 : lE b n z = runE isL b n z := rfl; omega
                have hzL : isL (b z) = false := by cases hq : isL (b z) with | false => rfl | true => exact absurd (runE_gt (show z < n by omega) hq) (by have h2 : lE b n z = runE isL b n z := rfl; omega)
                have hzD : isDg (b z) = false := by cases hq : isDg (b z) with | false => rfl | true => exact absurd (runE_gt (show z < n by omega) hq) (by omega)
                obtain ⟨ht1, ht2⟩ := tok_oth hs9 (by omega) hzL hzD
                rw [if_neg (fun w => c175 ((cl_59 hT (by omega)).mpr w))] at ht2
                exact fin (dg D_X10_next (i := 100) rfl) hW hS ⟨hF, ⟨by rw [hs9]; exact hst, by rw [ht1]; exact en, by rw [ht2]; exact hki, fun w => absurd w (by rw [ht2]; decide), fun w => absurd w (by rw [ht2]; decide)⟩, hFL, rfl⟩
              · refine n_iconst (a := 3) hx hb (dg D_X10_next (i := 90) rfl) rfl ?_
                refine lv_goto (tgt := 183) hx hb (dg D_X10_next (i := 91) rfl) (by decide) ?_
                refine r_puti (v := nI 3) (ty := .int) X hW hS FI_X10_34 rfl (by decide) rfl rfl (by decide +kernel) rfl rfl (dg D_X10_next (i := 93) rfl) (fun H locs hW hS => ?_)
                have hF : Fr STc I (u2 I123 66 4 (nI 3)) := Fr.put hF rfl
                have hTx : rowP (u2 I123 66 4 (nI 3)) 30 n (fun j => sg (b j)) := hTx.keep (by decide)
                obtain ⟨J183, eJ183⟩ : ∃ J, J = u2 I123 66 4 (nI 3) := ⟨_, rfl⟩
                rw [← eJ183] at hW hF hTx
                have hln : J183 66 1 = nI n := by rw [eJ183, u2_off (Or.inr (by decide))]; exact hln
                have hst : J183 66 2 = nI z := by rw [eJ183, u2_off (Or.inr (by decide))]; exact hst
                have hnu : J183 66 5 = nI (wF 10 (d10 b) z (runE isDg b n z - z)) := by rw [eJ183, u2_off (Or.inr (by decide))]; exact hnu
                have en : J183 66 3 = nI z := by rw [eJ183, u2_off (Or.inr (by decide))]; exact en
                have hki : J183 66 4 = nI 3 := by rw [eJ183]; exact u2_at
                refine lv_aload_n hx hb (dg D_X10_next (i := 94) rfl) rfl (lv_at hl 0 rfl) ?_
                refine lv_dup hx hb (dg D_X10_next (i := 95) rfl) rfl ?_
                refine r_geti (v := nI z) X hW FI_X10_31 rfl (by decide) rfl en (dg D_X10_next (i := 96) rfl) ?_
                refine n_iconst (a := 1) hx hb (dg D_X10_next (i := 97) rfl) rfl ?_
                refine n_iadd hx hb (dg D_X10_next (i := 98) rfl) ?_
                refine r_puti (v := nI (z + 1)) (ty := .int) X hW hS FI_X10_31 rfl (by decide) rfl rfl (by decide +kernel) rfl rfl (dg D_X10_next (i := 99) rfl) (fun H locs hW hS => ?_)
                have hF : Fr STc I (u2 J183 66 3 (nI (z + 1))) := Fr.put hF rfl
                have hTx : rowP (u2 J183 66 3 (nI (z + 1))) 30 n (fun j => sg (b j)) := hTx.keep (by decide)
                obtain ⟨J193, eJ193⟩ : ∃ J, J = u2 J183 66 3 (nI (z + 1)) := ⟨_, rfl⟩
                rw [← eJ193] at hW hF hTx
                have hln : J193 66 1 = nI n := by rw [eJ193, u2_off (Or.inr (by decide))]; exact hln
                have hst : J193 66 2 = nI z := by rw [eJ193, u2_off (Or.inr (by decide))]; exact hst
                have hnu : J193 66 5 = nI (wF 10 (d10 b) z (runE isDg b n z - z)) := by rw [eJ193, u2_off (Or.inr (by decide))]; exact hnu
                have en : J193 66 3 = nI (z + 1) := by rw [eJ193]; exact u2_at
                have hki : J193 66 4 = nI 3 := by rw [eJ193, u2_off (Or.inr (by decide))]; exact hki
                have hlz : lE b n z = z := by have := runE_ge (f := isL) (b := b) (n := n) (p := z); have h2 : lE b n z = runE isL b n z := rfl; omega
                have hzL : isL (b z) = false := by cases hq : isL (b z) with | false => rfl | true => exact absurd (runE_gt (show z < n by omega) hq) (by have h2 : lE b n z = runE isL b n z := rfl; omega)
                have hzD : isDg (b z) = false := by cases hq : isDg (b z) with | false => rfl | true => exact absurd (runE_gt (show z < n by omega) hq) (by omega)
                obtain ⟨ht1, ht2⟩ := tok_oth hs9 (by omega) hzL hzD
                rw [if_pos ((cl_59 hT (by omega)).mp (by first | exact c175 | exact Classical.not_not.mp c175))] at ht2
                exact fin (dg D_X10_next (i := 100) rfl) hW hS ⟨hF, ⟨by rw [hs9]; exact hst, by rw [ht1]; exact en, by rw [ht2]; exact hki, fun w => absurd w (by rw [ht2]; decide), fun w => absurd w (by rw [ht2]; decide)⟩, hFL, rfl⟩
            · refine lv_aload_n hx hb (dg D_X10_next (i := 68) rfl) rfl (lv_at hl 0 rfl) ?_
              refine lv_aload_n hx hb (dg D_X10_next (i := 69) rfl) rfl (lv_at hl 0 rfl) ?_
              refine r_geti (v := nI (runE isDg b n z)) X hW FI_X10_31 rfl (by decide) rfl en (dg D_X10_next (i := 70) rfl) ?_
              refine lv_aload_n hx hb (dg D_X10_next (i := 71) rfl) rfl (lv_at hl 0 rfl) ?_
              refine r_geti (v := nI z) X hW FI_X10_28 rfl (by decide) rfl hst (dg D_X10_next (i := 72) rfl) ?_
              refine n_isub hx hb (dg D_X10_next (i := 73) rfl) (by omega) ?_
              refine n_iconst (a := 4) hx hb (dg D_X10_next (i := 74) rfl) rfl ?_
              refine n_icmp_gt (tgt := 155) hx hb (by omega) (by omega) (dg D_X10_next (i := 75) rfl) (by decide) (fun c148 => ?_) (fun c148 => ?_)
              · refine n_iconst (a := 4) hx hb (dg D_X10_next (i := 78) rfl) rfl ?_
                refine r_puti (v := nI 4) (ty := .int) X hW hS FI_X10_34 rfl (by decide) rfl rfl (by decide +kernel) rfl rfl (dg D_X10_next (i := 79) rfl) (fun H locs hW hS => ?_)
                have hF : Fr STc I (u2 I123 66 4 (nI 4)) := Fr.put hF rfl
                have hTx : rowP (u2 I123 66 4 (nI 4)) 30 n (fun j => sg (b j)) := hTx.keep (by decide)
                obtain ⟨J156, eJ156⟩ : ∃ J, J = u2 I123 66 4 (nI 4) := ⟨_, rfl⟩
                rw [← eJ156] at hW hF hTx
                have hln : J156 66 1 = nI n := by rw [eJ156, u2_off (Or.inr (by decide))]; exact hln
                have hst : J156 66 2 = nI z := by rw [eJ156, u2_off (Or.inr (by decide))]; exact hst
                have en : J156 66 3 = nI (runE isDg b n z) := by rw [eJ156, u2_off (Or.inr (by decide))]; exact en
                have hnu : J156 66 5 = nI (wF 10 (d10 b) z (runE isDg b n z - z)) := by rw [eJ156, u2_off (Or.inr (by decide))]; exact hnu
                have hki : J156 66 4 = nI 4 := by rw [eJ156]; exact u2_at
                have hlz : lE b n z = z := by have := runE_ge (f := isL) (b := b) (n := n) (p := z); have h2 : lE b n z = runE isL b n z := rfl; omega
                have hzL : isL (b z) = false := by cases hq : isL (b z) with | false => rfl | true => exact absurd (runE_gt (show z < n by omega) hq) (by have h2 : lE b n z = runE isL b n z := rfl; omega)
                have hzD : isDg (b z) = true := by cases hq : isDg (b z) with | true => rfl | false => exact absurd (show runE isDg b n z = z from runE_stop (by omega) (fun _ => hq)) (by omega)
                obtain ⟨ht1, ht2⟩ := tok_dig hs9 (by omega) hzL hzD rfl
                rw [if_pos (by omega)] at ht2
                exact fin (dg D_X10_next (i := 80) rfl) hW hS ⟨hF, ⟨by rw [hs9]; exact hst, by rw [ht1]; exact en, by rw [ht2]; exact hki, fun w => absurd w (by rw [ht2]; decide), fun w => absurd w (by rw [ht2]; decide)⟩, hFL, rfl⟩
              · refine n_iconst (a := 2) hx hb (dg D_X10_next (i := 76) rfl) rfl ?_
                refine lv_goto (tgt := 156) hx hb (dg D_X10_next (i := 77) rfl) (by decide) ?_
                refine r_puti (v := nI 2) (ty := .int) X hW hS FI_X10_34 rfl (by decide) rfl rfl (by decide +kernel) rfl rfl (dg D_X10_next (i := 79) rfl) (fun H locs hW hS => ?_)
                have hF : Fr STc I (u2 I123 66 4 (nI 2)) := Fr.put hF rfl
                have hTx : rowP (u2 I123 66 4 (nI 2)) 30 n (fun j => sg (b j)) := hTx.keep (by decide)
                obtain ⟨J156, eJ156⟩ : ∃ J, J = u2 I123 66 4 (nI 2) := ⟨_, rfl⟩
                rw [← eJ156] at hW hF hTx
                have hln : J156 66 1 = nI n := by rw [eJ156, u2_off (Or.inr (by decide))]; exact hln
                have hst : J156 66 2 = nI z := by rw [eJ156, u2_off (Or.inr (by decide))]; exact hst
                have en : J156 66 3 = nI (runE isDg b n z) := by rw [eJ156, u2_off (Or.inr (by decide))]; exact en
                have hnu : J156 66 5 = nI (wF 10 (d10 b) z (runE isDg b n z - z)) := by rw [eJ156, u2_off (Or.inr (by decide))]; exact hnu
                have hki : J156 66 4 = nI 2 := by rw [eJ156]; exact u2_at
                have hlz : lE b n z = z := by have := runE_ge (f := isL) (b := b) (n := n) (p := z); have h2 : lE b n z = runE isL b n z := rfl; omega
                have hzL : isL (b z) = false := by cases hq : isL (b z) with | false => rfl | true => exact absurd (runE_gt (show z < n by omega) hq) (by have h2 : lE b n z = runE isL b n z := rfl; omega)
                have hzD : isDg (b z) = true := by cases hq : isDg (b z) with | true => rfl | false => exact absurd (show runE isDg b n z = z from runE_stop (by omega) (fun _ => hq)) (by omega)
                obtain ⟨ht1, ht2⟩ := tok_dig hs9 (by omega) hzL hzD rfl
                rw [if_neg (by omega)] at ht2
                exact fin (dg D_X10_next (i := 80) rfl) hW hS ⟨hF, ⟨by rw [hs9]; exact hst, by rw [ht1]; exact en, by rw [ht2]; exact hki, fun _ => by unfold tV; rw [hs9, ht1]; exact hnu, fun w => absurd w (by rw [ht2]; decide)⟩, hFL, rfl⟩
          · refine lv_aload_n hx hb (dg D_X10_next (i := 48) rfl) rfl (lv_at hl 0 rfl) ?_
            refine lv_aload_n hx hb (dg D_X10_next (i := 49) rfl) rfl (lv_at hl 0 rfl) ?_
            refine r_geti (v := nI (lE b n z)) X hW FI_X10_31 rfl (by decide) rfl en (dg D_X10_next (i := 50) rfl) ?_
            refine lv_aload_n hx hb (dg D_X10_next (i := 51) rfl) rfl (lv_at hl 0 rfl) ?_
            refine r_geti (v := nI z) X hW FI_X10_28 rfl (by decide) rfl hst (dg D_X10_next (i := 52) rfl) ?_
            refine n_isub hx hb (dg D_X10_next (i := 53) rfl) (by omega) ?_
            refine lv_bipush (v := nI 8) hx hb (dg D_X10_next (i := 54) rfl) (by decide) ?_
            refine n_icmp_gt (tgt := 117) hx hb (by omega) (by omega) (dg D_X10_next (i := 55) rfl) (by decide) (fun c110 => ?_) (fun c110 => ?_)
            · refine n_iconst (a := 4) hx hb (dg D_X10_next (i := 58) rfl) rfl ?_
              refine r_puti (v := nI 4) (ty := .int) X hW hS FI_X10_34 rfl (by decide) rfl rfl (by decide +kernel) rfl rfl (dg D_X10_next (i := 59) rfl) (fun H locs hW hS => ?_)
              have hF : Fr STc I (u2 I84 66 4 (nI 4)) := Fr.put hF rfl
              have hTx : rowP (u2 I84 66 4 (nI 4)) 30 n (fun j => sg (b j)) := hTx.keep (by decide)
              obtain ⟨J118, eJ118⟩ : ∃ J, J = u2 I84 66 4 (nI 4) := ⟨_, rfl⟩
              rw [← eJ118] at hW hF hTx
              have hln : J118 66 1 = nI n := by rw [eJ118, u2_off (Or.inr (by decide))]; exact hln
              have hst : J118 66 2 = nI z := by rw [eJ118, u2_off (Or.inr (by decide))]; exact hst
              have en : J118 66 3 = nI (lE b n z) := by rw [eJ118, u2_off (Or.inr (by decide))]; exact en
              have hki : J118 66 4 = nI 4 := by rw [eJ118]; exact u2_at
              have hzL : isL (b z) = true := by cases hq : isL (b z) with | true => rfl | false => exact absurd (show lE b n z = z from runE_stop (by omega) (fun _ => hq)) (by omega)
              obtain ⟨ht1, ht2⟩ := tok_let hs9 (by omega) hzL rfl
              rw [if_pos (by omega)] at ht2
              exact fin (dg D_X10_next (i := 60) rfl) hW hS ⟨hF, ⟨by rw [hs9]; exact hst, by rw [ht1]; exact en, by rw [ht2]; exact hki, fun w => absurd w (by rw [ht2]; decide), fun w => absurd w (by rw [ht2]; decide)⟩, hFL, rfl⟩
            · refine n_iconst (a := 1) hx hb (dg D_X10_next (i := 56) rfl) rfl ?_
              refine lv_goto (tgt := 118) hx hb (dg D_X10_next (i := 57) rfl) (by decide) ?_
              refine r_puti (v := nI 1) (ty := .int) X hW hS FI_X10_34 rfl (by decide) rfl rfl (by decide +kernel) rfl rfl (dg D_X10_next (i := 59) rfl) (fun H locs hW hS => ?_)
              have hF : Fr STc I (u2 I84 66 4 (nI 1)) := Fr.put hF rfl
              have hTx : rowP (u2 I84 66 4 (nI 1)) 30 n (fun j => sg (b j)) := hTx.keep (by decide)
              obtain ⟨J118, eJ118⟩ : ∃ J, J = u2 I84 66 4 (nI 1) := ⟨_, rfl⟩
              rw [← eJ118] at hW hF hTx
              have hln : J118 66 1 = nI n := by rw [eJ118, u2_off (Or.inr (by decide))]; exact hln
              have hst : J118 66 2 = nI z := by rw [eJ118, u2_off (Or.inr (by decide))]; exact hst
              have en : J118 66 3 = nI (lE b n z) := by rw [eJ118, u2_off (Or.inr (by decide))]; exact en
              have hki : J118 66 4 = nI 1 := by rw [eJ118]; exact u2_at
              have hzL : isL (b z) = true := by cases hq : isL (b z) with | true => rfl | false => exact absurd (show lE b n z = z from runE_stop (by omega) (fun _ => hq)) (by omega)
              obtain ⟨ht1, ht2⟩ := tok_let hs9 (by omega) hzL rfl
              rw [if_neg (by omega)] at ht2
              exact fin (dg D_X10_next (i := 60) rfl) hW hS ⟨hF, ⟨by rw [hs9]; exact hst, by rw [ht1]; exact en, by rw [ht2]; exact hki, fun w => absurd w (by rw [ht2]; decide), fun _ => by rw [hs9, hp84_1, wd_wF hT _ (fun i hi => lE_in hT (by omega) hi)]; rfl⟩, hFL, rfl⟩
        · refine lv_aload_n hx hb (dg D_X10_next (i := 37) rfl) rfl (lv_at hl 0 rfl) ?_
          refine n_iconst (a := 0) hx hb (dg D_X10_next (i := 38) rfl) rfl ?_
          refine r_puti (v := nI 0) (ty := .int) X hW hS FI_X10_34 rfl (by decide) rfl rfl (by decide +kernel) rfl rfl (dg D_X10_next (i := 39) rfl) (fun H locs hW hS => ?_)
          have hF : Fr STc I (u2 J63 66 4 (nI 0)) := Fr.put hF rfl
          have hTx : rowP (u2 J63 66 4 (nI 0)) 30 n (fun j => sg (b j)) := hTx.keep (by decide)
          obtain ⟨J79, eJ79⟩ : ∃ J, J = u2 J63 66 4 (nI 0) := ⟨_, rfl⟩
          rw [← eJ79] at hW hF hTx
          have hln : J79 66 1 = nI n := by rw [eJ79, u2_off (Or.inr (by decide))]; exact hln
          have en : J79 66 3 = nI z := by rw [eJ79, u2_off (Or.inr (by decide))]; exact en
          have hst : J79 66 2 = nI z := by rw [eJ79, u2_off (Or.inr (by decide))]; exact hst
          have hki : J79 66 4 = nI 0 := by rw [eJ79]; exact u2_at
          obtain ⟨ht1, ht2⟩ := tok_end hs9 (show n ≤ z by omega)
          exact fin (dg D_X10_next (i := 40) rfl) hW hS ⟨hF, ⟨by rw [hs9]; exact hst, by rw [ht1]; exact en, by rw [ht2]; exact hki, fun w => absurd w (by rw [ht2]; decide), fun w => absurd w (by rw [ht2]; decide)⟩, hFL, rfl⟩
      · refine lv_aload_n hx hb (dg D_X10_next (i := 5) rfl) rfl (lv_at hl 0 rfl) ?_
        refine r_getc (t := 29) X hW FI_X10_7 rfl (by decide) rfl (dg D_X10_next (i := 6) rfl) ?_
        refine rn_getc (t := 30) X hW FN_X10_37 rfl (by decide) rfl (dg D_X10_next (i := 7) rfl) ?_
        refine lv_aload_n hx hb (dg D_X10_next (i := 8) rfl) rfl (lv_at hl 0 rfl) ?_
        refine r_geti (v := nI z) X hW FI_X10_31 rfl (by decide) rfl en (dg D_X10_next (i := 9) rfl) ?_
        refine r_bald (j := z) (v := sg (b z)) X hW rfl (by decide) rfl (by omega) (by decide) (hTx _ (by omega)) (dg D_X10_next (i := 10) rfl) ?_
        refine lv_bipush (v := nI 32) hx hb (dg D_X10_next (i := 11) rfl) (by decide) ?_
        refine lv_icmp_eq (tgt := 45) hx hb (dg D_X10_next (i := 12) rfl) (by decide) (fun c25 => ?_) (fun c25 => ?_)
        · have hzs := (cl_S hT (show z < n by omega)).mpr (Or.inl c25)
          refine lv_aload_n hx hb (dg D_X10_next (i := 21) rfl) rfl (lv_at hl 0 rfl) ?_
          refine lv_dup hx hb (dg D_X10_next (i := 22) rfl) rfl ?_
          refine r_geti (v := nI z) X hW FI_X10_31 rfl (by decide) rfl en (dg D_X10_next (i := 23) rfl) ?_
          refine n_iconst (a := 1) hx hb (dg D_X10_next (i := 24) rfl) rfl ?_
          refine n_iadd hx hb (dg D_X10_next (i := 25) rfl) ?_
          refine r_puti (v := nI (z + 1)) (ty := .int) X hW hS FI_X10_31 rfl (by decide) rfl rfl (by decide +kernel) rfl rfl (dg D_X10_next (i := 26) rfl) (fun H locs hW hS => ?_)
          have hF : Fr STc I (u2 K0 66 3 (nI (z + 1))) := Fr.put hF rfl
          have hTx : rowP (u2 K0 66 3 (nI (z + 1))) 30 n (fun j => sg (b j)) := hTx.keep (by decide)
          obtain ⟨J52, eJ52⟩ : ∃ J, J = u2 K0 66 3 (nI (z + 1)) := ⟨_, rfl⟩
          rw [← eJ52] at hW hF hTx
          have hln : J52 66 1 = nI n := by rw [eJ52, u2_off (Or.inr (by decide))]; exact hln
          have en : J52 66 3 = nI (z + 1) := by rw [eJ52]; exact u2_at
          refine lv_goto (tgt := 0) hx hb (dg D_X10_next (i := 27) rfl) (by decide) ?_
          exact ih0 (by omega) J52 _ _ _ hF hTx en hln (by rw [← hz1]; exact (runE_step (by omega) hzs).symm) hW hS (lv_sub hl [0] rfl)
        · refine lv_aload_n hx hb (dg D_X10_next (i := 13) rfl) rfl (lv_at hl 0 rfl) ?_
          refine r_getc (t := 29) X hW FI_X10_7 rfl (by decide) rfl (dg D_X10_next (i := 14) rfl) ?_
          refine rn_getc (t := 30) X hW FN_X10_37 rfl (by decide) rfl (dg D_X10_next (i := 15) rfl) ?_
          refine lv_aload_n hx hb (dg D_X10_next (i := 16) rfl) rfl (lv_at hl 0 rfl) ?_
          refine r_geti (v := nI z) X hW FI_X10_31 rfl (by decide) rfl en (dg D_X10_next (i := 17) rfl) ?_
          refine r_bald (j := z) (v := sg (b z)) X hW rfl (by decide) rfl (by omega) (by decide) (hTx _ (by omega)) (dg D_X10_next (i := 18) rfl) ?_
          refine lv_bipush (v := nI 10) hx hb (dg D_X10_next (i := 19) rfl) (by decide) ?_
          refine lv_icmp_ne (tgt := 58) hx hb (dg D_X10_next (i := 20) rfl) (by decide) (fun c42 => ?_) (fun c42 => ?_)
          · have hs9 : tS b n p9 = z := hz1.symm.trans (runE_stop (by omega) (fun h => by cases hq : isSp (b z) with | false => rfl | true => exact absurd ((cl_S hT h).mp hq) (fun w => w.elim c25 c42)))
            refine lv_aload_n hx hb (dg D_X10_next (i := 28) rfl) rfl (lv_at hl 0 rfl) ?_
            refine lv_aload_n hx hb (dg D_X10_next (i := 29) rfl) rfl (lv_at hl 0 rfl) ?_
            refine r_geti (v := nI z) X hW FI_X10_31 rfl (by decide) rfl en (dg D_X10_next (i := 30) rfl) ?_
            refine r_puti (v := nI z) (ty := .int) X hW hS FI_X10_28 rfl (by decide) rfl rfl (by decide +kernel) rfl rfl (dg D_X10_next (i := 31) rfl) (fun H locs hW hS => ?_)
            have hF : Fr STc I (u2 K0 66 2 (nI z)) := Fr.put hF rfl
            have hTx : rowP (u2 K0 66 2 (nI z)) 30 n (fun j => sg (b j)) := hTx.keep (by decide)
            obtain ⟨J63, eJ63⟩ : ∃ J, J = u2 K0 66 2 (nI z) := ⟨_, rfl⟩
            rw [← eJ63] at hW hF hTx
            have hln : J63 66 1 = nI n := by rw [eJ63, u2_off (Or.inr (by decide))]; exact hln
            have en : J63 66 3 = nI z := by rw [eJ63, u2_off (Or.inr (by decide))]; exact en
            have hst : J63 66 2 = nI z := by rw [eJ63]; exact u2_at
            refine lv_aload_n hx hb (dg D_X10_next (i := 32) rfl) rfl (lv_at hl 0 rfl) ?_
            refine r_geti (v := nI z) X hW FI_X10_31 rfl (by decide) rfl en (dg D_X10_next (i := 33) rfl) ?_
            refine lv_aload_n hx hb (dg D_X10_next (i := 34) rfl) rfl (lv_at hl 0 rfl) ?_
            refine r_geti (v := nI n) X hW FI_X10_25 rfl (by decide) rfl hln (dg D_X10_next (i := 35) rfl) ?_
            refine n_icmp_lt (tgt := 83) hx hb (by omega) (by omega) (dg D_X10_next (i := 36) rfl) (by decide) (fun c74 => ?_) (fun c74 => ?_)
            · obtain ⟨hq1, hq2⟩ := hlq z (by omega)
              refine lv_aload_n hx hb (dg D_X10_next (i := 41) rfl) rfl (lv_at hl 0 rfl) ?_
              refine callVv X hW hS hR (c_X10_takeLetters (I := J63) b n z (by first | assumption | omega | decide | exact hP.1) (by first | assumption | omega | decide | exact hP.1) (by first | assumption | omega | decide | exact hP.1) (by first | assumption | omega | decide | exact hP.1) (en) (by first | assumption | omega | decide | exact hP.1)) (by decide) UVX10_takeLetters LK_X10_41 rfl (by decide) rfl rfl rfl (Nat.le_of_ble_eq_true rfl) hl hcs (dg D_X10_next (i := 42) rfl) (fun I84 Lc84 R1 H locs hq hW hS => ?_)
              obtain ⟨hT84, hp84_0, hp84_1, hL84, rfl⟩ := hq
              have hF : Fr STc I I84 := Fr.tr hF hT84 (by intro a j h; simp only [STe, STc, Bool.or_eq_true, Bool.and_eq_true, beq_iff_eq, decide_eq_true_eq] at h ⊢; omega)
              have hTx : rowP I84 30 n (fun j => sg (b j)) := hTx.fr hT84 (fun _ => rfl)
              have hln : I84 66 1 = nI n := (hT84 66 1 rfl).trans hln
              have hst : I84 66 2 = nI z := (hT84 66 2 rfl).trans hst
              have hFL : FL SLc L Lc84 := FL.tr hFL hL84 (fun _ _ h => h)
              have en : I84 66 3 = nI (lE b n z) := hp84_0
              refine lv_aload_n hx hb (dg D_X10_next (i := 43) rfl) rfl (lv_at hl 0 rfl) ?_
              refine r_geti (v := nI (lE b n z)) X hW FI_X10_31 rfl (by decide) rfl en (dg D_X10_next (i := 44) rfl) ?_
              refine lv_aload_n hx hb (dg D_X10_next (i := 45) rfl) rfl (lv_at hl 0 rfl) ?_
              refine r_geti (v := nI z) X hW FI_X10_28 rfl (by decide) rfl hst (dg D_X10_next (i := 46) rfl) ?_
              refine n_icmp_le (tgt := 122) hx hb (by omega) (by omega) (dg D_X10_next (i := 47) rfl) (by decide) (fun c95 => ?_) (fun c95 => ?_)
              · have hlz0 : lE b n z = z := by have := runE_ge (f := isL) (b := b) (n := n) (p := z); have h2 : lE b n z = runE isL b n z := rfl; omega
                refine lv_aload_n hx hb (dg D_X10_next (i := 61) rfl) rfl (lv_at hl 0 rfl) ?_
                refine callVv X hW hS hR (c_X10_takeDigits (I := I84) b n z (by first | assumption | omega | decide | exact hP.1) (by first | assumption | omega | decide | exact hP.1) (by first | assumption | omega | decide | exact hP.1) (by first | assumption | omega | decide | exact hP.1) (by rw [en, hlz0]) (by first | assumption | omega | decide | exact hP.1)) (by decide) UVX10_takeDigits LK_X10_44 rfl (by decide) rfl rfl rfl (Nat.le_of_ble_eq_true rfl) hl hcs (dg D_X10_next (i := 62) rfl) (fun I123 L1 R1 H locs hq hW hS => ?_)
                obtain ⟨hT123, hp123_0, hp123_1, rfl, rfl⟩ := hq
                have hF : Fr STc I I123 := Fr.tr hF hT123 (by intro a j h; simp only [STd, STc, Bool.or_eq_true, Bool.and_eq_true, beq_iff_eq, decide_eq_true_eq] at h ⊢; omega)
                have hTx : rowP I123 30 n (fun j => sg (b j)) := hTx.fr hT123 (fun _ => rfl)
                have hln : I123 66 1 = nI n := (hT123 66 1 rfl).trans hln
                have hst : I123 66 2 = nI z := (hT123 66 2 rfl).trans hst
                have en : I123 66 3 = nI (runE isDg b n z) := hp123_0
                have hnu := hp123_1
                refine lv_aload_n hx hb (dg D_X10_next (i := 63) rfl) rfl (lv_at hl 0 rfl) ?_
                refine r_geti (v := nI (runE isDg b n z)) X hW FI_X10_31 rfl (by decide) rfl en (dg D_X10_next (i := 64) rfl) ?_
                refine lv_aload_n hx hb (dg D_X10_next (i := 65) rfl) rfl (lv_at hl 0 rfl) ?_
                refine r_geti (v := nI z) X hW FI_X10_28 rfl (by decide) rfl hst (dg D_X10_next (i := 66) rfl) ?_
                refine n_icmp_le (tgt := 160) hx hb (by omega) (by omega) (dg D_X10_next (i := 67) rfl) (by decide) (fun c134 => ?_) (fun c134 => ?_)
                · have hdz0 : runE isDg b n z = z := by have := runE_ge (f := isDg) (b := b) (n := n) (p := z); omega
                  have en : I123 66 3 = nI z := by rw [en, hdz0]
                  refine lv_aload_n hx hb (dg D_X10_next (i := 81) rfl) rfl (lv_at hl 0 rfl) ?_
                  refine lv_aload_n hx hb (dg D_X10_next (i := 82) rfl) rfl (lv_at hl 0 rfl) ?_
                  refine r_getc (t := 29) X hW FI_X10_7 rfl (by decide) rfl (dg D_X10_next (i := 83) rfl) ?_
                  refine rn_getc (t := 30) X hW FN_X10_37 rfl (by decide) rfl (dg D_X10_next (i := 84) rfl) ?_
                  refine lv_aload_n hx hb (dg D_X10_next (i := 85) rfl) rfl (lv_at hl 0 rfl) ?_
                  refine r_geti (v := nI z) X hW FI_X10_31 rfl (by decide) rfl en (dg D_X10_next (i := 86) rfl) ?_
                  refine r_bald (j := z) (v := sg (b z)) X hW rfl (by decide) rfl (by omega) (by decide) (hTx _ (by omega)) (dg D_X10_next (i := 87) rfl) ?_
                  refine lv_bipush (v := nI 59) hx hb (dg D_X10_next (i := 88) rfl) (by decide) ?_
                  refine lv_icmp_ne (tgt := 182) hx hb (dg D_X10_next (i := 89) rfl) (by decide) (fun c175 => ?_) (fun c175 => ?_)
                  · refine n_iconst (a := 4) hx hb (dg D_X10_next (i := 92) rfl) rfl ?_
                    refine r_puti (v := nI 4) (ty := .int) X hW hS FI_X10_34 rfl (by decide) rfl rfl (by decide +kernel) rfl rfl (dg D_X10_next (i := 93) rfl) (fun H locs hW hS => ?_)
                    have hF : Fr STc I (u2 I123 66 4 (nI 4)) := Fr.put hF rfl
                    have hTx : rowP (u2 I123 66 4 (nI 4)) 30 n (fun j => sg (b j)) := hTx.keep (by decide)
                    obtain ⟨J183, eJ183⟩ : ∃ J, J = u2 I123 66 4 (nI 4) := ⟨_, rfl⟩
                    rw [← eJ183] at hW hF hTx
                    have hln : J183 66 1 = nI n := by rw [eJ183, u2_off (Or.inr (by decide))]; exact hln
                    have hst : J183 66 2 = nI z := by rw [eJ183, u2_off (Or.inr (by decide))]; exact hst
                    have hnu : J183 66 5 = nI (wF 10 (d10 b) z (runE isDg b n z - z)) := by rw [eJ183, u2_off (Or.inr (by decide))]; exact hnu
                    have en : J183 66 3 = nI z := by rw [eJ183, u2_off (Or.inr (by decide))]; exact en
                    have hki : J183 66 4 = nI 4 := by rw [eJ183]; exact u2_at
                    refine lv_aload_n hx hb (dg D_X10_next (i := 94) rfl) rfl (lv_at hl 0 rfl) ?_
                    refine lv_dup hx hb (dg D_X10_next (i := 95) rfl) rfl ?_
                    refine r_geti (v := nI z) X hW FI_X10_31 rfl (by decide) rfl en (dg D_X10_next (i := 96) rfl) ?_
                    refine n_iconst (a := 1) hx hb (dg D_X10_next (i := 97) rfl) rfl ?_
                    refine n_iadd hx hb (dg D_X10_next (i := 98) rfl) ?_
                    refine r_puti (v := nI (z + 1)) (ty := .int) X hW hS FI_X10_31 rfl (by decide) rfl rfl (by decide +kernel) rfl rfl (dg D_X10_next (i := 99) rfl) (fun H locs hW hS => ?_)
                    have hF : Fr STc I (u2 J183 66 3 (nI (z + 1))) := Fr.put hF rfl
                    have hTx : rowP (u2 J183 66 3 (nI (z + 1))) 30 n (fun j => sg (b j)) := hTx.keep (by decide)
                    obtain ⟨J193, eJ193⟩ : ∃ J, J = u2 J183 66 3 (nI (z + 1)) := ⟨_, rfl⟩
                    rw [← eJ193] at hW hF hTx
                    have hln : J193 66 1 = nI n := by rw [eJ193, u2_off (Or.inr (by decide))]; exact hln
                    have hst : J193 66 2 = nI z := by rw [eJ193, u2_off (Or.inr (by decide))]; exact hst
                    have hnu : J193 66 5 = nI (wF 10 (d10 b) z (runE isDg b n z - z)) := by rw [eJ193, u2_off (Or.inr (by decide))]; exact hnu
                    have en : J193 66 3 = nI (z + 1) := by rw [eJ193]; exact u2_at
                    have hki : J193 66 4 = nI 4 := by rw [eJ193, u2_off (Or.inr (by decide))]; exact hki
                    have hlz : lE b n z = z := by have := runE_ge (f := isL) (b := b) (n := n) (p := z); have h2 : lE b n z = runE isL b n z := rfl; omega
                    have hzL : isL (b z) = false := by cases hq : isL (b z) with | false => rfl | true => exact absurd (runE_gt (show z < n by omega) hq) (by have h2 : lE b n z = runE isL b n z := rfl; omega)
                    have hzD : isDg (b z) = false := by cases hq : isDg (b z) with | false => rfl | true => exact absurd (runE_gt (show z < n by omega) hq) (by omega)
                    obtain ⟨ht1, ht2⟩ := tok_oth hs9 (by omega) hzL hzD
                    rw [if_neg (fun w => c175 ((cl_59 hT (by omega)).mpr w))] at ht2
                    exact fin (dg D_X10_next (i := 100) rfl) hW hS ⟨hF, ⟨by rw [hs9]; exact hst, by rw [ht1]; exact en, by rw [ht2]; exact hki, fun w => absurd w (by rw [ht2]; decide), fun w => absurd w (by rw [ht2]; decide)⟩, hFL, rfl⟩
                  · refine n_iconst (a := 3) hx hb (dg D_X10_next (i := 90) rfl) rfl ?_
                    refine lv_goto (tgt := 183) hx hb (dg D_X10_next (i := 91) rfl) (by decide) ?_
                    refine r_puti (v := nI 3) (ty := .int) X hW hS FI_X10_34 rfl (by decide) rfl rfl (by decide +kernel) rfl rfl (dg D_X10_next (i := 93) rfl) (fun H locs hW hS => ?_)
                    have hF : Fr STc I (u2 I123 66 4 (nI 3)) := Fr.put hF rfl
                    have hTx : rowP (u2 I123 66 4 (nI 3)) 30 n (fun j => sg (b j)) := hTx.keep (by decide)
                    obtain ⟨J183, eJ183⟩ : ∃ J, J = u2 I123 66 4 (nI 3) := ⟨_, rfl⟩
                    rw [← eJ183] at hW hF hTx
                    have hln : J183 66 1 = nI n := by rw [eJ183, u2_off (Or.inr (by decide))]; exact hln
                    have hst : J183 66 2 = nI z := by rw [eJ183, u2_off (Or.inr (by decide))]; exact hst
                    have hnu : J183 66 5 = nI (wF 10 (d10 b) z (runE isDg b n z - z)) := by rw [eJ183, u2_off (Or.inr (by decide))]; exact hnu
                    have en : J183 66 3 = nI z := by rw [eJ183, u2_off (Or.inr (by decide))]; exact en
                    have hki : J183 66 4 = nI 3 := by rw [eJ183]; exact u2_at
                    refine lv_aload_n hx hb (dg D_X10_next (i := 94) rfl) rfl (lv_at hl 0 rfl) ?_
                    refine lv_dup hx hb (dg D_X10_next (i := 95) rfl) rfl ?_
                    refine r_geti (v := nI z) X hW FI_X10_31 rfl (by decide) rfl en (dg D_X10_next (i := 96) rfl) ?_
                    refine n_iconst (a := 1) hx hb (dg D_X10_next (i := 97) rfl) rfl ?_
                    refine n_iadd hx hb (dg D_X10_next (i := 98) rfl) ?_
                    refine r_puti (v := nI (z + 1)) (ty := .int) X hW hS FI_X10_31 rfl (by decide) rfl rfl (by decide +kernel) rfl rfl (dg D_X10_next (i := 99) rfl) (fun H locs hW hS => ?_)
                    have hF : Fr STc I (u2 J183 66 3 (nI (z + 1))) := Fr.put hF rfl
                    have hTx : rowP (u2 J183 66 3 (nI (z + 1))) 30 n (fun j => sg (b j)) := hTx.keep (by decide)
                    obtain ⟨J193, eJ193⟩ : ∃ J, J = u2 J183 66 3 (nI (z + 1)) := ⟨_, rfl⟩
                    rw [← eJ193] at hW hF hTx
                    have hln : J193 66 1 = nI n := by rw [eJ193, u2_off (Or.inr (by decide))]; exact hln
                    have hst : J193 66 2 = nI z := by rw [eJ193, u2_off (Or.inr (by decide))]; exact hst
                    have hnu : J193 66 5 = nI (wF 10 (d10 b) z (runE isDg b n z - z)) := by rw [eJ193, u2_off (Or.inr (by decide))]; exact hnu
                    have en : J193 66 3 = nI (z + 1) := by rw [eJ193]; exact u2_at
                    have hki : J193 66 4 = nI 3 := by rw [eJ193, u2_off (Or.inr (by decide))]; exact hki
                    have hlz : lE b n z = z := by have := runE_ge (f := isL) (b := b) (n := n) (p := z); have h2 : lE b n z = runE isL b n z := rfl; omega
                    have hzL : isL (b z) = false := by cases hq : isL (b z) with | false => rfl | true => exact absurd (runE_gt (show z < n by omega) hq) (by have h2 : lE b n z = runE isL b n z := rfl; omega)
                    have hzD : isDg (b z) = false := by cases hq : isDg (b z) with | false => rfl | true => exact absurd (runE_gt (show z < n by omega) hq) (by omega)
                    obtain ⟨ht1, ht2⟩ := tok_oth hs9 (by omega) hzL hzD
                    rw [if_pos ((cl_59 hT (by omega)).mp (by first | exact c175 | exact Classical.not_not.mp c175))] at ht2
                    exact fin (dg D_X10_next (i := 100) rfl) hW hS ⟨hF, ⟨by rw [hs9]; exact hst, by rw [ht1]; exact en, by rw [ht2]; exact hki, fun w => absurd w (by rw [ht2]; decide), fun w => absurd w (by rw [ht2]; decide)⟩, hFL, rfl⟩
                · refine lv_aload_n hx hb (dg D_X10_next (i := 68) rfl) rfl (lv_at hl 0 rfl) ?_
                  refine lv_aload_n hx hb (dg D_X10_next (i := 69) rfl) rfl (lv_at hl 0 rfl) ?_
                  refine r_geti (v := nI (runE isDg b n z)) X hW FI_X10_31 rfl (by decide) rfl en (dg D_X10_next (i := 70) rfl) ?_
                  refine lv_aload_n hx hb (dg D_X10_next (i := 71) rfl) rfl (lv_at hl 0 rfl) ?_
                  refine r_geti (v := nI z) X hW FI_X10_28 rfl (by decide) rfl hst (dg D_X10_next (i := 72) rfl) ?_
                  refine n_isub hx hb (dg D_X10_next (i := 73) rfl) (by omega) ?_
                  refine n_iconst (a := 4) hx hb (dg D_X10_next (i := 74) rfl) rfl ?_
                  refine n_icmp_gt (tgt := 155) hx hb (by omega) (by omega) (dg D_X10_next (i := 75) rfl) (by decide) (fun c148 => ?_) (fun c148 => ?_)
                  · refine n_iconst (a := 4) hx hb (dg D_X10_next (i := 78) rfl) rfl ?_
                    refine r_puti (v := nI 4) (ty := .int) X hW hS FI_X10_34 rfl (by decide) rfl rfl (by decide +kernel) rfl rfl (dg D_X10_next (i := 79) rfl) (fun H locs hW hS => ?_)
                    have hF : Fr STc I (u2 I123 66 4 (nI 4)) := Fr.put hF rfl
                    have hTx : rowP (u2 I123 66 4 (nI 4)) 30 n (fun j => sg (b j)) := hTx.keep (by decide)
                    obtain ⟨J156, eJ156⟩ : ∃ J, J = u2 I123 66 4 (nI 4) := ⟨_, rfl⟩
                    rw [← eJ156] at hW hF hTx
                    have hln : J156 66 1 = nI n := by rw [eJ156, u2_off (Or.inr (by decide))]; exact hln
                    have hst : J156 66 2 = nI z := by rw [eJ156, u2_off (Or.inr (by decide))]; exact hst
                    have en : J156 66 3 = nI (runE isDg b n z) := by rw [eJ156, u2_off (Or.inr (by decide))]; exact en
                    have hnu : J156 66 5 = nI (wF 10 (d10 b) z (runE isDg b n z - z)) := by rw [eJ156, u2_off (Or.inr (by decide))]; exact hnu
                    have hki : J156 66 4 = nI 4 := by rw [eJ156]; exact u2_at
                    have hlz : lE b n z = z := by have := runE_ge (f := isL) (b := b) (n := n) (p := z); have h2 : lE b n z = runE isL b n z := rfl; omega
                    have hzL : isL (b z) = false := by cases hq : isL (b z) with | false => rfl | true => exact absurd (runE_gt (show z < n by omega) hq) (by have h2 : lE b n z = runE isL b n z := rfl; omega)
                    have hzD : isDg (b z) = true := by cases hq : isDg (b z) with | true => rfl | false => exact absurd (show runE isDg b n z = z from runE_stop (by omega) (fun _ => hq)) (by omega)
                    obtain ⟨ht1, ht2⟩ := tok_dig hs9 (by omega) hzL hzD rfl
                    rw [if_pos (by omega)] at ht2
                    exact fin (dg D_X10_next (i := 80) rfl) hW hS ⟨hF, ⟨by rw [hs9]; exact hst, by rw [ht1]; exact en, by rw [ht2]; exact hki, fun w => absurd w (by rw [ht2]; decide), fun w => absurd w (by rw [ht2]; decide)⟩, hFL, rfl⟩
                  · refine n_iconst (a := 2) hx hb (dg D_X10_next (i := 76) rfl) rfl ?_
                    refine lv_goto (tgt := 156) hx hb (dg D_X10_next (i := 77) rfl) (by decide) ?_
                    refine r_puti (v := nI 2) (ty := .int) X hW hS FI_X10_34 rfl (by decide) rfl rfl (by decide +kernel) rfl rfl (dg D_X10_next (i := 79) rfl) (fun H locs hW hS => ?_)
                    have hF : Fr STc I (u2 I123 66 4 (nI 2)) := Fr.put hF rfl
                    have hTx : rowP (u2 I123 66 4 (nI 2)) 30 n (fun j => sg (b j)) := hTx.keep (by decide)
                    obtain ⟨J156, eJ156⟩ : ∃ J, J = u2 I123 66 4 (nI 2) := ⟨_, rfl⟩
                    rw [← eJ156] at hW hF hTx
                    have hln : J156 66 1 = nI n := by rw [eJ156, u2_off (Or.inr (by decide))]; exact hln
                    have hst : J156 66 2 = nI z := by rw [eJ156, u2_off (Or.inr (by decide))]; exact hst
                    have en : J156 66 3 = nI (runE isDg b n z) := by rw [eJ156, u2_off (Or.inr (by decide))]; exact en
                    have hnu : J156 66 5 = nI (wF 10 (d10 b) z (runE isDg b n z - z)) := by rw [eJ156, u2_off (Or.inr (by decide))]; exact hnu
                    have hki : J156 66 4 = nI 2 := by rw [eJ156]; exact u2_at
                    have hlz : lE b n z = z := by have := runE_ge (f := isL) (b := b) (n := n) (p := z); have h2 : lE b n z = runE isL b n z := rfl; omega
                    have hzL : isL (b z) = false := by cases hq : isL (b z) with | false => rfl | true => exact absurd (runE_gt (show z < n by omega) hq) (by have h2 : lE b n z = runE isL b n z := rfl; omega)
                    have hzD : isDg (b z) = true := by cases hq : isDg (b z) with | true => rfl | false => exact absurd (show runE isDg b n z = z from runE_stop (by omega) (fun _ => hq)) (by omega)
                    obtain ⟨ht1, ht2⟩ := tok_dig hs9 (by omega) hzL hzD rfl
                    rw [if_neg (by omega)] at ht2
                    exact fin (dg D_X10_next (i := 80) rfl) hW hS ⟨hF, ⟨by rw [hs9]; exact hst, by rw [ht1]; exact en, by rw [ht2]; exact hki, fun _ => by unfold tV; rw [hs9, ht1]; exact hnu, fun w => absurd w (by rw [ht2]; decide)⟩, hFL, rfl⟩
              · refine lv_aload_n hx hb (dg D_X10_next (i := 48) rfl) rfl (lv_at hl 0 rfl) ?_
                refine lv_aload_n hx hb (dg D_X10_next (i := 49) rfl) rfl (lv_at hl 0 rfl) ?_
                refine r_geti (v := nI (lE b n z)) X hW FI_X10_31 rfl (by decide) rfl en (dg D_X10_next (i := 50) rfl) ?_
                refine lv_aload_n hx hb (dg D_X10_next (i := 51) rfl) rfl (lv_at hl 0 rfl) ?_
                refine r_geti (v := nI z) X hW FI_X10_28 rfl (by decide) rfl hst (dg D_X10_next (i := 52) rfl) ?_
                refine n_isub hx hb (dg D_X10_next (i := 53) rfl) (by omega) ?_
                refine lv_bipush (v := nI 8) hx hb (dg D_X10_next (i := 54) rfl) (by decide) ?_
                refine n_icmp_gt (tgt := 117) hx hb (by omega) (by omega) (dg D_X10_next (i := 55) rfl) (by decide) (fun c110 => ?_) (fun c110 => ?_)
                · refine n_iconst (a := 4) hx hb (dg D_X10_next (i := 58) rfl) rfl ?_
                  refine r_puti (v := nI 4) (ty := .int) X hW hS FI_X10_34 rfl (by decide) rfl rfl (by decide +kernel) rfl rfl (dg D_X10_next (i := 59) rfl) (fun H locs hW hS => ?_)
                  have hF : Fr STc I (u2 I84 66 4 (nI 4)) := Fr.put hF rfl
                  have hTx : rowP (u2 I84 66 4 (nI 4)) 30 n (fun j => sg (b j)) := hTx.keep (by decide)
                  obtain ⟨J118, eJ118⟩ : ∃ J, J = u2 I84 66 4 (nI 4) := ⟨_, rfl⟩
                  rw [← eJ118] at hW hF hTx
                  have hln : J118 66 1 = nI n := by rw [eJ118, u2_off (Or.inr (by decide))]; exact hln
                  have hst : J118 66 2 = nI z := by rw [eJ118, u2_off (Or.inr (by decide))]; exact hst
                  have en : J118 66 3 = nI (lE b n z) := by rw [eJ118, u2_off (Or.inr (by decide))]; exact en
                  have hki : J118 66 4 = nI 4 := by rw [eJ118]; exact u2_at
                  have hzL : isL (b z) = true := by cases hq : isL (b z) with | true => rfl | false => exact absurd (show lE b n z = z from runE_stop (by omega) (fun _ => hq)) (by omega)
                  obtain ⟨ht1, ht2⟩ := tok_let hs9 (by omega) hzL rfl
                  rw [if_pos (by omega)] at ht2
                  exact fin (dg D_X10_next (i := 60) rfl) hW hS ⟨hF, ⟨by rw [hs9]; exact hst, by rw [ht1]; exact en, by rw [ht2]; exact hki, fun w => absurd w (by rw [ht2]; decide), fun w => absurd w (by rw [ht2]; decide)⟩, hFL, rfl⟩
                · refine n_iconst (a := 1) hx hb (dg D_X10_next (i := 56) rfl) rfl ?_
                  refine lv_goto (tgt := 118) hx hb (dg D_X10_next (i := 57) rfl) (by decide) ?_
                  refine r_puti (v := nI 1) (ty := .int) X hW hS FI_X10_34 rfl (by decide) rfl rfl (by decide +kernel) rfl rfl (dg D_X10_next (i := 59) rfl) (fun H locs hW hS => ?_)
                  have hF : Fr STc I (u2 I84 66 4 (nI 1)) := Fr.put hF rfl
                  have hTx : rowP (u2 I84 66 4 (nI 1)) 30 n (fun j => sg (b j)) := hTx.keep (by decide)
                  obtain ⟨J118, eJ118⟩ : ∃ J, J = u2 I84 66 4 (nI 1) := ⟨_, rfl⟩
                  rw [← eJ118] at hW hF hTx
                  have hln : J118 66 1 = nI n := by rw [eJ118, u2_off (Or.inr (by decide))]; exact hln
                  have hst : J118 66 2 = nI z := by rw [eJ118, u2_off (Or.inr (by decide))]; exact hst
                  have en : J118 66 3 = nI (lE b n z) := by rw [eJ118, u2_off (Or.inr (by decide))]; exact en
                  have hki : J118 66 4 = nI 1 := by rw [eJ118]; exact u2_at
                  have hzL : isL (b z) = true := by cases hq : isL (b z) with | true => rfl | false => exact absurd (show lE b n z = z from runE_stop (by omega) (fun _ => hq)) (by omega)
                  obtain ⟨ht1, ht2⟩ := tok_let hs9 (by omega) hzL rfl
                  rw [if_neg (by omega)] at ht2
                  exact fin (dg D_X10_next (i := 60) rfl) hW hS ⟨hF, ⟨by rw [hs9]; exact hst, by rw [ht1]; exact en, by rw [ht2]; exact hki, fun w => absurd w (by rw [ht2]; decide), fun _ => by rw [hs9, hp84_1, wd_wF hT _ (fun i hi => lE_in hT (by omega) hi)]; rfl⟩, hFL, rfl⟩
            · refine lv_aload_n hx hb (dg D_X10_next (i := 37) rfl) rfl (lv_at hl 0 rfl) ?_
              refine n_iconst (a := 0) hx hb (dg D_X10_next (i := 38) rfl) rfl ?_
              refine r_puti (v := nI 0) (ty := .int) X hW hS FI_X10_34 rfl (by decide) rfl rfl (by decide +kernel) rfl rfl (dg D_X10_next (i := 39) rfl) (fun H locs hW hS => ?_)
              have hF : Fr STc I (u2 J63 66 4 (nI 0)) := Fr.put hF rfl
              have hTx : rowP (u2 J63 66 4 (nI 0)) 30 n (fun j => sg (b j)) := hTx.keep (by decide)
              obtain ⟨J79, eJ79⟩ : ∃ J, J = u2 J63 66 4 (nI 0) := ⟨_, rfl⟩
              rw [← eJ79] at hW hF hTx
              have hln : J79 66 1 = nI n := by rw [eJ79, u2_off (Or.inr (by decide))]; exact hln
              have en : J79 66 3 = nI z := by rw [eJ79, u2_off (Or.inr (by decide))]; exact en
              have hst : J79 66 2 = nI z := by rw [eJ79, u2_off (Or.inr (by decide))]; exact hst
              have hki : J79 66 4 = nI 0 := by rw [eJ79]; exact u2_at
              obtain ⟨ht1, ht2⟩ := tok_end hs9 (show n ≤ z by omega)
              exact fin (dg D_X10_next (i := 40) rfl) hW hS ⟨hF, ⟨by rw [hs9]; exact hst, by rw [ht1]; exact en, by rw [ht2]; exact hki, fun w => absurd w (by rw [ht2]; decide), fun w => absurd w (by rw [ht2]; decide)⟩, hFL, rfl⟩
          · have hzs := (cl_S hT (show z < n by omega)).mpr (Or.inr (by first | exact c42 | exact Classical.not_not.mp c42))
            refine lv_aload_n hx hb (dg D_X10_next (i := 21) rfl) rfl (lv_at hl 0 rfl) ?_
            refine lv_dup hx hb (dg D_X10_next (i := 22) rfl) rfl ?_
            refine r_geti (v := nI z) X hW FI_X10_31 rfl (by decide) rfl en (dg D_X10_next (i := 23) rfl) ?_
            refine n_iconst (a := 1) hx hb (dg D_X10_next (i := 24) rfl) rfl ?_
            refine n_iadd hx hb (dg D_X10_next (i := 25) rfl) ?_
            refine r_puti (v := nI (z + 1)) (ty := .int) X hW hS FI_X10_31 rfl (by decide) rfl rfl (by decide +kernel) rfl rfl (dg D_X10_next (i := 26) rfl) (fun H locs hW hS => ?_)
            have hF : Fr STc I (u2 K0 66 3 (nI (z + 1))) := Fr.put hF rfl
            have hTx : rowP (u2 K0 66 3 (nI (z + 1))) 30 n (fun j => sg (b j)) := hTx.keep (by decide)
            obtain ⟨J52, eJ52⟩ : ∃ J, J = u2 K0 66 3 (nI (z + 1)) := ⟨_, rfl⟩
            rw [← eJ52] at hW hF hTx
            have hln : J52 66 1 = nI n := by rw [eJ52, u2_off (Or.inr (by decide))]; exact hln
            have en : J52 66 3 = nI (z + 1) := by rw [eJ52]; exact u2_at
            refine lv_goto (tgt := 0) hx hb (dg D_X10_next (i := 27) rfl) (by decide) ?_
            exact ih0 (by omega) J52 _ _ _ hF hTx en hln (by rw [← hz1]; exact (runE_step (by omega) hzs).symm) hW hS (lv_sub hl [0] rfl))
  exact loop0 p9 hp I _ _ _ hF hTx hen hln rfl hW hS (lv_sub hl [0] rfl)

set_option maxHeartbeats 4000000 in
set_option maxRecDepth 100000 in
theorem c_X10_begin {l : Launch} {G : va_G} {bs : Nat} {cy : Nat → ClassId} {I : CI} {L : CL} {R : CR} (n : Nat) (N9 : Nat) (hsz : I 29 1 = nI N9) (hN9 : N9 ≤ 900) (hnN : n ≤ N9) : MTv l G bs cy MX10_begin 1 [.ref (bs + 66), .int (nI n)] I L R (fun I1 L1 R1 => Fr (SC 66) I I1 ∧ I1 66 1 = nI n ∧ I1 66 3 = nI 0 ∧ L = L1 ∧ R = R1) := by
  refine MTv.of (own := RX10) pn_RX10 rfl (Nat.le_of_ble_eq_true rfl) ?_
  intro p e s m args below meth c Qf X hW hS fin ls hl
  have hx := X.1
  have hb := X.2.1
  have hR : RmOK (rmL 1 0 0) 1 := ⟨rfl, rfl⟩
  have hcs : 0 ≤ (rmL 1 0 0).cells ∧ 0 ≤ (rmL 1 0 0).slots := ⟨Nat.zero_le _, Nat.zero_le _⟩
  have hl : lv_has ls 2 [(0, .ref (bs + 66)), (1, .int (nI n))] := hl
  have hF : Fr (SC 66) I I := Fr.rf
  refine lv_aload_n hx hb (dg D_X10_begin (i := 0) rfl) rfl (lv_at hl 0 rfl) ?_
  refine lv_iload_n hx hb (dg D_X10_begin (i := 1) rfl) rfl (lv_at hl 1 rfl) ?_
  refine lv_aload_n hx hb (dg D_X10_begin (i := 2) rfl) rfl (lv_at hl 0 rfl) ?_
  refine r_getc (t := 29) X hW FI_X10_7 rfl (by decide) rfl (dg D_X10_begin (i := 3) rfl) ?_
  refine rn_geti (v := nI N9) X hW FN_X10_13 rfl (by decide) rfl hsz (dg D_X10_begin (i := 4) rfl) ?_
  refine r_min (v := nI n) X hR (by decide) LK_X10_19 (Nat.le_of_ble_eq_true rfl) hl hcs ((mn_N (a := n) (b := N9) (by omega) (by omega)).trans (congrArg nI (by omega))) (dg D_X10_begin (i := 5) rfl) ?_
  refine r_puti (v := nI n) (ty := .int) X hW hS FI_X10_25 rfl (by decide) rfl rfl (by decide +kernel) rfl rfl (dg D_X10_begin (i := 6) rfl) (fun H locs hW hS => ?_)
  have hF : Fr (SC 66) I (u2 I 66 1 (nI n)) := Fr.put hF rfl
  obtain ⟨J12, eJ12⟩ : ∃ J, J = u2 I 66 1 (nI n) := ⟨_, rfl⟩
  rw [← eJ12] at hW hF
  have hsz : J12 29 1 = nI N9 := by rw [eJ12, u2_off (Or.inl (by decide))]; exact hsz
  have hln : J12 66 1 = nI n := by rw [eJ12]; exact u2_at
  refine lv_aload_n hx hb (dg D_X10_begin (i := 7) rfl) rfl (lv_at hl 0 rfl) ?_
  refine n_iconst (a := 0) hx hb (dg D_X10_begin (i := 8) rfl) rfl ?_
  refine r_puti (v := nI 0) (ty := .int) X hW hS FI_X10_28 rfl (by decide) rfl rfl (by decide +kernel) rfl rfl (dg D_X10_begin (i := 9) rfl) (fun H locs hW hS => ?_)
  have hF : Fr (SC 66) I (u2 J12 66 2 (nI 0)) := Fr.put hF rfl
  obtain ⟨J17, eJ17⟩ : ∃ J, J = u2 J12 66 2 (nI 0) := ⟨_, rfl⟩
  rw [← eJ17] at hW hF
  have hsz : J17 29 1 = nI N9 := by rw [eJ17, u2_off (Or.inl (by decide))]; exact hsz
  have hln : J17 66 1 = nI n := by rw [eJ17, u2_off (Or.inr (by decide))]; exact hln
  refine lv_aload_n hx hb (dg D_X10_begin (i := 10) rfl) rfl (lv_at hl 0 rfl) ?_
  refine n_iconst (a := 0) hx hb (dg D_X10_begin (i := 11) rfl) rfl ?_
  refine r_puti (v := nI 0) (ty := .int) X hW hS FI_X10_31 rfl (by decide) rfl rfl (by decide +kernel) rfl rfl (dg D_X10_begin (i := 12) rfl) (fun H locs hW hS => ?_)
  have hF : Fr (SC 66) I (u2 J17 66 3 (nI 0)) := Fr.put hF rfl
  obtain ⟨J22, eJ22⟩ : ∃ J, J = u2 J17 66 3 (nI 0) := ⟨_, rfl⟩
  rw [← eJ22] at hW hF
  have hsz : J22 29 1 = nI N9 := by rw [eJ22, u2_off (Or.inl (by decide))]; exact hsz
  have hln : J22 66 1 = nI n := by rw [eJ22, u2_off (Or.inr (by decide))]; exact hln
  have en : J22 66 3 = nI 0 := by rw [eJ22]; exact u2_at
  refine lv_aload_n hx hb (dg D_X10_begin (i := 13) rfl) rfl (lv_at hl 0 rfl) ?_
  refine n_iconst (a := 0) hx hb (dg D_X10_begin (i := 14) rfl) rfl ?_
  refine r_puti (v := nI 0) (ty := .int) X hW hS FI_X10_34 rfl (by decide) rfl rfl (by decide +kernel) rfl rfl (dg D_X10_begin (i := 15) rfl) (fun H locs hW hS => ?_)
  have hF : Fr (SC 66) I (u2 J22 66 4 (nI 0)) := Fr.put hF rfl
  obtain ⟨J27, eJ27⟩ : ∃ J, J = u2 J22 66 4 (nI 0) := ⟨_, rfl⟩
  rw [← eJ27] at hW hF
  have hsz : J27 29 1 = nI N9 := by rw [eJ27, u2_off (Or.inl (by decide))]; exact hsz
  have hln : J27 66 1 = nI n := by rw [eJ27, u2_off (Or.inr (by decide))]; exact hln
  have en : J27 66 3 = nI 0 := by rw [eJ27, u2_off (Or.inr (by decide))]; exact en
  exact fin (dg D_X10_begin (i := 16) rfl) hW hS ⟨hF, hln, en, rfl, rfl⟩

set_option maxHeartbeats 4000000 in
set_option maxRecDepth 100000 in
theorem c_X3_clear {l : Launch} {G : va_G} {bs : Nat} {cy : Nat → ClassId} {I : CI} {L : CL} {R : CR} : MTv l G bs cy MX3_clear 1 [.ref (bs + 62)] I L R (fun I1 L1 R1 => Fr SNa I I1 ∧ I1 62 3 = nI 0 ∧ L = L1 ∧ R = R1) := by
  refine MTv.of (own := RX3) pn_RX3 rfl (Nat.le_of_ble_eq_true rfl) ?_
  intro p e s m args below meth c Qf X hW hS fin ls hl
  have hx := X.1
  have hb := X.2.1
  have hR : RmOK (rmL 1 0 0) 1 := ⟨rfl, rfl⟩
  have hcs : 0 ≤ (rmL 1 0 0).cells ∧ 0 ≤ (rmL 1 0 0).slots := ⟨Nat.zero_le _, Nat.zero_le _⟩
  have hl : lv_has ls 1 [(0, .ref (bs + 62))] := hl
  have hF : Fr SNa I I := Fr.rf
  refine lv_aload_n hx hb (dg D_X3_clear (i := 0) rfl) rfl (lv_at hl 0 rfl) ?_
  refine n_iconst (a := 0) hx hb (dg D_X3_clear (i := 1) rfl) rfl ?_
  refine r_puti (v := nI 0) (ty := .int) X hW hS FI_X3_22 rfl (by decide) rfl rfl (by decide +kernel) rfl rfl (dg D_X3_clear (i := 2) rfl) (fun H locs hW hS => ?_)
  have hF : Fr SNa I (u2 I 62 3 (nI 0)) := Fr.put hF rfl
  obtain ⟨J2, eJ2⟩ : ∃ J, J = u2 I 62 3 (nI 0) := ⟨_, rfl⟩
  rw [← eJ2] at hW hF
  have hsz : J2 62 3 = nI 0 := by rw [eJ2]; exact u2_at
  exact fin (dg D_X3_clear (i := 3) rfl) hW hS ⟨hF, hsz, rfl, rfl⟩

set_option maxHeartbeats 4000000 in
set_option maxRecDepth 100000 in
theorem c_X3_isDeclared {l : Launch} {G : va_G} {bs : Nat} {cy : Nat → ClassId} {I : CI} {L : CL} {R : CR} (b : Nat → Int32) (n : Nat) (N : Nat) (ds : Nat → Nat) (st : Nat → Nat) (nu : Nat → Nat) (w : Nat) (hNm : NmC b n I L N ds st nu) (hT : TB b n) (hn : n ≤ 900) (hw : w < 2 ^ 63) : MTi l G bs cy MX3_isDeclared 1 [.ref (bs + 62), .long (Int64.ofNat w)] I L R (fun r I1 L1 R1 => bI (decide (dcC b n N ds w < N)) = r ∧ I = I1 ∧ L = L1 ∧ R = R1) := by
  refine MTz.of (own := RX3) pn_RX3 rfl (Nat.le_of_ble_eq_true rfl) ?_
  intro p e s m args below meth c Qf X hW hS fin ls hl
  have hx := X.1
  have hb := X.2.1
  have hR : RmOK (rmL 1 0 0) 1 := ⟨rfl, rfl⟩
  have hcs : 0 ≤ (rmL 1 0 0).cells ∧ 0 ≤ (rmL 1 0 0).slots := ⟨Nat.zero_le _, Nat.zero_le _⟩
  have hl : lv_has ls 4 [(0, .ref (bs + 62)), (1, .long (Int64.ofNat w))] := hl
  obtain ⟨hsz, hN21, hNs⟩ := hNm
  refine n_iconst (a := 0) hx hb (dg D_X3_isDeclared (i := 0) rfl) rfl ?_
  refine lv_istore_n (lv' := [(3, .int (nI 0)), (0, .ref (bs + 62)), (1, .long (Int64.ofNat w))]) hx hb (dg D_X3_isDeclared (i := 1) rfl) rfl hl (by decide) rfl (fun ls hl => ?_)
  have loop2 := up_ind (P := fun i => ∀ (H : Heap) (locs : List Loc) (ls : Array Slot) (v3 : Int32), v3 = nI i → (∀ z, z < i → (fun i => decide (w256 b n (ds i) = w)) z = false) → Wd G bs cy I L R H → va_S (Aq bs) s.heap H locs → lv_has ls 4 [(0, .ref (bs + 62)), (1, .long (Int64.ofNat w)), (3, .int v3)] → W p l e (rmL 1 0 0) s m args below meth c H locs 0 0 Qf (F0 m 2 ls [])) N (fun i hx2 ih2 => by
      intro H locs ls v3 q3 hn2 hW hS hl
      subst q3
      refine lv_iload_n hx hb (dg D_X3_isDeclared (i := 2) rfl) rfl (lv_at hl 2 rfl) ?_
      refine lv_aload_n hx hb (dg D_X3_isDeclared (i := 3) rfl) rfl (lv_at hl 0 rfl) ?_
      refine r_geti (v := nI N) X hW FI_X3_22 rfl (by decide) rfl hsz (dg D_X3_isDeclared (i := 4) rfl) ?_
      refine n_icmp_ge (tgt := 29) hx hb (by omega) (by omega) (dg D_X3_isDeclared (i := 5) rfl) (by decide) (fun c7 => ?_) (fun c7 => ?_)
      · refine n_iconst (a := 0) hx hb (dg D_X3_isDeclared (i := 17) rfl) rfl ?_
        exact fin (dg D_X3_isDeclared (i := 18) rfl) hW hS (show _ = bI false from rfl) ⟨congrArg bI (decide_eq_false (by unfold dcC; rw [fstN_none (p := fun i => decide (w256 b n (ds i) = w)) (fun z hz => hn2 z (by omega))]; omega)), rfl, rfl, rfl⟩
      · refine lv_aload_n hx hb (dg D_X3_isDeclared (i := 6) rfl) rfl (lv_at hl 0 rfl) ?_
        refine r_getc (t := 63) X hW FI_X3_11 rfl (by decide) rfl (dg D_X3_isDeclared (i := 7) rfl) ?_
        refine lv_iload_n hx hb (dg D_X3_isDeclared (i := 8) rfl) rfl (lv_at hl 2 rfl) ?_
        refine r_lald (j := i) (v := Int64.ofNat (w256 b n (ds i))) X hW rfl (by decide) rfl (by omega) (by decide) ((hNs _ (by omega)).2.1) (dg D_X3_isDeclared (i := 9) rfl) ?_
        refine lv_lload_n hx hb (dg D_X3_isDeclared (i := 10) rfl) rfl (lv_at hl 1 rfl) ?_
        refine W.lcmp hx hb (dg D_X3_isDeclared (i := 11) rfl) ?_
        refine c_if_ne (tgt := 23) hx hb (dg D_X3_isDeclared (i := 12) rfl) (by decide) (fun c18 => ?_) (fun c18 => ?_)
        · refine lv_iinc (v := nI (i + 1)) (lv' := [(3, .int (nI (i + 1))), (0, .ref (bs + 62)), (1, .long (Int64.ofNat w))]) hx hb (dg D_X3_isDeclared (i := 15) rfl) hl (k := 2) rfl (nI_add _ _) (by decide) rfl (fun ls hl => ?_)
          refine lv_goto (tgt := 2) hx hb (dg D_X3_isDeclared (i := 16) rfl) (by decide) ?_
          exact ih2 (by omega) _ _ _ _ (congrArg nI (by omega)) (all_lt_succ (p := fun i => decide (w256 b n (ds i) = w)) hn2 (decide_eq_false (fun z => c18 (by rw [z])))) hW hS (lv_sub hl [1, 2, 0] rfl)
        · refine n_iconst (a := 1) hx hb (dg D_X3_isDeclared (i := 13) rfl) rfl ?_
          exact fin (dg D_X3_isDeclared (i := 14) rfl) hW hS (show _ = bI true from rfl) ⟨congrArg bI (decide_eq_true (by unfold dcC; rw [fstN_hit (p := fun i => decide (w256 b n (ds i) = w)) (y := i) (by omega) (decide_eq_true (i64_inj (w256_lt hT (hNs i (by omega)).1) hw (by first | exact c18 | exact Classical.not_not.mp c18))) hn2]; omega)), rfl, rfl, rfl⟩)
  exact loop2 0 (Nat.zero_le _) _ _ _ _ (congrArg nI (by omega)) (fun z hz => absurd hz (Nat.not_lt_zero z)) hW hS (lv_sub hl [1, 2, 0] rfl)

set_option maxHeartbeats 4000000 in
set_option maxRecDepth 100000 in
theorem c_X3_numberOf {l : Launch} {G : va_G} {bs : Nat} {cy : Nat → ClassId} {I : CI} {L : CL} {R : CR} (b : Nat → Int32) (n : Nat) (N : Nat) (ds : Nat → Nat) (st : Nat → Nat) (nu : Nat → Nat) (w : Nat) (so : Nat) (hNm : NmC b n I L N ds st nu) (hT : TB b n) (hn : n ≤ 900) (hw : w < 2 ^ 63) (hso : so < 10) (hstb : ∀ i, i < N → st i < 10) : MTi l G bs cy MX3_numberOf 1 [.ref (bs + 62), .long (Int64.ofNat w), .int (nI so)] I L R (fun r I1 L1 R1 => (if nuC b n N ds st w so < N then nI (nu (nuC b n N ds st w so)) else -1) = r ∧ I = I1 ∧ L = L1 ∧ R = R1) := by
  refine MTi.of (own := RX3) pn_RX3 rfl (Nat.le_of_ble_eq_true rfl) ?_
  intro p e s m args below meth c Qf X hW hS fin ls hl
  have hx := X.1
  have hb := X.2.1
  have hR : RmOK (rmL 1 0 0) 1 := ⟨rfl, rfl⟩
  have hcs : 0 ≤ (rmL 1 0 0).cells ∧ 0 ≤ (rmL 1 0 0).slots := ⟨Nat.zero_le _, Nat.zero_le _⟩
  have hl : lv_has ls 5 [(0, .ref (bs + 62)), (1, .long (Int64.ofNat w)), (3, .int (nI so))] := hl
  obtain ⟨hsz, hN21, hNs⟩ := hNm
  refine n_iconst (a := 0) hx hb (dg D_X3_numberOf (i := 0) rfl) rfl ?_
  refine lv_istore (lv' := [(4, .int (nI 0)), (0, .ref (bs + 62)), (1, .long (Int64.ofNat w)), (3, .int (nI so))]) hx hb (dg D_X3_numberOf (i := 1) rfl) hl (by decide) rfl (fun ls hl => ?_)
  have loop3 := up_ind (P := fun i => ∀ (H : Heap) (locs : List Loc) (ls : Array Slot) (v4 : Int32), v4 = nI i → (∀ z, z < i → (fun i => decide (w256 b n (ds i) = w) && decide (st i = so)) z = false) → Wd G bs cy I L R H → va_S (Aq bs) s.heap H locs → lv_has ls 5 [(0, .ref (bs + 62)), (1, .long (Int64.ofNat w)), (3, .int (nI so)), (4, .int v4)] → W p l e (rmL 1 0 0) s m args below meth c H locs 0 0 Qf (F0 m 3 ls [])) N (fun i hx3 ih3 => by
      intro H locs ls v4 q4 hn2 hW hS hl
      subst q4
      refine lv_iload hx hb (dg D_X3_numberOf (i := 2) rfl) (lv_at hl 3 rfl) ?_
      refine lv_aload_n hx hb (dg D_X3_numberOf (i := 3) rfl) rfl (lv_at hl 0 rfl) ?_
      refine r_geti (v := nI N) X hW FI_X3_22 rfl (by decide) rfl hsz (dg D_X3_numberOf (i := 4) rfl) ?_
      refine n_icmp_ge (tgt := 49) hx hb (by omega) (by omega) (dg D_X3_numberOf (i := 5) rfl) (by decide) (fun c9 => ?_) (fun c9 => ?_)
      · refine lv_iconst (v := -1) hx hb (dg D_X3_numberOf (i := 26) rfl) (by decide) ?_
        exact fin (dg D_X3_numberOf (i := 27) rfl) hW hS ⟨by unfold nuC; rw [fstN_none (p := fun i => decide (w256 b n (ds i) = w) && decide (st i = so)) (fun z hz => hn2 z (by omega)), if_neg (by omega)], rfl, rfl, rfl⟩
      · refine lv_aload_n hx hb (dg D_X3_numberOf (i := 6) rfl) rfl (lv_at hl 0 rfl) ?_
        refine r_getc (t := 63) X hW FI_X3_11 rfl (by decide) rfl (dg D_X3_numberOf (i := 7) rfl) ?_
        refine lv_iload hx hb (dg D_X3_numberOf (i := 8) rfl) (lv_at hl 3 rfl) ?_
        refine r_lald (j := i) (v := Int64.ofNat (w256 b n (ds i))) X hW rfl (by decide) rfl (by omega) (by decide) ((hNs _ (by omega)).2.1) (dg D_X3_numberOf (i := 9) rfl) ?_
        refine lv_lload_n hx hb (dg D_X3_numberOf (i := 10) rfl) rfl (lv_at hl 1 rfl) ?_
        refine W.lcmp hx hb (dg D_X3_numberOf (i := 11) rfl) ?_
        refine c_if_ne (tgt := 43) hx hb (dg D_X3_numberOf (i := 12) rfl) (by decide) (fun c21 => ?_) (fun c21 => ?_)
        · refine lv_iinc (v := nI (i + 1)) (lv' := [(4, .int (nI (i + 1))), (0, .ref (bs + 62)), (1, .long (Int64.ofNat w)), (3, .int (nI so))]) hx hb (dg D_X3_numberOf (i := 24) rfl) hl (k := 3) rfl (nI_add _ _) (by decide) rfl (fun ls hl => ?_)
          refine lv_goto (tgt := 3) hx hb (dg D_X3_numberOf (i := 25) rfl) (by decide) ?_
          exact ih3 (by omega) _ _ _ _ (congrArg nI (by omega)) (all_lt_succ (p := fun i => decide (w256 b n (ds i) = w) && decide (st i = so)) hn2 (by show (decide _ && _) = false; rw [decide_eq_false (fun z => c21 (by rw [z])), Bool.false_and])) hW hS (lv_sub hl [1, 2, 3, 0] rfl)
        · refine lv_aload_n hx hb (dg D_X3_numberOf (i := 13) rfl) rfl (lv_at hl 0 rfl) ?_
          refine r_getc (t := 64) X hW FI_X3_15 rfl (by decide) rfl (dg D_X3_numberOf (i := 14) rfl) ?_
          refine lv_iload hx hb (dg D_X3_numberOf (i := 15) rfl) (lv_at hl 3 rfl) ?_
          refine r_ald (j := i) (v := nI (st i)) X hW rfl (by decide) rfl (by omega) (by decide) ((hNs _ (by omega)).2.2.1) (dg D_X3_numberOf (i := 16) rfl) ?_
          refine lv_iload_n hx hb (dg D_X3_numberOf (i := 17) rfl) rfl (lv_at hl 2 rfl) ?_
          refine n_icmp_ne (tgt := 43) hx hb (by have := hstb i (by omega); omega) (by omega) (dg D_X3_numberOf (i := 18) rfl) (by decide) (fun c32 => ?_) (fun c32 => ?_)
          · refine lv_iinc (v := nI (i + 1)) (lv' := [(4, .int (nI (i + 1))), (0, .ref (bs + 62)), (1, .long (Int64.ofNat w)), (3, .int (nI so))]) hx hb (dg D_X3_numberOf (i := 24) rfl) hl (k := 3) rfl (nI_add _ _) (by decide) rfl (fun ls hl => ?_)
            refine lv_goto (tgt := 3) hx hb (dg D_X3_numberOf (i := 25) rfl) (by decide) ?_
            exact ih3 (by omega) _ _ _ _ (congrArg nI (by omega)) (all_lt_succ (p := fun i => decide (w256 b n (ds i) = w) && decide (st i = so)) hn2 (by show (_ && decide _) = false; rw [decide_eq_false (show ¬ st i = so from fun z => c32 (by rw [z])), Bool.and_false])) hW hS (lv_sub hl [1, 2, 3, 0] rfl)
          · refine lv_aload_n hx hb (dg D_X3_numberOf (i := 19) rfl) rfl (lv_at hl 0 rfl) ?_
            refine r_getc (t := 65) X hW FI_X3_19 rfl (by decide) rfl (dg D_X3_numberOf (i := 20) rfl) ?_
            refine lv_iload hx hb (dg D_X3_numberOf (i := 21) rfl) (lv_at hl 3 rfl) ?_
            refine r_ald (j := i) (v := nI (nu i)) X hW rfl (by decide) rfl (by omega) (by decide) ((hNs _ (by omega)).2.2.2) (dg D_X3_numberOf (i := 22) rfl) ?_
            exact fin (dg D_X3_numberOf (i := 23) rfl) hW hS ⟨by unfold nuC; rw [fstN_hit (p := fun i => decide (w256 b n (ds i) = w) && decide (st i = so)) (y := i) (by omega) (by show (decide _ && decide _) = true; rw [decide_eq_true (i64_inj (w256_lt hT (hNs i (by omega)).1) hw (by first | exact c21 | exact Classical.not_not.mp c21)), decide_eq_true (by first | exact c32 | omega)]; rfl) hn2, if_pos (by omega)], rfl, rfl, rfl⟩)
  exact loop3 0 (Nat.zero_le _) _ _ _ _ (congrArg nI (by omega)) (fun z hz => absurd hz (Nat.not_lt_zero z)) hW hS (lv_sub hl [1, 2, 3, 0] rfl)

