set_option maxHeartbeats 4000000 in
set_option maxRecDepth 100000 in
theorem c_X12_statement {l : Launch} {G : va_G} {bs : Nat} {cy : Nat → ClassId} {I : CI} {L : CL} {R : CR} (b : Nat → Int32) (n : Nat) (σ : Row) (p9 : Nat) (nm : Nm) (f9 : Bool) (hz : KZ I) (hb3 : I 73 = b) (hln : I 67 11 = nI n) (hT : TB b n) (hn : n ≤ 900) (hp : p9 ≤ n) (hTk : TokM b n I L p9) (hi : Inv σ) (hpa : I 69 = σ) (hNm : NmM b n L σ nm) (hd : DR σ) (hf : f9 = true → ∀ x y, x < 12 → y < 12 → pnt σ x y = -1) : MTi l G bs cy MX12_statement 10 [.ref (bs + 67), .int (bI f9)] I L R (fun r I1 L1 R1 => bI (okP (stm b n f9 σ nm p9)) = r ∧ Fr SNp I I1 ∧ PostM b n (stm b n f9 σ nm p9) I1 L1 ∧ FL SLp L L1 ∧ R = R1) := by
  refine MTz.of (own := RX12) pn_RX12 rfl (Nat.le_of_ble_eq_true rfl) ?_
  intro p e s m args below meth c Qf X hW hS fin ls hl
  have hx := X.1
  have hb := X.2.1
  have hR : RmOK (rmL 10 0 0) 10 := ⟨rfl, rfl⟩
  have hcs : 0 ≤ (rmL 10 0 0).cells ∧ 0 ≤ (rmL 10 0 0).slots := ⟨Nat.zero_le _, Nat.zero_le _⟩
  have hl : lv_has ls 3 [(0, .ref (bs + 67)), (1, .int (bI f9))] := hl
  have hF : Fr SNp I I := Fr.rf
  have hFL : FL SLp L L := FL.rf
  obtain ⟨hst, hnx, htk, hkw, hva, hnm9⟩ := id hTk
  have hk4 : tK b n p9 ≤ 4 := tK_le
  refine lv_aload_n hx hb (dg D_X12_statement (i := 0) rfl) rfl (lv_at hl 0 rfl) ?_
  refine r_geti (v := nI (tK b n p9)) X hW FI_X12_123 rfl (by decide) rfl htk (dg D_X12_statement (i := 1) rfl) ?_
  refine n_iconst (a := 2) hx hb (dg D_X12_statement (i := 2) rfl) rfl ?_
  refine n_icmp_eq (tgt := 14) hx hb (by omega) (by omega) (dg D_X12_statement (i := 3) rfl) (by decide) (fun c5 => ?_) (fun c5 => ?_)
  · have hk2 : tK b n p9 = 2 := by omega
    refine lv_aload_n hx hb (dg D_X12_statement (i := 8) rfl) rfl (lv_at hl 0 rfl) ?_
    refine r_geti (v := kwI b n p9) X hW FI_X12_120 rfl (by decide) rfl hkw (dg D_X12_statement (i := 9) rfl) ?_
    rcases kw_cases b n p9 with hc | ⟨j9, hj9, hc⟩
    · rw [hc]
      refine lv_tableOut (tgt := 117) hx hb (dg D_X12_statement (i := 10) rfl) (by decide) (by decide) ?_
      refine lv_aload_n hx hb (dg D_X12_statement (i := 40) rfl) rfl (lv_at hl 0 rfl) ?_
      refine n_iconst (a := 2) hx hb (dg D_X12_statement (i := 41) rfl) rfl ?_
      refine callVi X hW hS hR (c_X12_fail (I := I) (nI 2) (nI (tK b n p9)) (nI (tS b n p9)) (by first | assumption | omega | decide | exact hP.1) (by first | assumption | omega | decide | exact hP.1)) (by decide) UVX12_fail LK_X12_163 rfl (by decide) rfl rfl rfl (Nat.le_of_ble_eq_true rfl) hl hcs (dg D_X12_statement (i := 42) rfl) (fun r119 I119 L1 R1 H locs hq hW hS => ?_)
      obtain ⟨rfl, hT119, hp119_0, hp119_1, rfl, rfl⟩ := hq
      have hF : Fr SNp I I119 := Fr.tr hF hT119 (by intro a j h; simp only [SFl, SNp, Bool.or_eq_true, Bool.and_eq_true, beq_iff_eq, decide_eq_true_eq] at h ⊢; omega)
      have hb3 : I119 73 = b := (Fr.row hT119 (fun _ => rfl)).trans hb3
      have hpa : I119 69 = σ := (Fr.row hT119 (fun _ => rfl)).trans hpa
      have hln : I119 67 11 = nI n := (hT119 67 11 rfl).trans hln
      have hst : I119 67 12 = nI (tS b n p9) := (hT119 67 12 rfl).trans hst
      have htk : I119 67 14 = nI (tK b n p9) := (hT119 67 14 rfl).trans htk
      have hkw : I119 67 15 = kwI b n p9 := (hT119 67 15 rfl).trans hkw
      have hnx : I119 67 13 = nI (tE b n p9) := (hT119 67 13 rfl).trans hnx
      refine lv_istore_n (lv' := [(2, .int (bI false)), (0, .ref (bs + 67)), (1, .int (bI f9))]) hx hb (dg D_X12_statement (i := 43) rfl) rfl hl (by decide) rfl (fun ls hl => ?_)
      refine lv_iload_n hx hb (dg D_X12_statement (i := 44) rfl) rfl (lv_at hl 0 rfl) ?_
      refine z_if_ne (tgt := 129) hx hb (dg D_X12_statement (i := 45) rfl) (by decide) (fun c124 => ?_) (fun c124 => ?_)
      · exact absurd c124 (by decide)
      · refine n_iconst (a := 0) hx hb (dg D_X12_statement (i := 46) rfl) rfl ?_
        have hst9 : stm b n f9 σ nm p9 = .inl (e2 b n p9, tS b n p9) := stm_i (stBo_o (Or.inl hc))
        exact fin (dg D_X12_statement (i := 47) rfl) hW hS (show _ = bI false from rfl) ⟨by rw [hst9]; rfl, hF, by rw [hst9]; exact ⟨by rw [hp119_0, e2_I], hp119_1⟩, hFL, rfl⟩
    · rcases (show j9 = 0 ∨ j9 = 1 ∨ j9 = 2 ∨ j9 = 3 ∨ j9 = 4 ∨ j9 = 5 ∨ j9 = 6 ∨ j9 = 7 by omega) with rfl | rfl | rfl | rfl | rfl | rfl | rfl | rfl
      · rw [hc]
        refine lv_tableIn (x := nI 0) (off := 42) (tgt := 60) hx hb (dg D_X12_statement (i := 10) rfl) (by decide) (by decide) rfl (by decide) ?_
        refine lv_aload_n hx hb (dg D_X12_statement (i := 11) rfl) rfl (lv_at hl 0 rfl) ?_
        refine lv_iload_n hx hb (dg D_X12_statement (i := 12) rfl) rfl (lv_at hl 1 rfl) ?_
        refine callVi X hW hS hR (c_X12_bridge (I := I) b n σ p9 nm f9 (by first | assumption | omega | decide | exact hP.1) (by first | assumption | omega | decide | exact hP.1) (by first | assumption | omega | decide | exact hP.1) (by first | assumption | omega | decide | exact hP.1) (by first | assumption | omega | decide | exact hP.1) (by first | assumption | omega | decide | exact hP.1) (by first | assumption | omega | decide | exact hP.1) (by first | assumption | omega | decide | exact hP.1) (by first | assumption | omega | decide | exact hP.1) (by first | assumption | omega | decide | exact hP.1) (by first | assumption | omega | decide | exact hP.1)) (by decide) UVX12_bridge LK_X12_196 rfl (by decide) rfl rfl rfl (Nat.le_of_ble_eq_true rfl) hl hcs (dg D_X12_statement (i := 13) rfl) (fun r62 I62 Lc62 R1 H locs hq hW hS => ?_)
        obtain ⟨rfl, hT62, hp62_0, hL62, rfl⟩ := hq
        have hF : Fr SNp I I62 := Fr.tr hF hT62 (fun _ _ h => h)
        have hb3 : I62 73 = b := (Fr.row hT62 (fun _ => rfl)).trans hb3
        have hln : I62 67 11 = nI n := (hT62 67 11 rfl).trans hln
        have hFL : FL SLp L Lc62 := FL.tr hFL hL62 (fun _ _ h => h)
        have hNm : True := trivial
        refine lv_istore_n (lv' := [(2, .int (bI (okP (stBr b n f9 σ nm p9)))), (0, .ref (bs + 67)), (1, .int (bI f9))]) hx hb (dg D_X12_statement (i := 14) rfl) rfl hl (by decide) rfl (fun ls hl => ?_)
        refine lv_goto (tgt := 123) hx hb (dg D_X12_statement (i := 15) rfl) (by decide) ?_
        refine lv_iload_n hx hb (dg D_X12_statement (i := 44) rfl) rfl (lv_at hl 0 rfl) ?_
        refine z_if_ne (tgt := 129) hx hb (dg D_X12_statement (i := 45) rfl) (by decide) (fun c124 => ?_) (fun c124 => ?_)
        · obtain ⟨π, nm2, q9, hr9⟩ := okP_ex c124
          have hPM := hp62_0
          rw [hr9] at hPM
          obtain ⟨hpa, hTk, hNm, hz⟩ := hPM
          have hbo : stBo b n f9 σ nm p9 = .inr (π, nm2, q9) := (stBo_0 hc).trans hr9
          have hqn := (Gd_Bo hp hi hd hf _ _ _ hbo).2.1
          obtain ⟨hst, hnx, htk, hkw, hva, hnm9⟩ := id hTk
          have hKB2 := tK_le (b := b) (n := n) (p := q9)
          refine lv_aload_n hx hb (dg D_X12_statement (i := 48) rfl) rfl (lv_at hl 1 rfl) ?_
          refine r_geti (v := nI (tK b n q9)) X hW FI_X12_123 rfl (by decide) rfl htk (dg D_X12_statement (i := 49) rfl) ?_
          refine n_iconst (a := 4) hx hb (dg D_X12_statement (i := 50) rfl) rfl ?_
          refine n_icmp_ne (tgt := 144) hx hb (by omega) (by omega) (dg D_X12_statement (i := 51) rfl) (by decide) (fun c134 => ?_) (fun c134 => ?_)
          · refine lv_aload_n hx hb (dg D_X12_statement (i := 55) rfl) rfl (lv_at hl 1 rfl) ?_
            refine n_iconst (a := 2) hx hb (dg D_X12_statement (i := 56) rfl) rfl ?_
            refine callVi X hW hS hR (c_X12_fail (I := I62) (nI 2) (nI (tK b n q9)) (nI (tS b n q9)) (by first | assumption | omega | decide | exact hP.1) (by first | assumption | omega | decide | exact hP.1)) (by decide) UVX12_fail LK_X12_163 rfl (by decide) rfl rfl rfl (Nat.le_of_ble_eq_true rfl) hl hcs (dg D_X12_statement (i := 57) rfl) (fun r146 I146 L1 R1 H locs hq hW hS => ?_)
            obtain ⟨rfl, hT146, hp146_0, hp146_1, rfl, rfl⟩ := hq
            have hF : Fr SNp I I146 := Fr.tr hF hT146 (by intro a j h; simp only [SFl, SNp, Bool.or_eq_true, Bool.and_eq_true, beq_iff_eq, decide_eq_true_eq] at h ⊢; omega)
            have hb3 : I146 73 = b := (Fr.row hT146 (fun _ => rfl)).trans hb3
            have hpa : I146 69 = π := (Fr.row hT146 (fun _ => rfl)).trans hpa
            have hln : I146 67 11 = nI n := (hT146 67 11 rfl).trans hln
            have hst : I146 67 12 = nI (tS b n q9) := (hT146 67 12 rfl).trans hst
            have htk : I146 67 14 = nI (tK b n q9) := (hT146 67 14 rfl).trans htk
            have hkw : I146 67 15 = kwI b n q9 := (hT146 67 15 rfl).trans hkw
            have hnx : I146 67 13 = nI (tE b n q9) := (hT146 67 13 rfl).trans hnx
            have hst9 : stm b n f9 σ nm p9 = .inl (e2 b n q9, tS b n q9) := stm_n hbo (by omega)
            exact fin (dg D_X12_statement (i := 58) rfl) hW hS rfl ⟨by rw [hst9]; rfl, hF, by rw [hst9]; exact ⟨by rw [hp146_0, e2_I], hp146_1⟩, hFL, rfl⟩
          · refine lv_aload_n hx hb (dg D_X12_statement (i := 52) rfl) rfl (lv_at hl 1 rfl) ?_
            refine callVi X hW hS hR (c_X12_advance (I := I62) b n (tE b n q9) (by first | assumption | omega | decide | exact hP.1) (by first | assumption | omega | decide | exact hP.1) (hnx) (by first | assumption | omega | decide | exact hP.1) (by first | assumption | omega | decide | exact hP.1) (tE_le hqn)) (by decide) UVX12_advance LK_X12_169 rfl (by decide) rfl rfl rfl (Nat.le_of_ble_eq_true rfl) hl hcs (dg D_X12_statement (i := 53) rfl) (fun r138 I138 Lc138 R1 H locs hq hW hS => ?_)
            obtain ⟨rfl, hT138, hp138_0, hL138, rfl⟩ := hq
            have hF : Fr SNp I I138 := Fr.tr hF hT138 (by intro a j h; simp only [STk, SNp, Bool.or_eq_true, Bool.and_eq_true, beq_iff_eq, decide_eq_true_eq] at h ⊢; omega)
            have hb3 : I138 73 = b := (Fr.row hT138 (fun _ => rfl)).trans hb3
            have hz : KZ I138 := KZ.fr hz hT138 rfl rfl
            have hpa : I138 69 = π := (Fr.row hT138 (fun _ => rfl)).trans hpa
            have hln : I138 67 11 = nI n := (hT138 67 11 rfl).trans hln
            have hFL : FL SLp L Lc138 := FL.tr hFL hL138 (by intro a j h; simp only [SLk, SLp, Bool.or_eq_true, Bool.and_eq_true, beq_iff_eq, decide_eq_true_eq] at h ⊢; omega)
            have hNm : NmM b n Lc138 π nm2 := NmM.fl hNm hL138 (fun _ => rfl)
            refine lv_goto (tgt := 149) hx hb (dg D_X12_statement (i := 54) rfl) (by decide) ?_
            have hst9 : stm b n f9 σ nm p9 = .inr (π, nm2, tE b n q9) := stm_y hbo (by omega)
            exact fin (dg D_X12_statement (i := 58) rfl) hW hS rfl ⟨by rw [hst9]; rfl, hF, by rw [hst9]; exact ⟨hpa, hp138_0, hNm, hz⟩, hFL, rfl⟩
        · refine n_iconst (a := 0) hx hb (dg D_X12_statement (i := 46) rfl) rfl ?_
          have hst9 : stm b n f9 σ nm p9 = stBr b n f9 σ nm p9 := by unfold stm; rw [stBo_0 hc]; exact seK_l c124
          exact fin (dg D_X12_statement (i := 47) rfl) hW hS (show _ = bI false from rfl) ⟨by rw [hst9, c124], hF, by rw [hst9]; exact hp62_0, hFL, rfl⟩
      · rw [hc]
        refine lv_tableIn (x := nI 1) (off := 51) (tgt := 69) hx hb (dg D_X12_statement (i := 10) rfl) (by decide) (by decide) rfl (by decide) ?_
        refine lv_aload_n hx hb (dg D_X12_statement (i := 16) rfl) rfl (lv_at hl 0 rfl) ?_
        refine callVi X hW hS hR (c_X12_lane (I := I) b n σ p9 nm (by first | assumption | omega | decide | exact hP.1) (by first | assumption | omega | decide | exact hP.1) (by first | assumption | omega | decide | exact hP.1) (by first | assumption | omega | decide | exact hP.1) (by first | assumption | omega | decide | exact hP.1) (by first | assumption | omega | decide | exact hP.1) (by first | assumption | omega | decide | exact hP.1) (by first | assumption | omega | decide | exact hP.1) (by first | assumption | omega | decide | exact hP.1) (by first | assumption | omega | decide | exact hP.1) (by first | assumption | omega | decide | exact hP.1)) (by decide) UVX12_lane LK_X12_199 rfl (by decide) rfl rfl rfl (Nat.le_of_ble_eq_true rfl) hl hcs (dg D_X12_statement (i := 17) rfl) (fun r70 I70 Lc70 R1 H locs hq hW hS => ?_)
        obtain ⟨rfl, hT70, hp70_0, hL70, rfl⟩ := hq
        have hF : Fr SNp I I70 := Fr.tr hF hT70 (fun _ _ h => h)
        have hb3 : I70 73 = b := (Fr.row hT70 (fun _ => rfl)).trans hb3
        have hln : I70 67 11 = nI n := (hT70 67 11 rfl).trans hln
        have hFL : FL SLp L Lc70 := FL.tr hFL hL70 (fun _ _ h => h)
        have hNm : True := trivial
        refine lv_istore_n (lv' := [(2, .int (bI (okP (stLa b n σ nm p9)))), (0, .ref (bs + 67)), (1, .int (bI f9))]) hx hb (dg D_X12_statement (i := 18) rfl) rfl hl (by decide) rfl (fun ls hl => ?_)
        refine lv_goto (tgt := 123) hx hb (dg D_X12_statement (i := 19) rfl) (by decide) ?_
        refine lv_iload_n hx hb (dg D_X12_statement (i := 44) rfl) rfl (lv_at hl 0 rfl) ?_
        refine z_if_ne (tgt := 129) hx hb (dg D_X12_statement (i := 45) rfl) (by decide) (fun c124 => ?_) (fun c124 => ?_)
        · obtain ⟨π, nm2, q9, hr9⟩ := okP_ex c124
          have hPM := hp70_0
          rw [hr9] at hPM
          obtain ⟨hpa, hTk, hNm, hz⟩ := hPM
          have hbo : stBo b n f9 σ nm p9 = .inr (π, nm2, q9) := (stBo_1 hc).trans hr9
          have hqn := (Gd_Bo hp hi hd hf _ _ _ hbo).2.1
          obtain ⟨hst, hnx, htk, hkw, hva, hnm9⟩ := id hTk
          have hKB2 := tK_le (b := b) (n := n) (p := q9)
          refine lv_aload_n hx hb (dg D_X12_statement (i := 48) rfl) rfl (lv_at hl 1 rfl) ?_
          refine r_geti (v := nI (tK b n q9)) X hW FI_X12_123 rfl (by decide) rfl htk (dg D_X12_statement (i := 49) rfl) ?_
          refine n_iconst (a := 4) hx hb (dg D_X12_statement (i := 50) rfl) rfl ?_
          refine n_icmp_ne (tgt := 144) hx hb (by omega) (by omega) (dg D_X12_statement (i := 51) rfl) (by decide) (fun c134 => ?_) (fun c134 => ?_)
          · refine lv_aload_n hx hb (dg D_X12_statement (i := 55) rfl) rfl (lv_at hl 1 rfl) ?_
            refine n_iconst (a := 2) hx hb (dg D_X12_statement (i := 56) rfl) rfl ?_
            refine callVi X hW hS hR (c_X12_fail (I := I70) (nI 2) (nI (tK b n q9)) (nI (tS b n q9)) (by first | assumption | omega | decide | exact hP.1) (by first | assumption | omega | decide | exact hP.1)) (by decide) UVX12_fail LK_X12_163 rfl (by decide) rfl rfl rfl (Nat.le_of_ble_eq_true rfl) hl hcs (dg D_X12_statement (i := 57) rfl) (fun r146 I146 L1 R1 H locs hq hW hS => ?_)
            obtain ⟨rfl, hT146, hp146_0, hp146_1, rfl, rfl⟩ := hq
            have hF : Fr SNp I I146 := Fr.tr hF hT146 (by intro a j h; simp only [SFl, SNp, Bool.or_eq_true, Bool.and_eq_true, beq_iff_eq, decide_eq_true_eq] at h ⊢; omega)
            have hb3 : I146 73 = b := (Fr.row hT146 (fun _ => rfl)).trans hb3
            have hpa : I146 69 = π := (Fr.row hT146 (fun _ => rfl)).trans hpa
            have hln : I146 67 11 = nI n := (hT146 67 11 rfl).trans hln
            have hst : I146 67 12 = nI (tS b n q9) := (hT146 67 12 rfl).trans hst
            have htk : I146 67 14 = nI (tK b n q9) := (hT146 67 14 rfl).trans htk
            have hkw : I146 67 15 = kwI b n q9 := (hT146 67 15 rfl).trans hkw
            have hnx : I146 67 13 = nI (tE b n q9) := (hT146 67 13 rfl).trans hnx
            have hst9 : stm b n f9 σ nm p9 = .inl (e2 b n q9, tS b n q9) := stm_n hbo (by omega)
            exact fin (dg D_X12_statement (i := 58) rfl) hW hS rfl ⟨by rw [hst9]; rfl, hF, by rw [hst9]; exact ⟨by rw [hp146_0, e2_I], hp146_1⟩, hFL, rfl⟩
          · refine lv_aload_n hx hb (dg D_X12_statement (i := 52) rfl) rfl (lv_at hl 1 rfl) ?_
            refine callVi X hW hS hR (c_X12_advance (I := I70) b n (tE b n q9) (by first | assumption | omega | decide | exact hP.1) (by first | assumption | omega | decide | exact hP.1) (hnx) (by first | assumption | omega | decide | exact hP.1) (by first | assumption | omega | decide | exact hP.1) (tE_le hqn)) (by decide) UVX12_advance LK_X12_169 rfl (by decide) rfl rfl rfl (Nat.le_of_ble_eq_true rfl) hl hcs (dg D_X12_statement (i := 53) rfl) (fun r138 I138 Lc138 R1 H locs hq hW hS => ?_)
            obtain ⟨rfl, hT138, hp138_0, hL138, rfl⟩ := hq
            have hF : Fr SNp I I138 := Fr.tr hF hT138 (by intro a j h; simp only [STk, SNp, Bool.or_eq_true, Bool.and_eq_true, beq_iff_eq, decide_eq_true_eq] at h ⊢; omega)
            have hb3 : I138 73 = b := (Fr.row hT138 (fun _ => rfl)).trans hb3
            have hz : KZ I138 := KZ.fr hz hT138 rfl rfl
            have hpa : I138 69 = π := (Fr.row hT138 (fun _ => rfl)).trans hpa
            have hln : I138 67 11 = nI n := (hT138 67 11 rfl).trans hln
            have hFL : FL SLp L Lc138 := FL.tr hFL hL138 (by intro a j h; simp only [SLk, SLp, Bool.or_eq_true, Bool.and_eq_true, beq_iff_eq, decide_eq_true_eq] at h ⊢; omega)
            have hNm : NmM b n Lc138 π nm2 := NmM.fl hNm hL138 (fun _ => rfl)
            refine lv_goto (tgt := 149) hx hb (dg D_X12_statement (i := 54) rfl) (by decide) ?_
            have hst9 : stm b n f9 σ nm p9 = .inr (π, nm2, tE b n q9) := stm_y hbo (by omega)
            exact fin (dg D_X12_statement (i := 58) rfl) hW hS rfl ⟨by rw [hst9]; rfl, hF, by rw [hst9]; exact ⟨hpa, hp138_0, hNm, hz⟩, hFL, rfl⟩
        · refine n_iconst (a := 0) hx hb (dg D_X12_statement (i := 46) rfl) rfl ?_
          have hst9 : stm b n f9 σ nm p9 = stLa b n σ nm p9 := by unfold stm; rw [stBo_1 hc]; exact seK_l c124
          exact fin (dg D_X12_statement (i := 47) rfl) hW hS (show _ = bI false from rfl) ⟨by rw [hst9, c124], hF, by rw [hst9]; exact hp70_0, hFL, rfl⟩
      · rw [hc]
        refine lv_tableIn (x := nI 2) (off := 59) (tgt := 77) hx hb (dg D_X12_statement (i := 10) rfl) (by decide) (by decide) rfl (by decide) ?_
        refine lv_aload_n hx hb (dg D_X12_statement (i := 20) rfl) rfl (lv_at hl 0 rfl) ?_
        refine callVi X hW hS hR (c_X12_span (I := I) b n σ p9 nm (by first | assumption | omega | decide | exact hP.1) (by first | assumption | omega | decide | exact hP.1) (by first | assumption | omega | decide | exact hP.1) (by first | assumption | omega | decide | exact hP.1) (by first | assumption | omega | decide | exact hP.1) (by first | assumption | omega | decide | exact hP.1) (by first | assumption | omega | decide | exact hP.1) (by first | assumption | omega | decide | exact hP.1) (by first | assumption | omega | decide | exact hP.1) (by first | assumption | omega | decide | exact hP.1) (by first | assumption | omega | decide | exact hP.1)) (by decide) UVX12_span LK_X12_202 rfl (by decide) rfl rfl rfl (Nat.le_of_ble_eq_true rfl) hl hcs (dg D_X12_statement (i := 21) rfl) (fun r78 I78 Lc78 R1 H locs hq hW hS => ?_)
        obtain ⟨rfl, hT78, hp78_0, hL78, rfl⟩ := hq
        have hF : Fr SNp I I78 := Fr.tr hF hT78 (fun _ _ h => h)
        have hb3 : I78 73 = b := (Fr.row hT78 (fun _ => rfl)).trans hb3
        have hln : I78 67 11 = nI n := (hT78 67 11 rfl).trans hln
        have hFL : FL SLp L Lc78 := FL.tr hFL hL78 (fun _ _ h => h)
        have hNm : True := trivial
        refine lv_istore_n (lv' := [(2, .int (bI (okP (stSp b n σ nm p9)))), (0, .ref (bs + 67)), (1, .int (bI f9))]) hx hb (dg D_X12_statement (i := 22) rfl) rfl hl (by decide) rfl (fun ls hl => ?_)
        refine lv_goto (tgt := 123) hx hb (dg D_X12_statement (i := 23) rfl) (by decide) ?_
        refine lv_iload_n hx hb (dg D_X12_statement (i := 44) rfl) rfl (lv_at hl 0 rfl) ?_
        refine z_if_ne (tgt := 129) hx hb (dg D_X12_statement (i := 45) rfl) (by decide) (fun c124 => ?_) (fun c124 => ?_)
        · obtain ⟨π, nm2, q9, hr9⟩ := okP_ex c124
          have hPM := hp78_0
          rw [hr9] at hPM
          obtain ⟨hpa, hTk, hNm, hz⟩ := hPM
          have hbo : stBo b n f9 σ nm p9 = .inr (π, nm2, q9) := (stBo_2 hc).trans hr9
          have hqn := (Gd_Bo hp hi hd hf _ _ _ hbo).2.1
          obtain ⟨hst, hnx, htk, hkw, hva, hnm9⟩ := id hTk
          have hKB2 := tK_le (b := b) (n := n) (p := q9)
          refine lv_aload_n hx hb (dg D_X12_statement (i := 48) rfl) rfl (lv_at hl 1 rfl) ?_
          refine r_geti (v := nI (tK b n q9)) X hW FI_X12_123 rfl (by decide) rfl htk (dg D_X12_statement (i := 49) rfl) ?_
          refine n_iconst (a := 4) hx hb (dg D_X12_statement (i := 50) rfl) rfl ?_
          refine n_icmp_ne (tgt := 144) hx hb (by omega) (by omega) (dg D_X12_statement (i := 51) rfl) (by decide) (fun c134 => ?_) (fun c134 => ?_)
          · refine lv_aload_n hx hb (dg D_X12_statement (i := 55) rfl) rfl (lv_at hl 1 rfl) ?_
            refine n_iconst (a := 2) hx hb (dg D_X12_statement (i := 56) rfl) rfl ?_
            refine callVi X hW hS hR (c_X12_fail (I := I78) (nI 2) (nI (tK b n q9)) (nI (tS b n q9)) (by first | assumption | omega | decide | exact hP.1) (by first | assumption | omega | decide | exact hP.1)) (by decide) UVX12_fail LK_X12_163 rfl (by decide) rfl rfl rfl (Nat.le_of_ble_eq_true rfl) hl hcs (dg D_X12_statement (i := 57) rfl) (fun r146 I146 L1 R1 H locs hq hW hS => ?_)
            obtain ⟨rfl, hT146, hp146_0, hp146_1, rfl, rfl⟩ := hq
            have hF : Fr SNp I I146 := Fr.tr hF hT146 (by intro a j h; simp only [SFl, SNp, Bool.or_eq_true, Bool.and_eq_true, beq_iff_eq, decide_eq_true_eq] at h ⊢; omega)
            have hb3 : I146 73 = b := (Fr.row hT146 (fun _ => rfl)).trans hb3
            have hpa : I146 69 = π := (Fr.row hT146 (fun _ => rfl)).trans hpa
            have hln : I146 67 11 = nI n := (hT146 67 11 rfl).trans hln
            have hst : I146 67 12 = nI (tS b n q9) := (hT146 67 12 rfl).trans hst
            have htk : I146 67 14 = nI (tK b n q9) := (hT146 67 14 rfl).trans htk
            have hkw : I146 67 15 = kwI b n q9 := (hT146 67 15 rfl).trans hkw
            have hnx : I146 67 13 = nI (tE b n q9) := (hT146 67 13 rfl).trans hnx
            have hst9 : stm b n f9 σ nm p9 = .inl (e2 b n q9, tS b n q9) := stm_n hbo (by omega)
            exact fin (dg D_X12_statement (i := 58) rfl) hW hS rfl ⟨by rw [hst9]; rfl, hF, by rw [hst9]; exact ⟨by rw [hp146_0, e2_I], hp146_1⟩, hFL, rfl⟩
          · refine lv_aload_n hx hb (dg D_X12_statement (i := 52) rfl) rfl (lv_at hl 1 rfl) ?_
            refine callVi X hW hS hR (c_X12_advance (I := I78) b n (tE b n q9) (by first | assumption | omega | decide | exact hP.1) (by first | assumption | omega | decide | exact hP.1) (hnx) (by first | assumption | omega | decide | exact hP.1) (by first | assumption | omega | decide | exact hP.1) (tE_le hqn)) (by decide) UVX12_advance LK_X12_169 rfl (by decide) rfl rfl rfl (Nat.le_of_ble_eq_true rfl) hl hcs (dg D_X12_statement (i := 53) rfl) (fun r138 I138 Lc138 R1 H locs hq hW hS => ?_)
            obtain ⟨rfl, hT138, hp138_0, hL138, rfl⟩ := hq
            have hF : Fr SNp I I138 := Fr.tr hF hT138 (by intro a j h; simp only [STk, SNp, Bool.or_eq_true, Bool.and_eq_true, beq_iff_eq, decide_eq_true_eq] at h ⊢; omega)
            have hb3 : I138 73 = b := (Fr.row hT138 (fun _ => rfl)).trans hb3
            have hz : KZ I138 := KZ.fr hz hT138 rfl rfl
            have hpa : I138 69 = π := (Fr.row hT138 (fun _ => rfl)).trans hpa
            have hln : I138 67 11 = nI n := (hT138 67 11 rfl).trans hln
            have hFL : FL SLp L Lc138 := FL.tr hFL hL138 (by intro a j h; simp only [SLk, SLp, Bool.or_eq_true, Bool.and_eq_true, beq_iff_eq, decide_eq_true_eq] at h ⊢; omega)
            have hNm : NmM b n Lc138 π nm2 := NmM.fl hNm hL138 (fun _ => rfl)
            refine lv_goto (tgt := 149) hx hb (dg D_X12_statement (i := 54) rfl) (by decide) ?_
            have hst9 : stm b n f9 σ nm p9 = .inr (π, nm2, tE b n q9) := stm_y hbo (by omega)
            exact fin (dg D_X12_statement (i := 58) rfl) hW hS rfl ⟨by rw [hst9]; rfl, hF, by rw [hst9]; exact ⟨hpa, hp138_0, hNm, hz⟩, hFL, rfl⟩
        · refine n_iconst (a := 0) hx hb (dg D_X12_statement (i := 46) rfl) rfl ?_
          have hst9 : stm b n f9 σ nm p9 = stSp b n σ nm p9 := by unfold stm; rw [stBo_2 hc]; exact seK_l c124
          exact fin (dg D_X12_statement (i := 47) rfl) hW hS (show _ = bI false from rfl) ⟨by rw [hst9, c124], hF, by rw [hst9]; exact hp78_0, hFL, rfl⟩
      · rw [hc]
        refine lv_tableIn (x := nI 3) (off := 67) (tgt := 85) hx hb (dg D_X12_statement (i := 10) rfl) (by decide) (by decide) rfl (by decide) ?_
        refine lv_aload_n hx hb (dg D_X12_statement (i := 24) rfl) rfl (lv_at hl 0 rfl) ?_
        refine callVi X hW hS hR (c_X12_gang (I := I) b n σ p9 nm (by first | assumption | omega | decide | exact hP.1) (by first | assumption | omega | decide | exact hP.1) (by first | assumption | omega | decide | exact hP.1) (by first | assumption | omega | decide | exact hP.1) (by first | assumption | omega | decide | exact hP.1) (by first | assumption | omega | decide | exact hP.1) (by first | assumption | omega | decide | exact hP.1) (by first | assumption | omega | decide | exact hP.1) (by first | assumption | omega | decide | exact hP.1) (by first | assumption | omega | decide | exact hP.1) (by first | assumption | omega | decide | exact hP.1)) (by decide) UVX12_gang LK_X12_205 rfl (by decide) rfl rfl rfl (Nat.le_of_ble_eq_true rfl) hl hcs (dg D_X12_statement (i := 25) rfl) (fun r86 I86 Lc86 R1 H locs hq hW hS => ?_)
        obtain ⟨rfl, hT86, hp86_0, hL86, rfl⟩ := hq
        have hF : Fr SNp I I86 := Fr.tr hF hT86 (fun _ _ h => h)
        have hb3 : I86 73 = b := (Fr.row hT86 (fun _ => rfl)).trans hb3
        have hln : I86 67 11 = nI n := (hT86 67 11 rfl).trans hln
        have hFL : FL SLp L Lc86 := FL.tr hFL hL86 (fun _ _ h => h)
        have hNm : True := trivial
        refine lv_istore_n (lv' := [(2, .int (bI (okP (stGa b n σ nm p9)))), (0, .ref (bs + 67)), (1, .int (bI f9))]) hx hb (dg D_X12_statement (i := 26) rfl) rfl hl (by decide) rfl (fun ls hl => ?_)
        refine lv_goto (tgt := 123) hx hb (dg D_X12_statement (i := 27) rfl) (by decide) ?_
        refine lv_iload_n hx hb (dg D_X12_statement (i := 44) rfl) rfl (lv_at hl 0 rfl) ?_
        refine z_if_ne (tgt := 129) hx hb (dg D_X12_statement (i := 45) rfl) (by decide) (fun c124 => ?_) (fun c124 => ?_)
        · obtain ⟨π, nm2, q9, hr9⟩ := okP_ex c124
          have hPM := hp86_0
          rw [hr9] at hPM
          obtain ⟨hpa, hTk, hNm, hz⟩ := hPM
          have hbo : stBo b n f9 σ nm p9 = .inr (π, nm2, q9) := (stBo_3 hc).trans hr9
          have hqn := (Gd_Bo hp hi hd hf _ _ _ hbo).2.1
          obtain ⟨hst, hnx, htk, hkw, hva, hnm9⟩ := id hTk
          have hKB2 := tK_le (b := b) (n := n) (p := q9)
          refine lv_aload_n hx hb (dg D_X12_statement (i := 48) rfl) rfl (lv_at hl 1 rfl) ?_
          refine r_geti (v := nI (tK b n q9)) X hW FI_X12_123 rfl (by decide) rfl htk (dg D_X12_statement (i := 49) rfl) ?_
          refine n_iconst (a := 4) hx hb (dg D_X12_statement (i := 50) rfl) rfl ?_
          refine n_icmp_ne (tgt := 144) hx hb (by omega) (by omega) (dg D_X12_statement (i := 51) rfl) (by decide) (fun c134 => ?_) (fun c134 => ?_)
          · refine lv_aload_n hx hb (dg D_X12_statement (i := 55) rfl) rfl (lv_at hl 1 rfl) ?_
            refine n_iconst (a := 2) hx hb (dg D_X12_statement (i := 56) rfl) rfl ?_
            refine callVi X hW hS hR (c_X12_fail (I := I86) (nI 2) (nI (tK b n q9)) (nI (tS b n q9)) (by first | assumption | omega | decide | exact hP.1) (by first | assumption | omega | decide | exact hP.1)) (by decide) UVX12_fail LK_X12_163 rfl (by decide) rfl rfl rfl (Nat.le_of_ble_eq_true rfl) hl hcs (dg D_X12_statement (i := 57) rfl) (fun r146 I146 L1 R1 H locs hq hW hS => ?_)
            obtain ⟨rfl, hT146, hp146_0, hp146_1, rfl, rfl⟩ := hq
            have hF : Fr SNp I I146 := Fr.tr hF hT146 (by intro a j h; simp only [SFl, SNp, Bool.or_eq_true, Bool.and_eq_true, beq_iff_eq, decide_eq_true_eq] at h ⊢; omega)
            have hb3 : I146 73 = b := (Fr.row hT146 (fun _ => rfl)).trans hb3
            have hpa : I146 69 = π := (Fr.row hT146 (fun _ => rfl)).trans hpa
            have hln : I146 67 11 = nI n := (hT146 67 11 rfl).trans hln
            have hst : I146 67 12 = nI (tS b n q9) := (hT146 67 12 rfl).trans hst
            have htk : I146 67 14 = nI (tK b n q9) := (hT146 67 14 rfl).trans htk
            have hkw : I146 67 15 = kwI b n q9 := (hT146 67 15 rfl).trans hkw
            have hnx : I146 67 13 = nI (tE b n q9) := (hT146 67 13 rfl).trans hnx
            have hst9 : stm b n f9 σ nm p9 = .inl (e2 b n q9, tS b n q9) := stm_n hbo (by omega)
            exact fin (dg D_X12_statement (i := 58) rfl) hW hS rfl ⟨by rw [hst9]; rfl, hF, by rw [hst9]; exact ⟨by rw [hp146_0, e2_I], hp146_1⟩, hFL, rfl⟩
          · refine lv_aload_n hx hb (dg D_X12_statement (i := 52) rfl) rfl (lv_at hl 1 rfl) ?_
            refine callVi X hW hS hR (c_X12_advance (I := I86) b n (tE b n q9) (by first | assumption | omega | decide | exact hP.1) (by first | assumption | omega | decide | exact hP.1) (hnx) (by first | assumption | omega | decide | exact hP.1) (by first | assumption | omega | decide | exact hP.1) (tE_le hqn)) (by decide) UVX12_advance LK_X12_169 rfl (by decide) rfl rfl rfl (Nat.le_of_ble_eq_true rfl) hl hcs (dg D_X12_statement (i := 53) rfl) (fun r138 I138 Lc138 R1 H locs hq hW hS => ?_)
            obtain ⟨rfl, hT138, hp138_0, hL138, rfl⟩ := hq
            have hF : Fr SNp I I138 := Fr.tr hF hT138 (by intro a j h; simp only [STk, SNp, Bool.or_eq_true, Bool.and_eq_true, beq_iff_eq, decide_eq_true_eq] at h ⊢; omega)
            have hb3 : I138 73 = b := (Fr.row hT138 (fun _ => rfl)).trans hb3
            have hz : KZ I138 := KZ.fr hz hT138 rfl rfl
            have hpa : I138 69 = π := (Fr.row hT138 (fun _ => rfl)).trans hpa
            have hln : I138 67 11 = nI n := (hT138 67 11 rfl).trans hln
            have hFL : FL SLp L Lc138 := FL.tr hFL hL138 (by intro a j h; simp only [SLk, SLp, Bool.or_eq_true, Bool.and_eq_true, beq_iff_eq, decide_eq_true_eq] at h ⊢; omega)
            have hNm : NmM b n Lc138 π nm2 := NmM.fl hNm hL138 (fun _ => rfl)
            refine lv_goto (tgt := 149) hx hb (dg D_X12_statement (i := 54) rfl) (by decide) ?_
            have hst9 : stm b n f9 σ nm p9 = .inr (π, nm2, tE b n q9) := stm_y hbo (by omega)
            exact fin (dg D_X12_statement (i := 58) rfl) hW hS rfl ⟨by rw [hst9]; rfl, hF, by rw [hst9]; exact ⟨hpa, hp138_0, hNm, hz⟩, hFL, rfl⟩
        · refine n_iconst (a := 0) hx hb (dg D_X12_statement (i := 46) rfl) rfl ?_
          have hst9 : stm b n f9 σ nm p9 = stGa b n σ nm p9 := by unfold stm; rw [stBo_3 hc]; exact seK_l c124
          exact fin (dg D_X12_statement (i := 47) rfl) hW hS (show _ = bI false from rfl) ⟨by rw [hst9, c124], hF, by rw [hst9]; exact hp86_0, hFL, rfl⟩
      · rw [hc]
        refine lv_tableIn (x := nI 4) (off := 75) (tgt := 93) hx hb (dg D_X12_statement (i := 10) rfl) (by decide) (by decide) rfl (by decide) ?_
        refine lv_aload_n hx hb (dg D_X12_statement (i := 28) rfl) rfl (lv_at hl 0 rfl) ?_
        refine callVi X hW hS hR (c_X12_weather (I := I) b n σ p9 nm (by first | assumption | omega | decide | exact hP.1) (by first | assumption | omega | decide | exact hP.1) (by first | assumption | omega | decide | exact hP.1) (by first | assumption | omega | decide | exact hP.1) (by first | assumption | omega | decide | exact hP.1) (by first | assumption | omega | decide | exact hP.1) (by first | assumption | omega | decide | exact hP.1) (by first | assumption | omega | decide | exact hP.1) (by first | assumption | omega | decide | exact hP.1) (by first | assumption | omega | decide | exact hP.1) (by first | assumption | omega | decide | exact hP.1)) (by decide) UVX12_weather LK_X12_208 rfl (by decide) rfl rfl rfl (Nat.le_of_ble_eq_true rfl) hl hcs (dg D_X12_statement (i := 29) rfl) (fun r94 I94 Lc94 R1 H locs hq hW hS => ?_)
        obtain ⟨rfl, hT94, hp94_0, hL94, rfl⟩ := hq
        have hF : Fr SNp I I94 := Fr.tr hF hT94 (fun _ _ h => h)
        have hb3 : I94 73 = b := (Fr.row hT94 (fun _ => rfl)).trans hb3
        have hln : I94 67 11 = nI n := (hT94 67 11 rfl).trans hln
        have hFL : FL SLp L Lc94 := FL.tr hFL hL94 (fun _ _ h => h)
        have hNm : True := trivial
        refine lv_istore_n (lv' := [(2, .int (bI (okP (stWe b n σ nm p9)))), (0, .ref (bs + 67)), (1, .int (bI f9))]) hx hb (dg D_X12_statement (i := 30) rfl) rfl hl (by decide) rfl (fun ls hl => ?_)
        refine lv_goto (tgt := 123) hx hb (dg D_X12_statement (i := 31) rfl) (by decide) ?_
        refine lv_iload_n hx hb (dg D_X12_statement (i := 44) rfl) rfl (lv_at hl 0 rfl) ?_
        refine z_if_ne (tgt := 129) hx hb (dg D_X12_statement (i := 45) rfl) (by decide) (fun c124 => ?_) (fun c124 => ?_)
        · obtain ⟨π, nm2, q9, hr9⟩ := okP_ex c124
          have hPM := hp94_0
          rw [hr9] at hPM
          obtain ⟨hpa, hTk, hNm, hz⟩ := hPM
          have hbo : stBo b n f9 σ nm p9 = .inr (π, nm2, q9) := (stBo_4 hc).trans hr9
          have hqn := (Gd_Bo hp hi hd hf _ _ _ hbo).2.1
          obtain ⟨hst, hnx, htk, hkw, hva, hnm9⟩ := id hTk
          have hKB2 := tK_le (b := b) (n := n) (p := q9)
          refine lv_aload_n hx hb (dg D_X12_statement (i := 48) rfl) rfl (lv_at hl 1 rfl) ?_
          refine r_geti (v := nI (tK b n q9)) X hW FI_X12_123 rfl (by decide) rfl htk (dg D_X12_statement (i := 49) rfl) ?_
          refine n_iconst (a := 4) hx hb (dg D_X12_statement (i := 50) rfl) rfl ?_
          refine n_icmp_ne (tgt := 144) hx hb (by omega) (by omega) (dg D_X12_statement (i := 51) rfl) (by decide) (fun c134 => ?_) (fun c134 => ?_)
          · refine lv_aload_n hx hb (dg D_X12_statement (i := 55) rfl) rfl (lv_at hl 1 rfl) ?_
            refine n_iconst (a := 2) hx hb (dg D_X12_statement (i := 56) rfl) rfl ?_
            refine callVi X hW hS hR (c_X12_fail (I := I94) (nI 2) (nI (tK b n q9)) (nI (tS b n q9)) (by first | assumption | omega | decide | exact hP.1) (by first | assumption | omega | decide | exact hP.1)) (by decide) UVX12_fail LK_X12_163 rfl (by decide) rfl rfl rfl (Nat.le_of_ble_eq_true rfl) hl hcs (dg D_X12_statement (i := 57) rfl) (fun r146 I146 L1 R1 H locs hq hW hS => ?_)
            obtain ⟨rfl, hT146, hp146_0, hp146_1, rfl, rfl⟩ := hq
            have hF : Fr SNp I I146 := Fr.tr hF hT146 (by intro a j h; simp only [SFl, SNp, Bool.or_eq_true, Bool.and_eq_true, beq_iff_eq, decide_eq_true_eq] at h ⊢; omega)
            have hb3 : I146 73 = b := (Fr.row hT146 (fun _ => rfl)).trans hb3
            have hpa : I146 69 = π := (Fr.row hT146 (fun _ => rfl)).trans hpa
            have hln : I146 67 11 = nI n := (hT146 67 11 rfl).trans hln
            have hst : I146 67 12 = nI (tS b n q9) := (hT146 67 12 rfl).trans hst
            have htk : I146 67 14 = nI (tK b n q9) := (hT146 67 14 rfl).trans htk
            have hkw : I146 67 15 = kwI b n q9 := (hT146 67 15 rfl).trans hkw
            have hnx : I146 67 13 = nI (tE b n q9) := (hT146 67 13 rfl).trans hnx
            have hst9 : stm b n f9 σ nm p9 = .inl (e2 b n q9, tS b n q9) := stm_n hbo (by omega)
            exact fin (dg D_X12_statement (i := 58) rfl) hW hS rfl ⟨by rw [hst9]; rfl, hF, by rw [hst9]; exact ⟨by rw [hp146_0, e2_I], hp146_1⟩, hFL, rfl⟩
          · refine lv_aload_n hx hb (dg D_X12_statement (i := 52) rfl) rfl (lv_at hl 1 rfl) ?_
            refine callVi X hW hS hR (c_X12_advance (I := I94) b n (tE b n q9) (by first | assumption | omega | decide | exact hP.1) (by first | assumption | omega | decide | exact hP.1) (hnx) (by first | assumption | omega | decide | exact hP.1) (by first | assumption | omega | decide | exact hP.1) (tE_le hqn)) (by decide) UVX12_advance LK_X12_169 rfl (by decide) rfl rfl rfl (Nat.le_of_ble_eq_true rfl) hl hcs (dg D_X12_statement (i := 53) rfl) (fun r138 I138 Lc138 R1 H locs hq hW hS => ?_)
            obtain ⟨rfl, hT138, hp138_0, hL138, rfl⟩ := hq
            have hF : Fr SNp I I138 := Fr.tr hF hT138 (by intro a j h; simp only [STk, SNp, Bool.or_eq_true, Bool.and_eq_true, beq_iff_eq, decide_eq_true_eq] at h ⊢; omega)
            have hb3 : I138 73 = b := (Fr.row hT138 (fun _ => rfl)).trans hb3
            have hz : KZ I138 := KZ.fr hz hT138 rfl rfl
            have hpa : I138 69 = π := (Fr.row hT138 (fun _ => rfl)).trans hpa
            have hln : I138 67 11 = nI n := (hT138 67 11 rfl).trans hln
            have hFL : FL SLp L Lc138 := FL.tr hFL hL138 (by intro a j h; simp only [SLk, SLp, Bool.or_eq_true, Bool.and_eq_true, beq_iff_eq, decide_eq_true_eq] at h ⊢; omega)
            have hNm : NmM b n Lc138 π nm2 := NmM.fl hNm hL138 (fun _ => rfl)
            refine lv_goto (tgt := 149) hx hb (dg D_X12_statement (i := 54) rfl) (by decide) ?_
            have hst9 : stm b n f9 σ nm p9 = .inr (π, nm2, tE b n q9) := stm_y hbo (by omega)
            exact fin (dg D_X12_statement (i := 58) rfl) hW hS rfl ⟨by rw [hst9]; rfl, hF, by rw [hst9]; exact ⟨hpa, hp138_0, hNm, hz⟩, hFL, rfl⟩
        · refine n_iconst (a := 0) hx hb (dg D_X12_statement (i := 46) rfl) rfl ?_
          have hst9 : stm b n f9 σ nm p9 = stWe b n σ nm p9 := by unfold stm; rw [stBo_4 hc]; exact seK_l c124
          exact fin (dg D_X12_statement (i := 47) rfl) hW hS (show _ = bI false from rfl) ⟨by rw [hst9, c124], hF, by rw [hst9]; exact hp94_0, hFL, rfl⟩
      · rw [hc]
        refine lv_tableIn (x := nI 5) (off := 83) (tgt := 101) hx hb (dg D_X12_statement (i := 10) rfl) (by decide) (by decide) rfl (by decide) ?_
        refine lv_aload_n hx hb (dg D_X12_statement (i := 32) rfl) rfl (lv_at hl 0 rfl) ?_
        refine callVi X hW hS hR (c_X12_closed (I := I) b n σ p9 nm (by first | assumption | omega | decide | exact hP.1) (by first | assumption | omega | decide | exact hP.1) (by first | assumption | omega | decide | exact hP.1) (by first | assumption | omega | decide | exact hP.1) (by first | assumption | omega | decide | exact hP.1) (by first | assumption | omega | decide | exact hP.1) (by first | assumption | omega | decide | exact hP.1) (by first | assumption | omega | decide | exact hP.1) (by first | assumption | omega | decide | exact hP.1) (by first | assumption | omega | decide | exact hP.1) (by first | assumption | omega | decide | exact hP.1)) (by decide) UVX12_closed LK_X12_211 rfl (by decide) rfl rfl rfl (Nat.le_of_ble_eq_true rfl) hl hcs (dg D_X12_statement (i := 33) rfl) (fun r102 I102 Lc102 R1 H locs hq hW hS => ?_)
        obtain ⟨rfl, hT102, hp102_0, hL102, rfl⟩ := hq
        have hF : Fr SNp I I102 := Fr.tr hF hT102 (fun _ _ h => h)
        have hb3 : I102 73 = b := (Fr.row hT102 (fun _ => rfl)).trans hb3
        have hln : I102 67 11 = nI n := (hT102 67 11 rfl).trans hln
        have hFL : FL SLp L Lc102 := FL.tr hFL hL102 (fun _ _ h => h)
        have hNm : True := trivial
        refine lv_istore_n (lv' := [(2, .int (bI (okP (stCl b n σ nm p9)))), (0, .ref (bs + 67)), (1, .int (bI f9))]) hx hb (dg D_X12_statement (i := 34) rfl) rfl hl (by decide) rfl (fun ls hl => ?_)
        refine lv_goto (tgt := 123) hx hb (dg D_X12_statement (i := 35) rfl) (by decide) ?_
        refine lv_iload_n hx hb (dg D_X12_statement (i := 44) rfl) rfl (lv_at hl 0 rfl) ?_
        refine z_if_ne (tgt := 129) hx hb (dg D_X12_statement (i := 45) rfl) (by decide) (fun c124 => ?_) (fun c124 => ?_)
        · obtain ⟨π, nm2, q9, hr9⟩ := okP_ex c124
          have hPM := hp102_0
          rw [hr9] at hPM
          obtain ⟨hpa, hTk, hNm, hz⟩ := hPM
          have hbo : stBo b n f9 σ nm p9 = .inr (π, nm2, q9) := (stBo_5 hc).trans hr9
          have hqn := (Gd_Bo hp hi hd hf _ _ _ hbo).2.1
          obtain ⟨hst, hnx, htk, hkw, hva, hnm9⟩ := id hTk
          have hKB2 := tK_le (b := b) (n := n) (p := q9)
          refine lv_aload_n hx hb (dg D_X12_statement (i := 48) rfl) rfl (lv_at hl 1 rfl) ?_
          refine r_geti (v := nI (tK b n q9)) X hW FI_X12_123 rfl (by decide) rfl htk (dg D_X12_statement (i := 49) rfl) ?_
          refine n_iconst (a := 4) hx hb (dg D_X12_statement (i := 50) rfl) rfl ?_
          refine n_icmp_ne (tgt := 144) hx hb (by omega) (by omega) (dg D_X12_statement (i := 51) rfl) (by decide) (fun c134 => ?_) (fun c134 => ?_)
          · refine lv_aload_n hx hb (dg D_X12_statement (i := 55) rfl) rfl (lv_at hl 1 rfl) ?_
            refine n_iconst (a := 2) hx hb (dg D_X12_statement (i := 56) rfl) rfl ?_
            refine callVi X hW hS hR (c_X12_fail (I := I102) (nI 2) (nI (tK b n q9)) (nI (tS b n q9)) (by first | assumption | omega | decide | exact hP.1) (by first | assumption | omega | decide | exact hP.1)) (by decide) UVX12_fail LK_X12_163 rfl (by decide) rfl rfl rfl (Nat.le_of_ble_eq_true rfl) hl hcs (dg D_X12_statement (i := 57) rfl) (fun r146 I146 L1 R1 H locs hq hW hS => ?_)
            obtain ⟨rfl, hT146, hp146_0, hp146_1, rfl, rfl⟩ := hq
            have hF : Fr SNp I I146 := Fr.tr hF hT146 (by intro a j h; simp only [SFl, SNp, Bool.or_eq_true, Bool.and_eq_true, beq_iff_eq, decide_eq_true_eq] at h ⊢; omega)
            have hb3 : I146 73 = b := (Fr.row hT146 (fun _ => rfl)).trans hb3
            have hpa : I146 69 = π := (Fr.row hT146 (fun _ => rfl)).trans hpa
            have hln : I146 67 11 = nI n := (hT146 67 11 rfl).trans hln
            have hst : I146 67 12 = nI (tS b n q9) := (hT146 67 12 rfl).trans hst
            have htk : I146 67 14 = nI (tK b n q9) := (hT146 67 14 rfl).trans htk
            have hkw : I146 67 15 = kwI b n q9 := (hT146 67 15 rfl).trans hkw
            have hnx : I146 67 13 = nI (tE b n q9) := (hT146 67 13 rfl).trans hnx
            have hst9 : stm b n f9 σ nm p9 = .inl (e2 b n q9, tS b n q9) := stm_n hbo (by omega)
            exact fin (dg D_X12_statement (i := 58) rfl) hW hS rfl ⟨by rw [hst9]; rfl, hF, by rw [hst9]; exact ⟨by rw [hp146_0, e2_I], hp146_1⟩, hFL, rfl⟩
          · refine lv_aload_n hx hb (dg D_X12_statement (i := 52) rfl) rfl (lv_at hl 1 rfl) ?_
            refine callVi X hW hS hR (c_X12_advance (I := I102) b n (tE b n q9) (by first | assumption | omega | decide | exact hP.1) (by first | assumption | omega | decide | exact hP.1) (hnx) (by first | assumption | omega | decide | exact hP.1) (by first | assumption | omega | decide | exact hP.1) (tE_le hqn)) (by decide) UVX12_advance LK_X12_169 rfl (by decide) rfl rfl rfl (Nat.le_of_ble_eq_true rfl) hl hcs (dg D_X12_statement (i := 53) rfl) (fun r138 I138 Lc138 R1 H locs hq hW hS => ?_)
            obtain ⟨rfl, hT138, hp138_0, hL138, rfl⟩ := hq
            have hF : Fr SNp I I138 := Fr.tr hF hT138 (by intro a j h; simp only [STk, SNp, Bool.or_eq_true, Bool.and_eq_true, beq_iff_eq, decide_eq_true_eq] at h ⊢; omega)
            have hb3 : I138 73 = b := (Fr.row hT138 (fun _ => rfl)).trans hb3
            have hz : KZ I138 := KZ.fr hz hT138 rfl rfl
            have hpa : I138 69 = π := (Fr.row hT138 (fun _ => rfl)).trans hpa
            have hln : I138 67 11 = nI n := (hT138 67 11 rfl).trans hln
            have hFL : FL SLp L Lc138 := FL.tr hFL hL138 (by intro a j h; simp only [SLk, SLp, Bool.or_eq_true, Bool.and_eq_true, beq_iff_eq, decide_eq_true_eq] at h ⊢; omega)
            have hNm : NmM b n Lc138 π nm2 := NmM.fl hNm hL138 (fun _ => rfl)
            refine lv_goto (tgt := 149) hx hb (dg D_X12_statement (i := 54) rfl) (by decide) ?_
            have hst9 : stm b n f9 σ nm p9 = .inr (π, nm2, tE b n q9) := stm_y hbo (by omega)
            exact fin (dg D_X12_statement (i := 58) rfl) hW hS rfl ⟨by rw [hst9]; rfl, hF, by rw [hst9]; exact ⟨hpa, hp138_0, hNm, hz⟩, hFL, rfl⟩
        · refine n_iconst (a := 0) hx hb (dg D_X12_statement (i := 46) rfl) rfl ?_
          have hst9 : stm b n f9 σ nm p9 = stCl b n σ nm p9 := by unfold stm; rw [stBo_5 hc]; exact seK_l c124
          exact fin (dg D_X12_statement (i := 47) rfl) hW hS (show _ = bI false from rfl) ⟨by rw [hst9, c124], hF, by rw [hst9]; exact hp102_0, hFL, rfl⟩
      · rw [hc]
        refine lv_tableIn (x := nI 6) (off := 91) (tgt := 109) hx hb (dg D_X12_statement (i := 10) rfl) (by decide) (by decide) rfl (by decide) ?_
        refine lv_aload_n hx hb (dg D_X12_statement (i := 36) rfl) rfl (lv_at hl 0 rfl) ?_
        refine callVi X hW hS hR (c_X12_painting (I := I) b n σ p9 nm (by first | assumption | omega | decide | exact hP.1) (by first | assumption | omega | decide | exact hP.1) (by first | assumption | omega | decide | exact hP.1) (by first | assumption | omega | decide | exact hP.1) (by first | assumption | omega | decide | exact hP.1) (by first | assumption | omega | decide | exact hP.1) (by first | assumption | omega | decide | exact hP.1) (by first | assumption | omega | decide | exact hP.1) (by first | assumption | omega | decide | exact hP.1) (by first | assumption | omega | decide | exact hP.1) (by first | assumption | omega | decide | exact hP.1)) (by decide) UVX12_painting LK_X12_214 rfl (by decide) rfl rfl rfl (Nat.le_of_ble_eq_true rfl) hl hcs (dg D_X12_statement (i := 37) rfl) (fun r110 I110 Lc110 R1 H locs hq hW hS => ?_)
        obtain ⟨rfl, hT110, hp110_0, hL110, rfl⟩ := hq
        have hF : Fr SNp I I110 := Fr.tr hF hT110 (fun _ _ h => h)
        have hb3 : I110 73 = b := (Fr.row hT110 (fun _ => rfl)).trans hb3
        have hln : I110 67 11 = nI n := (hT110 67 11 rfl).trans hln
        have hFL : FL SLp L Lc110 := FL.tr hFL hL110 (fun _ _ h => h)
        have hNm : True := trivial
        refine lv_istore_n (lv' := [(2, .int (bI (okP (stPa b n σ nm p9)))), (0, .ref (bs + 67)), (1, .int (bI f9))]) hx hb (dg D_X12_statement (i := 38) rfl) rfl hl (by decide) rfl (fun ls hl => ?_)
        refine lv_goto (tgt := 123) hx hb (dg D_X12_statement (i := 39) rfl) (by decide) ?_
        refine lv_iload_n hx hb (dg D_X12_statement (i := 44) rfl) rfl (lv_at hl 0 rfl) ?_
        refine z_if_ne (tgt := 129) hx hb (dg D_X12_statement (i := 45) rfl) (by decide) (fun c124 => ?_) (fun c124 => ?_)
        · obtain ⟨π, nm2, q9, hr9⟩ := okP_ex c124
          have hPM := hp110_0
          rw [hr9] at hPM
          obtain ⟨hpa, hTk, hNm, hz⟩ := hPM
          have hbo : stBo b n f9 σ nm p9 = .inr (π, nm2, q9) := (stBo_6 hc).trans hr9
          have hqn := (Gd_Bo hp hi hd hf _ _ _ hbo).2.1
          obtain ⟨hst, hnx, htk, hkw, hva, hnm9⟩ := id hTk
          have hKB2 := tK_le (b := b) (n := n) (p := q9)
          refine lv_aload_n hx hb (dg D_X12_statement (i := 48) rfl) rfl (lv_at hl 1 rfl) ?_
          refine r_geti (v := nI (tK b n q9)) X hW FI_X12_123 rfl (by decide) rfl htk (dg D_X12_statement (i := 49) rfl) ?_
          refine n_iconst (a := 4) hx hb (dg D_X12_statement (i := 50) rfl) rfl ?_
          refine n_icmp_ne (tgt := 144) hx hb (by omega) (by omega) (dg D_X12_statement (i := 51) rfl) (by decide) (fun c134 => ?_) (fun c134 => ?_)
          · refine lv_aload_n hx hb (dg D_X12_statement (i := 55) rfl) rfl (lv_at hl 1 rfl) ?_
            refine n_iconst (a := 2) hx hb (dg D_X12_statement (i := 56) rfl) rfl ?_
            refine callVi X hW hS hR (c_X12_fail (I := I110) (nI 2) (nI (tK b n q9)) (nI (tS b n q9)) (by first | assumption | omega | decide | exact hP.1) (by first | assumption | omega | decide | exact hP.1)) (by decide) UVX12_fail LK_X12_163 rfl (by decide) rfl rfl rfl (Nat.le_of_ble_eq_true rfl) hl hcs (dg D_X12_statement (i := 57) rfl) (fun r146 I146 L1 R1 H locs hq hW hS => ?_)
            obtain ⟨rfl, hT146, hp146_0, hp146_1, rfl, rfl⟩ := hq
            have hF : Fr SNp I I146 := Fr.tr hF hT146 (by intro a j h; simp only [SFl, SNp, Bool.or_eq_true, Bool.and_eq_true, beq_iff_eq, decide_eq_true_eq] at h ⊢; omega)
            have hb3 : I146 73 = b := (Fr.row hT146 (fun _ => rfl)).trans hb3
            have hpa : I146 69 = π := (Fr.row hT146 (fun _ => rfl)).trans hpa
            have hln : I146 67 11 = nI n := (hT146 67 11 rfl).trans hln
            have hst : I146 67 12 = nI (tS b n q9) := (hT146 67 12 rfl).trans hst
            have htk : I146 67 14 = nI (tK b n q9) := (hT146 67 14 rfl).trans htk
            have hkw : I146 67 15 = kwI b n q9 := (hT146 67 15 rfl).trans hkw
            have hnx : I146 67 13 = nI (tE b n q9) := (hT146 67 13 rfl).trans hnx
            have hst9 : stm b n f9 σ nm p9 = .inl (e2 b n q9, tS b n q9) := stm_n hbo (by omega)
            exact fin (dg D_X12_statement (i := 58) rfl) hW hS rfl ⟨by rw [hst9]; rfl, hF, by rw [hst9]; exact ⟨by rw [hp146_0, e2_I], hp146_1⟩, hFL, rfl⟩
          · refine lv_aload_n hx hb (dg D_X12_statement (i := 52) rfl) rfl (lv_at hl 1 rfl) ?_
            refine callVi X hW hS hR (c_X12_advance (I := I110) b n (tE b n q9) (by first | assumption | omega | decide | exact hP.1) (by first | assumption | omega | decide | exact hP.1) (hnx) (by first | assumption | omega | decide | exact hP.1) (by first | assumption | omega | decide | exact hP.1) (tE_le hqn)) (by decide) UVX12_advance LK_X12_169 rfl (by decide) rfl rfl rfl (Nat.le_of_ble_eq_true rfl) hl hcs (dg D_X12_statement (i := 53) rfl) (fun r138 I138 Lc138 R1 H locs hq hW hS => ?_)
            obtain ⟨rfl, hT138, hp138_0, hL138, rfl⟩ := hq
            have hF : Fr SNp I I138 := Fr.tr hF hT138 (by intro a j h; simp only [STk, SNp, Bool.or_eq_true, Bool.and_eq_true, beq_iff_eq, decide_eq_true_eq] at h ⊢; omega)
            have hb3 : I138 73 = b := (Fr.row hT138 (fun _ => rfl)).trans hb3
            have hz : KZ I138 := KZ.fr hz hT138 rfl rfl
            have hpa : I138 69 = π := (Fr.row hT138 (fun _ => rfl)).trans hpa
            have hln : I138 67 11 = nI n := (hT138 67 11 rfl).trans hln
            have hFL : FL SLp L Lc138 := FL.tr hFL hL138 (by intro a j h; simp only [SLk, SLp, Bool.or_eq_true, Bool.and_eq_true, beq_iff_eq, decide_eq_true_eq] at h ⊢; omega)
            have hNm : NmM b n Lc138 π nm2 := NmM.fl hNm hL138 (fun _ => rfl)
            refine lv_goto (tgt := 149) hx hb (dg D_X12_statement (i := 54) rfl) (by decide) ?_
            have hst9 : stm b n f9 σ nm p9 = .inr (π, nm2, tE b n q9) := stm_y hbo (by omega)
            exact fin (dg D_X12_statement (i := 58) rfl) hW hS rfl ⟨by rw [hst9]; rfl, hF, by rw [hst9]; exact ⟨hpa, hp138_0, hNm, hz⟩, hFL, rfl⟩
        · refine n_iconst (a := 0) hx hb (dg D_X12_statement (i := 46) rfl) rfl ?_
          have hst9 : stm b n f9 σ nm p9 = stPa b n σ nm p9 := by unfold stm; rw [stBo_6 hc]; exact seK_l c124
          exact fin (dg D_X12_statement (i := 47) rfl) hW hS (show _ = bI false from rfl) ⟨by rw [hst9, c124], hF, by rw [hst9]; exact hp110_0, hFL, rfl⟩
      · rw [hc]
        refine lv_tableOut (tgt := 117) hx hb (dg D_X12_statement (i := 10) rfl) (by decide) (by decide) ?_
        refine lv_aload_n hx hb (dg D_X12_statement (i := 40) rfl) rfl (lv_at hl 0 rfl) ?_
        refine n_iconst (a := 2) hx hb (dg D_X12_statement (i := 41) rfl) rfl ?_
        refine callVi X hW hS hR (c_X12_fail (I := I) (nI 2) (nI (tK b n p9)) (nI (tS b n p9)) (by first | assumption | omega | decide | exact hP.1) (by first | assumption | omega | decide | exact hP.1)) (by decide) UVX12_fail LK_X12_163 rfl (by decide) rfl rfl rfl (Nat.le_of_ble_eq_true rfl) hl hcs (dg D_X12_statement (i := 42) rfl) (fun r119 I119 L1 R1 H locs hq hW hS => ?_)
        obtain ⟨rfl, hT119, hp119_0, hp119_1, rfl, rfl⟩ := hq
        have hF : Fr SNp I I119 := Fr.tr hF hT119 (by intro a j h; simp only [SFl, SNp, Bool.or_eq_true, Bool.and_eq_true, beq_iff_eq, decide_eq_true_eq] at h ⊢; omega)
        have hb3 : I119 73 = b := (Fr.row hT119 (fun _ => rfl)).trans hb3
        have hpa : I119 69 = σ := (Fr.row hT119 (fun _ => rfl)).trans hpa
        have hln : I119 67 11 = nI n := (hT119 67 11 rfl).trans hln
        have hst : I119 67 12 = nI (tS b n p9) := (hT119 67 12 rfl).trans hst
        have htk : I119 67 14 = nI (tK b n p9) := (hT119 67 14 rfl).trans htk
        have hkw : I119 67 15 = kwI b n p9 := (hT119 67 15 rfl).trans hkw
        have hnx : I119 67 13 = nI (tE b n p9) := (hT119 67 13 rfl).trans hnx
        refine lv_istore_n (lv' := [(2, .int (bI false)), (0, .ref (bs + 67)), (1, .int (bI f9))]) hx hb (dg D_X12_statement (i := 43) rfl) rfl hl (by decide) rfl (fun ls hl => ?_)
        refine lv_iload_n hx hb (dg D_X12_statement (i := 44) rfl) rfl (lv_at hl 0 rfl) ?_
        refine z_if_ne (tgt := 129) hx hb (dg D_X12_statement (i := 45) rfl) (by decide) (fun c124 => ?_) (fun c124 => ?_)
        · exact absurd c124 (by decide)
        · refine n_iconst (a := 0) hx hb (dg D_X12_statement (i := 46) rfl) rfl ?_
          have hst9 : stm b n f9 σ nm p9 = .inl (e2 b n p9, tS b n p9) := stm_i (stBo_o (Or.inr hc))
          exact fin (dg D_X12_statement (i := 47) rfl) hW hS (show _ = bI false from rfl) ⟨by rw [hst9]; rfl, hF, by rw [hst9]; exact ⟨by rw [hp119_0, e2_I], hp119_1⟩, hFL, rfl⟩
  · refine lv_aload_n hx hb (dg D_X12_statement (i := 4) rfl) rfl (lv_at hl 0 rfl) ?_
    refine n_iconst (a := 2) hx hb (dg D_X12_statement (i := 5) rfl) rfl ?_
    refine callVi X hW hS hR (c_X12_fail (I := I) (nI 2) (nI (tK b n p9)) (nI (tS b n p9)) (by first | assumption | omega | decide | exact hP.1) (by first | assumption | omega | decide | exact hP.1)) (by decide) UVX12_fail LK_X12_163 rfl (by decide) rfl rfl rfl (Nat.le_of_ble_eq_true rfl) hl hcs (dg D_X12_statement (i := 6) rfl) (fun r10 I10 L1 R1 H locs hq hW hS => ?_)
    obtain ⟨rfl, hT10, hp10_0, hp10_1, rfl, rfl⟩ := hq
    have hF : Fr SNp I I10 := Fr.tr hF hT10 (by intro a j h; simp only [SFl, SNp, Bool.or_eq_true, Bool.and_eq_true, beq_iff_eq, decide_eq_true_eq] at h ⊢; omega)
    have hb3 : I10 73 = b := (Fr.row hT10 (fun _ => rfl)).trans hb3
    have hpa : I10 69 = σ := (Fr.row hT10 (fun _ => rfl)).trans hpa
    have hln : I10 67 11 = nI n := (hT10 67 11 rfl).trans hln
    have hst : I10 67 12 = nI (tS b n p9) := (hT10 67 12 rfl).trans hst
    have htk : I10 67 14 = nI (tK b n p9) := (hT10 67 14 rfl).trans htk
    have hkw : I10 67 15 = kwI b n p9 := (hT10 67 15 rfl).trans hkw
    have hnx : I10 67 13 = nI (tE b n p9) := (hT10 67 13 rfl).trans hnx
    have hst9 : stm b n f9 σ nm p9 = .inl (e2 b n p9, tS b n p9) := stm_i (stBo_o (Or.inl (by unfold kwI; rw [if_neg (by omega)])))
    exact fin (dg D_X12_statement (i := 7) rfl) hW hS rfl ⟨by rw [hst9]; rfl, hF, by rw [hst9]; exact ⟨by rw [hp10_0, e2_I], hp10_1⟩, hFL, rfl⟩

