set_option maxHeartbeats 4000000 in
set_option maxRecDepth 100000 in
theorem c_X12_bridge {l : Launch} {G : va_G} {bs : Nat} {cy : Nat → ClassId} {I : CI} {L : CL} {R : CR} (b : Nat → Int32) (n : Nat) (σ : Row) (p9 : Nat) (nm : Nm) (f9 : Bool) (hz : KZ I) (hb3 : I 73 = b) (hln : I 67 11 = nI n) (hT : TB b n) (hn : n ≤ 900) (hp : p9 ≤ n) (hTk : TokM b n I L p9) (hi : Inv σ) (hpa : I 69 = σ) (hNm : NmM b n L σ nm) (hk2 : tK b n p9 = 2) : MTi l G bs cy MX12_bridge 9 [.ref (bs + 67), .int (bI f9)] I L R (fun r I1 L1 R1 => bI (okP (stBr b n f9 σ nm p9)) = r ∧ Fr SNp I I1 ∧ PostM b n (stBr b n f9 σ nm p9) I1 L1 ∧ FL SLp L L1 ∧ R = R1) := by
  refine MTz.of (own := RX12) pn_RX12 rfl (Nat.le_of_ble_eq_true rfl) ?_
  intro p e s m args below meth c Qf X hW hS fin ls hl
  have hx := X.1
  have hb := X.2.1
  have hR : RmOK (rmL 9 0 0) 9 := ⟨rfl, rfl⟩
  have hcs : 0 ≤ (rmL 9 0 0).cells ∧ 0 ≤ (rmL 9 0 0).slots := ⟨Nat.zero_le _, Nat.zero_le _⟩
  have hl : lv_has ls 2 [(0, .ref (bs + 67)), (1, .int (bI f9))] := hl
  have hF : Fr SNp I I := Fr.rf
  have hFL : FL SLp L L := FL.rf
  obtain ⟨hst, hnx, htk, hkw, hva, hnm9⟩ := id hTk
  have hk4 : tK b n p9 ≤ 4 := tK_le
  obtain ⟨hY, hY1, hY12, hLn, hL4, hSn, hS12, hGn, hG5⟩ := id hi
  refine lv_iload_n hx hb (dg D_X12_bridge (i := 0) rfl) rfl (lv_at hl 1 rfl) ?_
  refine z_if_ne (tgt := 10) hx hb (dg D_X12_bridge (i := 1) rfl) (by decide) (fun c1 => ?_) (fun c1 => ?_)
  · refine lv_aload_n hx hb (dg D_X12_bridge (i := 6) rfl) rfl (lv_at hl 0 rfl) ?_
    refine callVi X hW hS hR (c_X12_advance (I := I) b n (tt b n p9 1) (by first | assumption | omega | decide | exact hP.1) (by first | assumption | omega | decide | exact hP.1) (hnx) (by first | assumption | omega | decide | exact hP.1) (by first | assumption | omega | decide | exact hP.1) (tt_le hp 1)) (by decide) UVX12_advance LK_X12_169 rfl (by decide) rfl rfl rfl (Nat.le_of_ble_eq_true rfl) hl hcs (dg D_X12_bridge (i := 7) rfl) (fun r11 I11 Lc11 R1 H locs hq hW hS => ?_)
    obtain ⟨rfl, hT11, hp11_0, hL11, rfl⟩ := hq
    have hF : Fr SNp I I11 := Fr.tr hF hT11 (by intro a j h; simp only [STk, SNp, Bool.or_eq_true, Bool.and_eq_true, beq_iff_eq, decide_eq_true_eq] at h ⊢; omega)
    have hb3 : I11 73 = b := (Fr.row hT11 (fun _ => rfl)).trans hb3
    have hpa : I11 69 = σ := (Fr.row hT11 (fun _ => rfl)).trans hpa
    have hz : KZ I11 := KZ.fr hz hT11 rfl rfl
    have hln : I11 67 11 = nI n := (hT11 67 11 rfl).trans hln
    have hFL : FL SLp L Lc11 := FL.tr hFL hL11 (by intro a j h; simp only [SLk, SLp, Bool.or_eq_true, Bool.and_eq_true, beq_iff_eq, decide_eq_true_eq] at h ⊢; omega)
    have hNm : NmM b n Lc11 σ nm := NmM.fl hNm hL11 (fun _ => rfl)
    have hTk : TokM b n I11 Lc11 (tt b n p9 1) := hp11_0
    refine lv_pop hx hb (dg D_X12_bridge (i := 8) rfl) rfl ?_
    refine lv_aload_n hx hb (dg D_X12_bridge (i := 9) rfl) rfl (lv_at hl 0 rfl) ?_
    refine n_iconst (a := 0) hx hb (dg D_X12_bridge (i := 10) rfl) rfl ?_
    refine n_iconst (a := 1) hx hb (dg D_X12_bridge (i := 11) rfl) rfl ?_
    refine lv_bipush (v := nI 12) hx hb (dg D_X12_bridge (i := 12) rfl) (by decide) ?_
    refine callVi X hW hS hR (c_X12_numberTo (I := I11) b n σ (tt b n p9 1) 0 1 12 (by first | assumption | omega | decide | exact hP.1) (by first | assumption | omega | decide | exact hP.1) (by first | assumption | omega | decide | exact hP.1) (by first | assumption | omega | decide | exact hP.1) (by first | assumption | omega | decide | exact hP.1) (tt_le hp 1) (by first | assumption | omega | decide | exact hP.1) (by first | assumption | omega | decide | exact hP.1) (by first | assumption | omega | decide | exact hP.1) (by first | assumption | omega | decide | exact hP.1) (by first | assumption | omega | decide | exact hP.1)) (by decide) UVX12_numberTo LK_X12_186 rfl (by decide) rfl rfl rfl (Nat.le_of_ble_eq_true rfl) hl hcs (dg D_X12_bridge (i := 13) rfl) (fun r20 I20 Lc20 R1 H locs hq hW hS => ?_)
    obtain ⟨rfl, hT20, hp20_0, hp20_1, hL20, rfl⟩ := hq
    have hF : Fr SNp I I20 := Fr.tr hF hT20 (fun _ _ h => h)
    have hb3 : I20 73 = b := (Fr.row hT20 (fun _ => rfl)).trans hb3
    have hln : I20 67 11 = nI n := (hT20 67 11 rfl).trans hln
    have hFL : FL SLp L Lc20 := FL.tr hFL hL20 (by intro a j h; simp only [SLk, SLp, Bool.or_eq_true, Bool.and_eq_true, beq_iff_eq, decide_eq_true_eq] at h ⊢; omega)
    have hNm : NmM b n Lc20 σ nm := NmM.fl hNm hL20 (fun _ => rfl)
    refine z_if_eq (tgt := 51) hx hb (dg D_X12_bridge (i := 14) rfl) (by decide) (fun c23 => ?_) (fun c23 => ?_)
    · refine n_iconst (a := 0) hx hb (dg D_X12_bridge (i := 29) rfl) rfl ?_
      have hst9 : stBr b n f9 σ nm p9 = .inl (nuE b n (tt b n p9 1), tS b n (tt b n p9 1)) := by unfold stBr; simp only [c1, c23, ↓reduceIte, reduceCtorEq]
      exact fin (dg D_X12_bridge (i := 30) rfl) hW hS (show _ = bI false from rfl) ⟨by rw [hst9]; rfl, hF, by rw [hst9]; exact hp20_1 c23, hFL, rfl⟩
    · obtain ⟨hTk, hpa, hz⟩ := hp20_0 c23
      refine lv_aload_n hx hb (dg D_X12_bridge (i := 15) rfl) rfl (lv_at hl 0 rfl) ?_
      refine n_iconst (a := 1) hx hb (dg D_X12_bridge (i := 16) rfl) rfl ?_
      refine n_iconst (a := 1) hx hb (dg D_X12_bridge (i := 17) rfl) rfl ?_
      refine n_iconst (a := 4) hx hb (dg D_X12_bridge (i := 18) rfl) rfl ?_
      refine callVi X hW hS hR (c_X12_numberTo (I := I20) b n (upd σ 0 (nI (tV b n (tt b n p9 1)))) (tt b n p9 2) 1 1 4 (by first | assumption | omega | decide | exact hP.1) (by first | assumption | omega | decide | exact hP.1) (by first | assumption | omega | decide | exact hP.1) (by first | assumption | omega | decide | exact hP.1) (by first | assumption | omega | decide | exact hP.1) (tt_le hp 2) (by first | assumption | omega | decide | exact hP.1) (by first | assumption | omega | decide | exact hP.1) (by first | assumption | omega | decide | exact hP.1) (by first | assumption | omega | decide | exact hP.1) (by first | assumption | omega | decide | exact hP.1)) (by decide) UVX12_numberTo LK_X12_186 rfl (by decide) rfl rfl rfl (Nat.le_of_ble_eq_true rfl) hl hcs (dg D_X12_bridge (i := 19) rfl) (fun r30 I30 Lc30 R1 H locs hq hW hS => ?_)
      obtain ⟨rfl, hT30, hp30_0, hp30_1, hL30, rfl⟩ := hq
      have hF : Fr SNp I I30 := Fr.tr hF hT30 (fun _ _ h => h)
      have hb3 : I30 73 = b := (Fr.row hT30 (fun _ => rfl)).trans hb3
      have hln : I30 67 11 = nI n := (hT30 67 11 rfl).trans hln
      have hFL : FL SLp L Lc30 := FL.tr hFL hL30 (by intro a j h; simp only [SLk, SLp, Bool.or_eq_true, Bool.and_eq_true, beq_iff_eq, decide_eq_true_eq] at h ⊢; omega)
      have hNm : NmM b n Lc30 σ nm := NmM.fl hNm hL30 (fun _ => rfl)
      refine z_if_eq (tgt := 51) hx hb (dg D_X12_bridge (i := 20) rfl) (by decide) (fun c33 => ?_) (fun c33 => ?_)
      · refine n_iconst (a := 0) hx hb (dg D_X12_bridge (i := 29) rfl) rfl ?_
        have hst9 : stBr b n f9 σ nm p9 = .inl (nuE b n (tt b n p9 2), tS b n (tt b n p9 2)) := by unfold stBr; simp only [c1, c23, c33, ↓reduceIte, reduceCtorEq]
        exact fin (dg D_X12_bridge (i := 30) rfl) hW hS (show _ = bI false from rfl) ⟨by rw [hst9]; rfl, hF, by rw [hst9]; exact hp30_1 c33, hFL, rfl⟩
      · obtain ⟨hTk, hpa, hz⟩ := hp30_0 c33
        refine lv_aload_n hx hb (dg D_X12_bridge (i := 21) rfl) rfl (lv_at hl 0 rfl) ?_
        refine n_iconst (a := 2) hx hb (dg D_X12_bridge (i := 22) rfl) rfl ?_
        refine n_iconst (a := 0) hx hb (dg D_X12_bridge (i := 23) rfl) rfl ?_
        refine lv_bipush (v := nI 10) hx hb (dg D_X12_bridge (i := 24) rfl) (by decide) ?_
        refine callVi X hW hS hR (c_X12_numberTo (I := I30) b n (upd (upd σ 0 (nI (tV b n (tt b n p9 1)))) 1 (nI (tV b n (tt b n p9 2)))) (tt b n p9 3) 2 0 10 (by first | assumption | omega | decide | exact hP.1) (by first | assumption | omega | decide | exact hP.1) (by first | assumption | omega | decide | exact hP.1) (by first | assumption | omega | decide | exact hP.1) (by first | assumption | omega | decide | exact hP.1) (tt_le hp 3) (by first | assumption | omega | decide | exact hP.1) (by first | assumption | omega | decide | exact hP.1) (by first | assumption | omega | decide | exact hP.1) (by first | assumption | omega | decide | exact hP.1) (by first | assumption | omega | decide | exact hP.1)) (by decide) UVX12_numberTo LK_X12_186 rfl (by decide) rfl rfl rfl (Nat.le_of_ble_eq_true rfl) hl hcs (dg D_X12_bridge (i := 25) rfl) (fun r41 I41 Lc41 R1 H locs hq hW hS => ?_)
        obtain ⟨rfl, hT41, hp41_0, hp41_1, hL41, rfl⟩ := hq
        have hF : Fr SNp I I41 := Fr.tr hF hT41 (fun _ _ h => h)
        have hb3 : I41 73 = b := (Fr.row hT41 (fun _ => rfl)).trans hb3
        have hln : I41 67 11 = nI n := (hT41 67 11 rfl).trans hln
        have hFL : FL SLp L Lc41 := FL.tr hFL hL41 (by intro a j h; simp only [SLk, SLp, Bool.or_eq_true, Bool.and_eq_true, beq_iff_eq, decide_eq_true_eq] at h ⊢; omega)
        have hNm : NmM b n Lc41 σ nm := NmM.fl hNm hL41 (fun _ => rfl)
        refine z_if_eq (tgt := 51) hx hb (dg D_X12_bridge (i := 26) rfl) (by decide) (fun c44 => ?_) (fun c44 => ?_)
        · refine n_iconst (a := 0) hx hb (dg D_X12_bridge (i := 29) rfl) rfl ?_
          have hst9 : stBr b n f9 σ nm p9 = .inl (nuE b n (tt b n p9 3), tS b n (tt b n p9 3)) := by unfold stBr; simp only [c1, c23, c33, c44, ↓reduceIte, reduceCtorEq]
          exact fin (dg D_X12_bridge (i := 30) rfl) hW hS (show _ = bI false from rfl) ⟨by rw [hst9]; rfl, hF, by rw [hst9]; exact hp41_1 c44, hFL, rfl⟩
        · obtain ⟨hTk, hpa, hz⟩ := hp41_0 c44
          refine n_iconst (a := 1) hx hb (dg D_X12_bridge (i := 27) rfl) rfl ?_
          refine lv_goto (tgt := 52) hx hb (dg D_X12_bridge (i := 28) rfl) (by decide) ?_
          have hst9 : stBr b n f9 σ nm p9 = .inr (upd (upd (upd σ 0 (nI (tV b n (tt b n p9 1)))) 1 (nI (tV b n (tt b n p9 2)))) 2 (nI (tV b n (tt b n p9 3))), nm, tt b n p9 4) := by unfold stBr; simp only [c1, c23, c33, c44, ↓reduceIte, reduceCtorEq]
          exact fin (dg D_X12_bridge (i := 30) rfl) hW hS (show _ = bI true from rfl) ⟨by rw [hst9]; rfl, hF, by rw [hst9]; exact ⟨hpa, hTk, NmM.same hNm (fun a ha => (cN_upd (by decide) a ha).trans ((cN_upd (by decide) a ha).trans (cN_upd (by decide) a ha))), hz⟩, hFL, rfl⟩
  · refine lv_aload_n hx hb (dg D_X12_bridge (i := 2) rfl) rfl (lv_at hl 0 rfl) ?_
    refine n_iconst (a := 5) hx hb (dg D_X12_bridge (i := 3) rfl) rfl ?_
    refine callVi X hW hS hR (c_X12_fail (I := I) (nI 5) (nI (tK b n p9)) (nI (tS b n p9)) (by first | assumption | omega | decide | exact hP.1) (by first | assumption | omega | decide | exact hP.1)) (by decide) UVX12_fail LK_X12_163 rfl (by decide) rfl rfl rfl (Nat.le_of_ble_eq_true rfl) hl hcs (dg D_X12_bridge (i := 4) rfl) (fun r6 I6 L1 R1 H locs hq hW hS => ?_)
    obtain ⟨rfl, hT6, hp6_0, hp6_1, rfl, rfl⟩ := hq
    have hF : Fr SNp I I6 := Fr.tr hF hT6 (by intro a j h; simp only [SFl, SNp, Bool.or_eq_true, Bool.and_eq_true, beq_iff_eq, decide_eq_true_eq] at h ⊢; omega)
    have hb3 : I6 73 = b := (Fr.row hT6 (fun _ => rfl)).trans hb3
    have hpa : I6 69 = σ := (Fr.row hT6 (fun _ => rfl)).trans hpa
    have hln : I6 67 11 = nI n := (hT6 67 11 rfl).trans hln
    have hst : I6 67 12 = nI (tS b n p9) := (hT6 67 12 rfl).trans hst
    have htk : I6 67 14 = nI (tK b n p9) := (hT6 67 14 rfl).trans htk
    have hkw : I6 67 15 = kwI b n p9 := (hT6 67 15 rfl).trans hkw
    have hnx : I6 67 13 = nI (tE b n p9) := (hT6 67 13 rfl).trans hnx
    have hst9 : stBr b n f9 σ nm p9 = .inl (nI 5, tS b n p9) := by unfold stBr; simp only [c1, ↓reduceIte, reduceCtorEq]
    exact fin (dg D_X12_bridge (i := 5) rfl) hW hS rfl ⟨by rw [hst9]; rfl, hF, by rw [hst9]; exact ⟨by rw [hp6_0, fl_I (by omega)], hp6_1⟩, hFL, rfl⟩

set_option maxHeartbeats 4000000 in
set_option maxRecDepth 100000 in
theorem c_X12_lane {l : Launch} {G : va_G} {bs : Nat} {cy : Nat → ClassId} {I : CI} {L : CL} {R : CR} (b : Nat → Int32) (n : Nat) (σ : Row) (p9 : Nat) (nm : Nm) (hz : KZ I) (hb3 : I 73 = b) (hln : I 67 11 = nI n) (hT : TB b n) (hn : n ≤ 900) (hp : p9 ≤ n) (hTk : TokM b n I L p9) (hi : Inv σ) (hpa : I 69 = σ) (hNm : NmM b n L σ nm) (hk2 : tK b n p9 = 2) : MTi l G bs cy MX12_lane 9 [.ref (bs + 67)] I L R (fun r I1 L1 R1 => bI (okP (stLa b n σ nm p9)) = r ∧ Fr SNp I I1 ∧ PostM b n (stLa b n σ nm p9) I1 L1 ∧ FL SLp L L1 ∧ R = R1) := by
  refine MTz.of (own := RX12) pn_RX12 rfl (Nat.le_of_ble_eq_true rfl) ?_
  intro p e s m args below meth c Qf X hW hS fin ls hl
  have hx := X.1
  have hb := X.2.1
  have hR : RmOK (rmL 9 0 0) 9 := ⟨rfl, rfl⟩
  have hcs : 0 ≤ (rmL 9 0 0).cells ∧ 0 ≤ (rmL 9 0 0).slots := ⟨Nat.zero_le _, Nat.zero_le _⟩
  have hl : lv_has ls 2 [(0, .ref (bs + 67))] := hl
  have hF : Fr SNp I I := Fr.rf
  have hFL : FL SLp L L := FL.rf
  obtain ⟨hst, hnx, htk, hkw, hva, hnm9⟩ := id hTk
  have hk4 : tK b n p9 ≤ 4 := tK_le
  obtain ⟨hY, hY1, hY12, hLn, hL4, hSn, hS12, hGn, hG5⟩ := id hi
  refine lv_aload_n hx hb (dg D_X12_lane (i := 0) rfl) rfl (lv_at hl 0 rfl) ?_
  refine r_getc (t := 69) X hW FI_X12_13 rfl (by decide) rfl (dg D_X12_lane (i := 1) rfl) ?_
  refine n_iconst (a := 3) hx hb (dg D_X12_lane (i := 2) rfl) rfl ?_
  refine r_ald (j := 3) (v := nI (nLn σ)) X hW rfl (by decide) rfl (by omega) (by decide) ((congrFun hpa 3).trans hLn) (dg D_X12_lane (i := 3) rfl) ?_
  refine lv_istore_n (lv' := [(1, .int (nI (nLn σ))), (0, .ref (bs + 67))]) hx hb (dg D_X12_lane (i := 4) rfl) rfl hl (by decide) rfl (fun ls hl => ?_)
  refine lv_iload_n hx hb (dg D_X12_lane (i := 5) rfl) rfl (lv_at hl 0 rfl) ?_
  refine n_iconst (a := 4) hx hb (dg D_X12_lane (i := 6) rfl) rfl ?_
  refine n_icmp_ne (tgt := 18) hx hb (by omega) (by omega) (dg D_X12_lane (i := 7) rfl) (by decide) (fun c9 => ?_) (fun c9 => ?_)
  · refine lv_aload_n hx hb (dg D_X12_lane (i := 12) rfl) rfl (lv_at hl 1 rfl) ?_
    refine callVi X hW hS hR (c_X12_advance (I := I) b n (tt b n p9 1) (by first | assumption | omega | decide | exact hP.1) (by first | assumption | omega | decide | exact hP.1) (hnx) (by first | assumption | omega | decide | exact hP.1) (by first | assumption | omega | decide | exact hP.1) (tt_le hp 1)) (by decide) UVX12_advance LK_X12_169 rfl (by decide) rfl rfl rfl (Nat.le_of_ble_eq_true rfl) hl hcs (dg D_X12_lane (i := 13) rfl) (fun r19 I19 Lc19 R1 H locs hq hW hS => ?_)
    obtain ⟨rfl, hT19, hp19_0, hL19, rfl⟩ := hq
    have hF : Fr SNp I I19 := Fr.tr hF hT19 (by intro a j h; simp only [STk, SNp, Bool.or_eq_true, Bool.and_eq_true, beq_iff_eq, decide_eq_true_eq] at h ⊢; omega)
    have hb3 : I19 73 = b := (Fr.row hT19 (fun _ => rfl)).trans hb3
    have hpa : I19 69 = σ := (Fr.row hT19 (fun _ => rfl)).trans hpa
    have hz : KZ I19 := KZ.fr hz hT19 rfl rfl
    have hln : I19 67 11 = nI n := (hT19 67 11 rfl).trans hln
    have hFL : FL SLp L Lc19 := FL.tr hFL hL19 (by intro a j h; simp only [SLk, SLp, Bool.or_eq_true, Bool.and_eq_true, beq_iff_eq, decide_eq_true_eq] at h ⊢; omega)
    have hNm : NmM b n Lc19 σ nm := NmM.fl hNm hL19 (fun _ => rfl)
    have hTk : TokM b n I19 Lc19 (tt b n p9 1) := hp19_0
    refine lv_pop hx hb (dg D_X12_lane (i := 14) rfl) rfl ?_
    refine lv_aload_n hx hb (dg D_X12_lane (i := 15) rfl) rfl (lv_at hl 1 rfl) ?_
    refine n_iconst (a := 0) hx hb (dg D_X12_lane (i := 16) rfl) rfl ?_
    refine callVi X hW hS hR (c_X12_newName (I := I19) b n σ (tt b n p9 1) nm 0 (by first | assumption | omega | decide | exact hP.1) (by first | assumption | omega | decide | exact hP.1) (by first | assumption | omega | decide | exact hP.1) (by first | assumption | omega | decide | exact hP.1) (by first | assumption | omega | decide | exact hP.1) (tt_le hp 1) (by first | assumption | omega | decide | exact hP.1) (by first | assumption | omega | decide | exact hP.1) (by first | assumption | omega | decide | exact hP.1) (by first | assumption | omega | decide | exact hP.1) (by decide) (show nLn σ < 12 by omega)) (by decide) UVX12_newName LK_X12_190 rfl (by decide) rfl rfl rfl (Nat.le_of_ble_eq_true rfl) hl hcs (dg D_X12_lane (i := 17) rfl) (fun r25 I25 Lc25 R1 H locs hq hW hS => ?_)
    obtain ⟨rfl, hT25, hp25_0, hp25_1, hL25, rfl⟩ := hq
    have hF : Fr SNp I I25 := Fr.tr hF hT25 (by intro a j h; simp only [SNm, SNp, Bool.or_eq_true, Bool.and_eq_true, beq_iff_eq, decide_eq_true_eq] at h ⊢; omega)
    have hb3 : I25 73 = b := (Fr.row hT25 (fun _ => rfl)).trans hb3
    have hpa : I25 69 = σ := (Fr.row hT25 (fun _ => rfl)).trans hpa
    have hln : I25 67 11 = nI n := (hT25 67 11 rfl).trans hln
    have hFL : FL SLp L Lc25 := FL.tr hFL hL25 (fun _ _ h => h)
    have hNm : True := trivial
    refine z_if_eq (tgt := 46) hx hb (dg D_X12_lane (i := 18) rfl) (by decide) (fun c28 => ?_) (fun c28 => ?_)
    · refine n_iconst (a := 0) hx hb (dg D_X12_lane (i := 27) rfl) rfl ?_
      have hst9 : stLa b n σ nm p9 = .inl (nnE b n (tt b n p9 1), tS b n (tt b n p9 1)) := by unfold stLa; simp only [c9, c28, ↓reduceIte, reduceCtorEq]
      exact fin (dg D_X12_lane (i := 28) rfl) hW hS (show _ = bI false from rfl) ⟨by rw [hst9]; rfl, hF, by rw [hst9]; exact hp25_1 c28, hFL, rfl⟩
    · obtain ⟨hTk, hNx, hz⟩ := hp25_0 c28
      have hNm := hNx.1
      refine lv_aload_n hx hb (dg D_X12_lane (i := 19) rfl) rfl (lv_at hl 1 rfl) ?_
      refine lv_bipush (v := nI 6) hx hb (dg D_X12_lane (i := 20) rfl) (by decide) ?_
      refine lv_iload_n hx hb (dg D_X12_lane (i := 21) rfl) rfl (lv_at hl 0 rfl) ?_
      refine n_iadd hx hb (dg D_X12_lane (i := 22) rfl) ?_
      refine n_iconst (a := 0) hx hb (dg D_X12_lane (i := 23) rfl) rfl ?_
      refine lv_sipush (v := nI 999) hx hb (dg D_X12_lane (i := 24) rfl) (by decide) ?_
      refine callVi X hW hS hR (c_X12_numberTo (I := I25) b n σ (tt b n p9 2) (6 + (nLn σ)) 0 999 (by first | assumption | omega | decide | exact hP.1) (by first | assumption | omega | decide | exact hP.1) (by first | assumption | omega | decide | exact hP.1) (by first | assumption | omega | decide | exact hP.1) (by first | assumption | omega | decide | exact hP.1) (tt_le hp 2) (by first | assumption | omega | decide | exact hP.1) (by first | assumption | omega | decide | exact hP.1) (by first | assumption | omega | decide | exact hP.1) (by first | assumption | omega | decide | exact hP.1) (by first | assumption | omega | decide | exact hP.1)) (by decide) UVX12_numberTo LK_X12_186 rfl (by decide) rfl rfl rfl (Nat.le_of_ble_eq_true rfl) hl hcs (dg D_X12_lane (i := 25) rfl) (fun r40 I40 Lc40 R1 H locs hq hW hS => ?_)
      obtain ⟨rfl, hT40, hp40_0, hp40_1, hL40, rfl⟩ := hq
      have hF : Fr SNp I I40 := Fr.tr hF hT40 (fun _ _ h => h)
      have hb3 : I40 73 = b := (Fr.row hT40 (fun _ => rfl)).trans hb3
      have hln : I40 67 11 = nI n := (hT40 67 11 rfl).trans hln
      have hFL : FL SLp L Lc40 := FL.tr hFL hL40 (by intro a j h; simp only [SLk, SLp, Bool.or_eq_true, Bool.and_eq_true, beq_iff_eq, decide_eq_true_eq] at h ⊢; omega)
      have hNx : NmX b n Lc40 σ nm 0 (tS b n (tt b n p9 1)) := NmX.fl hNx hL40 (fun _ => rfl)
      have hNm : NmM b n Lc40 σ nm := NmM.fl hNm hL40 (fun _ => rfl)
      refine z_if_ne (tgt := 48) hx hb (dg D_X12_lane (i := 26) rfl) (by decide) (fun c43 => ?_) (fun c43 => ?_)
      · obtain ⟨hTk, hpa, hz⟩ := hp40_0 c43
        refine lv_aload_n hx hb (dg D_X12_lane (i := 29) rfl) rfl (lv_at hl 1 rfl) ?_
        refine r_getc (t := 69) X hW FI_X12_13 rfl (by decide) rfl (dg D_X12_lane (i := 30) rfl) ?_
        refine n_iconst (a := 3) hx hb (dg D_X12_lane (i := 31) rfl) rfl ?_
        refine lv_dup2_11 hx hb (dg D_X12_lane (i := 32) rfl) rfl rfl ?_
        refine r_ald (j := 3) (v := nI (nLn σ)) X hW rfl (by decide) rfl (by omega) (by decide) ((congrFun hpa 3).trans ((upd_ne (by omega)).trans hLn)) (dg D_X12_lane (i := 33) rfl) ?_
        refine n_iconst (a := 1) hx hb (dg D_X12_lane (i := 34) rfl) rfl ?_
        refine n_iadd hx hb (dg D_X12_lane (i := 35) rfl) ?_
        refine r_ast (j := 3) (v := nI ((nLn σ) + 1)) X hW hS rfl (by decide) rfl (by omega) (by decide) (dg D_X12_lane (i := 36) rfl) (fun H locs hW hS => ?_)
        have hF : Fr SNp I (u2 I40 69 3 (nI ((nLn σ) + 1))) := Fr.put hF rfl
        have hb3 : (u2 I40 69 3 (nI ((nLn σ) + 1))) 73 = b := by rw [u2_ne (by decide)]; exact hb3
        have hTk : TokM b n (u2 I40 69 3 (nI ((nLn σ) + 1))) Lc40 (tt b n p9 3) := TokM.pu hTk (by omega)
        have hpa : (u2 I40 69 3 (nI ((nLn σ) + 1))) 69 = adL σ (nI (tV b n (tt b n p9 2))) := by rw [u2_eq, hpa]; rfl
        have hz : KZ (u2 I40 69 3 (nI ((nLn σ) + 1))) := KZ.pu hz (by omega)
        obtain ⟨J57, eJ57⟩ : ∃ J, J = u2 I40 69 3 (nI ((nLn σ) + 1)) := ⟨_, rfl⟩
        rw [← eJ57] at hW hF hb3 hTk hpa hz
        have hln : J57 67 11 = nI n := by rw [eJ57, u2_off (Or.inl (by decide))]; exact hln
        refine n_iconst (a := 1) hx hb (dg D_X12_lane (i := 37) rfl) rfl ?_
        have hst9 : stLa b n σ nm p9 = .inr (adL σ (nI (tV b n (tt b n p9 2))), unm nm 0 (nLn σ) (tS b n (tt b n p9 1)), tt b n p9 3) := by unfold stLa; simp only [c9, c28, c43, ↓reduceIte, reduceCtorEq]
        exact fin (dg D_X12_lane (i := 38) rfl) hW hS (show _ = bI true from rfl) ⟨by rw [hst9]; rfl, hF, by rw [hst9]; exact ⟨hpa, hTk, NmX.grow hNx (cN_adL (by omega)), hz⟩, hFL, rfl⟩
      · refine n_iconst (a := 0) hx hb (dg D_X12_lane (i := 27) rfl) rfl ?_
        have hst9 : stLa b n σ nm p9 = .inl (nuE b n (tt b n p9 2), tS b n (tt b n p9 2)) := by unfold stLa; simp only [c9, c28, c43, ↓reduceIte, reduceCtorEq]
        exact fin (dg D_X12_lane (i := 28) rfl) hW hS (show _ = bI false from rfl) ⟨by rw [hst9]; rfl, hF, by rw [hst9]; exact hp40_1 c43, hFL, rfl⟩
  · refine lv_aload_n hx hb (dg D_X12_lane (i := 8) rfl) rfl (lv_at hl 1 rfl) ?_
    refine n_iconst (a := 5) hx hb (dg D_X12_lane (i := 9) rfl) rfl ?_
    refine callVi X hW hS hR (c_X12_fail (I := I) (nI 5) (nI (tK b n p9)) (nI (tS b n p9)) (by first | assumption | omega | decide | exact hP.1) (by first | assumption | omega | decide | exact hP.1)) (by decide) UVX12_fail LK_X12_163 rfl (by decide) rfl rfl rfl (Nat.le_of_ble_eq_true rfl) hl hcs (dg D_X12_lane (i := 10) rfl) (fun r14 I14 L1 R1 H locs hq hW hS => ?_)
    obtain ⟨rfl, hT14, hp14_0, hp14_1, rfl, rfl⟩ := hq
    have hF : Fr SNp I I14 := Fr.tr hF hT14 (by intro a j h; simp only [SFl, SNp, Bool.or_eq_true, Bool.and_eq_true, beq_iff_eq, decide_eq_true_eq] at h ⊢; omega)
    have hb3 : I14 73 = b := (Fr.row hT14 (fun _ => rfl)).trans hb3
    have hpa : I14 69 = σ := (Fr.row hT14 (fun _ => rfl)).trans hpa
    have hln : I14 67 11 = nI n := (hT14 67 11 rfl).trans hln
    have hst : I14 67 12 = nI (tS b n p9) := (hT14 67 12 rfl).trans hst
    have htk : I14 67 14 = nI (tK b n p9) := (hT14 67 14 rfl).trans htk
    have hkw : I14 67 15 = kwI b n p9 := (hT14 67 15 rfl).trans hkw
    have hnx : I14 67 13 = nI (tE b n p9) := (hT14 67 13 rfl).trans hnx
    have hst9 : stLa b n σ nm p9 = .inl (nI 5, tS b n p9) := by unfold stLa; simp only [c9, ↓reduceIte, reduceCtorEq]
    exact fin (dg D_X12_lane (i := 11) rfl) hW hS rfl ⟨by rw [hst9]; rfl, hF, by rw [hst9]; exact ⟨by rw [hp14_0, fl_I (by omega)], hp14_1⟩, hFL, rfl⟩

