set_option maxHeartbeats 4000000 in
set_option maxRecDepth 100000 in
theorem c_X12_gang {l : Launch} {G : va_G} {bs : Nat} {cy : Nat → ClassId} {I : CI} {L : CL} {R : CR} (b : Nat → Int32) (n : Nat) (σ : Row) (p9 : Nat) (nm : Nm) (hz : KZ I) (hb3 : I 73 = b) (hln : I 67 11 = nI n) (hT : TB b n) (hn : n ≤ 900) (hp : p9 ≤ n) (hTk : TokM b n I L p9) (hi : Inv σ) (hpa : I 69 = σ) (hNm : NmM b n L σ nm) (hk2 : tK b n p9 = 2) : MTi l G bs cy MX12_gang 9 [.ref (bs + 67)] I L R (fun r I1 L1 R1 => bI (okP (stGa b n σ nm p9)) = r ∧ Fr SNp I I1 ∧ PostM b n (stGa b n σ nm p9) I1 L1 ∧ FL SLp L L1 ∧ R = R1) := by
  refine MTz.of (own := RX12) pn_RX12 rfl (Nat.le_of_ble_eq_true rfl) ?_
  intro p e s m args below meth c Qf X hW hS fin ls hl
  have hx := X.1
  have hb := X.2.1
  have hR : RmOK (rmL 9 0 0) 9 := ⟨rfl, rfl⟩
  have hcs : 0 ≤ (rmL 9 0 0).cells ∧ 0 ≤ (rmL 9 0 0).slots := ⟨Nat.zero_le _, Nat.zero_le _⟩
  have hl : lv_has ls 2 [(0, .ref (bs + 67))] := hl
  have hF : Fr SNp I I := Fr.rf
  have hFL : FL SLp L L := FL.rf
  obtain ⟨hst, hnx, htk, hkw, hva, hnm9⟩ := id hTk
  have hk4 : tK b n p9 ≤ 4 := tK_le
  obtain ⟨hY, hY1, hY12, hLn, hL4, hSn, hS12, hGn, hG5⟩ := id hi
  refine lv_aload_n hx hb (dg D_X12_gang (i := 0) rfl) rfl (lv_at hl 0 rfl) ?_
  refine r_getc (t := 69) X hW FI_X12_13 rfl (by decide) rfl (dg D_X12_gang (i := 1) rfl) ?_
  refine n_iconst (a := 5) hx hb (dg D_X12_gang (i := 2) rfl) rfl ?_
  refine r_ald (j := 5) (v := nI (nG σ)) X hW rfl (by decide) rfl (by omega) (by decide) ((congrFun hpa 5).trans hGn) (dg D_X12_gang (i := 3) rfl) ?_
  refine lv_istore_n (lv' := [(1, .int (nI (nG σ))), (0, .ref (bs + 67))]) hx hb (dg D_X12_gang (i := 4) rfl) rfl hl (by decide) rfl (fun ls hl => ?_)
  refine lv_iload_n hx hb (dg D_X12_gang (i := 5) rfl) rfl (lv_at hl 0 rfl) ?_
  refine n_iconst (a := 5) hx hb (dg D_X12_gang (i := 6) rfl) rfl ?_
  refine n_icmp_ne (tgt := 18) hx hb (by omega) (by omega) (dg D_X12_gang (i := 7) rfl) (by decide) (fun c9 => ?_) (fun c9 => ?_)
  · refine lv_aload_n hx hb (dg D_X12_gang (i := 12) rfl) rfl (lv_at hl 1 rfl) ?_
    refine callVi X hW hS hR (c_X12_advance (I := I) b n (tt b n p9 1) (by first | assumption | omega | decide | exact hP.1) (by first | assumption | omega | decide | exact hP.1) (hnx) (by first | assumption | omega | decide | exact hP.1) (by first | assumption | omega | decide | exact hP.1) (tt_le hp 1)) (by decide) UVX12_advance LK_X12_169 rfl (by decide) rfl rfl rfl (Nat.le_of_ble_eq_true rfl) hl hcs (dg D_X12_gang (i := 13) rfl) (fun r19 I19 Lc19 R1 H locs hq hW hS => ?_)
    obtain ⟨rfl, hT19, hp19_0, hL19, rfl⟩ := hq
    have hF : Fr SNp I I19 := Fr.tr hF hT19 (by intro a j h; simp only [STk, SNp, Bool.or_eq_true, Bool.and_eq_true, beq_iff_eq, decide_eq_true_eq] at h ⊢; omega)
    have hb3 : I19 73 = b := (Fr.row hT19 (fun _ => rfl)).trans hb3
    have hpa : I19 69 = σ := (Fr.row hT19 (fun _ => rfl)).trans hpa
    have hz : KZ I19 := KZ.fr hz hT19 rfl rfl
    have hln : I19 67 11 = nI n := (hT19 67 11 rfl).trans hln
    have hFL : FL SLp L Lc19 := FL.tr hFL hL19 (by intro a j h; simp only [SLk, SLp, Bool.or_eq_true, Bool.and_eq_true, beq_iff_eq, decide_eq_true_eq] at h ⊢; omega)
    have hNm : NmM b n Lc19 σ nm := NmM.fl hNm hL19 (fun _ => rfl)
    have hTk : TokM b n I19 Lc19 (tt b n p9 1) := hp19_0
    refine lv_pop hx hb (dg D_X12_gang (i := 14) rfl) rfl ?_
    refine lv_aload_n hx hb (dg D_X12_gang (i := 15) rfl) rfl (lv_at hl 1 rfl) ?_
    refine n_iconst (a := 2) hx hb (dg D_X12_gang (i := 16) rfl) rfl ?_
    refine callVi X hW hS hR (c_X12_newName (I := I19) b n σ (tt b n p9 1) nm 2 (by first | assumption | omega | decide | exact hP.1) (by first | assumption | omega | decide | exact hP.1) (by first | assumption | omega | decide | exact hP.1) (by first | assumption | omega | decide | exact hP.1) (by first | assumption | omega | decide | exact hP.1) (tt_le hp 1) (by first | assumption | omega | decide | exact hP.1) (by first | assumption | omega | decide | exact hP.1) (by first | assumption | omega | decide | exact hP.1) (by first | assumption | omega | decide | exact hP.1) (by decide) (show nG σ < 12 by omega)) (by decide) UVX12_newName LK_X12_190 rfl (by decide) rfl rfl rfl (Nat.le_of_ble_eq_true rfl) hl hcs (dg D_X12_gang (i := 17) rfl) (fun r25 I25 Lc25 R1 H locs hq hW hS => ?_)
    obtain ⟨rfl, hT25, hp25_0, hp25_1, hL25, rfl⟩ := hq
    have hF : Fr SNp I I25 := Fr.tr hF hT25 (by intro a j h; simp only [SNm, SNp, Bool.or_eq_true, Bool.and_eq_true, beq_iff_eq, decide_eq_true_eq] at h ⊢; omega)
    have hb3 : I25 73 = b := (Fr.row hT25 (fun _ => rfl)).trans hb3
    have hpa : I25 69 = σ := (Fr.row hT25 (fun _ => rfl)).trans hpa
    have hln : I25 67 11 = nI n := (hT25 67 11 rfl).trans hln
    have hFL : FL SLp L Lc25 := FL.tr hFL hL25 (fun _ _ h => h)
    have hNm : True := trivial
    refine z_if_eq (tgt := 67) hx hb (dg D_X12_gang (i := 18) rfl) (by decide) (fun c28 => ?_) (fun c28 => ?_)
    · refine n_iconst (a := 0) hx hb (dg D_X12_gang (i := 43) rfl) rfl ?_
      have hst9 : stGa b n σ nm p9 = .inl (nnE b n (tt b n p9 1), tS b n (tt b n p9 1)) := by unfold stGa; simp only [c9, c28, ↓reduceIte, reduceCtorEq]
      exact fin (dg D_X12_gang (i := 44) rfl) hW hS (show _ = bI false from rfl) ⟨by rw [hst9]; rfl, hF, by rw [hst9]; exact hp25_1 c28, hFL, rfl⟩
    · obtain ⟨hTk, hNx, hz⟩ := hp25_0 c28
      have hNm := hNx.1
      refine lv_aload_n hx hb (dg D_X12_gang (i := 19) rfl) rfl (lv_at hl 1 rfl) ?_
      refine lv_bipush (v := nI 70) hx hb (dg D_X12_gang (i := 20) rfl) (by decide) ?_
      refine n_iconst (a := 2) hx hb (dg D_X12_gang (i := 21) rfl) rfl ?_
      refine lv_iload_n hx hb (dg D_X12_gang (i := 22) rfl) rfl (lv_at hl 0 rfl) ?_
      refine n_imul hx hb (dg D_X12_gang (i := 23) rfl) ?_
      refine n_iadd hx hb (dg D_X12_gang (i := 24) rfl) ?_
      refine n_iconst (a := 0) hx hb (dg D_X12_gang (i := 25) rfl) rfl ?_
      refine n_iadd hx hb (dg D_X12_gang (i := 26) rfl) ?_
      refine n_iconst (a := 1) hx hb (dg D_X12_gang (i := 27) rfl) rfl ?_
      refine lv_bipush (v := nI 50) hx hb (dg D_X12_gang (i := 28) rfl) (by decide) ?_
      refine callVi X hW hS hR (c_X12_numberTo (I := I25) b n σ (tt b n p9 2) ((70 + (2 * (nG σ))) + 0) 1 50 (by first | assumption | omega | decide | exact hP.1) (by first | assumption | omega | decide | exact hP.1) (by first | assumption | omega | decide | exact hP.1) (by first | assumption | omega | decide | exact hP.1) (by first | assumption | omega | decide | exact hP.1) (tt_le hp 2) (by first | assumption | omega | decide | exact hP.1) (by first | assumption | omega | decide | exact hP.1) (by first | assumption | omega | decide | exact hP.1) (by first | assumption | omega | decide | exact hP.1) (by first | assumption | omega | decide | exact hP.1)) (by decide) UVX12_numberTo LK_X12_186 rfl (by decide) rfl rfl rfl (Nat.le_of_ble_eq_true rfl) hl hcs (dg D_X12_gang (i := 29) rfl) (fun r43 I43 Lc43 R1 H locs hq hW hS => ?_)
      obtain ⟨rfl, hT43, hp43_0, hp43_1, hL43, rfl⟩ := hq
      have hF : Fr SNp I I43 := Fr.tr hF hT43 (fun _ _ h => h)
      have hb3 : I43 73 = b := (Fr.row hT43 (fun _ => rfl)).trans hb3
      have hln : I43 67 11 = nI n := (hT43 67 11 rfl).trans hln
      have hFL : FL SLp L Lc43 := FL.tr hFL hL43 (by intro a j h; simp only [SLk, SLp, Bool.or_eq_true, Bool.and_eq_true, beq_iff_eq, decide_eq_true_eq] at h ⊢; omega)
      have hNx : NmX b n Lc43 σ nm 2 (tS b n (tt b n p9 1)) := NmX.fl hNx hL43 (fun _ => rfl)
      have hNm : NmM b n Lc43 σ nm := NmM.fl hNm hL43 (fun _ => rfl)
      refine z_if_eq (tgt := 67) hx hb (dg D_X12_gang (i := 30) rfl) (by decide) (fun c46 => ?_) (fun c46 => ?_)
      · refine n_iconst (a := 0) hx hb (dg D_X12_gang (i := 43) rfl) rfl ?_
        have hst9 : stGa b n σ nm p9 = .inl (nuE b n (tt b n p9 2), tS b n (tt b n p9 2)) := by unfold stGa; simp only [c9, c28, c46, ↓reduceIte, reduceCtorEq]
        exact fin (dg D_X12_gang (i := 44) rfl) hW hS (show _ = bI false from rfl) ⟨by rw [hst9]; rfl, hF, by rw [hst9]; exact hp43_1 c46, hFL, rfl⟩
      · obtain ⟨hTk, hpa, hz⟩ := hp43_0 c46
        refine lv_aload_n hx hb (dg D_X12_gang (i := 31) rfl) rfl (lv_at hl 1 rfl) ?_
        refine lv_bipush (v := nI 70) hx hb (dg D_X12_gang (i := 32) rfl) (by decide) ?_
        refine n_iconst (a := 2) hx hb (dg D_X12_gang (i := 33) rfl) rfl ?_
        refine lv_iload_n hx hb (dg D_X12_gang (i := 34) rfl) rfl (lv_at hl 0 rfl) ?_
        refine n_imul hx hb (dg D_X12_gang (i := 35) rfl) ?_
        refine n_iadd hx hb (dg D_X12_gang (i := 36) rfl) ?_
        refine n_iconst (a := 1) hx hb (dg D_X12_gang (i := 37) rfl) rfl ?_
        refine n_iadd hx hb (dg D_X12_gang (i := 38) rfl) ?_
        refine n_iconst (a := 0) hx hb (dg D_X12_gang (i := 39) rfl) rfl ?_
        refine lv_bipush (v := nI 99) hx hb (dg D_X12_gang (i := 40) rfl) (by decide) ?_
        refine callVi X hW hS hR (c_X12_numberTo (I := I43) b n (upd σ (70 + 2 * nG σ + 0) (nI (tV b n (tt b n p9 2)))) (tt b n p9 3) ((70 + (2 * (nG σ))) + 1) 0 99 (by first | assumption | omega | decide | exact hP.1) (by first | assumption | omega | decide | exact hP.1) (by first | assumption | omega | decide | exact hP.1) (by first | assumption | omega | decide | exact hP.1) (by first | assumption | omega | decide | exact hP.1) (tt_le hp 3) (by first | assumption | omega | decide | exact hP.1) (by first | assumption | omega | decide | exact hP.1) (by first | assumption | omega | decide | exact hP.1) (by first | assumption | omega | decide | exact hP.1) (by first | assumption | omega | decide | exact hP.1)) (by decide) UVX12_numberTo LK_X12_186 rfl (by decide) rfl rfl rfl (Nat.le_of_ble_eq_true rfl) hl hcs (dg D_X12_gang (i := 41) rfl) (fun r61 I61 Lc61 R1 H locs hq hW hS => ?_)
        obtain ⟨rfl, hT61, hp61_0, hp61_1, hL61, rfl⟩ := hq
        have hF : Fr SNp I I61 := Fr.tr hF hT61 (fun _ _ h => h)
        have hb3 : I61 73 = b := (Fr.row hT61 (fun _ => rfl)).trans hb3
        have hln : I61 67 11 = nI n := (hT61 67 11 rfl).trans hln
        have hFL : FL SLp L Lc61 := FL.tr hFL hL61 (by intro a j h; simp only [SLk, SLp, Bool.or_eq_true, Bool.and_eq_true, beq_iff_eq, decide_eq_true_eq] at h ⊢; omega)
        have hNx : NmX b n Lc61 σ nm 2 (tS b n (tt b n p9 1)) := NmX.fl hNx hL61 (fun _ => rfl)
        have hNm : NmM b n Lc61 σ nm := NmM.fl hNm hL61 (fun _ => rfl)
        refine z_if_ne (tgt := 69) hx hb (dg D_X12_gang (i := 42) rfl) (by decide) (fun c64 => ?_) (fun c64 => ?_)
        · obtain ⟨hTk, hpa, hz⟩ := hp61_0 c64
          refine lv_aload_n hx hb (dg D_X12_gang (i := 45) rfl) rfl (lv_at hl 1 rfl) ?_
          refine r_getc (t := 69) X hW FI_X12_13 rfl (by decide) rfl (dg D_X12_gang (i := 46) rfl) ?_
          refine n_iconst (a := 5) hx hb (dg D_X12_gang (i := 47) rfl) rfl ?_
          refine lv_dup2_11 hx hb (dg D_X12_gang (i := 48) rfl) rfl rfl ?_
          refine r_ald (j := 5) (v := nI (nG σ)) X hW rfl (by decide) rfl (by omega) (by decide) ((congrFun hpa 5).trans ((upd_ne (by omega)).trans ((upd_ne (by omega)).trans hGn))) (dg D_X12_gang (i := 49) rfl) ?_
          refine n_iconst (a := 1) hx hb (dg D_X12_gang (i := 50) rfl) rfl ?_
          refine n_iadd hx hb (dg D_X12_gang (i := 51) rfl) ?_
          refine r_ast (j := 5) (v := nI ((nG σ) + 1)) X hW hS rfl (by decide) rfl (by omega) (by decide) (dg D_X12_gang (i := 52) rfl) (fun H locs hW hS => ?_)
          have hF : Fr SNp I (u2 I61 69 5 (nI ((nG σ) + 1))) := Fr.put hF rfl
          have hb3 : (u2 I61 69 5 (nI ((nG σ) + 1))) 73 = b := by rw [u2_ne (by decide)]; exact hb3
          have hTk : TokM b n (u2 I61 69 5 (nI ((nG σ) + 1))) Lc61 (tt b n p9 4) := TokM.pu hTk (by omega)
          have hpa : (u2 I61 69 5 (nI ((nG σ) + 1))) 69 = adG σ (nI (tV b n (tt b n p9 2))) (nI (tV b n (tt b n p9 3))) := by rw [u2_eq, hpa]; rfl
          have hz : KZ (u2 I61 69 5 (nI ((nG σ) + 1))) := KZ.pu hz (by omega)
          obtain ⟨J78, eJ78⟩ : ∃ J, J = u2 I61 69 5 (nI ((nG σ) + 1)) := ⟨_, rfl⟩
          rw [← eJ78] at hW hF hb3 hTk hpa hz
          have hln : J78 67 11 = nI n := by rw [eJ78, u2_off (Or.inl (by decide))]; exact hln
          refine n_iconst (a := 1) hx hb (dg D_X12_gang (i := 53) rfl) rfl ?_
          have hst9 : stGa b n σ nm p9 = .inr (adG σ (nI (tV b n (tt b n p9 2))) (nI (tV b n (tt b n p9 3))), unm nm 2 (nG σ) (tS b n (tt b n p9 1)), tt b n p9 4) := by unfold stGa; simp only [c9, c28, c46, c64, ↓reduceIte, reduceCtorEq]
          exact fin (dg D_X12_gang (i := 54) rfl) hW hS (show _ = bI true from rfl) ⟨by rw [hst9]; rfl, hF, by rw [hst9]; exact ⟨hpa, hTk, NmX.grow hNx (cN_adG (by omega)), hz⟩, hFL, rfl⟩
        · refine n_iconst (a := 0) hx hb (dg D_X12_gang (i := 43) rfl) rfl ?_
          have hst9 : stGa b n σ nm p9 = .inl (nuE b n (tt b n p9 3), tS b n (tt b n p9 3)) := by unfold stGa; simp only [c9, c28, c46, c64, ↓reduceIte, reduceCtorEq]
          exact fin (dg D_X12_gang (i := 44) rfl) hW hS (show _ = bI false from rfl) ⟨by rw [hst9]; rfl, hF, by rw [hst9]; exact hp61_1 c64, hFL, rfl⟩
  · refine lv_aload_n hx hb (dg D_X12_gang (i := 8) rfl) rfl (lv_at hl 1 rfl) ?_
    refine n_iconst (a := 5) hx hb (dg D_X12_gang (i := 9) rfl) rfl ?_
    refine callVi X hW hS hR (c_X12_fail (I := I) (nI 5) (nI (tK b n p9)) (nI (tS b n p9)) (by first | assumption | omega | decide | exact hP.1) (by first | assumption | omega | decide | exact hP.1)) (by decide) UVX12_fail LK_X12_163 rfl (by decide) rfl rfl rfl (Nat.le_of_ble_eq_true rfl) hl hcs (dg D_X12_gang (i := 10) rfl) (fun r14 I14 L1 R1 H locs hq hW hS => ?_)
    obtain ⟨rfl, hT14, hp14_0, hp14_1, rfl, rfl⟩ := hq
    have hF : Fr SNp I I14 := Fr.tr hF hT14 (by intro a j h; simp only [SFl, SNp, Bool.or_eq_true, Bool.and_eq_true, beq_iff_eq, decide_eq_true_eq] at h ⊢; omega)
    have hb3 : I14 73 = b := (Fr.row hT14 (fun _ => rfl)).trans hb3
    have hpa : I14 69 = σ := (Fr.row hT14 (fun _ => rfl)).trans hpa
    have hln : I14 67 11 = nI n := (hT14 67 11 rfl).trans hln
    have hst : I14 67 12 = nI (tS b n p9) := (hT14 67 12 rfl).trans hst
    have htk : I14 67 14 = nI (tK b n p9) := (hT14 67 14 rfl).trans htk
    have hkw : I14 67 15 = kwI b n p9 := (hT14 67 15 rfl).trans hkw
    have hnx : I14 67 13 = nI (tE b n p9) := (hT14 67 13 rfl).trans hnx
    have hst9 : stGa b n σ nm p9 = .inl (nI 5, tS b n p9) := by unfold stGa; simp only [c9, ↓reduceIte, reduceCtorEq]
    exact fin (dg D_X12_gang (i := 11) rfl) hW hS rfl ⟨by rw [hst9]; rfl, hF, by rw [hst9]; exact ⟨by rw [hp14_0, fl_I (by omega)], hp14_1⟩, hFL, rfl⟩

set_option maxHeartbeats 4000000 in
set_option maxRecDepth 100000 in
theorem c_X12_span {l : Launch} {G : va_G} {bs : Nat} {cy : Nat → ClassId} {I : CI} {L : CL} {R : CR} (b : Nat → Int32) (n : Nat) (σ : Row) (p9 : Nat) (nm : Nm) (hz : KZ I) (hb3 : I 73 = b) (hln : I 67 11 = nI n) (hT : TB b n) (hn : n ≤ 900) (hp : p9 ≤ n) (hTk : TokM b n I L p9) (hi : Inv σ) (hpa : I 69 = σ) (hNm : NmM b n L σ nm) (hk2 : tK b n p9 = 2) : MTi l G bs cy MX12_span 9 [.ref (bs + 67)] I L R (fun r I1 L1 R1 => bI (okP (stSp b n σ nm p9)) = r ∧ Fr SNp I I1 ∧ PostM b n (stSp b n σ nm p9) I1 L1 ∧ FL SLp L L1 ∧ R = R1) := by
  refine MTz.of (own := RX12) pn_RX12 rfl (Nat.le_of_ble_eq_true rfl) ?_
  intro p e s m args below meth c Qf X hW hS fin ls hl
  have hx := X.1
  have hb := X.2.1
  have hR : RmOK (rmL 9 0 0) 9 := ⟨rfl, rfl⟩
  have hcs : 0 ≤ (rmL 9 0 0).cells ∧ 0 ≤ (rmL 9 0 0).slots := ⟨Nat.zero_le _, Nat.zero_le _⟩
  have hl : lv_has ls 3 [(0, .ref (bs + 67))] := hl
  have hF : Fr SNp I I := Fr.rf
  have hFL : FL SLp L L := FL.rf
  obtain ⟨hst, hnx, htk, hkw, hva, hnm9⟩ := id hTk
  have hk4 : tK b n p9 ≤ 4 := tK_le
  obtain ⟨hY, hY1, hY12, hLn, hL4, hSn, hS12, hGn, hG5⟩ := id hi
  refine lv_aload_n hx hb (dg D_X12_span (i := 0) rfl) rfl (lv_at hl 0 rfl) ?_
  refine r_getc (t := 69) X hW FI_X12_13 rfl (by decide) rfl (dg D_X12_span (i := 1) rfl) ?_
  refine n_iconst (a := 4) hx hb (dg D_X12_span (i := 2) rfl) rfl ?_
  refine r_ald (j := 4) (v := nI (nS σ)) X hW rfl (by decide) rfl (by omega) (by decide) ((congrFun hpa 4).trans hSn) (dg D_X12_span (i := 3) rfl) ?_
  refine lv_istore_n (lv' := [(1, .int (nI (nS σ))), (0, .ref (bs + 67))]) hx hb (dg D_X12_span (i := 4) rfl) rfl hl (by decide) rfl (fun ls hl => ?_)
  refine lv_iload_n hx hb (dg D_X12_span (i := 5) rfl) rfl (lv_at hl 0 rfl) ?_
  refine lv_bipush (v := nI 12) hx hb (dg D_X12_span (i := 6) rfl) (by decide) ?_
  refine n_icmp_ne (tgt := 19) hx hb (by omega) (by omega) (dg D_X12_span (i := 7) rfl) (by decide) (fun c10 => ?_) (fun c10 => ?_)
  · refine lv_aload_n hx hb (dg D_X12_span (i := 12) rfl) rfl (lv_at hl 1 rfl) ?_
    refine callVi X hW hS hR (c_X12_advance (I := I) b n (tt b n p9 1) (by first | assumption | omega | decide | exact hP.1) (by first | assumption | omega | decide | exact hP.1) (hnx) (by first | assumption | omega | decide | exact hP.1) (by first | assumption | omega | decide | exact hP.1) (tt_le hp 1)) (by decide) UVX12_advance LK_X12_169 rfl (by decide) rfl rfl rfl (Nat.le_of_ble_eq_true rfl) hl hcs (dg D_X12_span (i := 13) rfl) (fun r20 I20 Lc20 R1 H locs hq hW hS => ?_)
    obtain ⟨rfl, hT20, hp20_0, hL20, rfl⟩ := hq
    have hF : Fr SNp I I20 := Fr.tr hF hT20 (by intro a j h; simp only [STk, SNp, Bool.or_eq_true, Bool.and_eq_true, beq_iff_eq, decide_eq_true_eq] at h ⊢; omega)
    have hb3 : I20 73 = b := (Fr.row hT20 (fun _ => rfl)).trans hb3
    have hpa : I20 69 = σ := (Fr.row hT20 (fun _ => rfl)).trans hpa
    have hz : KZ I20 := KZ.fr hz hT20 rfl rfl
    have hln : I20 67 11 = nI n := (hT20 67 11 rfl).trans hln
    have hFL : FL SLp L Lc20 := FL.tr hFL hL20 (by intro a j h; simp only [SLk, SLp, Bool.or_eq_true, Bool.and_eq_true, beq_iff_eq, decide_eq_true_eq] at h ⊢; omega)
    have hNm : NmM b n Lc20 σ nm := NmM.fl hNm hL20 (fun _ => rfl)
    have hTk : TokM b n I20 Lc20 (tt b n p9 1) := hp20_0
    refine lv_pop hx hb (dg D_X12_span (i := 14) rfl) rfl ?_
    refine lv_bipush (v := nI 10) hx hb (dg D_X12_span (i := 15) rfl) (by decide) ?_
    refine n_iconst (a := 5) hx hb (dg D_X12_span (i := 16) rfl) rfl ?_
    refine lv_iload_n hx hb (dg D_X12_span (i := 17) rfl) rfl (lv_at hl 0 rfl) ?_
    refine n_imul hx hb (dg D_X12_span (i := 18) rfl) ?_
    refine n_iadd hx hb (dg D_X12_span (i := 19) rfl) ?_
    refine lv_istore_n (lv' := [(2, .int (nI (10 + (5 * (nS σ))))), (1, .int (nI (nS σ))), (0, .ref (bs + 67))]) hx hb (dg D_X12_span (i := 20) rfl) rfl hl (by decide) rfl (fun ls hl => ?_)
    refine lv_aload_n hx hb (dg D_X12_span (i := 21) rfl) rfl (lv_at hl 2 rfl) ?_
    refine n_iconst (a := 1) hx hb (dg D_X12_span (i := 22) rfl) rfl ?_
    refine callVi X hW hS hR (c_X12_newName (I := I20) b n σ (tt b n p9 1) nm 1 (by first | assumption | omega | decide | exact hP.1) (by first | assumption | omega | decide | exact hP.1) (by first | assumption | omega | decide | exact hP.1) (by first | assumption | omega | decide | exact hP.1) (by first | assumption | omega | decide | exact hP.1) (tt_le hp 1) (by first | assumption | omega | decide | exact hP.1) (by first | assumption | omega | decide | exact hP.1) (by first | assumption | omega | decide | exact hP.1) (by first | assumption | omega | decide | exact hP.1) (by decide) (show nS σ < 12 by omega)) (by decide) UVX12_newName LK_X12_190 rfl (by decide) rfl rfl rfl (Nat.le_of_ble_eq_true rfl) hl hcs (dg D_X12_span (i := 23) rfl) (fun r33 I33 Lc33 R1 H locs hq hW hS => ?_)
    obtain ⟨rfl, hT33, hp33_0, hp33_1, hL33, rfl⟩ := hq
    have hF : Fr SNp I I33 := Fr.tr hF hT33 (by intro a j h; simp only [SNm, SNp, Bool.or_eq_true, Bool.and_eq_true, beq_iff_eq, decide_eq_true_eq] at h ⊢; omega)
    have hb3 : I33 73 = b := (Fr.row hT33 (fun _ => rfl)).trans hb3
    have hpa : I33 69 = σ := (Fr.row hT33 (fun _ => rfl)).trans hpa
    have hln : I33 67 11 = nI n := (hT33 67 11 rfl).trans hln
    have hFL : FL SLp L Lc33 := FL.tr hFL hL33 (fun _ _ h => h)
    have hNm : True := trivial
    refine z_if_ne (tgt := 41) hx hb (dg D_X12_span (i := 24) rfl) (by decide) (fun c36 => ?_) (fun c36 => ?_)
    · obtain ⟨hTk, hNx, hz⟩ := hp33_0 c36
      have hNm := hNx.1
      obtain ⟨hst, hnx, htk, hkw, hva, hnm9⟩ := id hTk
      refine lv_aload_n hx hb (dg D_X12_span (i := 27) rfl) rfl (lv_at hl 2 rfl) ?_
      refine r_geti (v := kwI b n (tt b n p9 2)) X hW FI_X12_120 rfl (by decide) rfl hkw (dg D_X12_span (i := 28) rfl) ?_
      refine lv_bipush (v := nI 7) hx hb (dg D_X12_span (i := 29) rfl) (by decide) ?_
      refine lv_icmp_ne (tgt := 67) hx hb (dg D_X12_span (i := 30) rfl) (by decide) (fun c47 => ?_) (fun c47 => ?_)
      · obtain ⟨hlok9, hlnv⟩ := lnOk_o (σ := σ) (nm := nm) c47
        refine lv_aload_n hx hb (dg D_X12_span (i := 42) rfl) rfl (lv_at hl 2 rfl) ?_
        refine n_iconst (a := 0) hx hb (dg D_X12_span (i := 43) rfl) rfl ?_
        refine callVi X hW hS hR (c_X12_oldName (I := I33) b n σ (tt b n p9 2) nm 0 (by first | assumption | omega | decide | exact hP.1) (by first | assumption | omega | decide | exact hP.1) (by first | assumption | omega | decide | exact hP.1) (by first | assumption | omega | decide | exact hP.1) (by first | assumption | omega | decide | exact hP.1) (tt_le hp 2) (by first | assumption | omega | decide | exact hP.1) (by first | assumption | omega | decide | exact hP.1) (by first | assumption | omega | decide | exact hP.1) (by first | assumption | omega | decide | exact hP.1) (by decide)) (by decide) UVX12_oldName LK_X12_193 rfl (by decide) rfl rfl rfl (Nat.le_of_ble_eq_true rfl) hl hcs (dg D_X12_span (i := 44) rfl) (fun r69 I69 Lc69 R1 H locs hq hW hS => ?_)
        obtain ⟨rfl, hT69, hp69_0, hp69_1, hL69, rfl⟩ := hq
        have hF : Fr SNp I I69 := Fr.tr hF hT69 (by intro a j h; simp only [SNo, SNp, Bool.or_eq_true, Bool.and_eq_true, beq_iff_eq, decide_eq_true_eq] at h ⊢; omega)
        have hb3 : I69 73 = b := (Fr.row hT69 (fun _ => rfl)).trans hb3
        have hpa : I69 69 = σ := (Fr.row hT69 (fun _ => rfl)).trans hpa
        have hln : I69 67 11 = nI n := (hT69 67 11 rfl).trans hln
        have hFL : FL SLp L Lc69 := FL.tr hFL hL69 (by intro a j h; simp only [SLk, SLp, Bool.or_eq_true, Bool.and_eq_true, beq_iff_eq, decide_eq_true_eq] at h ⊢; omega)
        have hNx : NmX b n Lc69 σ nm 1 (tS b n (tt b n p9 1)) := NmX.fl hNx hL69 (fun _ => rfl)
        have hNm : NmM b n Lc69 σ nm := NmM.fl hNm hL69 (fun _ => rfl)
        refine z_if_eq (tgt := 90) hx hb (dg D_X12_span (i := 45) rfl) (by decide) (fun c72 => ?_) (fun c72 => ?_)
        · have hlok := hlok9.trans c72
          refine n_iconst (a := 0) hx hb (dg D_X12_span (i := 55) rfl) rfl ?_
          have hst9 : stSp b n σ nm p9 = .inl (nnE b n (tt b n p9 2), tS b n (tt b n p9 2)) := by unfold stSp; simp only [c10, c36, c47, c72, hlok, ↓reduceIte, reduceCtorEq]
          exact fin (dg D_X12_span (i := 56) rfl) hW hS (show _ = bI false from rfl) ⟨by rw [hst9]; rfl, hF, by rw [hst9]; exact hp69_1 c72, hFL, rfl⟩
        · obtain ⟨hTk, hnr, hz⟩ := hp69_0 c72
          have hlok := hlok9.trans c72
          refine lv_aload_n hx hb (dg D_X12_span (i := 46) rfl) rfl (lv_at hl 2 rfl) ?_
          refine r_getc (t := 69) X hW FI_X12_13 rfl (by decide) rfl (dg D_X12_span (i := 47) rfl) ?_
          refine lv_iload_n hx hb (dg D_X12_span (i := 48) rfl) rfl (lv_at hl 0 rfl) ?_
          refine n_iconst (a := 0) hx hb (dg D_X12_span (i := 49) rfl) rfl ?_
          refine n_iadd hx hb (dg D_X12_span (i := 50) rfl) ?_
          refine lv_aload_n hx hb (dg D_X12_span (i := 51) rfl) rfl (lv_at hl 2 rfl) ?_
          refine r_geti (v := nI (fk b n σ nm 0 (tS b n (tt b n p9 2)))) X hW FI_X12_183 rfl (by decide) rfl hnr (dg D_X12_span (i := 52) rfl) ?_
          refine r_ast (j := (10 + (5 * (nS σ))) + 0) (v := nI (fk b n σ nm 0 (tS b n (tt b n p9 2)))) X hW hS rfl (by decide) rfl (by omega) (by decide) (dg D_X12_span (i := 53) rfl) (fun H locs hW hS => ?_)
          have hF : Fr SNp I (u2 I69 69 ((10 + (5 * (nS σ))) + 0) (nI (fk b n σ nm 0 (tS b n (tt b n p9 2))))) := Fr.put hF rfl
          have hb3 : (u2 I69 69 ((10 + (5 * (nS σ))) + 0) (nI (fk b n σ nm 0 (tS b n (tt b n p9 2))))) 73 = b := by rw [u2_ne (by decide)]; exact hb3
          have hpa : (u2 I69 69 ((10 + (5 * (nS σ))) + 0) (nI (fk b n σ nm 0 (tS b n (tt b n p9 2))))) 69 = upd σ (10 + 5 * nS σ + 0) (lnV b n σ nm (tt b n p9 2)) := by rw [u2_eq, hpa, hlnv]
          have hTk : TokM b n (u2 I69 69 ((10 + (5 * (nS σ))) + 0) (nI (fk b n σ nm 0 (tS b n (tt b n p9 2))))) Lc69 (tt b n p9 3) := TokM.pu hTk (by omega)
          have hz : KZ (u2 I69 69 ((10 + (5 * (nS σ))) + 0) (nI (fk b n σ nm 0 (tS b n (tt b n p9 2))))) := KZ.pu hz (by omega)
          obtain ⟨J86, eJ86⟩ : ∃ J, J = u2 I69 69 ((10 + (5 * (nS σ))) + 0) (nI (fk b n σ nm 0 (tS b n (tt b n p9 2)))) := ⟨_, rfl⟩
          rw [← eJ86] at hW hF hb3 hpa hTk hz
          have hln : J86 67 11 = nI n := by rw [eJ86, u2_off (Or.inl (by decide))]; exact hln
          have hnr : J86 67 22 = nI (fk b n σ nm 0 (tS b n (tt b n p9 2))) := by rw [eJ86, u2_off (Or.inl (by decide))]; exact hnr
          refine lv_goto (tgt := 92) hx hb (dg D_X12_span (i := 54) rfl) (by decide) ?_
          refine lv_aload_n hx hb (dg D_X12_span (i := 57) rfl) rfl (lv_at hl 2 rfl) ?_
          refine lv_iload_n hx hb (dg D_X12_span (i := 58) rfl) rfl (lv_at hl 0 rfl) ?_
          refine n_iconst (a := 1) hx hb (dg D_X12_span (i := 59) rfl) rfl ?_
          refine n_iadd hx hb (dg D_X12_span (i := 60) rfl) ?_
          refine n_iconst (a := 1) hx hb (dg D_X12_span (i := 61) rfl) rfl ?_
          refine lv_bipush (v := nI 99) hx hb (dg D_X12_span (i := 62) rfl) (by decide) ?_
          refine callVi X hW hS hR (c_X12_numberTo (I := J86) b n (upd σ (10 + 5 * nS σ + 0) (lnV b n σ nm (tt b n p9 2))) (tt b n p9 3) ((10 + (5 * (nS σ))) + 1) 1 99 (by first | assumption | omega | decide | exact hP.1) (by first | assumption | omega | decide | exact hP.1) (by first | assumption | omega | decide | exact hP.1) (by first | assumption | omega | decide | exact hP.1) (by first | assumption | omega | decide | exact hP.1) (tt_le hp 3) (by first | assumption | omega | decide | exact hP.1) (by first | assumption | omega | decide | exact hP.1) (by first | assumption | omega | decide | exact hP.1) (by first | assumption | omega | decide | exact hP.1) (by first | assumption | omega | decide | exact hP.1)) (by decide) UVX12_numberTo LK_X12_186 rfl (by decide) rfl rfl rfl (Nat.le_of_ble_eq_true rfl) hl hcs (dg D_X12_span (i := 63) rfl) (fun r99 I99 Lc99 R1 H locs hq hW hS => ?_)
          obtain ⟨rfl, hT99, hp99_0, hp99_1, hL99, rfl⟩ := hq
          have hF : Fr SNp I I99 := Fr.tr hF hT99 (fun _ _ h => h)
          have hb3 : I99 73 = b := (Fr.row hT99 (fun _ => rfl)).trans hb3
          have hln : I99 67 11 = nI n := (hT99 67 11 rfl).trans hln
          have hFL : FL SLp L Lc99 := FL.tr hFL hL99 (by intro a j h; simp only [SLk, SLp, Bool.or_eq_true, Bool.and_eq_true, beq_iff_eq, decide_eq_true_eq] at h ⊢; omega)
          have hNx : NmX b n Lc99 σ nm 1 (tS b n (tt b n p9 1)) := NmX.fl hNx hL99 (fun _ => rfl)
          have hNm : NmM b n Lc99 σ nm := NmM.fl hNm hL99 (fun _ => rfl)
          refine z_if_eq (tgt := 144) hx hb (dg D_X12_span (i := 64) rfl) (by decide) (fun c102 => ?_) (fun c102 => ?_)
          · refine n_iconst (a := 0) hx hb (dg D_X12_span (i := 89) rfl) rfl ?_
            have hst9 : stSp b n σ nm p9 = .inl (nuE b n (tt b n p9 3), tS b n (tt b n p9 3)) := by unfold stSp; simp only [c10, c36, c47, c72, c102, hlok, ↓reduceIte, reduceCtorEq]
            exact fin (dg D_X12_span (i := 90) rfl) hW hS (show _ = bI false from rfl) ⟨by rw [hst9]; rfl, hF, by rw [hst9]; exact hp99_1 c102, hFL, rfl⟩
          · obtain ⟨hTk, hpa, hz⟩ := hp99_0 c102
            refine lv_aload_n hx hb (dg D_X12_span (i := 65) rfl) rfl (lv_at hl 2 rfl) ?_
            refine lv_iload_n hx hb (dg D_X12_span (i := 66) rfl) rfl (lv_at hl 0 rfl) ?_
            refine n_iconst (a := 2) hx hb (dg D_X12_span (i := 67) rfl) rfl ?_
            refine n_iadd hx hb (dg D_X12_span (i := 68) rfl) ?_
            refine n_iconst (a := 0) hx hb (dg D_X12_span (i := 69) rfl) rfl ?_
            refine lv_bipush (v := nI 100) hx hb (dg D_X12_span (i := 70) rfl) (by decide) ?_
            refine callVi X hW hS hR (c_X12_numberTo (I := I99) b n (upd (upd σ (10 + 5 * nS σ + 0) (lnV b n σ nm (tt b n p9 2))) (10 + 5 * nS σ + 1) (nI (tV b n (tt b n p9 3)))) (tt b n p9 4) ((10 + (5 * (nS σ))) + 2) 0 100 (by first | assumption | omega | decide | exact hP.1) (by first | assumption | omega | decide | exact hP.1) (by first | assumption | omega | decide | exact hP.1) (by first | assumption | omega | decide | exact hP.1) (by first | assumption | omega | decide | exact hP.1) (tt_le hp 4) (by first | assumption | omega | decide | exact hP.1) (by first | assumption | omega | decide | exact hP.1) (by first | assumption | omega | decide | exact hP.1) (by first | assumption | omega | decide | exact hP.1) (by first | assumption | omega | decide | exact hP.1)) (by decide) UVX12_numberTo LK_X12_186 rfl (by decide) rfl rfl rfl (Nat.le_of_ble_eq_true rfl) hl hcs (dg D_X12_span (i := 71) rfl) (fun r112 I112 Lc112 R1 H locs hq hW hS => ?_)
            obtain ⟨rfl, hT112, hp112_0, hp112_1, hL112, rfl⟩ := hq
            have hF : Fr SNp I I112 := Fr.tr hF hT112 (fun _ _ h => h)
            have hb3 : I112 73 = b := (Fr.row hT112 (fun _ => rfl)).trans hb3
            have hln : I112 67 11 = nI n := (hT112 67 11 rfl).trans hln
            have hFL : FL SLp L Lc112 := FL.tr hFL hL112 (by intro a j h; simp only [SLk, SLp, Bool.or_eq_true, Bool.and_eq_true, beq_iff_eq, decide_eq_true_eq] at h ⊢; omega)
            have hNx : NmX b n Lc112 σ nm 1 (tS b n (tt b n p9 1)) := NmX.fl hNx hL112 (fun _ => rfl)
            have hNm : NmM b n Lc112 σ nm := NmM.fl hNm hL112 (fun _ => rfl)
            refine z_if_eq (tgt := 144) hx hb (dg D_X12_span (i := 72) rfl) (by decide) (fun c115 => ?_) (fun c115 => ?_)
            · refine n_iconst (a := 0) hx hb (dg D_X12_span (i := 89) rfl) rfl ?_
              have hst9 : stSp b n σ nm p9 = .inl (nuE b n (tt b n p9 4), tS b n (tt b n p9 4)) := by unfold stSp; simp only [c10, c36, c47, c72, c102, c115, hlok, ↓reduceIte, reduceCtorEq]
              exact fin (dg D_X12_span (i := 90) rfl) hW hS (show _ = bI false from rfl) ⟨by rw [hst9]; rfl, hF, by rw [hst9]; exact hp112_1 c115, hFL, rfl⟩
            · obtain ⟨hTk, hpa, hz⟩ := hp112_0 c115
              refine lv_aload_n hx hb (dg D_X12_span (i := 73) rfl) rfl (lv_at hl 2 rfl) ?_
              refine lv_iload_n hx hb (dg D_X12_span (i := 74) rfl) rfl (lv_at hl 0 rfl) ?_
              refine n_iconst (a := 3) hx hb (dg D_X12_span (i := 75) rfl) rfl ?_
              refine n_iadd hx hb (dg D_X12_span (i := 76) rfl) ?_
              refine n_iconst (a := 1) hx hb (dg D_X12_span (i := 77) rfl) rfl ?_
              refine lv_bipush (v := nI 50) hx hb (dg D_X12_span (i := 78) rfl) (by decide) ?_
              refine callVi X hW hS hR (c_X12_numberTo (I := I112) b n (upd (upd (upd σ (10 + 5 * nS σ + 0) (lnV b n σ nm (tt b n p9 2))) (10 + 5 * nS σ + 1) (nI (tV b n (tt b n p9 3)))) (10 + 5 * nS σ + 2) (nI (tV b n (tt b n p9 4)))) (tt b n p9 5) ((10 + (5 * (nS σ))) + 3) 1 50 (by first | assumption | omega | decide | exact hP.1) (by first | assumption | omega | decide | exact hP.1) (by first | assumption | omega | decide | exact hP.1) (by first | assumption | omega | decide | exact hP.1) (by first | assumption | omega | decide | exact hP.1) (tt_le hp 5) (by first | assumption | omega | decide | exact hP.1) (by first | assumption | omega | decide | exact hP.1) (by first | assumption | omega | decide | exact hP.1) (by first | assumption | omega | decide | exact hP.1) (by first | assumption | omega | decide | exact hP.1)) (by decide) UVX12_numberTo LK_X12_186 rfl (by decide) rfl rfl rfl (Nat.le_of_ble_eq_true rfl) hl hcs (dg D_X12_span (i := 79) rfl) (fun r125 I125 Lc125 R1 H locs hq hW hS => ?_)
              obtain ⟨rfl, hT125, hp125_0, hp125_1, hL125, rfl⟩ := hq
              have hF : Fr SNp I I125 := Fr.tr hF hT125 (fun _ _ h => h)
              have hb3 : I125 73 = b := (Fr.row hT125 (fun _ => rfl)).trans hb3
              have hln : I125 67 11 = nI n := (hT125 67 11 rfl).trans hln
              have hFL : FL SLp L Lc125 := FL.tr hFL hL125 (by intro a j h; simp only [SLk, SLp, Bool.or_eq_true, Bool.and_eq_true, beq_iff_eq, decide_eq_true_eq] at h ⊢; omega)
              have hNx : NmX b n Lc125 σ nm 1 (tS b n (tt b n p9 1)) := NmX.fl hNx hL125 (fun _ => rfl)
              have hNm : NmM b n Lc125 σ nm := NmM.fl hNm hL125 (fun _ => rfl)
              refine z_if_eq (tgt := 144) hx hb (dg D_X12_span (i := 80) rfl) (by decide) (fun c128 => ?_) (fun c128 => ?_)
              · refine n_iconst (a := 0) hx hb (dg D_X12_span (i := 89) rfl) rfl ?_
                have hst9 : stSp b n σ nm p9 = .inl (nuE b n (tt b n p9 5), tS b n (tt b n p9 5)) := by unfold stSp; simp only [c10, c36, c47, c72, c102, c115, c128, hlok, ↓reduceIte, reduceCtorEq]
                exact fin (dg D_X12_span (i := 90) rfl) hW hS (show _ = bI false from rfl) ⟨by rw [hst9]; rfl, hF, by rw [hst9]; exact hp125_1 c128, hFL, rfl⟩
              · obtain ⟨hTk, hpa, hz⟩ := hp125_0 c128
                refine lv_aload_n hx hb (dg D_X12_span (i := 81) rfl) rfl (lv_at hl 2 rfl) ?_
                refine lv_iload_n hx hb (dg D_X12_span (i := 82) rfl) rfl (lv_at hl 0 rfl) ?_
                refine n_iconst (a := 4) hx hb (dg D_X12_span (i := 83) rfl) rfl ?_
                refine n_iadd hx hb (dg D_X12_span (i := 84) rfl) ?_
                refine n_iconst (a := 1) hx hb (dg D_X12_span (i := 85) rfl) rfl ?_
                refine lv_bipush (v := nI 100) hx hb (dg D_X12_span (i := 86) rfl) (by decide) ?_
                refine callVi X hW hS hR (c_X12_numberTo (I := I125) b n (upd (upd (upd (upd σ (10 + 5 * nS σ + 0) (lnV b n σ nm (tt b n p9 2))) (10 + 5 * nS σ + 1) (nI (tV b n (tt b n p9 3)))) (10 + 5 * nS σ + 2) (nI (tV b n (tt b n p9 4)))) (10 + 5 * nS σ + 3) (nI (tV b n (tt b n p9 5)))) (tt b n p9 6) ((10 + (5 * (nS σ))) + 4) 1 100 (by first | assumption | omega | decide | exact hP.1) (by first | assumption | omega | decide | exact hP.1) (by first | assumption | omega | decide | exact hP.1) (by first | assumption | omega | decide | exact hP.1) (by first | assumption | omega | decide | exact hP.1) (tt_le hp 6) (by first | assumption | omega | decide | exact hP.1) (by first | assumption | omega | decide | exact hP.1) (by first | assumption | omega | decide | exact hP.1) (by first | assumption | omega | decide | exact hP.1) (by first | assumption | omega | decide | exact hP.1)) (by decide) UVX12_numberTo LK_X12_186 rfl (by decide) rfl rfl rfl (Nat.le_of_ble_eq_true rfl) hl hcs (dg D_X12_span (i := 87) rfl) (fun r138 I138 Lc138 R1 H locs hq hW hS => ?_)
                obtain ⟨rfl, hT138, hp138_0, hp138_1, hL138, rfl⟩ := hq
                have hF : Fr SNp I I138 := Fr.tr hF hT138 (fun _ _ h => h)
                have hb3 : I138 73 = b := (Fr.row hT138 (fun _ => rfl)).trans hb3
                have hln : I138 67 11 = nI n := (hT138 67 11 rfl).trans hln
                have hFL : FL SLp L Lc138 := FL.tr hFL hL138 (by intro a j h; simp only [SLk, SLp, Bool.or_eq_true, Bool.and_eq_true, beq_iff_eq, decide_eq_true_eq] at h ⊢; omega)
                have hNx : NmX b n Lc138 σ nm 1 (tS b n (tt b n p9 1)) := NmX.fl hNx hL138 (fun _ => rfl)
                have hNm : NmM b n Lc138 σ nm := NmM.fl hNm hL138 (fun _ => rfl)
                refine z_if_ne (tgt := 146) hx hb (dg D_X12_span (i := 88) rfl) (by decide) (fun c141 => ?_) (fun c141 => ?_)
                · obtain ⟨hTk, hpa, hz⟩ := hp138_0 c141
                  refine lv_aload_n hx hb (dg D_X12_span (i := 91) rfl) rfl (lv_at hl 2 rfl) ?_
                  refine r_getc (t := 69) X hW FI_X12_13 rfl (by decide) rfl (dg D_X12_span (i := 92) rfl) ?_
                  refine n_iconst (a := 4) hx hb (dg D_X12_span (i := 93) rfl) rfl ?_
                  refine lv_dup2_11 hx hb (dg D_X12_span (i := 94) rfl) rfl rfl ?_
                  refine r_ald (j := 4) (v := nI (nS σ)) X hW rfl (by decide) rfl (by omega) (by decide) ((congrFun hpa 4).trans ((upd_ne (by omega)).trans ((upd_ne (by omega)).trans ((upd_ne (by omega)).trans ((upd_ne (by omega)).trans ((upd_ne (by omega)).trans hSn)))))) (dg D_X12_span (i := 95) rfl) ?_
                  refine n_iconst (a := 1) hx hb (dg D_X12_span (i := 96) rfl) rfl ?_
                  refine n_iadd hx hb (dg D_X12_span (i := 97) rfl) ?_
                  refine r_ast (j := 4) (v := nI ((nS σ) + 1)) X hW hS rfl (by decide) rfl (by omega) (by decide) (dg D_X12_span (i := 98) rfl) (fun H locs hW hS => ?_)
                  have hF : Fr SNp I (u2 I138 69 4 (nI ((nS σ) + 1))) := Fr.put hF rfl
                  have hb3 : (u2 I138 69 4 (nI ((nS σ) + 1))) 73 = b := by rw [u2_ne (by decide)]; exact hb3
                  have hTk : TokM b n (u2 I138 69 4 (nI ((nS σ) + 1))) Lc138 (tt b n p9 7) := TokM.pu hTk (by omega)
                  have hpa : (u2 I138 69 4 (nI ((nS σ) + 1))) 69 = adS σ (lnV b n σ nm (tt b n p9 2)) (nI (tV b n (tt b n p9 3))) (nI (tV b n (tt b n p9 4))) (nI (tV b n (tt b n p9 5))) (nI (tV b n (tt b n p9 6))) := by rw [u2_eq, hpa]; rfl
                  have hz : KZ (u2 I138 69 4 (nI ((nS σ) + 1))) := KZ.pu hz (by omega)
                  obtain ⟨J155, eJ155⟩ : ∃ J, J = u2 I138 69 4 (nI ((nS σ) + 1)) := ⟨_, rfl⟩
                  rw [← eJ155] at hW hF hb3 hTk hpa hz
                  have hln : J155 67 11 = nI n := by rw [eJ155, u2_off (Or.inl (by decide))]; exact hln
                  refine n_iconst (a := 1) hx hb (dg D_X12_span (i := 99) rfl) rfl ?_
                  have hst9 : stSp b n σ nm p9 = .inr (adS σ (lnV b n σ nm (tt b n p9 2)) (nI (tV b n (tt b n p9 3))) (nI (tV b n (tt b n p9 4))) (nI (tV b n (tt b n p9 5))) (nI (tV b n (tt b n p9 6))), unm nm 1 (nS σ) (tS b n (tt b n p9 1)), tt b n p9 7) := by unfold stSp; simp only [c10, c36, c47, c72, c102, c115, c128, c141, hlok, ↓reduceIte, reduceCtorEq]
                  exact fin (dg D_X12_span (i := 100) rfl) hW hS (show _ = bI true from rfl) ⟨by rw [hst9]; rfl, hF, by rw [hst9]; exact ⟨hpa, hTk, NmX.grow hNx (cN_adS (by omega)), hz⟩, hFL, rfl⟩
                · refine n_iconst (a := 0) hx hb (dg D_X12_span (i := 89) rfl) rfl ?_
                  have hst9 : stSp b n σ nm p9 = .inl (nuE b n (tt b n p9 6), tS b n (tt b n p9 6)) := by unfold stSp; simp only [c10, c36, c47, c72, c102, c115, c128, c141, hlok, ↓reduceIte, reduceCtorEq]
                  exact fin (dg D_X12_span (i := 90) rfl) hW hS (show _ = bI false from rfl) ⟨by rw [hst9]; rfl, hF, by rw [hst9]; exact hp138_1 c141, hFL, rfl⟩
      · obtain ⟨hlok, hlnv⟩ := lnOk_7 (σ := σ) (nm := nm) (by first | exact c47 | exact Classical.not_not.mp c47)
        refine lv_aload_n hx hb (dg D_X12_span (i := 31) rfl) rfl (lv_at hl 2 rfl) ?_
        refine r_getc (t := 69) X hW FI_X12_13 rfl (by decide) rfl (dg D_X12_span (i := 32) rfl) ?_
        refine lv_iload_n hx hb (dg D_X12_span (i := 33) rfl) rfl (lv_at hl 0 rfl) ?_
        refine n_iconst (a := 0) hx hb (dg D_X12_span (i := 34) rfl) rfl ?_
        refine n_iadd hx hb (dg D_X12_span (i := 35) rfl) ?_
        refine lv_iconst (v := -1) hx hb (dg D_X12_span (i := 36) rfl) (by decide) ?_
        refine r_ast (j := (10 + (5 * (nS σ))) + 0) (v := (-1)) X hW hS rfl (by decide) rfl (by omega) (by decide) (dg D_X12_span (i := 37) rfl) (fun H locs hW hS => ?_)
        have hF : Fr SNp I (u2 I33 69 ((10 + (5 * (nS σ))) + 0) ((-1))) := Fr.put hF rfl
        have hb3 : (u2 I33 69 ((10 + (5 * (nS σ))) + 0) ((-1))) 73 = b := by rw [u2_ne (by decide)]; exact hb3
        have hpa : (u2 I33 69 ((10 + (5 * (nS σ))) + 0) ((-1))) 69 = upd σ (10 + 5 * nS σ + 0) (lnV b n σ nm (tt b n p9 2)) := by rw [u2_eq, hpa, hlnv]
        have hTk : TokM b n (u2 I33 69 ((10 + (5 * (nS σ))) + 0) ((-1))) Lc33 (tt b n p9 2) := TokM.pu hTk (by omega)
        have hz : KZ (u2 I33 69 ((10 + (5 * (nS σ))) + 0) ((-1))) := KZ.pu hz (by omega)
        obtain ⟨J58, eJ58⟩ : ∃ J, J = u2 I33 69 ((10 + (5 * (nS σ))) + 0) ((-1)) := ⟨_, rfl⟩
        rw [← eJ58] at hW hF hb3 hpa hTk hz
        have hln : J58 67 11 = nI n := by rw [eJ58, u2_off (Or.inl (by decide))]; exact hln
        have hst : J58 67 12 = nI (tS b n (tt b n p9 2)) := by rw [eJ58, u2_off (Or.inl (by decide))]; exact hst
        have htk : J58 67 14 = nI (tK b n (tt b n p9 2)) := by rw [eJ58, u2_off (Or.inl (by decide))]; exact htk
        have hkw : J58 67 15 = kwI b n (tt b n p9 2) := by rw [eJ58, u2_off (Or.inl (by decide))]; exact hkw
        have hnx : J58 67 13 = nI (tE b n (tt b n p9 2)) := by rw [eJ58, u2_off (Or.inl (by decide))]; exact hnx
        refine lv_aload_n hx hb (dg D_X12_span (i := 38) rfl) rfl (lv_at hl 2 rfl) ?_
        refine callVi X hW hS hR (c_X12_advance (I := J58) b n (tt b n p9 3) (by first | assumption | omega | decide | exact hP.1) (by first | assumption | omega | decide | exact hP.1) (hnx) (by first | assumption | omega | decide | exact hP.1) (by first | assumption | omega | decide | exact hP.1) (tt_le hp 3)) (by decide) UVX12_advance LK_X12_169 rfl (by decide) rfl rfl rfl (Nat.le_of_ble_eq_true rfl) hl hcs (dg D_X12_span (i := 39) rfl) (fun r60 I60 Lc60 R1 H locs hq hW hS => ?_)
        obtain ⟨rfl, hT60, hp60_0, hL60, rfl⟩ := hq
        have hF : Fr SNp I I60 := Fr.tr hF hT60 (by intro a j h; simp only [STk, SNp, Bool.or_eq_true, Bool.and_eq_true, beq_iff_eq, decide_eq_true_eq] at h ⊢; omega)
        have hb3 : I60 73 = b := (Fr.row hT60 (fun _ => rfl)).trans hb3
        have hpa : I60 69 = upd σ (10 + 5 * nS σ + 0) (lnV b n σ nm (tt b n p9 2)) := (Fr.row hT60 (fun _ => rfl)).trans hpa
        have hz : KZ I60 := KZ.fr hz hT60 rfl rfl
        have hln : I60 67 11 = nI n := (hT60 67 11 rfl).trans hln
        have hFL : FL SLp L Lc60 := FL.tr hFL hL60 (by intro a j h; simp only [SLk, SLp, Bool.or_eq_true, Bool.and_eq_true, beq_iff_eq, decide_eq_true_eq] at h ⊢; omega)
        have hNx : NmX b n Lc60 σ nm 1 (tS b n (tt b n p9 1)) := NmX.fl hNx hL60 (fun _ => rfl)
        have hNm : NmM b n Lc60 σ nm := NmM.fl hNm hL60 (fun _ => rfl)
        have hTk : TokM b n I60 Lc60 (tt b n p9 3) := hp60_0
        refine lv_pop hx hb (dg D_X12_span (i := 40) rfl) rfl ?_
        refine lv_goto (tgt := 92) hx hb (dg D_X12_span (i := 41) rfl) (by decide) ?_
        refine lv_aload_n hx hb (dg D_X12_span (i := 57) rfl) rfl (lv_at hl 2 rfl) ?_
        refine lv_iload_n hx hb (dg D_X12_span (i := 58) rfl) rfl (lv_at hl 0 rfl) ?_
        refine n_iconst (a := 1) hx hb (dg D_X12_span (i := 59) rfl) rfl ?_
        refine n_iadd hx hb (dg D_X12_span (i := 60) rfl) ?_
        refine n_iconst (a := 1) hx hb (dg D_X12_span (i := 61) rfl) rfl ?_
        refine lv_bipush (v := nI 99) hx hb (dg D_X12_span (i := 62) rfl) (by decide) ?_
        refine callVi X hW hS hR (c_X12_numberTo (I := I60) b n (upd σ (10 + 5 * nS σ + 0) (lnV b n σ nm (tt b n p9 2))) (tt b n p9 3) ((10 + (5 * (nS σ))) + 1) 1 99 (by first | assumption | omega | decide | exact hP.1) (by first | assumption | omega | decide | exact hP.1) (by first | assumption | omega | decide | exact hP.1) (by first | assumption | omega | decide | exact hP.1) (by first | assumption | omega | decide | exact hP.1) (tt_le hp 3) (by first | assumption | omega | decide | exact hP.1) (by first | assumption | omega | decide | exact hP.1) (by first | assumption | omega | decide | exact hP.1) (by first | assumption | omega | decide | exact hP.1) (by first | assumption | omega | decide | exact hP.1)) (by decide) UVX12_numberTo LK_X12_186 rfl (by decide) rfl rfl rfl (Nat.le_of_ble_eq_true rfl) hl hcs (dg D_X12_span (i := 63) rfl) (fun r99 I99 Lc99 R1 H locs hq hW hS => ?_)
        obtain ⟨rfl, hT99, hp99_0, hp99_1, hL99, rfl⟩ := hq
        have hF : Fr SNp I I99 := Fr.tr hF hT99 (fun _ _ h => h)
        have hb3 : I99 73 = b := (Fr.row hT99 (fun _ => rfl)).trans hb3
        have hln : I99 67 11 = nI n := (hT99 67 11 rfl).trans hln
        have hFL : FL SLp L Lc99 := FL.tr hFL hL99 (by intro a j h; simp only [SLk, SLp, Bool.or_eq_true, Bool.and_eq_true, beq_iff_eq, decide_eq_true_eq] at h ⊢; omega)
        have hNx : NmX b n Lc99 σ nm 1 (tS b n (tt b n p9 1)) := NmX.fl hNx hL99 (fun _ => rfl)
        have hNm : NmM b n Lc99 σ nm := NmM.fl hNm hL99 (fun _ => rfl)
        refine z_if_eq (tgt := 144) hx hb (dg D_X12_span (i := 64) rfl) (by decide) (fun c102 => ?_) (fun c102 => ?_)
        · refine n_iconst (a := 0) hx hb (dg D_X12_span (i := 89) rfl) rfl ?_
          have hst9 : stSp b n σ nm p9 = .inl (nuE b n (tt b n p9 3), tS b n (tt b n p9 3)) := by unfold stSp; simp only [c10, c36, c47, c102, hlok, ↓reduceIte, reduceCtorEq]
          exact fin (dg D_X12_span (i := 90) rfl) hW hS (show _ = bI false from rfl) ⟨by rw [hst9]; rfl, hF, by rw [hst9]; exact hp99_1 c102, hFL, rfl⟩
        · obtain ⟨hTk, hpa, hz⟩ := hp99_0 c102
          refine lv_aload_n hx hb (dg D_X12_span (i := 65) rfl) rfl (lv_at hl 2 rfl) ?_
          refine lv_iload_n hx hb (dg D_X12_span (i := 66) rfl) rfl (lv_at hl 0 rfl) ?_
          refine n_iconst (a := 2) hx hb (dg D_X12_span (i := 67) rfl) rfl ?_
          refine n_iadd hx hb (dg D_X12_span (i := 68) rfl) ?_
          refine n_iconst (a := 0) hx hb (dg D_X12_span (i := 69) rfl) rfl ?_
          refine lv_bipush (v := nI 100) hx hb (dg D_X12_span (i := 70) rfl) (by decide) ?_
          refine callVi X hW hS hR (c_X12_numberTo (I := I99) b n (upd (upd σ (10 + 5 * nS σ + 0) (lnV b n σ nm (tt b n p9 2))) (10 + 5 * nS σ + 1) (nI (tV b n (tt b n p9 3)))) (tt b n p9 4) ((10 + (5 * (nS σ))) + 2) 0 100 (by first | assumption | omega | decide | exact hP.1) (by first | assumption | omega | decide | exact hP.1) (by first | assumption | omega | decide | exact hP.1) (by first | assumption | omega | decide | exact hP.1) (by first | assumption | omega | decide | exact hP.1) (tt_le hp 4) (by first | assumption | omega | decide | exact hP.1) (by first | assumption | omega | decide | exact hP.1) (by first | assumption | omega | decide | exact hP.1) (by first | assumption | omega | decide | exact hP.1) (by first | assumption | omega | decide | exact hP.1)) (by decide) UVX12_numberTo LK_X12_186 rfl (by decide) rfl rfl rfl (Nat.le_of_ble_eq_true rfl) hl hcs (dg D_X12_span (i := 71) rfl) (fun r112 I112 Lc112 R1 H locs hq hW hS => ?_)
          obtain ⟨rfl, hT112, hp112_0, hp112_1, hL112, rfl⟩ := hq
          have hF : Fr SNp I I112 := Fr.tr hF hT112 (fun _ _ h => h)
          have hb3 : I112 73 = b := (Fr.row hT112 (fun _ => rfl)).trans hb3
          have hln : I112 67 11 = nI n := (hT112 67 11 rfl).trans hln
          have hFL : FL SLp L Lc112 := FL.tr hFL hL112 (by intro a j h; simp only [SLk, SLp, Bool.or_eq_true, Bool.and_eq_true, beq_iff_eq, decide_eq_true_eq] at h ⊢; omega)
          have hNx : NmX b n Lc112 σ nm 1 (tS b n (tt b n p9 1)) := NmX.fl hNx hL112 (fun _ => rfl)
          have hNm : NmM b n Lc112 σ nm := NmM.fl hNm hL112 (fun _ => rfl)
          refine z_if_eq (tgt := 144) hx hb (dg D_X12_span (i := 72) rfl) (by decide) (fun c115 => ?_) (fun c115 => ?_)
          · refine n_iconst (a := 0) hx hb (dg D_X12_span (i := 89) rfl) rfl ?_
            have hst9 : stSp b n σ nm p9 = .inl (nuE b n (tt b n p9 4), tS b n (tt b n p9 4)) := by unfold stSp; simp only [c10, c36, c47, c102, c115, hlok, ↓reduceIte, reduceCtorEq]
            exact fin (dg D_X12_span (i := 90) rfl) hW hS (show _ = bI false from rfl) ⟨by rw [hst9]; rfl, hF, by rw [hst9]; exact hp112_1 c115, hFL, rfl⟩
          · obtain ⟨hTk, hpa, hz⟩ := hp112_0 c115
            refine lv_aload_n hx hb (dg D_X12_span (i := 73) rfl) rfl (lv_at hl 2 rfl) ?_
            refine lv_iload_n hx hb (dg D_X12_span (i := 74) rfl) rfl (lv_at hl 0 rfl) ?_
            refine n_iconst (a := 3) hx hb (dg D_X12_span (i := 75) rfl) rfl ?_
            refine n_iadd hx hb (dg D_X12_span (i := 76) rfl) ?_
            refine n_iconst (a := 1) hx hb (dg D_X12_span (i := 77) rfl) rfl ?_
            refine lv_bipush (v := nI 50) hx hb (dg D_X12_span (i := 78) rfl) (by decide) ?_
            refine callVi X hW hS hR (c_X12_numberTo (I := I112) b n (upd (upd (upd σ (10 + 5 * nS σ + 0) (lnV b n σ nm (tt b n p9 2))) (10 + 5 * nS σ + 1) (nI (tV b n (tt b n p9 3)))) (10 + 5 * nS σ + 2) (nI (tV b n (tt b n p9 4)))) (tt b n p9 5) ((10 + (5 * (nS σ))) + 3) 1 50 (by first | assumption | omega | decide | exact hP.1) (by first | assumption | omega | decide | exact hP.1) (by first | assumption | omega | decide | exact hP.1) (by first | assumption | omega | decide | exact hP.1) (by first | assumption | omega | decide | exact hP.1) (tt_le hp 5) (by first | assumption | omega | decide | exact hP.1) (by first | assumption | omega | decide | exact hP.1) (by first | assumption | omega | decide | exact hP.1) (by first | assumption | omega | decide | exact hP.1) (by first | assumption | omega | decide | exact hP.1)) (by decide) UVX12_numberTo LK_X12_186 rfl (by decide) rfl rfl rfl (Nat.le_of_ble_eq_true rfl) hl hcs (dg D_X12_span (i := 79) rfl) (fun r125 I125 Lc125 R1 H locs hq hW hS => ?_)
            obtain ⟨rfl, hT125, hp125_0, hp125_1, hL125, rfl⟩ := hq
            have hF : Fr SNp I I125 := Fr.tr hF hT125 (fun _ _ h => h)
            have hb3 : I125 73 = b := (Fr.row hT125 (fun _ => rfl)).trans hb3
            have hln : I125 67 11 = nI n := (hT125 67 11 rfl).trans hln
            have hFL : FL SLp L Lc125 := FL.tr hFL hL125 (by intro a j h; simp only [SLk, SLp, Bool.or_eq_true, Bool.and_eq_true, beq_iff_eq, decide_eq_true_eq] at h ⊢; omega)
            have hNx : NmX b n Lc125 σ nm 1 (tS b n (tt b n p9 1)) := NmX.fl hNx hL125 (fun _ => rfl)
            have hNm : NmM b n Lc125 σ nm := NmM.fl hNm hL125 (fun _ => rfl)
            refine z_if_eq (tgt := 144) hx hb (dg D_X12_span (i := 80) rfl) (by decide) (fun c128 => ?_) (fun c128 => ?_)
            · refine n_iconst (a := 0) hx hb (dg D_X12_span (i := 89) rfl) rfl ?_
              have hst9 : stSp b n σ nm p9 = .inl (nuE b n (tt b n p9 5), tS b n (tt b n p9 5)) := by unfold stSp; simp only [c10, c36, c47, c102, c115, c128, hlok, ↓reduceIte, reduceCtorEq]
              exact fin (dg D_X12_span (i := 90) rfl) hW hS (show _ = bI false from rfl) ⟨by rw [hst9]; rfl, hF, by rw [hst9]; exact hp125_1 c128, hFL, rfl⟩
            · obtain ⟨hTk, hpa, hz⟩ := hp125_0 c128
              refine lv_aload_n hx hb (dg D_X12_span (i := 81) rfl) rfl (lv_at hl 2 rfl) ?_
              refine lv_iload_n hx hb (dg D_X12_span (i := 82) rfl) rfl (lv_at hl 0 rfl) ?_
              refine n_iconst (a := 4) hx hb (dg D_X12_span (i := 83) rfl) rfl ?_
              refine n_iadd hx hb (dg D_X12_span (i := 84) rfl) ?_
              refine n_iconst (a := 1) hx hb (dg D_X12_span (i := 85) rfl) rfl ?_
              refine lv_bipush (v := nI 100) hx hb (dg D_X12_span (i := 86) rfl) (by decide) ?_
              refine callVi X hW hS hR (c_X12_numberTo (I := I125) b n (upd (upd (upd (upd σ (10 + 5 * nS σ + 0) (lnV b n σ nm (tt b n p9 2))) (10 + 5 * nS σ + 1) (nI (tV b n (tt b n p9 3)))) (10 + 5 * nS σ + 2) (nI (tV b n (tt b n p9 4)))) (10 + 5 * nS σ + 3) (nI (tV b n (tt b n p9 5)))) (tt b n p9 6) ((10 + (5 * (nS σ))) + 4) 1 100 (by first | assumption | omega | decide | exact hP.1) (by first | assumption | omega | decide | exact hP.1) (by first | assumption | omega | decide | exact hP.1) (by first | assumption | omega | decide | exact hP.1) (by first | assumption | omega | decide | exact hP.1) (tt_le hp 6) (by first | assumption | omega | decide | exact hP.1) (by first | assumption | omega | decide | exact hP.1) (by first | assumption | omega | decide | exact hP.1) (by first | assumption | omega | decide | exact hP.1) (by first | assumption | omega | decide | exact hP.1)) (by decide) UVX12_numberTo LK_X12_186 rfl (by decide) rfl rfl rfl (Nat.le_of_ble_eq_true rfl) hl hcs (dg D_X12_span (i := 87) rfl) (fun r138 I138 Lc138 R1 H locs hq hW hS => ?_)
              obtain ⟨rfl, hT138, hp138_0, hp138_1, hL138, rfl⟩ := hq
              have hF : Fr SNp I I138 := Fr.tr hF hT138 (fun _ _ h => h)
              have hb3 : I138 73 = b := (Fr.row hT138 (fun _ => rfl)).trans hb3
              have hln : I138 67 11 = nI n := (hT138 67 11 rfl).trans hln
              have hFL : FL SLp L Lc138 := FL.tr hFL hL138 (by intro a j h; simp only [SLk, SLp, Bool.or_eq_true, Bool.and_eq_true, beq_iff_eq, decide_eq_true_eq] at h ⊢; omega)
              have hNx : NmX b n Lc138 σ nm 1 (tS b n (tt b n p9 1)) := NmX.fl hNx hL138 (fun _ => rfl)
              have hNm : NmM b n Lc138 σ nm := NmM.fl hNm hL138 (fun _ => rfl)
              refine z_if_ne (tgt := 146) hx hb (dg D_X12_span (i := 88) rfl) (by decide) (fun c141 => ?_) (fun c141 => ?_)
              · obtain ⟨hTk, hpa, hz⟩ := hp138_0 c141
                refine lv_aload_n hx hb (dg D_X12_span (i := 91) rfl) rfl (lv_at hl 2 rfl) ?_
                refine r_getc (t := 69) X hW FI_X12_13 rfl (by decide) rfl (dg D_X12_span (i := 92) rfl) ?_
                refine n_iconst (a := 4) hx hb (dg D_X12_span (i := 93) rfl) rfl ?_
                refine lv_dup2_11 hx hb (dg D_X12_span (i := 94) rfl) rfl rfl ?_
                refine r_ald (j := 4) (v := nI (nS σ)) X hW rfl (by decide) rfl (by omega) (by decide) ((congrFun hpa 4).trans ((upd_ne (by omega)).trans ((upd_ne (by omega)).trans ((upd_ne (by omega)).trans ((upd_ne (by omega)).trans ((upd_ne (by omega)).trans hSn)))))) (dg D_X12_span (i := 95) rfl) ?_
                refine n_iconst (a := 1) hx hb (dg D_X12_span (i := 96) rfl) rfl ?_
                refine n_iadd hx hb (dg D_X12_span (i := 97) rfl) ?_
                refine r_ast (j := 4) (v := nI ((nS σ) + 1)) X hW hS rfl (by decide) rfl (by omega) (by decide) (dg D_X12_span (i := 98) rfl) (fun H locs hW hS => ?_)
                have hF : Fr SNp I (u2 I138 69 4 (nI ((nS σ) + 1))) := Fr.put hF rfl
                have hb3 : (u2 I138 69 4 (nI ((nS σ) + 1))) 73 = b := by rw [u2_ne (by decide)]; exact hb3
                have hTk : TokM b n (u2 I138 69 4 (nI ((nS σ) + 1))) Lc138 (tt b n p9 7) := TokM.pu hTk (by omega)
                have hpa : (u2 I138 69 4 (nI ((nS σ) + 1))) 69 = adS σ (lnV b n σ nm (tt b n p9 2)) (nI (tV b n (tt b n p9 3))) (nI (tV b n (tt b n p9 4))) (nI (tV b n (tt b n p9 5))) (nI (tV b n (tt b n p9 6))) := by rw [u2_eq, hpa]; rfl
                have hz : KZ (u2 I138 69 4 (nI ((nS σ) + 1))) := KZ.pu hz (by omega)
                obtain ⟨J155, eJ155⟩ : ∃ J, J = u2 I138 69 4 (nI ((nS σ) + 1)) := ⟨_, rfl⟩
                rw [← eJ155] at hW hF hb3 hTk hpa hz
                have hln : J155 67 11 = nI n := by rw [eJ155, u2_off (Or.inl (by decide))]; exact hln
                refine n_iconst (a := 1) hx hb (dg D_X12_span (i := 99) rfl) rfl ?_
                have hst9 : stSp b n σ nm p9 = .inr (adS σ (lnV b n σ nm (tt b n p9 2)) (nI (tV b n (tt b n p9 3))) (nI (tV b n (tt b n p9 4))) (nI (tV b n (tt b n p9 5))) (nI (tV b n (tt b n p9 6))), unm nm 1 (nS σ) (tS b n (tt b n p9 1)), tt b n p9 7) := by unfold stSp; simp only [c10, c36, c47, c102, c115, c128, c141, hlok, ↓reduceIte, reduceCtorEq]
                exact fin (dg D_X12_span (i := 100) rfl) hW hS (show _ = bI true from rfl) ⟨by rw [hst9]; rfl, hF, by rw [hst9]; exact ⟨hpa, hTk, NmX.grow hNx (cN_adS (by omega)), hz⟩, hFL, rfl⟩
              · refine n_iconst (a := 0) hx hb (dg D_X12_span (i := 89) rfl) rfl ?_
                have hst9 : stSp b n σ nm p9 = .inl (nuE b n (tt b n p9 6), tS b n (tt b n p9 6)) := by unfold stSp; simp only [c10, c36, c47, c102, c115, c128, c141, hlok, ↓reduceIte, reduceCtorEq]
                exact fin (dg D_X12_span (i := 90) rfl) hW hS (show _ = bI false from rfl) ⟨by rw [hst9]; rfl, hF, by rw [hst9]; exact hp138_1 c141, hFL, rfl⟩
    · refine n_iconst (a := 0) hx hb (dg D_X12_span (i := 25) rfl) rfl ?_
      have hst9 : stSp b n σ nm p9 = .inl (nnE b n (tt b n p9 1), tS b n (tt b n p9 1)) := by unfold stSp; simp only [c10, c36, ↓reduceIte, reduceCtorEq]
      exact fin (dg D_X12_span (i := 26) rfl) hW hS (show _ = bI false from rfl) ⟨by rw [hst9]; rfl, hF, by rw [hst9]; exact hp33_1 c36, hFL, rfl⟩
  · refine lv_aload_n hx hb (dg D_X12_span (i := 8) rfl) rfl (lv_at hl 1 rfl) ?_
    refine n_iconst (a := 5) hx hb (dg D_X12_span (i := 9) rfl) rfl ?_
    refine callVi X hW hS hR (c_X12_fail (I := I) (nI 5) (nI (tK b n p9)) (nI (tS b n p9)) (by first | assumption | omega | decide | exact hP.1) (by first | assumption | omega | decide | exact hP.1)) (by decide) UVX12_fail LK_X12_163 rfl (by decide) rfl rfl rfl (Nat.le_of_ble_eq_true rfl) hl hcs (dg D_X12_span (i := 10) rfl) (fun r15 I15 L1 R1 H locs hq hW hS => ?_)
    obtain ⟨rfl, hT15, hp15_0, hp15_1, rfl, rfl⟩ := hq
    have hF : Fr SNp I I15 := Fr.tr hF hT15 (by intro a j h; simp only [SFl, SNp, Bool.or_eq_true, Bool.and_eq_true, beq_iff_eq, decide_eq_true_eq] at h ⊢; omega)
    have hb3 : I15 73 = b := (Fr.row hT15 (fun _ => rfl)).trans hb3
    have hpa : I15 69 = σ := (Fr.row hT15 (fun _ => rfl)).trans hpa
    have hln : I15 67 11 = nI n := (hT15 67 11 rfl).trans hln
    have hst : I15 67 12 = nI (tS b n p9) := (hT15 67 12 rfl).trans hst
    have htk : I15 67 14 = nI (tK b n p9) := (hT15 67 14 rfl).trans htk
    have hkw : I15 67 15 = kwI b n p9 := (hT15 67 15 rfl).trans hkw
    have hnx : I15 67 13 = nI (tE b n p9) := (hT15 67 13 rfl).trans hnx
    have hst9 : stSp b n σ nm p9 = .inl (nI 5, tS b n p9) := by unfold stSp; simp only [c10, ↓reduceIte, reduceCtorEq]
    exact fin (dg D_X12_span (i := 11) rfl) hW hS rfl ⟨by rw [hst9]; rfl, hF, by rw [hst9]; exact ⟨by rw [hp15_0, fl_I (by omega)], hp15_1⟩, hFL, rfl⟩

set_option maxHeartbeats 4000000 in
set_option maxRecDepth 100000 in
theorem c_X12_weather {l : Launch} {G : va_G} {bs : Nat} {cy : Nat → ClassId} {I : CI} {L : CL} {R : CR} (b : Nat → Int32) (n : Nat) (σ : Row) (p9 : Nat) (nm : Nm) (hz : KZ I) (hb3 : I 73 = b) (hln : I 67 11 = nI n) (hT : TB b n) (hn : n ≤ 900) (hp : p9 ≤ n) (hTk : TokM b n I L p9) (hi : Inv σ) (hpa : I 69 = σ) (hNm : NmM b n L σ nm) (hk2 : tK b n p9 = 2) : MTi l G bs cy MX12_weather 9 [.ref (bs + 67)] I L R (fun r I1 L1 R1 => bI (okP (stWe b n σ nm p9)) = r ∧ Fr SNp I I1 ∧ PostM b n (stWe b n σ nm p9) I1 L1 ∧ FL SLp L L1 ∧ R = R1) := by
  refine MTz.of (own := RX12) pn_RX12 rfl (Nat.le_of_ble_eq_true rfl) ?_
  intro p e s m args below meth c Qf X hW hS fin ls hl
  have hx := X.1
  have hb := X.2.1
  have hR : RmOK (rmL 9 0 0) 9 := ⟨rfl, rfl⟩
  have hcs : 0 ≤ (rmL 9 0 0).cells ∧ 0 ≤ (rmL 9 0 0).slots := ⟨Nat.zero_le _, Nat.zero_le _⟩
  have hl : lv_has ls 1 [(0, .ref (bs + 67))] := hl
  have hF : Fr SNp I I := Fr.rf
  have hFL : FL SLp L L := FL.rf
  obtain ⟨hst, hnx, htk, hkw, hva, hnm9⟩ := id hTk
  have hk4 : tK b n p9 ≤ 4 := tK_le
  obtain ⟨hY, hY1, hY12, hLn, hL4, hSn, hS12, hGn, hG5⟩ := id hi
  refine lv_aload_n hx hb (dg D_X12_weather (i := 0) rfl) rfl (lv_at hl 0 rfl) ?_
  refine callVi X hW hS hR (c_X12_advance (I := I) b n (tt b n p9 1) (by first | assumption | omega | decide | exact hP.1) (by first | assumption | omega | decide | exact hP.1) (hnx) (by first | assumption | omega | decide | exact hP.1) (by first | assumption | omega | decide | exact hP.1) (tt_le hp 1)) (by decide) UVX12_advance LK_X12_169 rfl (by decide) rfl rfl rfl (Nat.le_of_ble_eq_true rfl) hl hcs (dg D_X12_weather (i := 1) rfl) (fun r1 I1 Lc1 R1 H locs hq hW hS => ?_)
  obtain ⟨rfl, hT1, hp1_0, hL1, rfl⟩ := hq
  have hF : Fr SNp I I1 := Fr.tr hF hT1 (by intro a j h; simp only [STk, SNp, Bool.or_eq_true, Bool.and_eq_true, beq_iff_eq, decide_eq_true_eq] at h ⊢; omega)
  have hb3 : I1 73 = b := (Fr.row hT1 (fun _ => rfl)).trans hb3
  have hpa : I1 69 = σ := (Fr.row hT1 (fun _ => rfl)).trans hpa
  have hz : KZ I1 := KZ.fr hz hT1 rfl rfl
  have hln : I1 67 11 = nI n := (hT1 67 11 rfl).trans hln
  have hFL : FL SLp L Lc1 := FL.tr hFL hL1 (by intro a j h; simp only [SLk, SLp, Bool.or_eq_true, Bool.and_eq_true, beq_iff_eq, decide_eq_true_eq] at h ⊢; omega)
  have hNm : NmM b n Lc1 σ nm := NmM.fl hNm hL1 (fun _ => rfl)
  have hTk : TokM b n I1 Lc1 (tt b n p9 1) := hp1_0
  refine lv_pop hx hb (dg D_X12_weather (i := 2) rfl) rfl ?_
  refine lv_aload_n hx hb (dg D_X12_weather (i := 3) rfl) rfl (lv_at hl 0 rfl) ?_
  refine n_iconst (a := 0) hx hb (dg D_X12_weather (i := 4) rfl) rfl ?_
  refine lv_aload_n hx hb (dg D_X12_weather (i := 5) rfl) rfl (lv_at hl 0 rfl) ?_
  refine r_getc (t := 69) X hW FI_X12_13 rfl (by decide) rfl (dg D_X12_weather (i := 6) rfl) ?_
  refine n_iconst (a := 0) hx hb (dg D_X12_weather (i := 7) rfl) rfl ?_
  refine r_ald (j := 0) (v := nI (Yn σ)) X hW rfl (by decide) rfl (by omega) (by decide) ((congrFun hpa 0).trans hY) (dg D_X12_weather (i := 8) rfl) ?_
  refine n_iconst (a := 1) hx hb (dg D_X12_weather (i := 9) rfl) rfl ?_
  refine n_isub hx hb (dg D_X12_weather (i := 10) rfl) (by omega) ?_
  refine callVi X hW hS hR (c_X12_number (I := I1) b n σ (tt b n p9 1) 0 ((Yn σ) - 1) (by first | assumption | omega | decide | exact hP.1) (by first | assumption | omega | decide | exact hP.1) (by first | assumption | omega | decide | exact hP.1) (by first | assumption | omega | decide | exact hP.1) (by first | assumption | omega | decide | exact hP.1) (tt_le hp 1) (by first | assumption | omega | decide | exact hP.1) (by first | assumption | omega | decide | exact hP.1) (by first | assumption | omega | decide | exact hP.1)) (by decide) UVX12_number LK_X12_173 rfl (by decide) rfl rfl rfl (Nat.le_of_ble_eq_true rfl) hl hcs (dg D_X12_weather (i := 11) rfl) (fun r15 I15 Lc15 R1 H locs hq hW hS => ?_)
  obtain ⟨rfl, hT15, hp15_0, hp15_1, hL15, rfl⟩ := hq
  have hF : Fr SNp I I15 := Fr.tr hF hT15 (by intro a j h; simp only [SNm, SNp, Bool.or_eq_true, Bool.and_eq_true, beq_iff_eq, decide_eq_true_eq] at h ⊢; omega)
  have hb3 : I15 73 = b := (Fr.row hT15 (fun _ => rfl)).trans hb3
  have hpa : I15 69 = σ := (Fr.row hT15 (fun _ => rfl)).trans hpa
  have hln : I15 67 11 = nI n := (hT15 67 11 rfl).trans hln
  have hFL : FL SLp L Lc15 := FL.tr hFL hL15 (by intro a j h; simp only [SLk, SLp, Bool.or_eq_true, Bool.and_eq_true, beq_iff_eq, decide_eq_true_eq] at h ⊢; omega)
  have hNm : NmM b n Lc15 σ nm := NmM.fl hNm hL15 (fun _ => rfl)
  refine z_if_ne (tgt := 23) hx hb (dg D_X12_weather (i := 12) rfl) (by decide) (fun c18 => ?_) (fun c18 => ?_)
  · obtain ⟨hTk, hnr, hz⟩ := hp15_0 c18
    refine lv_aload_n hx hb (dg D_X12_weather (i := 15) rfl) rfl (lv_at hl 0 rfl) ?_
    refine lv_bipush (v := nI 80) hx hb (dg D_X12_weather (i := 16) rfl) (by decide) ?_
    refine lv_aload_n hx hb (dg D_X12_weather (i := 17) rfl) rfl (lv_at hl 0 rfl) ?_
    refine r_geti (v := nI (tV b n (tt b n p9 1))) X hW FI_X12_166 rfl (by decide) rfl hnr (dg D_X12_weather (i := 18) rfl) ?_
    refine n_iadd hx hb (dg D_X12_weather (i := 19) rfl) ?_
    refine n_iconst (a := 0) hx hb (dg D_X12_weather (i := 20) rfl) rfl ?_
    refine lv_sipush (v := nI 200) hx hb (dg D_X12_weather (i := 21) rfl) (by decide) ?_
    refine callVi X hW hS hR (c_X12_numberTo (I := I15) b n σ (tt b n p9 2) (80 + (tV b n (tt b n p9 1))) 0 200 (by first | assumption | omega | decide | exact hP.1) (by first | assumption | omega | decide | exact hP.1) (by first | assumption | omega | decide | exact hP.1) (by first | assumption | omega | decide | exact hP.1) (by first | assumption | omega | decide | exact hP.1) (tt_le hp 2) (by first | assumption | omega | decide | exact hP.1) (by first | assumption | omega | decide | exact hP.1) (by first | assumption | omega | decide | exact hP.1) (by first | assumption | omega | decide | exact hP.1) (by have hv8 := of_decide_eq_true c18; omega)) (by decide) UVX12_numberTo LK_X12_186 rfl (by decide) rfl rfl rfl (Nat.le_of_ble_eq_true rfl) hl hcs (dg D_X12_weather (i := 22) rfl) (fun r35 I35 Lc35 R1 H locs hq hW hS => ?_)
    obtain ⟨rfl, hT35, hp35_0, hp35_1, hL35, rfl⟩ := hq
    have hF : Fr SNp I I35 := Fr.tr hF hT35 (fun _ _ h => h)
    have hb3 : I35 73 = b := (Fr.row hT35 (fun _ => rfl)).trans hb3
    have hln : I35 67 11 = nI n := (hT35 67 11 rfl).trans hln
    have hFL : FL SLp L Lc35 := FL.tr hFL hL35 (by intro a j h; simp only [SLk, SLp, Bool.or_eq_true, Bool.and_eq_true, beq_iff_eq, decide_eq_true_eq] at h ⊢; omega)
    have hNm : NmM b n Lc35 σ nm := NmM.fl hNm hL35 (fun _ => rfl)
    have hst9 : stWe b n σ nm p9 = (if nuOk b n (tt b n p9 2) 0 200 = false then .inl (nuE b n (tt b n p9 2), tS b n (tt b n p9 2)) else .inr (upd σ (80 + tV b n (tt b n p9 1)) (nI (tV b n (tt b n p9 2))), nm, tt b n p9 3)) := by unfold stWe; simp only [c18, ↓reduceIte, reduceCtorEq]
    have hfin : bI (okP (stWe b n σ nm p9)) = bI (nuOk b n (tt b n p9 2) 0 200) ∧ PostM b n (stWe b n σ nm p9) I35 Lc35 := by
      cases hnk : nuOk b n (tt b n p9 2) 0 200 with
      | false => rw [hst9, if_pos hnk]; exact ⟨rfl, hp35_1 hnk⟩
      | true => rw [hst9, if_neg (by rw [hnk]; decide)]; exact ⟨rfl, (hp35_0 hnk).2.1, (hp35_0 hnk).1, NmM.same hNm (cN_upd (by omega)), (hp35_0 hnk).2.2⟩
    exact fin (dg D_X12_weather (i := 23) rfl) hW hS rfl ⟨hfin.1, hF, hfin.2, hFL, rfl⟩
  · refine n_iconst (a := 0) hx hb (dg D_X12_weather (i := 13) rfl) rfl ?_
    have hst9 : stWe b n σ nm p9 = .inl (nuE b n (tt b n p9 1), tS b n (tt b n p9 1)) := by unfold stWe; simp only [c18, ↓reduceIte, reduceCtorEq]
    exact fin (dg D_X12_weather (i := 14) rfl) hW hS (show _ = bI false from rfl) ⟨by rw [hst9]; rfl, hF, by rw [hst9]; exact hp15_1 c18, hFL, rfl⟩

set_option maxHeartbeats 4000000 in
set_option maxRecDepth 100000 in
theorem c_X12_closed {l : Launch} {G : va_G} {bs : Nat} {cy : Nat → ClassId} {I : CI} {L : CL} {R : CR} (b : Nat → Int32) (n : Nat) (σ : Row) (p9 : Nat) (nm : Nm) (hz : KZ I) (hb3 : I 73 = b) (hln : I 67 11 = nI n) (hT : TB b n) (hn : n ≤ 900) (hp : p9 ≤ n) (hTk : TokM b n I L p9) (hi : Inv σ) (hpa : I 69 = σ) (hNm : NmM b n L σ nm) (hk2 : tK b n p9 = 2) : MTi l G bs cy MX12_closed 8 [.ref (bs + 67)] I L R (fun r I1 L1 R1 => bI (okP (stCl b n σ nm p9)) = r ∧ Fr SNp I I1 ∧ PostM b n (stCl b n σ nm p9) I1 L1 ∧ FL SLp L L1 ∧ R = R1) := by
  refine MTz.of (own := RX12) pn_RX12 rfl (Nat.le_of_ble_eq_true rfl) ?_
  intro p e s m args below meth c Qf X hW hS fin ls hl
  have hx := X.1
  have hb := X.2.1
  have hR : RmOK (rmL 8 0 0) 8 := ⟨rfl, rfl⟩
  have hcs : 0 ≤ (rmL 8 0 0).cells ∧ 0 ≤ (rmL 8 0 0).slots := ⟨Nat.zero_le _, Nat.zero_le _⟩
  have hl : lv_has ls 2 [(0, .ref (bs + 67))] := hl
  have hF : Fr SNp I I := Fr.rf
  have hFL : FL SLp L L := FL.rf
  obtain ⟨hst, hnx, htk, hkw, hva, hnm9⟩ := id hTk
  have hk4 : tK b n p9 ≤ 4 := tK_le
  obtain ⟨hY, hY1, hY12, hLn, hL4, hSn, hS12, hGn, hG5⟩ := id hi
  refine lv_aload_n hx hb (dg D_X12_closed (i := 0) rfl) rfl (lv_at hl 0 rfl) ?_
  refine callVi X hW hS hR (c_X12_advance (I := I) b n (tt b n p9 1) (by first | assumption | omega | decide | exact hP.1) (by first | assumption | omega | decide | exact hP.1) (hnx) (by first | assumption | omega | decide | exact hP.1) (by first | assumption | omega | decide | exact hP.1) (tt_le hp 1)) (by decide) UVX12_advance LK_X12_169 rfl (by decide) rfl rfl rfl (Nat.le_of_ble_eq_true rfl) hl hcs (dg D_X12_closed (i := 1) rfl) (fun r1 I1 Lc1 R1 H locs hq hW hS => ?_)
  obtain ⟨rfl, hT1, hp1_0, hL1, rfl⟩ := hq
  have hF : Fr SNp I I1 := Fr.tr hF hT1 (by intro a j h; simp only [STk, SNp, Bool.or_eq_true, Bool.and_eq_true, beq_iff_eq, decide_eq_true_eq] at h ⊢; omega)
  have hb3 : I1 73 = b := (Fr.row hT1 (fun _ => rfl)).trans hb3
  have hpa : I1 69 = σ := (Fr.row hT1 (fun _ => rfl)).trans hpa
  have hz : KZ I1 := KZ.fr hz hT1 rfl rfl
  have hln : I1 67 11 = nI n := (hT1 67 11 rfl).trans hln
  have hFL : FL SLp L Lc1 := FL.tr hFL hL1 (by intro a j h; simp only [SLk, SLp, Bool.or_eq_true, Bool.and_eq_true, beq_iff_eq, decide_eq_true_eq] at h ⊢; omega)
  have hNm : NmM b n Lc1 σ nm := NmM.fl hNm hL1 (fun _ => rfl)
  have hTk : TokM b n I1 Lc1 (tt b n p9 1) := hp1_0
  refine lv_pop hx hb (dg D_X12_closed (i := 2) rfl) rfl ?_
  refine lv_aload_n hx hb (dg D_X12_closed (i := 3) rfl) rfl (lv_at hl 0 rfl) ?_
  refine n_iconst (a := 0) hx hb (dg D_X12_closed (i := 4) rfl) rfl ?_
  refine callVi X hW hS hR (c_X12_oldName (I := I1) b n σ (tt b n p9 1) nm 0 (by first | assumption | omega | decide | exact hP.1) (by first | assumption | omega | decide | exact hP.1) (by first | assumption | omega | decide | exact hP.1) (by first | assumption | omega | decide | exact hP.1) (by first | assumption | omega | decide | exact hP.1) (tt_le hp 1) (by first | assumption | omega | decide | exact hP.1) (by first | assumption | omega | decide | exact hP.1) (by first | assumption | omega | decide | exact hP.1) (by first | assumption | omega | decide | exact hP.1) (by decide)) (by decide) UVX12_oldName LK_X12_193 rfl (by decide) rfl rfl rfl (Nat.le_of_ble_eq_true rfl) hl hcs (dg D_X12_closed (i := 5) rfl) (fun r7 I7 Lc7 R1 H locs hq hW hS => ?_)
  obtain ⟨rfl, hT7, hp7_0, hp7_1, hL7, rfl⟩ := hq
  have hF : Fr SNp I I7 := Fr.tr hF hT7 (by intro a j h; simp only [SNo, SNp, Bool.or_eq_true, Bool.and_eq_true, beq_iff_eq, decide_eq_true_eq] at h ⊢; omega)
  have hb3 : I7 73 = b := (Fr.row hT7 (fun _ => rfl)).trans hb3
  have hpa : I7 69 = σ := (Fr.row hT7 (fun _ => rfl)).trans hpa
  have hln : I7 67 11 = nI n := (hT7 67 11 rfl).trans hln
  have hFL : FL SLp L Lc7 := FL.tr hFL hL7 (by intro a j h; simp only [SLk, SLp, Bool.or_eq_true, Bool.and_eq_true, beq_iff_eq, decide_eq_true_eq] at h ⊢; omega)
  have hNm : NmM b n Lc7 σ nm := NmM.fl hNm hL7 (fun _ => rfl)
  refine z_if_ne (tgt := 15) hx hb (dg D_X12_closed (i := 6) rfl) (by decide) (fun c10 => ?_) (fun c10 => ?_)
  · obtain ⟨hTk, hnr2, hz⟩ := hp7_0 c10
    refine lv_aload_n hx hb (dg D_X12_closed (i := 9) rfl) rfl (lv_at hl 0 rfl) ?_
    refine r_geti (v := nI (fk b n σ nm 0 (tS b n (tt b n p9 1)))) X hW FI_X12_183 rfl (by decide) rfl hnr2 (dg D_X12_closed (i := 10) rfl) ?_
    refine lv_istore_n (lv' := [(1, .int (nI (fk b n σ nm 0 (tS b n (tt b n p9 1))))), (0, .ref (bs + 67))]) hx hb (dg D_X12_closed (i := 11) rfl) rfl hl (by decide) rfl (fun ls hl => ?_)
    refine lv_aload_n hx hb (dg D_X12_closed (i := 12) rfl) rfl (lv_at hl 1 rfl) ?_
    refine n_iconst (a := 0) hx hb (dg D_X12_closed (i := 13) rfl) rfl ?_
    refine lv_aload_n hx hb (dg D_X12_closed (i := 14) rfl) rfl (lv_at hl 1 rfl) ?_
    refine r_getc (t := 69) X hW FI_X12_13 rfl (by decide) rfl (dg D_X12_closed (i := 15) rfl) ?_
    refine n_iconst (a := 0) hx hb (dg D_X12_closed (i := 16) rfl) rfl ?_
    refine r_ald (j := 0) (v := nI (Yn σ)) X hW rfl (by decide) rfl (by omega) (by decide) ((congrFun hpa 0).trans hY) (dg D_X12_closed (i := 17) rfl) ?_
    refine n_iconst (a := 1) hx hb (dg D_X12_closed (i := 18) rfl) rfl ?_
    refine n_isub hx hb (dg D_X12_closed (i := 19) rfl) (by omega) ?_
    refine callVi X hW hS hR (c_X12_number (I := I7) b n σ (tt b n p9 2) 0 ((Yn σ) - 1) (by first | assumption | omega | decide | exact hP.1) (by first | assumption | omega | decide | exact hP.1) (by first | assumption | omega | decide | exact hP.1) (by first | assumption | omega | decide | exact hP.1) (by first | assumption | omega | decide | exact hP.1) (tt_le hp 2) (by first | assumption | omega | decide | exact hP.1) (by first | assumption | omega | decide | exact hP.1) (by first | assumption | omega | decide | exact hP.1)) (by decide) UVX12_number LK_X12_173 rfl (by decide) rfl rfl rfl (Nat.le_of_ble_eq_true rfl) hl hcs (dg D_X12_closed (i := 20) rfl) (fun r30 I30 Lc30 R1 H locs hq hW hS => ?_)
    obtain ⟨rfl, hT30, hp30_0, hp30_1, hL30, rfl⟩ := hq
    have hF : Fr SNp I I30 := Fr.tr hF hT30 (by intro a j h; simp only [SNm, SNp, Bool.or_eq_true, Bool.and_eq_true, beq_iff_eq, decide_eq_true_eq] at h ⊢; omega)
    have hb3 : I30 73 = b := (Fr.row hT30 (fun _ => rfl)).trans hb3
    have hpa : I30 69 = σ := (Fr.row hT30 (fun _ => rfl)).trans hpa
    have hln : I30 67 11 = nI n := (hT30 67 11 rfl).trans hln
    have hnr2 : I30 67 22 = nI (fk b n σ nm 0 (tS b n (tt b n p9 1))) := (hT30 67 22 rfl).trans hnr2
    have hFL : FL SLp L Lc30 := FL.tr hFL hL30 (by intro a j h; simp only [SLk, SLp, Bool.or_eq_true, Bool.and_eq_true, beq_iff_eq, decide_eq_true_eq] at h ⊢; omega)
    have hNm : NmM b n Lc30 σ nm := NmM.fl hNm hL30 (fun _ => rfl)
    refine z_if_ne (tgt := 38) hx hb (dg D_X12_closed (i := 21) rfl) (by decide) (fun c33 => ?_) (fun c33 => ?_)
    · obtain ⟨hTk, hnr, hz⟩ := hp30_0 c33
      have hv8 := of_decide_eq_true c33
      refine lv_aload_n hx hb (dg D_X12_closed (i := 24) rfl) rfl (lv_at hl 1 rfl) ?_
      refine r_getc (t := 69) X hW FI_X12_13 rfl (by decide) rfl (dg D_X12_closed (i := 25) rfl) ?_
      refine lv_bipush (v := nI 92) hx hb (dg D_X12_closed (i := 26) rfl) (by decide) ?_
      refine lv_aload_n hx hb (dg D_X12_closed (i := 27) rfl) rfl (lv_at hl 1 rfl) ?_
      refine r_geti (v := nI (tV b n (tt b n p9 2))) X hW FI_X12_166 rfl (by decide) rfl hnr (dg D_X12_closed (i := 28) rfl) ?_
      refine n_iadd hx hb (dg D_X12_closed (i := 29) rfl) ?_
      refine lv_dup2_11 hx hb (dg D_X12_closed (i := 30) rfl) rfl rfl ?_
      refine r_ald (j := 92 + (tV b n (tt b n p9 2))) (v := σ (92 + (tV b n (tt b n p9 2)))) X hW rfl (by decide) rfl (by omega) (by decide) (congrFun hpa _) (dg D_X12_closed (i := 31) rfl) ?_
      refine n_iconst (a := 1) hx hb (dg D_X12_closed (i := 32) rfl) rfl ?_
      refine lv_iload_n hx hb (dg D_X12_closed (i := 33) rfl) rfl (lv_at hl 0 rfl) ?_
      refine lv_ishl hx hb (dg D_X12_closed (i := 34) rfl) ?_
      refine lv_ior hx hb (dg D_X12_closed (i := 35) rfl) ?_
      refine r_ast (j := 92 + (tV b n (tt b n p9 2))) (v := (σ (92 + (tV b n (tt b n p9 2)))) ||| ((nI 1) <<< ((nI (fk b n σ nm 0 (tS b n (tt b n p9 1)))) &&& 31))) X hW hS rfl (by decide) rfl (by omega) (by decide) (dg D_X12_closed (i := 36) rfl) (fun H locs hW hS => ?_)
      have hF : Fr SNp I (u2 I30 69 (92 + (tV b n (tt b n p9 2))) ((σ (92 + (tV b n (tt b n p9 2)))) ||| ((nI 1) <<< ((nI (fk b n σ nm 0 (tS b n (tt b n p9 1)))) &&& 31)))) := Fr.put hF rfl
      have hb3 : (u2 I30 69 (92 + (tV b n (tt b n p9 2))) ((σ (92 + (tV b n (tt b n p9 2)))) ||| ((nI 1) <<< ((nI (fk b n σ nm 0 (tS b n (tt b n p9 1)))) &&& 31)))) 73 = b := by rw [u2_ne (by decide)]; exact hb3
      have hpa : (u2 I30 69 (92 + (tV b n (tt b n p9 2))) ((σ (92 + (tV b n (tt b n p9 2)))) ||| ((nI 1) <<< ((nI (fk b n σ nm 0 (tS b n (tt b n p9 1)))) &&& 31)))) 69 = upd σ (92 + tV b n (tt b n p9 2)) (σ (92 + tV b n (tt b n p9 2)) ||| nI 1 <<< (nI (fk b n σ nm 0 (tS b n (tt b n p9 1))) &&& 31)) := by rw [u2_eq, hpa]
      have hTk : TokM b n (u2 I30 69 (92 + (tV b n (tt b n p9 2))) ((σ (92 + (tV b n (tt b n p9 2)))) ||| ((nI 1) <<< ((nI (fk b n σ nm 0 (tS b n (tt b n p9 1)))) &&& 31)))) Lc30 (tt b n p9 3) := TokM.pu hTk (by omega)
      have hz : KZ (u2 I30 69 (92 + (tV b n (tt b n p9 2))) ((σ (92 + (tV b n (tt b n p9 2)))) ||| ((nI 1) <<< ((nI (fk b n σ nm 0 (tS b n (tt b n p9 1)))) &&& 31)))) := KZ.pu hz (by omega)
      obtain ⟨J55, eJ55⟩ : ∃ J, J = u2 I30 69 (92 + (tV b n (tt b n p9 2))) ((σ (92 + (tV b n (tt b n p9 2)))) ||| ((nI 1) <<< ((nI (fk b n σ nm 0 (tS b n (tt b n p9 1)))) &&& 31))) := ⟨_, rfl⟩
      rw [← eJ55] at hW hF hb3 hpa hTk hz
      have hln : J55 67 11 = nI n := by rw [eJ55, u2_off (Or.inl (by decide))]; exact hln
      have hnr2 : J55 67 22 = nI (fk b n σ nm 0 (tS b n (tt b n p9 1))) := by rw [eJ55, u2_off (Or.inl (by decide))]; exact hnr2
      have hnr : J55 67 21 = nI (tV b n (tt b n p9 2)) := by rw [eJ55, u2_off (Or.inl (by decide))]; exact hnr
      refine n_iconst (a := 1) hx hb (dg D_X12_closed (i := 37) rfl) rfl ?_
      have hst9 : stCl b n σ nm p9 = .inr (upd σ (92 + tV b n (tt b n p9 2)) (σ (92 + tV b n (tt b n p9 2)) ||| nI 1 <<< (nI (fk b n σ nm 0 (tS b n (tt b n p9 1))) &&& 31)), nm, tt b n p9 3) := by unfold stCl; simp only [c10, c33, ↓reduceIte, reduceCtorEq]
      exact fin (dg D_X12_closed (i := 38) rfl) hW hS (show _ = bI true from rfl) ⟨by rw [hst9]; rfl, hF, by rw [hst9]; exact ⟨hpa, hTk, NmM.same hNm (cN_upd (by omega)), hz⟩, hFL, rfl⟩
    · refine n_iconst (a := 0) hx hb (dg D_X12_closed (i := 22) rfl) rfl ?_
      have hst9 : stCl b n σ nm p9 = .inl (nuE b n (tt b n p9 2), tS b n (tt b n p9 2)) := by unfold stCl; simp only [c10, c33, ↓reduceIte, reduceCtorEq]
      exact fin (dg D_X12_closed (i := 23) rfl) hW hS (show _ = bI false from rfl) ⟨by rw [hst9]; rfl, hF, by rw [hst9]; exact hp30_1 c33, hFL, rfl⟩
  · refine n_iconst (a := 0) hx hb (dg D_X12_closed (i := 7) rfl) rfl ?_
    have hst9 : stCl b n σ nm p9 = .inl (nnE b n (tt b n p9 1), tS b n (tt b n p9 1)) := by unfold stCl; simp only [c10, ↓reduceIte, reduceCtorEq]
    exact fin (dg D_X12_closed (i := 8) rfl) hW hS (show _ = bI false from rfl) ⟨by rw [hst9]; rfl, hF, by rw [hst9]; exact hp7_1 c10, hFL, rfl⟩

set_option maxHeartbeats 4000000 in
set_option maxRecDepth 100000 in
theorem c_X12_painting {l : Launch} {G : va_G} {bs : Nat} {cy : Nat → ClassId} {I : CI} {L : CL} {R : CR} (b : Nat → Int32) (n : Nat) (σ : Row) (p9 : Nat) (nm : Nm) (hz : KZ I) (hb3 : I 73 = b) (hln : I 67 11 = nI n) (hT : TB b n) (hn : n ≤ 900) (hp : p9 ≤ n) (hTk : TokM b n I L p9) (hi : Inv σ) (hpa : I 69 = σ) (hNm : NmM b n L σ nm) (hk2 : tK b n p9 = 2) : MTi l G bs cy MX12_painting 8 [.ref (bs + 67)] I L R (fun r I1 L1 R1 => bI (okP (stPa b n σ nm p9)) = r ∧ Fr SNp I I1 ∧ PostM b n (stPa b n σ nm p9) I1 L1 ∧ FL SLp L L1 ∧ R = R1) := by
  refine MTz.of (own := RX12) pn_RX12 rfl (Nat.le_of_ble_eq_true rfl) ?_
  intro p e s m args below meth c Qf X hW hS fin ls hl
  have hx := X.1
  have hb := X.2.1
  have hR : RmOK (rmL 8 0 0) 8 := ⟨rfl, rfl⟩
  have hcs : 0 ≤ (rmL 8 0 0).cells ∧ 0 ≤ (rmL 8 0 0).slots := ⟨Nat.zero_le _, Nat.zero_le _⟩
  have hl : lv_has ls 3 [(0, .ref (bs + 67))] := hl
  have hF : Fr SNp I I := Fr.rf
  have hFL : FL SLp L L := FL.rf
  obtain ⟨hst, hnx, htk, hkw, hva, hnm9⟩ := id hTk
  have hk4 : tK b n p9 ≤ 4 := tK_le
  obtain ⟨hY, hY1, hY12, hLn, hL4, hSn, hS12, hGn, hG5⟩ := id hi
  have hKB2 := tK_le (b := b) (n := n) (p := tt b n p9 2)
  refine lv_aload_n hx hb (dg D_X12_painting (i := 0) rfl) rfl (lv_at hl 0 rfl) ?_
  refine callVi X hW hS hR (c_X12_advance (I := I) b n (tt b n p9 1) (by first | assumption | omega | decide | exact hP.1) (by first | assumption | omega | decide | exact hP.1) (hnx) (by first | assumption | omega | decide | exact hP.1) (by first | assumption | omega | decide | exact hP.1) (tt_le hp 1)) (by decide) UVX12_advance LK_X12_169 rfl (by decide) rfl rfl rfl (Nat.le_of_ble_eq_true rfl) hl hcs (dg D_X12_painting (i := 1) rfl) (fun r1 I1 Lc1 R1 H locs hq hW hS => ?_)
  obtain ⟨rfl, hT1, hp1_0, hL1, rfl⟩ := hq
  have hF : Fr SNp I I1 := Fr.tr hF hT1 (by intro a j h; simp only [STk, SNp, Bool.or_eq_true, Bool.and_eq_true, beq_iff_eq, decide_eq_true_eq] at h ⊢; omega)
  have hb3 : I1 73 = b := (Fr.row hT1 (fun _ => rfl)).trans hb3
  have hpa : I1 69 = σ := (Fr.row hT1 (fun _ => rfl)).trans hpa
  have hz : KZ I1 := KZ.fr hz hT1 rfl rfl
  have hln : I1 67 11 = nI n := (hT1 67 11 rfl).trans hln
  have hFL : FL SLp L Lc1 := FL.tr hFL hL1 (by intro a j h; simp only [SLk, SLp, Bool.or_eq_true, Bool.and_eq_true, beq_iff_eq, decide_eq_true_eq] at h ⊢; omega)
  have hNm : NmM b n Lc1 σ nm := NmM.fl hNm hL1 (fun _ => rfl)
  have hTk : TokM b n I1 Lc1 (tt b n p9 1) := hp1_0
  refine lv_pop hx hb (dg D_X12_painting (i := 2) rfl) rfl ?_
  refine lv_aload_n hx hb (dg D_X12_painting (i := 3) rfl) rfl (lv_at hl 0 rfl) ?_
  refine n_iconst (a := 0) hx hb (dg D_X12_painting (i := 4) rfl) rfl ?_
  refine lv_aload_n hx hb (dg D_X12_painting (i := 5) rfl) rfl (lv_at hl 0 rfl) ?_
  refine r_getc (t := 69) X hW FI_X12_13 rfl (by decide) rfl (dg D_X12_painting (i := 6) rfl) ?_
  refine n_iconst (a := 0) hx hb (dg D_X12_painting (i := 7) rfl) rfl ?_
  refine r_ald (j := 0) (v := nI (Yn σ)) X hW rfl (by decide) rfl (by omega) (by decide) ((congrFun hpa 0).trans hY) (dg D_X12_painting (i := 8) rfl) ?_
  refine n_iconst (a := 1) hx hb (dg D_X12_painting (i := 9) rfl) rfl ?_
  refine n_isub hx hb (dg D_X12_painting (i := 10) rfl) (by omega) ?_
  refine callVi X hW hS hR (c_X12_number (I := I1) b n σ (tt b n p9 1) 0 ((Yn σ) - 1) (by first | assumption | omega | decide | exact hP.1) (by first | assumption | omega | decide | exact hP.1) (by first | assumption | omega | decide | exact hP.1) (by first | assumption | omega | decide | exact hP.1) (by first | assumption | omega | decide | exact hP.1) (tt_le hp 1) (by first | assumption | omega | decide | exact hP.1) (by first | assumption | omega | decide | exact hP.1) (by first | assumption | omega | decide | exact hP.1)) (by decide) UVX12_number LK_X12_173 rfl (by decide) rfl rfl rfl (Nat.le_of_ble_eq_true rfl) hl hcs (dg D_X12_painting (i := 11) rfl) (fun r15 I15 Lc15 R1 H locs hq hW hS => ?_)
  obtain ⟨rfl, hT15, hp15_0, hp15_1, hL15, rfl⟩ := hq
  have hF : Fr SNp I I15 := Fr.tr hF hT15 (by intro a j h; simp only [SNm, SNp, Bool.or_eq_true, Bool.and_eq_true, beq_iff_eq, decide_eq_true_eq] at h ⊢; omega)
  have hb3 : I15 73 = b := (Fr.row hT15 (fun _ => rfl)).trans hb3
  have hpa : I15 69 = σ := (Fr.row hT15 (fun _ => rfl)).trans hpa
  have hln : I15 67 11 = nI n := (hT15 67 11 rfl).trans hln
  have hFL : FL SLp L Lc15 := FL.tr hFL hL15 (by intro a j h; simp only [SLk, SLp, Bool.or_eq_true, Bool.and_eq_true, beq_iff_eq, decide_eq_true_eq] at h ⊢; omega)
  have hNm : NmM b n Lc15 σ nm := NmM.fl hNm hL15 (fun _ => rfl)
  refine z_if_ne (tgt := 23) hx hb (dg D_X12_painting (i := 12) rfl) (by decide) (fun c18 => ?_) (fun c18 => ?_)
  · obtain ⟨hTk, hnr, hz⟩ := hp15_0 c18
    obtain ⟨hst, hnx, htk, hkw, hva, hnm9⟩ := id hTk
    have hv8 := of_decide_eq_true c18
    refine lv_aload_n hx hb (dg D_X12_painting (i := 15) rfl) rfl (lv_at hl 0 rfl) ?_
    refine r_geti (v := nI (tV b n (tt b n p9 1))) X hW FI_X12_166 rfl (by decide) rfl hnr (dg D_X12_painting (i := 16) rfl) ?_
    refine lv_istore_n (lv' := [(1, .int (nI (tV b n (tt b n p9 1)))), (0, .ref (bs + 67))]) hx hb (dg D_X12_painting (i := 17) rfl) rfl hl (by decide) rfl (fun ls hl => ?_)
    refine lv_aload_n hx hb (dg D_X12_painting (i := 18) rfl) rfl (lv_at hl 1 rfl) ?_
    refine callVi X hW hS hR (c_X12_isName (I := I15) (nI (tK b n (tt b n p9 2))) (kwI b n (tt b n p9 2)) (by first | assumption | omega | decide | exact hP.1) (by first | assumption | omega | decide | exact hP.1)) (by decide) UVX12_isName LK_X12_177 rfl (by decide) rfl rfl rfl (Nat.le_of_ble_eq_true rfl) hl hcs (dg D_X12_painting (i := 19) rfl) (fun r29 I29 L1 R1 H locs hq hW hS => ?_)
    obtain ⟨rfl, rfl, rfl, rfl⟩ := hq
    rw [show bI (decide ((nI (tK b n (tt b n p9 2))) = nI 2 ∧ (kwI b n (tt b n p9 2)) = -1)) = bI (isNm b n (tt b n p9 2)) from congrArg bI isNm_I]
    refine z_if_ne (tgt := 41) hx hb (dg D_X12_painting (i := 20) rfl) (by decide) (fun c32 => ?_) (fun c32 => ?_)
    · obtain ⟨hk22, hk11⟩ := isNm_2 c32
      refine lv_aload_n hx hb (dg D_X12_painting (i := 25) rfl) rfl (lv_at hl 1 rfl) ?_
      refine n_iconst (a := 1) hx hb (dg D_X12_painting (i := 26) rfl) rfl ?_
      refine callVi X hW hS hR (c_X12_find (I := I15) b n σ nm 1 (tS b n (tt b n p9 2)) (by first | assumption | omega | decide | exact hP.1) (by first | assumption | omega | decide | exact hP.1) (by first | assumption | omega | decide | exact hP.1) (by first | assumption | omega | decide | exact hP.1) (by first | assumption | omega | decide | exact hP.1) (by decide) ((tok_w hk22).1) (hnm9 hk22)) (by decide) UVX12_find LK_X12_180 rfl (by decide) rfl rfl rfl (Nat.le_of_ble_eq_true rfl) hl hcs (dg D_X12_painting (i := 27) rfl) (fun r43 I43 L1 R1 H locs hq hW hS => ?_)
      obtain ⟨rfl, rfl, rfl, rfl⟩ := hq
      refine lv_istore_n (lv' := [(2, .int (fkI b n σ nm 1 (tS b n (tt b n p9 2)))), (1, .int (nI (tV b n (tt b n p9 1)))), (0, .ref (bs + 67))]) hx hb (dg D_X12_painting (i := 28) rfl) rfl hl (by decide) rfl (fun ls hl => ?_)
      refine lv_iload_n hx hb (dg D_X12_painting (i := 29) rfl) rfl (lv_at hl 0 rfl) ?_
      refine lv_iconst (v := -1) hx hb (dg D_X12_painting (i := 30) rfl) (by decide) ?_
      refine lv_icmp_ne (tgt := 58) hx hb (dg D_X12_painting (i := 31) rfl) (by decide) (fun c49 => ?_) (fun c49 => ?_)
      · have hlt := fkI_ne hi (by decide) c49
        have hc12 := (cN_I hi (t := 1) (by decide)).2
        have hon : onOk b n σ nm 1 (tt b n p9 2) = true := by unfold onOk; rw [c32, show decide (fk b n σ nm 1 (tS b n (tt b n p9 2)) < cN σ 1) = true from decide_eq_true hlt]; rfl
        rw [fkI_N hlt] at hl
        refine lv_aload_n hx hb (dg D_X12_painting (i := 36) rfl) rfl (lv_at hl 2 rfl) ?_
        refine r_getc (t := 69) X hW FI_X12_13 rfl (by decide) rfl (dg D_X12_painting (i := 37) rfl) ?_
        refine lv_bipush (v := nI 104) hx hb (dg D_X12_painting (i := 38) rfl) (by decide) ?_
        refine lv_bipush (v := nI 12) hx hb (dg D_X12_painting (i := 39) rfl) (by decide) ?_
        refine lv_iload_n hx hb (dg D_X12_painting (i := 40) rfl) rfl (lv_at hl 1 rfl) ?_
        refine n_imul hx hb (dg D_X12_painting (i := 41) rfl) ?_
        refine n_iadd hx hb (dg D_X12_painting (i := 42) rfl) ?_
        refine lv_iload_n hx hb (dg D_X12_painting (i := 43) rfl) rfl (lv_at hl 0 rfl) ?_
        refine n_iadd hx hb (dg D_X12_painting (i := 44) rfl) ?_
        refine r_ald (j := (104 + (12 * (tV b n (tt b n p9 1)))) + (fk b n σ nm 1 (tS b n (tt b n p9 2)))) (v := σ ((104 + (12 * (tV b n (tt b n p9 1)))) + (fk b n σ nm 1 (tS b n (tt b n p9 2))))) X hW rfl (by decide) rfl (by omega) (by decide) (congrFun hpa _) (dg D_X12_painting (i := 45) rfl) ?_
        refine lv_if_le (tgt := 82) hx hb (dg D_X12_painting (i := 46) rfl) (by decide) (fun c72 => ?_) (fun c72 => ?_)
        · refine lv_aload_n hx hb (dg D_X12_painting (i := 51) rfl) rfl (lv_at hl 2 rfl) ?_
          refine callVi X hW hS hR (c_X12_advance (I := I15) b n (tt b n p9 3) (by first | assumption | omega | decide | exact hP.1) (by first | assumption | omega | decide | exact hP.1) (hnx) (by first | assumption | omega | decide | exact hP.1) (by first | assumption | omega | decide | exact hP.1) (tt_le hp 3)) (by decide) UVX12_advance LK_X12_169 rfl (by decide) rfl rfl rfl (Nat.le_of_ble_eq_true rfl) hl hcs (dg D_X12_painting (i := 52) rfl) (fun r83 I83 Lc83 R1 H locs hq hW hS => ?_)
          obtain ⟨rfl, hT83, hp83_0, hL83, rfl⟩ := hq
          have hF : Fr SNp I I83 := Fr.tr hF hT83 (by intro a j h; simp only [STk, SNp, Bool.or_eq_true, Bool.and_eq_true, beq_iff_eq, decide_eq_true_eq] at h ⊢; omega)
          have hb3 : I83 73 = b := (Fr.row hT83 (fun _ => rfl)).trans hb3
          have hpa : I83 69 = σ := (Fr.row hT83 (fun _ => rfl)).trans hpa
          have hz : KZ I83 := KZ.fr hz hT83 rfl rfl
          have hln : I83 67 11 = nI n := (hT83 67 11 rfl).trans hln
          have hnr : I83 67 21 = nI (tV b n (tt b n p9 1)) := (hT83 67 21 rfl).trans hnr
          have hFL : FL SLp L Lc83 := FL.tr hFL hL83 (by intro a j h; simp only [SLk, SLp, Bool.or_eq_true, Bool.and_eq_true, beq_iff_eq, decide_eq_true_eq] at h ⊢; omega)
          have hNm : NmM b n Lc83 σ nm := NmM.fl hNm hL83 (fun _ => rfl)
          have hTk : TokM b n I83 Lc83 (tt b n p9 3) := hp83_0
          refine lv_pop hx hb (dg D_X12_painting (i := 53) rfl) rfl ?_
          refine lv_aload_n hx hb (dg D_X12_painting (i := 54) rfl) rfl (lv_at hl 2 rfl) ?_
          refine n_iconst (a := 2) hx hb (dg D_X12_painting (i := 55) rfl) rfl ?_
          refine callVi X hW hS hR (c_X12_oldName (I := I83) b n σ (tt b n p9 3) nm 2 (by first | assumption | omega | decide | exact hP.1) (by first | assumption | omega | decide | exact hP.1) (by first | assumption | omega | decide | exact hP.1) (by first | assumption | omega | decide | exact hP.1) (by first | assumption | omega | decide | exact hP.1) (tt_le hp 3) (by first | assumption | omega | decide | exact hP.1) (by first | assumption | omega | decide | exact hP.1) (by first | assumption | omega | decide | exact hP.1) (by first | assumption | omega | decide | exact hP.1) (by decide)) (by decide) UVX12_oldName LK_X12_193 rfl (by decide) rfl rfl rfl (Nat.le_of_ble_eq_true rfl) hl hcs (dg D_X12_painting (i := 56) rfl) (fun r89 I89 Lc89 R1 H locs hq hW hS => ?_)
          obtain ⟨rfl, hT89, hp89_0, hp89_1, hL89, rfl⟩ := hq
          have hF : Fr SNp I I89 := Fr.tr hF hT89 (by intro a j h; simp only [SNo, SNp, Bool.or_eq_true, Bool.and_eq_true, beq_iff_eq, decide_eq_true_eq] at h ⊢; omega)
          have hb3 : I89 73 = b := (Fr.row hT89 (fun _ => rfl)).trans hb3
          have hpa : I89 69 = σ := (Fr.row hT89 (fun _ => rfl)).trans hpa
          have hln : I89 67 11 = nI n := (hT89 67 11 rfl).trans hln
          have hFL : FL SLp L Lc89 := FL.tr hFL hL89 (by intro a j h; simp only [SLk, SLp, Bool.or_eq_true, Bool.and_eq_true, beq_iff_eq, decide_eq_true_eq] at h ⊢; omega)
          have hNm : NmM b n Lc89 σ nm := NmM.fl hNm hL89 (fun _ => rfl)
          refine z_if_ne (tgt := 97) hx hb (dg D_X12_painting (i := 57) rfl) (by decide) (fun c92 => ?_) (fun c92 => ?_)
          · obtain ⟨hTk, hnr, hz⟩ := hp89_0 c92
            refine lv_aload_n hx hb (dg D_X12_painting (i := 60) rfl) rfl (lv_at hl 2 rfl) ?_
            refine r_getc (t := 69) X hW FI_X12_13 rfl (by decide) rfl (dg D_X12_painting (i := 61) rfl) ?_
            refine lv_bipush (v := nI 104) hx hb (dg D_X12_painting (i := 62) rfl) (by decide) ?_
            refine lv_bipush (v := nI 12) hx hb (dg D_X12_painting (i := 63) rfl) (by decide) ?_
            refine lv_iload_n hx hb (dg D_X12_painting (i := 64) rfl) rfl (lv_at hl 1 rfl) ?_
            refine n_imul hx hb (dg D_X12_painting (i := 65) rfl) ?_
            refine n_iadd hx hb (dg D_X12_painting (i := 66) rfl) ?_
            refine lv_iload_n hx hb (dg D_X12_painting (i := 67) rfl) rfl (lv_at hl 0 rfl) ?_
            refine n_iadd hx hb (dg D_X12_painting (i := 68) rfl) ?_
            refine lv_aload_n hx hb (dg D_X12_painting (i := 69) rfl) rfl (lv_at hl 2 rfl) ?_
            refine r_geti (v := nI (fk b n σ nm 2 (tS b n (tt b n p9 3)))) X hW FI_X12_183 rfl (by decide) rfl hnr (dg D_X12_painting (i := 70) rfl) ?_
            refine n_iconst (a := 1) hx hb (dg D_X12_painting (i := 71) rfl) rfl ?_
            refine n_iadd hx hb (dg D_X12_painting (i := 72) rfl) ?_
            refine r_ast (j := (104 + (12 * (tV b n (tt b n p9 1)))) + (fk b n σ nm 1 (tS b n (tt b n p9 2)))) (v := nI ((fk b n σ nm 2 (tS b n (tt b n p9 3))) + 1)) X hW hS rfl (by decide) rfl (by omega) (by decide) (dg D_X12_painting (i := 73) rfl) (fun H locs hW hS => ?_)
            have hF : Fr SNp I (u2 I89 69 ((104 + (12 * (tV b n (tt b n p9 1)))) + (fk b n σ nm 1 (tS b n (tt b n p9 2)))) (nI ((fk b n σ nm 2 (tS b n (tt b n p9 3))) + 1))) := Fr.put hF rfl
            have hb3 : (u2 I89 69 ((104 + (12 * (tV b n (tt b n p9 1)))) + (fk b n σ nm 1 (tS b n (tt b n p9 2)))) (nI ((fk b n σ nm 2 (tS b n (tt b n p9 3))) + 1))) 73 = b := by rw [u2_ne (by decide)]; exact hb3
            have hpa : (u2 I89 69 ((104 + (12 * (tV b n (tt b n p9 1)))) + (fk b n σ nm 1 (tS b n (tt b n p9 2)))) (nI ((fk b n σ nm 2 (tS b n (tt b n p9 3))) + 1))) 69 = setP σ (paX b n σ nm p9) (paY b n p9) (nI (fk b n σ nm 2 (tS b n (tt b n p9 3)))) := by rw [u2_eq, hpa]; unfold setP; rw [nI_add]; rfl
            have hTk : TokM b n (u2 I89 69 ((104 + (12 * (tV b n (tt b n p9 1)))) + (fk b n σ nm 1 (tS b n (tt b n p9 2)))) (nI ((fk b n σ nm 2 (tS b n (tt b n p9 3))) + 1))) Lc89 (tt b n p9 4) := TokM.pu hTk (by omega)
            have hz : KZ (u2 I89 69 ((104 + (12 * (tV b n (tt b n p9 1)))) + (fk b n σ nm 1 (tS b n (tt b n p9 2)))) (nI ((fk b n σ nm 2 (tS b n (tt b n p9 3))) + 1))) := KZ.pu hz (by omega)
            obtain ⟨J116, eJ116⟩ : ∃ J, J = u2 I89 69 ((104 + (12 * (tV b n (tt b n p9 1)))) + (fk b n σ nm 1 (tS b n (tt b n p9 2)))) (nI ((fk b n σ nm 2 (tS b n (tt b n p9 3))) + 1)) := ⟨_, rfl⟩
            rw [← eJ116] at hW hF hb3 hpa hTk hz
            have hln : J116 67 11 = nI n := by rw [eJ116, u2_off (Or.inl (by decide))]; exact hln
            have hnr : J116 67 22 = nI (fk b n σ nm 2 (tS b n (tt b n p9 3))) := by rw [eJ116, u2_off (Or.inl (by decide))]; exact hnr
            refine n_iconst (a := 1) hx hb (dg D_X12_painting (i := 74) rfl) rfl ?_
            have hpos : ¬ 0 < σ (104 + 12 * paY b n p9 + paX b n σ nm p9) := Int32.not_lt.mpr c72
            have hst9 : stPa b n σ nm p9 = .inr (setP σ (paX b n σ nm p9) (paY b n p9) (nI (fk b n σ nm 2 (tS b n (tt b n p9 3)))), nm, tt b n p9 4) := by unfold stPa; simp only [c18, hon, hpos, c92, ↓reduceIte, reduceCtorEq]
            exact fin (dg D_X12_painting (i := 75) rfl) hW hS (show _ = bI true from rfl) ⟨by rw [hst9]; rfl, hF, by rw [hst9]; exact ⟨hpa, hTk, NmM.same hNm (cN_upd (by omega)), hz⟩, hFL, rfl⟩
          · refine n_iconst (a := 0) hx hb (dg D_X12_painting (i := 58) rfl) rfl ?_
            have hpos : ¬ 0 < σ (104 + 12 * paY b n p9 + paX b n σ nm p9) := Int32.not_lt.mpr c72
            have hst9 : stPa b n σ nm p9 = .inl (nnE b n (tt b n p9 3), tS b n (tt b n p9 3)) := by unfold stPa; simp only [c18, hon, hpos, c92, ↓reduceIte, reduceCtorEq]
            exact fin (dg D_X12_painting (i := 59) rfl) hW hS (show _ = bI false from rfl) ⟨by rw [hst9]; rfl, hF, by rw [hst9]; exact hp89_1 c92, hFL, rfl⟩
        · refine lv_aload_n hx hb (dg D_X12_painting (i := 47) rfl) rfl (lv_at hl 2 rfl) ?_
          refine lv_bipush (v := nI 6) hx hb (dg D_X12_painting (i := 48) rfl) (by decide) ?_
          refine callVi X hW hS hR (c_X12_fail (I := I15) (nI 6) (nI (tK b n (tt b n p9 2))) (nI (tS b n (tt b n p9 2))) (by first | assumption | omega | decide | exact hP.1) (by first | assumption | omega | decide | exact hP.1)) (by decide) UVX12_fail LK_X12_163 rfl (by decide) rfl rfl rfl (Nat.le_of_ble_eq_true rfl) hl hcs (dg D_X12_painting (i := 49) rfl) (fun r78 I78 L1 R1 H locs hq hW hS => ?_)
          obtain ⟨rfl, hT78, hp78_0, hp78_1, rfl, rfl⟩ := hq
          have hF : Fr SNp I I78 := Fr.tr hF hT78 (by intro a j h; simp only [SFl, SNp, Bool.or_eq_true, Bool.and_eq_true, beq_iff_eq, decide_eq_true_eq] at h ⊢; omega)
          have hb3 : I78 73 = b := (Fr.row hT78 (fun _ => rfl)).trans hb3
          have hpa : I78 69 = σ := (Fr.row hT78 (fun _ => rfl)).trans hpa
          have hln : I78 67 11 = nI n := (hT78 67 11 rfl).trans hln
          have hnr : I78 67 21 = nI (tV b n (tt b n p9 1)) := (hT78 67 21 rfl).trans hnr
          have hst : I78 67 12 = nI (tS b n (tt b n p9 2)) := (hT78 67 12 rfl).trans hst
          have htk : I78 67 14 = nI (tK b n (tt b n p9 2)) := (hT78 67 14 rfl).trans htk
          have hkw : I78 67 15 = kwI b n (tt b n p9 2) := (hT78 67 15 rfl).trans hkw
          have hnx : I78 67 13 = nI (tE b n (tt b n p9 2)) := (hT78 67 13 rfl).trans hnx
          have hpos : 0 < σ (104 + 12 * paY b n p9 + paX b n σ nm p9) := Int32.not_le.mp c72
          have hst9 : stPa b n σ nm p9 = .inl (nI 6, tS b n (tt b n p9 2)) := by unfold stPa; simp only [c18, hon, hpos, ↓reduceIte, reduceCtorEq]
          exact fin (dg D_X12_painting (i := 50) rfl) hW hS rfl ⟨by rw [hst9]; rfl, hF, by rw [hst9]; exact ⟨by rw [hp78_0, fl_I (by omega)], hp78_1⟩, hFL, rfl⟩
      · have hon : onOk b n σ nm 1 (tt b n p9 2) = false := by unfold onOk; rw [c32, show decide (fk b n σ nm 1 (tS b n (tt b n p9 2)) < cN σ 1) = false from decide_eq_false (fkI_eq hi (by decide) (by first | exact c49 | exact Classical.not_not.mp c49))]; rfl
        refine lv_aload_n hx hb (dg D_X12_painting (i := 32) rfl) rfl (lv_at hl 2 rfl) ?_
        refine n_iconst (a := 4) hx hb (dg D_X12_painting (i := 33) rfl) rfl ?_
        refine callVi X hW hS hR (c_X12_fail (I := I15) (nI 4) (nI (tK b n (tt b n p9 2))) (nI (tS b n (tt b n p9 2))) (by first | assumption | omega | decide | exact hP.1) (by first | assumption | omega | decide | exact hP.1)) (by decide) UVX12_fail LK_X12_163 rfl (by decide) rfl rfl rfl (Nat.le_of_ble_eq_true rfl) hl hcs (dg D_X12_painting (i := 34) rfl) (fun r54 I54 L1 R1 H locs hq hW hS => ?_)
        obtain ⟨rfl, hT54, hp54_0, hp54_1, rfl, rfl⟩ := hq
        have hF : Fr SNp I I54 := Fr.tr hF hT54 (by intro a j h; simp only [SFl, SNp, Bool.or_eq_true, Bool.and_eq_true, beq_iff_eq, decide_eq_true_eq] at h ⊢; omega)
        have hb3 : I54 73 = b := (Fr.row hT54 (fun _ => rfl)).trans hb3
        have hpa : I54 69 = σ := (Fr.row hT54 (fun _ => rfl)).trans hpa
        have hln : I54 67 11 = nI n := (hT54 67 11 rfl).trans hln
        have hnr : I54 67 21 = nI (tV b n (tt b n p9 1)) := (hT54 67 21 rfl).trans hnr
        have hst : I54 67 12 = nI (tS b n (tt b n p9 2)) := (hT54 67 12 rfl).trans hst
        have htk : I54 67 14 = nI (tK b n (tt b n p9 2)) := (hT54 67 14 rfl).trans htk
        have hkw : I54 67 15 = kwI b n (tt b n p9 2) := (hT54 67 15 rfl).trans hkw
        have hnx : I54 67 13 = nI (tE b n (tt b n p9 2)) := (hT54 67 13 rfl).trans hnx
        have hst9 : stPa b n σ nm p9 = .inl (nnE b n (tt b n p9 2), tS b n (tt b n p9 2)) := by unfold stPa; simp only [c18, hon, ↓reduceIte, reduceCtorEq]
        exact fin (dg D_X12_painting (i := 35) rfl) hW hS rfl ⟨by rw [hst9]; rfl, hF, by rw [hst9]; exact ⟨by rw [hp54_0, fl_I (by omega)]; unfold nnE; rw [if_pos c32], hp54_1⟩, hFL, rfl⟩
    · have hon : onOk b n σ nm 1 (tt b n p9 2) = false := by unfold onOk; rw [c32]; rfl
      refine lv_aload_n hx hb (dg D_X12_painting (i := 21) rfl) rfl (lv_at hl 1 rfl) ?_
      refine n_iconst (a := 2) hx hb (dg D_X12_painting (i := 22) rfl) rfl ?_
      refine callVi X hW hS hR (c_X12_fail (I := I15) (nI 2) (nI (tK b n (tt b n p9 2))) (nI (tS b n (tt b n p9 2))) (by first | assumption | omega | decide | exact hP.1) (by first | assumption | omega | decide | exact hP.1)) (by decide) UVX12_fail LK_X12_163 rfl (by decide) rfl rfl rfl (Nat.le_of_ble_eq_true rfl) hl hcs (dg D_X12_painting (i := 23) rfl) (fun r37 I37 L1 R1 H locs hq hW hS => ?_)
      obtain ⟨rfl, hT37, hp37_0, hp37_1, rfl, rfl⟩ := hq
      have hF : Fr SNp I I37 := Fr.tr hF hT37 (by intro a j h; simp only [SFl, SNp, Bool.or_eq_true, Bool.and_eq_true, beq_iff_eq, decide_eq_true_eq] at h ⊢; omega)
      have hb3 : I37 73 = b := (Fr.row hT37 (fun _ => rfl)).trans hb3
      have hpa : I37 69 = σ := (Fr.row hT37 (fun _ => rfl)).trans hpa
      have hln : I37 67 11 = nI n := (hT37 67 11 rfl).trans hln
      have hnr : I37 67 21 = nI (tV b n (tt b n p9 1)) := (hT37 67 21 rfl).trans hnr
      have hst : I37 67 12 = nI (tS b n (tt b n p9 2)) := (hT37 67 12 rfl).trans hst
      have htk : I37 67 14 = nI (tK b n (tt b n p9 2)) := (hT37 67 14 rfl).trans htk
      have hkw : I37 67 15 = kwI b n (tt b n p9 2) := (hT37 67 15 rfl).trans hkw
      have hnx : I37 67 13 = nI (tE b n (tt b n p9 2)) := (hT37 67 13 rfl).trans hnx
      have hst9 : stPa b n σ nm p9 = .inl (nnE b n (tt b n p9 2), tS b n (tt b n p9 2)) := by unfold stPa; simp only [c18, hon, ↓reduceIte, reduceCtorEq]
      exact fin (dg D_X12_painting (i := 24) rfl) hW hS rfl ⟨by rw [hst9]; rfl, hF, by rw [hst9]; exact ⟨by rw [hp37_0, e2_I]; unfold nnE; rw [if_neg (by rw [c32]; decide)], hp37_1⟩, hFL, rfl⟩
  · refine n_iconst (a := 0) hx hb (dg D_X12_painting (i := 13) rfl) rfl ?_
    have hst9 : stPa b n σ nm p9 = .inl (nuE b n (tt b n p9 1), tS b n (tt b n p9 1)) := by unfold stPa; simp only [c18, ↓reduceIte, reduceCtorEq]
    exact fin (dg D_X12_painting (i := 14) rfl) hW hS (show _ = bI false from rfl) ⟨by rw [hst9]; rfl, hF, by rw [hst9]; exact hp15_1 c18, hFL, rfl⟩

