set_option maxHeartbeats 4000000 in
set_option maxRecDepth 100000 in
theorem c_X12_newName {l : Launch} {G : va_G} {bs : Nat} {cy : Nat → ClassId} {I : CI} {L : CL} {R : CR} (b : Nat → Int32) (n : Nat) (σ : Row) (p9 : Nat) (nm : Nm) (t9 : Nat) (hz : KZ I) (hb3 : I 73 = b) (hln : I 67 11 = nI n) (hT : TB b n) (hn : n ≤ 900) (hp : p9 ≤ n) (hTk : TokM b n I L p9) (hi : Inv σ) (hpa : I 69 = σ) (hNm : NmM b n L σ nm) (ht9 : t9 < 3) (hc9 : cN σ t9 < 12) : MTi l G bs cy MX12_newName 7 [.ref (bs + 67), .int (nI t9)] I L R (fun r I1 L1 R1 => bI (nnOk b n σ nm p9) = r ∧ Fr SNm I I1 ∧ (nnOk b n σ nm p9 = true → TokM b n I1 L1 (tE b n p9) ∧ NmX b n L1 σ nm t9 (tS b n p9) ∧ KZ I1) ∧ (nnOk b n σ nm p9 = false → I1 67 17 = nnE b n p9 ∧ I1 67 18 = nI (tS b n p9)) ∧ FL SLp L L1 ∧ R = R1) := by
  refine MTz.of (own := RX12) pn_RX12 rfl (Nat.le_of_ble_eq_true rfl) ?_
  intro p e s m args below meth c Qf X hW hS fin ls hl
  have hx := X.1
  have hb := X.2.1
  have hR : RmOK (rmL 7 0 0) 7 := ⟨rfl, rfl⟩
  have hcs : 0 ≤ (rmL 7 0 0).cells ∧ 0 ≤ (rmL 7 0 0).slots := ⟨Nat.zero_le _, Nat.zero_le _⟩
  have hl : lv_has ls 2 [(0, .ref (bs + 67)), (1, .int (nI t9))] := hl
  have hF : Fr SNm I I := Fr.rf
  have hFL : FL SLp L L := FL.rf
  obtain ⟨hst, hnx, htk, hkw, hva, hnm9⟩ := id hTk
  have hk4 : tK b n p9 ≤ 4 := tK_le
  refine lv_aload_n hx hb (dg D_X12_newName (i := 0) rfl) rfl (lv_at hl 0 rfl) ?_
  refine callVi X hW hS hR (c_X12_isName (I := I) (nI (tK b n p9)) (kwI b n p9) (by first | assumption | omega | decide | exact hP.1) (by first | assumption | omega | decide | exact hP.1)) (by decide) UVX12_isName LK_X12_177 rfl (by decide) rfl rfl rfl (Nat.le_of_ble_eq_true rfl) hl hcs (dg D_X12_newName (i := 1) rfl) (fun r1 I1 L1 R1 H locs hq hW hS => ?_)
  obtain ⟨rfl, rfl, rfl, rfl⟩ := hq
  rw [show bI (decide ((nI (tK b n p9)) = nI 2 ∧ (kwI b n p9) = -1)) = bI (isNm b n p9) from congrArg bI isNm_I]
  refine z_if_ne (tgt := 13) hx hb (dg D_X12_newName (i := 2) rfl) (by decide) (fun c4 => ?_) (fun c4 => ?_)
  · obtain ⟨hk2, hk1⟩ := isNm_2 c4
    refine lv_aload_n hx hb (dg D_X12_newName (i := 7) rfl) rfl (lv_at hl 0 rfl) ?_
    refine n_iconst (a := 0) hx hb (dg D_X12_newName (i := 8) rfl) rfl ?_
    refine callVi X hW hS hR (c_X12_find (I := I) b n σ nm 0 (tS b n p9) (by first | assumption | omega | decide | exact hP.1) (by first | assumption | omega | decide | exact hP.1) (by first | assumption | omega | decide | exact hP.1) (by first | assumption | omega | decide | exact hP.1) (by first | assumption | omega | decide | exact hP.1) (by decide) ((tok_w hk2).1) (hnm9 hk2)) (by decide) UVX12_find LK_X12_180 rfl (by decide) rfl rfl rfl (Nat.le_of_ble_eq_true rfl) hl hcs (dg D_X12_newName (i := 9) rfl) (fun r15 I15 L1 R1 H locs hq hW hS => ?_)
    obtain ⟨rfl, rfl, rfl, rfl⟩ := hq
    refine lv_iconst (v := -1) hx hb (dg D_X12_newName (i := 10) rfl) (by decide) ?_
    refine lv_icmp_ne (tgt := 40) hx hb (dg D_X12_newName (i := 11) rfl) (by decide) (fun c19 => ?_) (fun c19 => ?_)
    · refine lv_aload_n hx hb (dg D_X12_newName (i := 22) rfl) rfl (lv_at hl 0 rfl) ?_
      refine n_iconst (a := 4) hx hb (dg D_X12_newName (i := 23) rfl) rfl ?_
      refine callVi X hW hS hR (c_X12_fail (I := I) (nI 4) (nI (tK b n p9)) (nI (tS b n p9)) (by first | assumption | omega | decide | exact hP.1) (by first | assumption | omega | decide | exact hP.1)) (by decide) UVX12_fail LK_X12_163 rfl (by decide) rfl rfl rfl (Nat.le_of_ble_eq_true rfl) hl hcs (dg D_X12_newName (i := 24) rfl) (fun r42 I42 L1 R1 H locs hq hW hS => ?_)
      obtain ⟨rfl, hT42, hp42_0, hp42_1, rfl, rfl⟩ := hq
      have hF : Fr SNm I I42 := Fr.tr hF hT42 (by intro a j h; simp only [SFl, SNm, Bool.or_eq_true, Bool.and_eq_true, beq_iff_eq, decide_eq_true_eq] at h ⊢; omega)
      have hb3 : I42 73 = b := (Fr.row hT42 (fun _ => rfl)).trans hb3
      have hpa : I42 69 = σ := (Fr.row hT42 (fun _ => rfl)).trans hpa
      have hln : I42 67 11 = nI n := (hT42 67 11 rfl).trans hln
      have hst : I42 67 12 = nI (tS b n p9) := (hT42 67 12 rfl).trans hst
      have htk : I42 67 14 = nI (tK b n p9) := (hT42 67 14 rfl).trans htk
      have hkw : I42 67 15 = kwI b n p9 := (hT42 67 15 rfl).trans hkw
      have hnx : I42 67 13 = nI (tE b n p9) := (hT42 67 13 rfl).trans hnx
      have hno : nnOk b n σ nm p9 = false := by unfold nnOk; rw [c4, show dcl b n σ nm (tS b n p9) = true from decide_eq_true (Or.inl (fkI_ne hi (by decide) c19))]; rfl
      exact fin (dg D_X12_newName (i := 25) rfl) hW hS rfl ⟨by rw [hno], hF, fun z => absurd z (by rw [hno]; decide), fun _ => ⟨by rw [hp42_0, fl_I (by omega)]; unfold nnE; rw [if_pos c4], hp42_1⟩, hFL, rfl⟩
    · refine lv_aload_n hx hb (dg D_X12_newName (i := 12) rfl) rfl (lv_at hl 0 rfl) ?_
      refine n_iconst (a := 1) hx hb (dg D_X12_newName (i := 13) rfl) rfl ?_
      refine callVi X hW hS hR (c_X12_find (I := I) b n σ nm 1 (tS b n p9) (by first | assumption | omega | decide | exact hP.1) (by first | assumption | omega | decide | exact hP.1) (by first | assumption | omega | decide | exact hP.1) (by first | assumption | omega | decide | exact hP.1) (by first | assumption | omega | decide | exact hP.1) (by decide) ((tok_w hk2).1) (hnm9 hk2)) (by decide) UVX12_find LK_X12_180 rfl (by decide) rfl rfl rfl (Nat.le_of_ble_eq_true rfl) hl hcs (dg D_X12_newName (i := 14) rfl) (fun r24 I24 L1 R1 H locs hq hW hS => ?_)
      obtain ⟨rfl, rfl, rfl, rfl⟩ := hq
      refine lv_iconst (v := -1) hx hb (dg D_X12_newName (i := 15) rfl) (by decide) ?_
      refine lv_icmp_ne (tgt := 40) hx hb (dg D_X12_newName (i := 16) rfl) (by decide) (fun c28 => ?_) (fun c28 => ?_)
      · refine lv_aload_n hx hb (dg D_X12_newName (i := 22) rfl) rfl (lv_at hl 0 rfl) ?_
        refine n_iconst (a := 4) hx hb (dg D_X12_newName (i := 23) rfl) rfl ?_
        refine callVi X hW hS hR (c_X12_fail (I := I) (nI 4) (nI (tK b n p9)) (nI (tS b n p9)) (by first | assumption | omega | decide | exact hP.1) (by first | assumption | omega | decide | exact hP.1)) (by decide) UVX12_fail LK_X12_163 rfl (by decide) rfl rfl rfl (Nat.le_of_ble_eq_true rfl) hl hcs (dg D_X12_newName (i := 24) rfl) (fun r42 I42 L1 R1 H locs hq hW hS => ?_)
        obtain ⟨rfl, hT42, hp42_0, hp42_1, rfl, rfl⟩ := hq
        have hF : Fr SNm I I42 := Fr.tr hF hT42 (by intro a j h; simp only [SFl, SNm, Bool.or_eq_true, Bool.and_eq_true, beq_iff_eq, decide_eq_true_eq] at h ⊢; omega)
        have hb3 : I42 73 = b := (Fr.row hT42 (fun _ => rfl)).trans hb3
        have hpa : I42 69 = σ := (Fr.row hT42 (fun _ => rfl)).trans hpa
        have hln : I42 67 11 = nI n := (hT42 67 11 rfl).trans hln
        have hst : I42 67 12 = nI (tS b n p9) := (hT42 67 12 rfl).trans hst
        have htk : I42 67 14 = nI (tK b n p9) := (hT42 67 14 rfl).trans htk
        have hkw : I42 67 15 = kwI b n p9 := (hT42 67 15 rfl).trans hkw
        have hnx : I42 67 13 = nI (tE b n p9) := (hT42 67 13 rfl).trans hnx
        have hno : nnOk b n σ nm p9 = false := by unfold nnOk; rw [c4, show dcl b n σ nm (tS b n p9) = true from decide_eq_true (Or.inr (Or.inl (fkI_ne hi (by decide) c28)))]; rfl
        exact fin (dg D_X12_newName (i := 25) rfl) hW hS rfl ⟨by rw [hno], hF, fun z => absurd z (by rw [hno]; decide), fun _ => ⟨by rw [hp42_0, fl_I (by omega)]; unfold nnE; rw [if_pos c4], hp42_1⟩, hFL, rfl⟩
      · refine lv_aload_n hx hb (dg D_X12_newName (i := 17) rfl) rfl (lv_at hl 0 rfl) ?_
        refine n_iconst (a := 2) hx hb (dg D_X12_newName (i := 18) rfl) rfl ?_
        refine callVi X hW hS hR (c_X12_find (I := I) b n σ nm 2 (tS b n p9) (by first | assumption | omega | decide | exact hP.1) (by first | assumption | omega | decide | exact hP.1) (by first | assumption | omega | decide | exact hP.1) (by first | assumption | omega | decide | exact hP.1) (by first | assumption | omega | decide | exact hP.1) (by decide) ((tok_w hk2).1) (hnm9 hk2)) (by decide) UVX12_find LK_X12_180 rfl (by decide) rfl rfl rfl (Nat.le_of_ble_eq_true rfl) hl hcs (dg D_X12_newName (i := 19) rfl) (fun r33 I33 L1 R1 H locs hq hW hS => ?_)
        obtain ⟨rfl, rfl, rfl, rfl⟩ := hq
        refine lv_iconst (v := -1) hx hb (dg D_X12_newName (i := 20) rfl) (by decide) ?_
        refine lv_icmp_eq (tgt := 46) hx hb (dg D_X12_newName (i := 21) rfl) (by decide) (fun c37 => ?_) (fun c37 => ?_)
        · refine lv_aload_n hx hb (dg D_X12_newName (i := 26) rfl) rfl (lv_at hl 0 rfl) ?_
          refine r_getc (t := 74) X hW FI_X12_33 rfl (by decide) rfl (dg D_X12_newName (i := 27) rfl) ?_
          refine lv_bipush (v := nI 12) hx hb (dg D_X12_newName (i := 28) rfl) (by decide) ?_
          refine lv_iload_n hx hb (dg D_X12_newName (i := 29) rfl) rfl (lv_at hl 1 rfl) ?_
          refine n_imul hx hb (dg D_X12_newName (i := 30) rfl) ?_
          refine lv_aload_n hx hb (dg D_X12_newName (i := 31) rfl) rfl (lv_at hl 0 rfl) ?_
          refine r_getc (t := 69) X hW FI_X12_13 rfl (by decide) rfl (dg D_X12_newName (i := 32) rfl) ?_
          refine n_iconst (a := 3) hx hb (dg D_X12_newName (i := 33) rfl) rfl ?_
          refine lv_iload_n hx hb (dg D_X12_newName (i := 34) rfl) rfl (lv_at hl 1 rfl) ?_
          refine n_iadd hx hb (dg D_X12_newName (i := 35) rfl) ?_
          refine r_ald (j := 3 + t9) (v := nI (cN σ t9)) X hW rfl (by decide) rfl (by omega) (by decide) ((congrFun hpa _).trans (cN_I hi ht9).1) (dg D_X12_newName (i := 36) rfl) ?_
          refine n_iadd hx hb (dg D_X12_newName (i := 37) rfl) ?_
          refine lv_aload_n hx hb (dg D_X12_newName (i := 38) rfl) rfl (lv_at hl 0 rfl) ?_
          refine r_getl (v := Int64.ofNat (w27 b n (tS b n p9))) X hW FI_X12_129 rfl (by decide) rfl (hnm9 hk2) (dg D_X12_newName (i := 39) rfl) ?_
          refine r_last (j := (12 * t9) + (cN σ t9)) (v := Int64.ofNat (w27 b n (tS b n p9))) X hW hS rfl (by decide) rfl (by omega) (by decide) (dg D_X12_newName (i := 40) rfl) (fun H locs hW hS => ?_)
          have hFL : FL SLp L (u2L L 74 ((12 * t9) + (cN σ t9)) (Int64.ofNat (w27 b n (tS b n p9)))) := FL.put hFL rfl
          have hNm : NmX b n (u2L L 74 ((12 * t9) + (cN σ t9)) (Int64.ofNat (w27 b n (tS b n p9)))) σ nm t9 (tS b n p9) := NmX.mk9 hi hNm ht9 hc9 (tok_w hk2).1
          obtain ⟨LJ67, eLJ67⟩ : ∃ J, J = u2L L 74 ((12 * t9) + (cN σ t9)) (Int64.ofNat (w27 b n (tS b n p9))) := ⟨_, rfl⟩
          rw [← eLJ67] at hW hFL hNm
          refine lv_aload_n hx hb (dg D_X12_newName (i := 41) rfl) rfl (lv_at hl 0 rfl) ?_
          refine callVi X hW hS hR (c_X12_advance (I := I) b n (tE b n p9) (by first | assumption | omega | decide | exact hP.1) (by first | assumption | omega | decide | exact hP.1) (by first | assumption | omega | decide | exact hP.1) (by first | assumption | omega | decide | exact hP.1) (by first | assumption | omega | decide | exact hP.1) (tE_le hp)) (by decide) UVX12_advance LK_X12_169 rfl (by decide) rfl rfl rfl (Nat.le_of_ble_eq_true rfl) hl hcs (dg D_X12_newName (i := 42) rfl) (fun r69 I69 Lc69 R1 H locs hq hW hS => ?_)
          obtain ⟨rfl, hT69, hp69_0, hL69, rfl⟩ := hq
          have hF : Fr SNm I I69 := Fr.tr hF hT69 (by intro a j h; simp only [STk, SNm, Bool.or_eq_true, Bool.and_eq_true, beq_iff_eq, decide_eq_true_eq] at h ⊢; omega)
          have hb3 : I69 73 = b := (Fr.row hT69 (fun _ => rfl)).trans hb3
          have hpa : I69 69 = σ := (Fr.row hT69 (fun _ => rfl)).trans hpa
          have hz : KZ I69 := KZ.fr hz hT69 rfl rfl
          have hln : I69 67 11 = nI n := (hT69 67 11 rfl).trans hln
          have hFL : FL SLp L Lc69 := FL.tr hFL hL69 (by intro a j h; simp only [SLk, SLp, Bool.or_eq_true, Bool.and_eq_true, beq_iff_eq, decide_eq_true_eq] at h ⊢; omega)
          have hNm : NmX b n Lc69 σ nm t9 (tS b n p9) := NmX.fl hNm hL69 (fun _ => rfl)
          have hyes : nnOk b n σ nm p9 = true := by unfold nnOk; rw [c4, show dcl b n σ nm (tS b n p9) = false from decide_eq_false (fun z => by rcases z with z | z | z; exact fkI_eq hi (by decide) (by first | exact c19 | exact Classical.not_not.mp c19) z; exact fkI_eq hi (by decide) (by first | exact c28 | exact Classical.not_not.mp c28) z; exact fkI_eq hi (by decide) (by first | exact c37 | exact Classical.not_not.mp c37) z)]; rfl
          exact fin (dg D_X12_newName (i := 43) rfl) hW hS rfl ⟨by rw [hyes], hF, fun _ => ⟨hp69_0, hNm, hz⟩, fun z => absurd z (by rw [hyes]; decide), hFL, rfl⟩
        · refine lv_aload_n hx hb (dg D_X12_newName (i := 22) rfl) rfl (lv_at hl 0 rfl) ?_
          refine n_iconst (a := 4) hx hb (dg D_X12_newName (i := 23) rfl) rfl ?_
          refine callVi X hW hS hR (c_X12_fail (I := I) (nI 4) (nI (tK b n p9)) (nI (tS b n p9)) (by first | assumption | omega | decide | exact hP.1) (by first | assumption | omega | decide | exact hP.1)) (by decide) UVX12_fail LK_X12_163 rfl (by decide) rfl rfl rfl (Nat.le_of_ble_eq_true rfl) hl hcs (dg D_X12_newName (i := 24) rfl) (fun r42 I42 L1 R1 H locs hq hW hS => ?_)
          obtain ⟨rfl, hT42, hp42_0, hp42_1, rfl, rfl⟩ := hq
          have hF : Fr SNm I I42 := Fr.tr hF hT42 (by intro a j h; simp only [SFl, SNm, Bool.or_eq_true, Bool.and_eq_true, beq_iff_eq, decide_eq_true_eq] at h ⊢; omega)
          have hb3 : I42 73 = b := (Fr.row hT42 (fun _ => rfl)).trans hb3
          have hpa : I42 69 = σ := (Fr.row hT42 (fun _ => rfl)).trans hpa
          have hln : I42 67 11 = nI n := (hT42 67 11 rfl).trans hln
          have hst : I42 67 12 = nI (tS b n p9) := (hT42 67 12 rfl).trans hst
          have htk : I42 67 14 = nI (tK b n p9) := (hT42 67 14 rfl).trans htk
          have hkw : I42 67 15 = kwI b n p9 := (hT42 67 15 rfl).trans hkw
          have hnx : I42 67 13 = nI (tE b n p9) := (hT42 67 13 rfl).trans hnx
          have hno : nnOk b n σ nm p9 = false := by unfold nnOk; rw [c4, show dcl b n σ nm (tS b n p9) = true from decide_eq_true (Or.inr (Or.inr (fkI_ne hi (by decide) c37)))]; rfl
          exact fin (dg D_X12_newName (i := 25) rfl) hW hS rfl ⟨by rw [hno], hF, fun z => absurd z (by rw [hno]; decide), fun _ => ⟨by rw [hp42_0, fl_I (by omega)]; unfold nnE; rw [if_pos c4], hp42_1⟩, hFL, rfl⟩
  · refine lv_aload_n hx hb (dg D_X12_newName (i := 3) rfl) rfl (lv_at hl 0 rfl) ?_
    refine n_iconst (a := 2) hx hb (dg D_X12_newName (i := 4) rfl) rfl ?_
    refine callVi X hW hS hR (c_X12_fail (I := I) (nI 2) (nI (tK b n p9)) (nI (tS b n p9)) (by first | assumption | omega | decide | exact hP.1) (by first | assumption | omega | decide | exact hP.1)) (by decide) UVX12_fail LK_X12_163 rfl (by decide) rfl rfl rfl (Nat.le_of_ble_eq_true rfl) hl hcs (dg D_X12_newName (i := 5) rfl) (fun r9 I9 L1 R1 H locs hq hW hS => ?_)
    obtain ⟨rfl, hT9, hp9_0, hp9_1, rfl, rfl⟩ := hq
    have hF : Fr SNm I I9 := Fr.tr hF hT9 (by intro a j h; simp only [SFl, SNm, Bool.or_eq_true, Bool.and_eq_true, beq_iff_eq, decide_eq_true_eq] at h ⊢; omega)
    have hb3 : I9 73 = b := (Fr.row hT9 (fun _ => rfl)).trans hb3
    have hpa : I9 69 = σ := (Fr.row hT9 (fun _ => rfl)).trans hpa
    have hln : I9 67 11 = nI n := (hT9 67 11 rfl).trans hln
    have hst : I9 67 12 = nI (tS b n p9) := (hT9 67 12 rfl).trans hst
    have htk : I9 67 14 = nI (tK b n p9) := (hT9 67 14 rfl).trans htk
    have hkw : I9 67 15 = kwI b n p9 := (hT9 67 15 rfl).trans hkw
    have hnx : I9 67 13 = nI (tE b n p9) := (hT9 67 13 rfl).trans hnx
    have hno : nnOk b n σ nm p9 = false := by unfold nnOk; rw [c4]; rfl
    exact fin (dg D_X12_newName (i := 6) rfl) hW hS rfl ⟨by rw [hno], hF, fun z => absurd z (by rw [hno]; decide), fun _ => ⟨by rw [hp9_0, e2_I]; unfold nnE; rw [if_neg (by rw [c4]; decide)], hp9_1⟩, hFL, rfl⟩

set_option maxHeartbeats 4000000 in
set_option maxRecDepth 100000 in
theorem c_X12_oldName {l : Launch} {G : va_G} {bs : Nat} {cy : Nat → ClassId} {I : CI} {L : CL} {R : CR} (b : Nat → Int32) (n : Nat) (σ : Row) (p9 : Nat) (nm : Nm) (t9 : Nat) (hz : KZ I) (hb3 : I 73 = b) (hln : I 67 11 = nI n) (hT : TB b n) (hn : n ≤ 900) (hp : p9 ≤ n) (hTk : TokM b n I L p9) (hi : Inv σ) (hpa : I 69 = σ) (hNm : NmM b n L σ nm) (ht9 : t9 < 3) : MTi l G bs cy MX12_oldName 7 [.ref (bs + 67), .int (nI t9)] I L R (fun r I1 L1 R1 => bI (onOk b n σ nm t9 p9) = r ∧ Fr SNo I I1 ∧ (onOk b n σ nm t9 p9 = true → TokM b n I1 L1 (tE b n p9) ∧ I1 67 22 = nI (fk b n σ nm t9 (tS b n p9)) ∧ KZ I1) ∧ (onOk b n σ nm t9 p9 = false → I1 67 17 = nnE b n p9 ∧ I1 67 18 = nI (tS b n p9)) ∧ FL SLk L L1 ∧ R = R1) := by
  refine MTz.of (own := RX12) pn_RX12 rfl (Nat.le_of_ble_eq_true rfl) ?_
  intro p e s m args below meth c Qf X hW hS fin ls hl
  have hx := X.1
  have hb := X.2.1
  have hR : RmOK (rmL 7 0 0) 7 := ⟨rfl, rfl⟩
  have hcs : 0 ≤ (rmL 7 0 0).cells ∧ 0 ≤ (rmL 7 0 0).slots := ⟨Nat.zero_le _, Nat.zero_le _⟩
  have hl : lv_has ls 2 [(0, .ref (bs + 67)), (1, .int (nI t9))] := hl
  have hF : Fr SNo I I := Fr.rf
  have hFL : FL SLk L L := FL.rf
  obtain ⟨hst, hnx, htk, hkw, hva, hnm9⟩ := id hTk
  have hk4 : tK b n p9 ≤ 4 := tK_le
  refine lv_aload_n hx hb (dg D_X12_oldName (i := 0) rfl) rfl (lv_at hl 0 rfl) ?_
  refine callVi X hW hS hR (c_X12_isName (I := I) (nI (tK b n p9)) (kwI b n p9) (by first | assumption | omega | decide | exact hP.1) (by first | assumption | omega | decide | exact hP.1)) (by decide) UVX12_isName LK_X12_177 rfl (by decide) rfl rfl rfl (Nat.le_of_ble_eq_true rfl) hl hcs (dg D_X12_oldName (i := 1) rfl) (fun r1 I1 L1 R1 H locs hq hW hS => ?_)
  obtain ⟨rfl, rfl, rfl, rfl⟩ := hq
  rw [show bI (decide ((nI (tK b n p9)) = nI 2 ∧ (kwI b n p9) = -1)) = bI (isNm b n p9) from congrArg bI isNm_I]
  refine z_if_ne (tgt := 13) hx hb (dg D_X12_oldName (i := 2) rfl) (by decide) (fun c4 => ?_) (fun c4 => ?_)
  · obtain ⟨hk2, hk1⟩ := isNm_2 c4
    refine lv_aload_n hx hb (dg D_X12_oldName (i := 7) rfl) rfl (lv_at hl 0 rfl) ?_
    refine lv_aload_n hx hb (dg D_X12_oldName (i := 8) rfl) rfl (lv_at hl 0 rfl) ?_
    refine lv_iload_n hx hb (dg D_X12_oldName (i := 9) rfl) rfl (lv_at hl 1 rfl) ?_
    refine callVi X hW hS hR (c_X12_find (I := I) b n σ nm t9 (tS b n p9) (by first | assumption | omega | decide | exact hP.1) (by first | assumption | omega | decide | exact hP.1) (by first | assumption | omega | decide | exact hP.1) (by first | assumption | omega | decide | exact hP.1) (by first | assumption | omega | decide | exact hP.1) (by first | assumption | omega | decide | exact hP.1) ((tok_w hk2).1) (hnm9 hk2)) (by decide) UVX12_find LK_X12_180 rfl (by decide) rfl rfl rfl (Nat.le_of_ble_eq_true rfl) hl hcs (dg D_X12_oldName (i := 10) rfl) (fun r16 I16 L1 R1 H locs hq hW hS => ?_)
    obtain ⟨rfl, rfl, rfl, rfl⟩ := hq
    refine r_puti (v := fkI b n σ nm t9 (tS b n p9)) (ty := .int) X hW hS FI_X12_183 rfl (by decide) rfl rfl (by decide +kernel) rfl rfl (dg D_X12_oldName (i := 11) rfl) (fun H locs hW hS => ?_)
    have hF : Fr SNo I (u2 I 67 22 (fkI b n σ nm t9 (tS b n p9))) := Fr.put hF rfl
    have hb3 : (u2 I 67 22 (fkI b n σ nm t9 (tS b n p9))) 73 = b := by rw [u2_ne (by decide)]; exact hb3
    have hpa : (u2 I 67 22 (fkI b n σ nm t9 (tS b n p9))) 69 = σ := by rw [u2_ne (by decide)]; exact hpa
    have hz : KZ (u2 I 67 22 (fkI b n σ nm t9 (tS b n p9))) := KZ.pu hz (by omega)
    obtain ⟨J19, eJ19⟩ : ∃ J, J = u2 I 67 22 (fkI b n σ nm t9 (tS b n p9)) := ⟨_, rfl⟩
    rw [← eJ19] at hW hF hb3 hpa hz
    have hln : J19 67 11 = nI n := by rw [eJ19, u2_off (Or.inr (by decide))]; exact hln
    have hst : J19 67 12 = nI (tS b n p9) := by rw [eJ19, u2_off (Or.inr (by decide))]; exact hst
    have htk : J19 67 14 = nI (tK b n p9) := by rw [eJ19, u2_off (Or.inr (by decide))]; exact htk
    have hkw : J19 67 15 = kwI b n p9 := by rw [eJ19, u2_off (Or.inr (by decide))]; exact hkw
    have hnx : J19 67 13 = nI (tE b n p9) := by rw [eJ19, u2_off (Or.inr (by decide))]; exact hnx
    have hnr : J19 67 22 = fkI b n σ nm t9 (tS b n p9) := by rw [eJ19]; exact u2_at
    refine lv_aload_n hx hb (dg D_X12_oldName (i := 12) rfl) rfl (lv_at hl 0 rfl) ?_
    refine r_geti (v := fkI b n σ nm t9 (tS b n p9)) X hW FI_X12_183 rfl (by decide) rfl hnr (dg D_X12_oldName (i := 13) rfl) ?_
    refine lv_iconst (v := -1) hx hb (dg D_X12_oldName (i := 14) rfl) (by decide) ?_
    refine lv_icmp_ne (tgt := 38) hx hb (dg D_X12_oldName (i := 15) rfl) (by decide) (fun c27 => ?_) (fun c27 => ?_)
    · have hlt := fkI_ne hi ht9 c27
      have hnr : J19 67 22 = nI (fk b n σ nm t9 (tS b n p9)) := hnr.trans (fkI_N hlt)
      refine lv_aload_n hx hb (dg D_X12_oldName (i := 20) rfl) rfl (lv_at hl 0 rfl) ?_
      refine callVi X hW hS hR (c_X12_advance (I := J19) b n (tE b n p9) (by first | assumption | omega | decide | exact hP.1) (by first | assumption | omega | decide | exact hP.1) (by first | assumption | omega | decide | exact hP.1) (by first | assumption | omega | decide | exact hP.1) (by first | assumption | omega | decide | exact hP.1) (tE_le hp)) (by decide) UVX12_advance LK_X12_169 rfl (by decide) rfl rfl rfl (Nat.le_of_ble_eq_true rfl) hl hcs (dg D_X12_oldName (i := 21) rfl) (fun r39 I39 Lc39 R1 H locs hq hW hS => ?_)
      obtain ⟨rfl, hT39, hp39_0, hL39, rfl⟩ := hq
      have hF : Fr SNo I I39 := Fr.tr hF hT39 (by intro a j h; simp only [STk, SNo, Bool.or_eq_true, Bool.and_eq_true, beq_iff_eq, decide_eq_true_eq] at h ⊢; omega)
      have hb3 : I39 73 = b := (Fr.row hT39 (fun _ => rfl)).trans hb3
      have hpa : I39 69 = σ := (Fr.row hT39 (fun _ => rfl)).trans hpa
      have hz : KZ I39 := KZ.fr hz hT39 rfl rfl
      have hln : I39 67 11 = nI n := (hT39 67 11 rfl).trans hln
      have hnr : I39 67 22 = nI (fk b n σ nm t9 (tS b n p9)) := (hT39 67 22 rfl).trans hnr
      have hFL : FL SLk L Lc39 := FL.tr hFL hL39 (fun _ _ h => h)
      have hNm : NmM b n Lc39 σ nm := NmM.fl hNm hL39 (fun _ => rfl)
      have hyes : onOk b n σ nm t9 p9 = true := by unfold onOk; rw [c4, show decide (fk b n σ nm t9 (tS b n p9) < cN σ t9) = true from decide_eq_true hlt]; rfl
      exact fin (dg D_X12_oldName (i := 22) rfl) hW hS rfl ⟨by rw [hyes], hF, fun _ => ⟨hp39_0, hnr, hz⟩, fun z => absurd z (by rw [hyes]; decide), hFL, rfl⟩
    · refine lv_aload_n hx hb (dg D_X12_oldName (i := 16) rfl) rfl (lv_at hl 0 rfl) ?_
      refine n_iconst (a := 4) hx hb (dg D_X12_oldName (i := 17) rfl) rfl ?_
      refine callVi X hW hS hR (c_X12_fail (I := J19) (nI 4) (nI (tK b n p9)) (nI (tS b n p9)) (by first | assumption | omega | decide | exact hP.1) (by first | assumption | omega | decide | exact hP.1)) (by decide) UVX12_fail LK_X12_163 rfl (by decide) rfl rfl rfl (Nat.le_of_ble_eq_true rfl) hl hcs (dg D_X12_oldName (i := 18) rfl) (fun r32 I32 L1 R1 H locs hq hW hS => ?_)
      obtain ⟨rfl, hT32, hp32_0, hp32_1, rfl, rfl⟩ := hq
      have hF : Fr SNo I I32 := Fr.tr hF hT32 (by intro a j h; simp only [SFl, SNo, Bool.or_eq_true, Bool.and_eq_true, beq_iff_eq, decide_eq_true_eq] at h ⊢; omega)
      have hb3 : I32 73 = b := (Fr.row hT32 (fun _ => rfl)).trans hb3
      have hpa : I32 69 = σ := (Fr.row hT32 (fun _ => rfl)).trans hpa
      have hln : I32 67 11 = nI n := (hT32 67 11 rfl).trans hln
      have hst : I32 67 12 = nI (tS b n p9) := (hT32 67 12 rfl).trans hst
      have htk : I32 67 14 = nI (tK b n p9) := (hT32 67 14 rfl).trans htk
      have hkw : I32 67 15 = kwI b n p9 := (hT32 67 15 rfl).trans hkw
      have hnx : I32 67 13 = nI (tE b n p9) := (hT32 67 13 rfl).trans hnx
      have hnr : I32 67 22 = fkI b n σ nm t9 (tS b n p9) := (hT32 67 22 rfl).trans hnr
      refine lv_goto (tgt := 42) hx hb (dg D_X12_oldName (i := 19) rfl) (by decide) ?_
      have hno : onOk b n σ nm t9 p9 = false := by unfold onOk; rw [c4, show decide (fk b n σ nm t9 (tS b n p9) < cN σ t9) = false from decide_eq_false (fkI_eq hi ht9 (by first | exact c27 | exact Classical.not_not.mp c27))]; rfl
      exact fin (dg D_X12_oldName (i := 22) rfl) hW hS rfl ⟨by rw [hno], hF, fun z => absurd z (by rw [hno]; decide), fun _ => ⟨by rw [hp32_0, fl_I (by omega)]; unfold nnE; rw [if_pos c4], hp32_1⟩, hFL, rfl⟩
  · refine lv_aload_n hx hb (dg D_X12_oldName (i := 3) rfl) rfl (lv_at hl 0 rfl) ?_
    refine n_iconst (a := 2) hx hb (dg D_X12_oldName (i := 4) rfl) rfl ?_
    refine callVi X hW hS hR (c_X12_fail (I := I) (nI 2) (nI (tK b n p9)) (nI (tS b n p9)) (by first | assumption | omega | decide | exact hP.1) (by first | assumption | omega | decide | exact hP.1)) (by decide) UVX12_fail LK_X12_163 rfl (by decide) rfl rfl rfl (Nat.le_of_ble_eq_true rfl) hl hcs (dg D_X12_oldName (i := 5) rfl) (fun r9 I9 L1 R1 H locs hq hW hS => ?_)
    obtain ⟨rfl, hT9, hp9_0, hp9_1, rfl, rfl⟩ := hq
    have hF : Fr SNo I I9 := Fr.tr hF hT9 (by intro a j h; simp only [SFl, SNo, Bool.or_eq_true, Bool.and_eq_true, beq_iff_eq, decide_eq_true_eq] at h ⊢; omega)
    have hb3 : I9 73 = b := (Fr.row hT9 (fun _ => rfl)).trans hb3
    have hpa : I9 69 = σ := (Fr.row hT9 (fun _ => rfl)).trans hpa
    have hln : I9 67 11 = nI n := (hT9 67 11 rfl).trans hln
    have hst : I9 67 12 = nI (tS b n p9) := (hT9 67 12 rfl).trans hst
    have htk : I9 67 14 = nI (tK b n p9) := (hT9 67 14 rfl).trans htk
    have hkw : I9 67 15 = kwI b n p9 := (hT9 67 15 rfl).trans hkw
    have hnx : I9 67 13 = nI (tE b n p9) := (hT9 67 13 rfl).trans hnx
    have hno : onOk b n σ nm t9 p9 = false := by unfold onOk; rw [c4]; rfl
    exact fin (dg D_X12_oldName (i := 6) rfl) hW hS rfl ⟨by rw [hno], hF, fun z => absurd z (by rw [hno]; decide), fun _ => ⟨by rw [hp9_0, e2_I]; unfold nnE; rw [if_neg (by rw [c4]; decide)], hp9_1⟩, hFL, rfl⟩

