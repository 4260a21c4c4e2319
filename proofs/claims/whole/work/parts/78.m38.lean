set_option maxHeartbeats 4000000 in
set_option maxRecDepth 100000 in
theorem c_X12_number {l : Launch} {G : va_G} {bs : Nat} {cy : Nat → ClassId} {I : CI} {L : CL} {R : CR} (b : Nat → Int32) (n : Nat) (σ : Row) (p9 : Nat) (lo : Nat) (hi9 : Nat) (hz : KZ I) (hb3 : I 73 = b) (hln : I 67 11 = nI n) (hT : TB b n) (hn : n ≤ 900) (hp : p9 ≤ n) (hTk : TokM b n I L p9) (hlo : lo ≤ 1000) (hhi : hi9 ≤ 1000) : MTi l G bs cy MX12_number 7 [.ref (bs + 67), .int (nI lo), .int (nI hi9)] I L R (fun r I1 L1 R1 => bI (nuOk b n p9 lo hi9) = r ∧ Fr SNm I I1 ∧ (nuOk b n p9 lo hi9 = true → TokM b n I1 L1 (tE b n p9) ∧ I1 67 21 = nI (tV b n p9) ∧ KZ I1) ∧ (nuOk b n p9 lo hi9 = false → I1 67 17 = nuE b n p9 ∧ I1 67 18 = nI (tS b n p9)) ∧ FL SLk L L1 ∧ R = R1) := by
  refine MTz.of (own := RX12) pn_RX12 rfl (Nat.le_of_ble_eq_true rfl) ?_
  intro p e s m args below meth c Qf X hW hS fin ls hl
  have hx := X.1
  have hb := X.2.1
  have hR : RmOK (rmL 7 0 0) 7 := ⟨rfl, rfl⟩
  have hcs : 0 ≤ (rmL 7 0 0).cells ∧ 0 ≤ (rmL 7 0 0).slots := ⟨Nat.zero_le _, Nat.zero_le _⟩
  have hl : lv_has ls 3 [(0, .ref (bs + 67)), (1, .int (nI lo)), (2, .int (nI hi9))] := hl
  have hF : Fr SNm I I := Fr.rf
  have hFL : FL SLk L L := FL.rf
  obtain ⟨hst, hnx, htk, hkw, hva, hnm9⟩ := id hTk
  have hk4 : tK b n p9 ≤ 4 := tK_le
  refine lv_aload_n hx hb (dg D_X12_number (i := 0) rfl) rfl (lv_at hl 0 rfl) ?_
  refine r_geti (v := nI (tK b n p9)) X hW FI_X12_123 rfl (by decide) rfl htk (dg D_X12_number (i := 1) rfl) ?_
  refine n_iconst (a := 3) hx hb (dg D_X12_number (i := 2) rfl) rfl ?_
  refine n_icmp_eq (tgt := 14) hx hb (by omega) (by omega) (dg D_X12_number (i := 3) rfl) (by decide) (fun c5 => ?_) (fun c5 => ?_)
  · have hk3 : tK b n p9 = 3 := by omega
    have hv9 := tok_n hT hp hk3
    have hvl : I 67 16 = nI (tV b n p9) := hva hk3
    refine lv_aload_n hx hb (dg D_X12_number (i := 8) rfl) rfl (lv_at hl 0 rfl) ?_
    refine r_geti (v := nI (tV b n p9)) X hW FI_X12_144 rfl (by decide) rfl hvl (dg D_X12_number (i := 9) rfl) ?_
    refine lv_i2l (v := (nI (tV b n p9)).toInt64) hx hb (dg D_X12_number (i := 10) rfl) rfl ?_
    refine lv_iload_n hx hb (dg D_X12_number (i := 11) rfl) rfl (lv_at hl 1 rfl) ?_
    refine lv_i2l (v := (nI lo).toInt64) hx hb (dg D_X12_number (i := 12) rfl) rfl ?_
    refine lv_iload_n hx hb (dg D_X12_number (i := 13) rfl) rfl (lv_at hl 2 rfl) ?_
    refine lv_i2l (v := (nI hi9).toInt64) hx hb (dg D_X12_number (i := 14) rfl) rfl ?_
    refine callSi X hW hS hR (c_X12_between (I := I) ((nI (tV b n p9)).toInt64) ((nI lo).toInt64) ((nI hi9).toInt64)) (by decide) USX12_between LK_X12_84 rfl rfl (Nat.le_of_ble_eq_true rfl) hl hcs (dg D_X12_number (i := 15) rfl) (fun r23 I23 L1 R1 H locs hq hW hS => ?_)
    obtain ⟨rfl, rfl, rfl, rfl⟩ := hq
    rw [show bI (decide (((nI lo).toInt64) ≤ ((nI (tV b n p9)).toInt64) ∧ ((nI (tV b n p9)).toInt64) ≤ ((nI hi9).toInt64))) = bI (decide (lo ≤ tV b n p9 ∧ tV b n p9 ≤ hi9)) from congrArg bI (btN (by omega) (by omega) (by omega))]
    refine z_if_ne (tgt := 35) hx hb (dg D_X12_number (i := 16) rfl) (by decide) (fun c26 => ?_) (fun c26 => ?_)
    · refine lv_aload_n hx hb (dg D_X12_number (i := 21) rfl) rfl (lv_at hl 0 rfl) ?_
      refine lv_aload_n hx hb (dg D_X12_number (i := 22) rfl) rfl (lv_at hl 0 rfl) ?_
      refine r_geti (v := nI (tV b n p9)) X hW FI_X12_144 rfl (by decide) rfl hvl (dg D_X12_number (i := 23) rfl) ?_
      refine r_puti (v := nI (tV b n p9)) (ty := .int) X hW hS FI_X12_166 rfl (by decide) rfl rfl (by decide +kernel) rfl rfl (dg D_X12_number (i := 24) rfl) (fun H locs hW hS => ?_)
      have hF : Fr SNm I (u2 I 67 21 (nI (tV b n p9))) := Fr.put hF rfl
      have hb3 : (u2 I 67 21 (nI (tV b n p9))) 73 = b := by rw [u2_ne (by decide)]; exact hb3
      have hz : KZ (u2 I 67 21 (nI (tV b n p9))) := KZ.pu hz (by omega)
      obtain ⟨J40, eJ40⟩ : ∃ J, J = u2 I 67 21 (nI (tV b n p9)) := ⟨_, rfl⟩
      rw [← eJ40] at hW hF hb3 hz
      have hln : J40 67 11 = nI n := by rw [eJ40, u2_off (Or.inr (by decide))]; exact hln
      have hst : J40 67 12 = nI (tS b n p9) := by rw [eJ40, u2_off (Or.inr (by decide))]; exact hst
      have htk : J40 67 14 = nI (tK b n p9) := by rw [eJ40, u2_off (Or.inr (by decide))]; exact htk
      have hkw : J40 67 15 = kwI b n p9 := by rw [eJ40, u2_off (Or.inr (by decide))]; exact hkw
      have hnx : J40 67 13 = nI (tE b n p9) := by rw [eJ40, u2_off (Or.inr (by decide))]; exact hnx
      have hvl : J40 67 16 = nI (tV b n p9) := by rw [eJ40, u2_off (Or.inr (by decide))]; exact hvl
      have hnr : J40 67 21 = nI (tV b n p9) := by rw [eJ40]; exact u2_at
      refine lv_aload_n hx hb (dg D_X12_number (i := 25) rfl) rfl (lv_at hl 0 rfl) ?_
      refine callVi X hW hS hR (c_X12_advance (I := J40) b n (tE b n p9) (by first | assumption | omega | decide | exact hP.1) (by first | assumption | omega | decide | exact hP.1) (by first | assumption | omega | decide | exact hP.1) (by first | assumption | omega | decide | exact hP.1) (by first | assumption | omega | decide | exact hP.1) (tE_le hp)) (by decide) UVX12_advance LK_X12_169 rfl (by decide) rfl rfl rfl (Nat.le_of_ble_eq_true rfl) hl hcs (dg D_X12_number (i := 26) rfl) (fun r44 I44 Lc44 R1 H locs hq hW hS => ?_)
      obtain ⟨rfl, hT44, hp44_0, hL44, rfl⟩ := hq
      have hF : Fr SNm I I44 := Fr.tr hF hT44 (by intro a j h; simp only [STk, SNm, Bool.or_eq_true, Bool.and_eq_true, beq_iff_eq, decide_eq_true_eq] at h ⊢; omega)
      have hb3 : I44 73 = b := (Fr.row hT44 (fun _ => rfl)).trans hb3
      have hz : KZ I44 := KZ.fr hz hT44 rfl rfl
      have hln : I44 67 11 = nI n := (hT44 67 11 rfl).trans hln
      have hnr : I44 67 21 = nI (tV b n p9) := (hT44 67 21 rfl).trans hnr
      have hFL : FL SLk L Lc44 := FL.tr hFL hL44 (fun _ _ h => h)
      have hyes : nuOk b n p9 lo hi9 = true := decide_eq_true ⟨hk3, of_decide_eq_true c26⟩
      exact fin (dg D_X12_number (i := 27) rfl) hW hS rfl ⟨by rw [hyes], hF, fun _ => ⟨hp44_0, hnr, hz⟩, fun z => absurd z (by rw [hyes]; decide), hFL, rfl⟩
    · refine lv_aload_n hx hb (dg D_X12_number (i := 17) rfl) rfl (lv_at hl 0 rfl) ?_
      refine n_iconst (a := 3) hx hb (dg D_X12_number (i := 18) rfl) rfl ?_
      refine callVi X hW hS hR (c_X12_fail (I := I) (nI 3) (nI (tK b n p9)) (nI (tS b n p9)) (by first | assumption | omega | decide | exact hP.1) (by first | assumption | omega | decide | exact hP.1)) (by decide) UVX12_fail LK_X12_163 rfl (by decide) rfl rfl rfl (Nat.le_of_ble_eq_true rfl) hl hcs (dg D_X12_number (i := 19) rfl) (fun r31 I31 L1 R1 H locs hq hW hS => ?_)
      obtain ⟨rfl, hT31, hp31_0, hp31_1, rfl, rfl⟩ := hq
      have hF : Fr SNm I I31 := Fr.tr hF hT31 (by intro a j h; simp only [SFl, SNm, Bool.or_eq_true, Bool.and_eq_true, beq_iff_eq, decide_eq_true_eq] at h ⊢; omega)
      have hb3 : I31 73 = b := (Fr.row hT31 (fun _ => rfl)).trans hb3
      have hln : I31 67 11 = nI n := (hT31 67 11 rfl).trans hln
      have hst : I31 67 12 = nI (tS b n p9) := (hT31 67 12 rfl).trans hst
      have htk : I31 67 14 = nI (tK b n p9) := (hT31 67 14 rfl).trans htk
      have hkw : I31 67 15 = kwI b n p9 := (hT31 67 15 rfl).trans hkw
      have hnx : I31 67 13 = nI (tE b n p9) := (hT31 67 13 rfl).trans hnx
      have hvl : I31 67 16 = nI (tV b n p9) := (hT31 67 16 rfl).trans hvl
      have hno : nuOk b n p9 lo hi9 = false := decide_eq_false (fun z => (of_decide_eq_false c26) z.2)
      exact fin (dg D_X12_number (i := 20) rfl) hW hS rfl ⟨by rw [hno], hF, fun z => absurd z (by rw [hno]; decide), fun _ => ⟨by rw [hp31_0]; unfold nuE; rw [if_pos hk3, if_neg (by rw [hk3]; decide)], hp31_1⟩, hFL, rfl⟩
  · refine lv_aload_n hx hb (dg D_X12_number (i := 4) rfl) rfl (lv_at hl 0 rfl) ?_
    refine n_iconst (a := 2) hx hb (dg D_X12_number (i := 5) rfl) rfl ?_
    refine callVi X hW hS hR (c_X12_fail (I := I) (nI 2) (nI (tK b n p9)) (nI (tS b n p9)) (by first | assumption | omega | decide | exact hP.1) (by first | assumption | omega | decide | exact hP.1)) (by decide) UVX12_fail LK_X12_163 rfl (by decide) rfl rfl rfl (Nat.le_of_ble_eq_true rfl) hl hcs (dg D_X12_number (i := 6) rfl) (fun r10 I10 L1 R1 H locs hq hW hS => ?_)
    obtain ⟨rfl, hT10, hp10_0, hp10_1, rfl, rfl⟩ := hq
    have hF : Fr SNm I I10 := Fr.tr hF hT10 (by intro a j h; simp only [SFl, SNm, Bool.or_eq_true, Bool.and_eq_true, beq_iff_eq, decide_eq_true_eq] at h ⊢; omega)
    have hb3 : I10 73 = b := (Fr.row hT10 (fun _ => rfl)).trans hb3
    have hln : I10 67 11 = nI n := (hT10 67 11 rfl).trans hln
    have hst : I10 67 12 = nI (tS b n p9) := (hT10 67 12 rfl).trans hst
    have htk : I10 67 14 = nI (tK b n p9) := (hT10 67 14 rfl).trans htk
    have hkw : I10 67 15 = kwI b n p9 := (hT10 67 15 rfl).trans hkw
    have hnx : I10 67 13 = nI (tE b n p9) := (hT10 67 13 rfl).trans hnx
    have hk3 : ¬ tK b n p9 = 3 := by omega
    have hno : nuOk b n p9 lo hi9 = false := decide_eq_false (fun z => hk3 z.1)
    exact fin (dg D_X12_number (i := 7) rfl) hW hS rfl ⟨by rw [hno], hF, fun z => absurd z (by rw [hno]; decide), fun _ => ⟨by rw [hp10_0]; unfold nuE e2; rw [if_neg hk3]; by_cases e : tK b n p9 = 1; rw [if_pos e, if_pos (by rw [e])]; rw [if_neg e, if_neg (fun z => e (nI_inj (by omega) (by omega) z))], hp10_1⟩, hFL, rfl⟩

set_option maxHeartbeats 4000000 in
set_option maxRecDepth 100000 in
theorem c_X12_numberTo {l : Launch} {G : va_G} {bs : Nat} {cy : Nat → ClassId} {I : CI} {L : CL} {R : CR} (b : Nat → Int32) (n : Nat) (σ : Row) (p9 : Nat) (ix : Nat) (lo : Nat) (hi9 : Nat) (hz : KZ I) (hb3 : I 73 = b) (hln : I 67 11 = nI n) (hT : TB b n) (hn : n ≤ 900) (hp : p9 ≤ n) (hTk : TokM b n I L p9) (hpa : I 69 = σ) (hlo : lo ≤ 1000) (hhi : hi9 ≤ 1000) (hix : ix < 248) : MTi l G bs cy MX12_numberTo 8 [.ref (bs + 67), .int (nI ix), .int (nI lo), .int (nI hi9)] I L R (fun r I1 L1 R1 => bI (nuOk b n p9 lo hi9) = r ∧ Fr SNp I I1 ∧ (nuOk b n p9 lo hi9 = true → TokM b n I1 L1 (tE b n p9) ∧ I1 69 = upd σ ix (nI (tV b n p9)) ∧ KZ I1) ∧ (nuOk b n p9 lo hi9 = false → I1 67 17 = nuE b n p9 ∧ I1 67 18 = nI (tS b n p9)) ∧ FL SLk L L1 ∧ R = R1) := by
  refine MTz.of (own := RX12) pn_RX12 rfl (Nat.le_of_ble_eq_true rfl) ?_
  intro p e s m args below meth c Qf X hW hS fin ls hl
  have hx := X.1
  have hb := X.2.1
  have hR : RmOK (rmL 8 0 0) 8 := ⟨rfl, rfl⟩
  have hcs : 0 ≤ (rmL 8 0 0).cells ∧ 0 ≤ (rmL 8 0 0).slots := ⟨Nat.zero_le _, Nat.zero_le _⟩
  have hl : lv_has ls 4 [(0, .ref (bs + 67)), (1, .int (nI ix)), (2, .int (nI lo)), (3, .int (nI hi9))] := hl
  have hF : Fr SNp I I := Fr.rf
  have hFL : FL SLk L L := FL.rf
  refine lv_aload_n hx hb (dg D_X12_numberTo (i := 0) rfl) rfl (lv_at hl 0 rfl) ?_
  refine lv_iload_n hx hb (dg D_X12_numberTo (i := 1) rfl) rfl (lv_at hl 2 rfl) ?_
  refine lv_iload_n hx hb (dg D_X12_numberTo (i := 2) rfl) rfl (lv_at hl 3 rfl) ?_
  refine callVi X hW hS hR (c_X12_number (I := I) b n σ p9 lo hi9 (by first | assumption | omega | decide | exact hP.1) (by first | assumption | omega | decide | exact hP.1) (by first | assumption | omega | decide | exact hP.1) (by first | assumption | omega | decide | exact hP.1) (by first | assumption | omega | decide | exact hP.1) (by first | assumption | omega | decide | exact hP.1) (by first | assumption | omega | decide | exact hP.1) (by first | assumption | omega | decide | exact hP.1) (by first | assumption | omega | decide | exact hP.1)) (by decide) UVX12_number LK_X12_173 rfl (by decide) rfl rfl rfl (Nat.le_of_ble_eq_true rfl) hl hcs (dg D_X12_numberTo (i := 3) rfl) (fun r3 I3 Lc3 R1 H locs hq hW hS => ?_)
  obtain ⟨rfl, hT3, hp3_0, hp3_1, hL3, rfl⟩ := hq
  have hF : Fr SNp I I3 := Fr.tr hF hT3 (by intro a j h; simp only [SNm, SNp, Bool.or_eq_true, Bool.and_eq_true, beq_iff_eq, decide_eq_true_eq] at h ⊢; omega)
  have hb3 : I3 73 = b := (Fr.row hT3 (fun _ => rfl)).trans hb3
  have hpa : I3 69 = σ := (Fr.row hT3 (fun _ => rfl)).trans hpa
  have hln : I3 67 11 = nI n := (hT3 67 11 rfl).trans hln
  have hFL : FL SLk L Lc3 := FL.tr hFL hL3 (fun _ _ h => h)
  refine z_if_ne (tgt := 11) hx hb (dg D_X12_numberTo (i := 4) rfl) (by decide) (fun c6 => ?_) (fun c6 => ?_)
  · obtain ⟨hTk2, hnr, hz⟩ := hp3_0 c6
    refine lv_aload_n hx hb (dg D_X12_numberTo (i := 7) rfl) rfl (lv_at hl 0 rfl) ?_
    refine r_getc (t := 69) X hW FI_X12_13 rfl (by decide) rfl (dg D_X12_numberTo (i := 8) rfl) ?_
    refine lv_iload_n hx hb (dg D_X12_numberTo (i := 9) rfl) rfl (lv_at hl 1 rfl) ?_
    refine lv_aload_n hx hb (dg D_X12_numberTo (i := 10) rfl) rfl (lv_at hl 0 rfl) ?_
    refine r_geti (v := nI (tV b n p9)) X hW FI_X12_166 rfl (by decide) rfl hnr (dg D_X12_numberTo (i := 11) rfl) ?_
    refine r_ast (j := ix) (v := nI (tV b n p9)) X hW hS rfl (by decide) rfl (by omega) (by decide) (dg D_X12_numberTo (i := 12) rfl) (fun H locs hW hS => ?_)
    have hF : Fr SNp I (u2 I3 69 ix (nI (tV b n p9))) := Fr.put hF rfl
    have hb3 : (u2 I3 69 ix (nI (tV b n p9))) 73 = b := by rw [u2_ne (by decide)]; exact hb3
    have hpa : (u2 I3 69 ix (nI (tV b n p9))) 69 = upd σ ix (nI (tV b n p9)) := by rw [u2_eq, hpa]
    have hz : KZ (u2 I3 69 ix (nI (tV b n p9))) := KZ.pu hz (by omega)
    have hTk2 : TokM b n (u2 I3 69 ix (nI (tV b n p9))) Lc3 (tE b n p9) := TokM.pu hTk2 (by omega)
    obtain ⟨J20, eJ20⟩ : ∃ J, J = u2 I3 69 ix (nI (tV b n p9)) := ⟨_, rfl⟩
    rw [← eJ20] at hW hF hb3 hpa hz hTk2
    have hln : J20 67 11 = nI n := by rw [eJ20, u2_off (Or.inl (by decide))]; exact hln
    have hnr : J20 67 21 = nI (tV b n p9) := by rw [eJ20, u2_off (Or.inl (by decide))]; exact hnr
    refine n_iconst (a := 1) hx hb (dg D_X12_numberTo (i := 13) rfl) rfl ?_
    exact fin (dg D_X12_numberTo (i := 14) rfl) hW hS (show _ = bI true from rfl) ⟨by rw [c6], hF, fun _ => ⟨hTk2, hpa, hz⟩, fun z => absurd z (by rw [c6]; decide), hFL, rfl⟩
  · refine n_iconst (a := 0) hx hb (dg D_X12_numberTo (i := 5) rfl) rfl ?_
    exact fin (dg D_X12_numberTo (i := 6) rfl) hW hS (show _ = bI false from rfl) ⟨by rw [c6], hF, fun z => absurd z (by rw [c6]; decide), hp3_1, hFL, rfl⟩

set_option maxHeartbeats 4000000 in
set_option maxRecDepth 100000 in
theorem c_X12_find {l : Launch} {G : va_G} {bs : Nat} {cy : Nat → ClassId} {I : CI} {L : CL} {R : CR} (b : Nat → Int32) (n : Nat) (σ : Row) (nm : Nm) (t9 : Nat) (s9 : Nat) (hT : TB b n) (hn : n ≤ 900) (hi : Inv σ) (hpa : I 69 = σ) (hNm : NmM b n L σ nm) (ht9 : t9 < 3) (hv9 : VP b n s9) (hnm9 : L 67 19 = Int64.ofNat (w27 b n s9)) : MTi l G bs cy MX12_find 1 [.ref (bs + 67), .int (nI t9)] I L R (fun r I1 L1 R1 => fkI b n σ nm t9 s9 = r ∧ I = I1 ∧ L = L1 ∧ R = R1) := by
  refine MTi.of (own := RX12) pn_RX12 rfl (Nat.le_of_ble_eq_true rfl) ?_
  intro p e s m args below meth c Qf X hW hS fin ls hl
  have hx := X.1
  have hb := X.2.1
  have hR : RmOK (rmL 1 0 0) 1 := ⟨rfl, rfl⟩
  have hcs : 0 ≤ (rmL 1 0 0).cells ∧ 0 ≤ (rmL 1 0 0).slots := ⟨Nat.zero_le _, Nat.zero_le _⟩
  have hl : lv_has ls 3 [(0, .ref (bs + 67)), (1, .int (nI t9))] := hl
  have hc12 := (cN_I hi ht9).2
  refine n_iconst (a := 0) hx hb (dg D_X12_find (i := 0) rfl) rfl ?_
  refine lv_istore_n (lv' := [(2, .int (nI 0)), (0, .ref (bs + 67)), (1, .int (nI t9))]) hx hb (dg D_X12_find (i := 1) rfl) rfl hl (by decide) rfl (fun ls hl => ?_)
  have loop2 := up_ind (P := fun k => ∀ (H : Heap) (locs : List Loc) (ls : Array Slot) (v2 : Int32), v2 = nI k → (∀ z, z < k → (fun k => decide (w27 b n (nm t9 k) = w27 b n s9)) z = false) → Wd G bs cy I L R H → va_S (Aq bs) s.heap H locs → lv_has ls 3 [(0, .ref (bs + 67)), (1, .int (nI t9)), (2, .int v2)] → W p l e (rmL 1 0 0) s m args below meth c H locs 0 0 Qf (F0 m 2 ls [])) (cN σ t9) (fun k hx2 ih2 => by
      intro H locs ls v2 q2 hn2 hW hS hl
      subst q2
      refine lv_iload_n hx hb (dg D_X12_find (i := 2) rfl) rfl (lv_at hl 2 rfl) ?_
      refine lv_aload_n hx hb (dg D_X12_find (i := 3) rfl) rfl (lv_at hl 0 rfl) ?_
      refine r_getc (t := 69) X hW FI_X12_13 rfl (by decide) rfl (dg D_X12_find (i := 4) rfl) ?_
      refine n_iconst (a := 3) hx hb (dg D_X12_find (i := 5) rfl) rfl ?_
      refine lv_iload_n hx hb (dg D_X12_find (i := 6) rfl) rfl (lv_at hl 1 rfl) ?_
      refine n_iadd hx hb (dg D_X12_find (i := 7) rfl) ?_
      refine r_ald (j := 3 + t9) (v := nI (cN σ t9)) X hW rfl (by decide) rfl (by omega) (by decide) ((congrFun hpa _).trans (cN_I hi ht9).1) (dg D_X12_find (i := 8) rfl) ?_
      refine n_icmp_ge (tgt := 41) hx hb (by omega) (by omega) (dg D_X12_find (i := 9) rfl) (by decide) (fun c11 => ?_) (fun c11 => ?_)
      · refine lv_iconst (v := -1) hx hb (dg D_X12_find (i := 26) rfl) (by decide) ?_
        exact fin (dg D_X12_find (i := 27) rfl) hW hS ⟨fkI_none (fun z hz => hn2 z (by omega)), rfl, rfl, rfl⟩
      · refine lv_aload_n hx hb (dg D_X12_find (i := 10) rfl) rfl (lv_at hl 0 rfl) ?_
        refine r_getc (t := 74) X hW FI_X12_33 rfl (by decide) rfl (dg D_X12_find (i := 11) rfl) ?_
        refine lv_bipush (v := nI 12) hx hb (dg D_X12_find (i := 12) rfl) (by decide) ?_
        refine lv_iload_n hx hb (dg D_X12_find (i := 13) rfl) rfl (lv_at hl 1 rfl) ?_
        refine n_imul hx hb (dg D_X12_find (i := 14) rfl) ?_
        refine lv_iload_n hx hb (dg D_X12_find (i := 15) rfl) rfl (lv_at hl 2 rfl) ?_
        refine n_iadd hx hb (dg D_X12_find (i := 16) rfl) ?_
        refine r_lald (j := (12 * t9) + k) (v := Int64.ofNat (w27 b n (nm t9 k))) X hW rfl (by decide) rfl (by omega) (by decide) (hNm t9 k ht9 (by omega)).2 (dg D_X12_find (i := 17) rfl) ?_
        refine lv_aload_n hx hb (dg D_X12_find (i := 18) rfl) rfl (lv_at hl 0 rfl) ?_
        refine r_getl (v := Int64.ofNat (w27 b n s9)) X hW FI_X12_129 rfl (by decide) rfl hnm9 (dg D_X12_find (i := 19) rfl) ?_
        refine W.lcmp hx hb (dg D_X12_find (i := 20) rfl) ?_
        refine c_if_ne (tgt := 35) hx hb (dg D_X12_find (i := 21) rfl) (by decide) (fun c30 => ?_) (fun c30 => ?_)
        · refine lv_iinc (v := nI (k + 1)) (lv' := [(2, .int (nI (k + 1))), (0, .ref (bs + 67)), (1, .int (nI t9))]) hx hb (dg D_X12_find (i := 24) rfl) hl (k := 2) rfl (nI_add _ _) (by decide) rfl (fun ls hl => ?_)
          refine lv_goto (tgt := 2) hx hb (dg D_X12_find (i := 25) rfl) (by decide) ?_
          exact ih2 (by omega) _ _ _ _ (congrArg nI (by omega)) (all_lt_succ (p := fun k => decide (w27 b n (nm t9 k) = w27 b n s9)) hn2 (decide_eq_false (fun z => c30 (by rw [z])))) hW hS (lv_sub hl [1, 2, 0] rfl)
        · refine lv_iload_n hx hb (dg D_X12_find (i := 22) rfl) rfl (lv_at hl 2 rfl) ?_
          exact fin (dg D_X12_find (i := 23) rfl) hW hS ⟨fkI_hit (by omega) (i64_inj (Nat.lt_trans (w27_lt hT (hNm t9 k ht9 (by omega)).1) (by decide)) (Nat.lt_trans (w27_lt hT hv9) (by decide)) (by first | exact c30 | exact Classical.not_not.mp c30)) hn2, rfl, rfl, rfl⟩)
  exact loop2 0 (Nat.zero_le _) _ _ _ _ (congrArg nI (by omega)) (fun z hz => absurd hz (Nat.not_lt_zero z)) hW hS (lv_sub hl [1, 2, 0] rfl)

