set_option maxHeartbeats 4000000 in
set_option maxRecDepth 100000 in
theorem c_X12_between {l : Launch} {G : va_G} {bs : Nat} {cy : Nat → ClassId} {I : CI} {L : CL} {R : CR} (v : Int64) (lo : Int64) (hi2 : Int64) : MTi l G bs cy MX12_between 1 [.long v, .long lo, .long hi2] I L R (fun r I1 L1 R1 => bI (decide (lo ≤ v ∧ v ≤ hi2)) = r ∧ I = I1 ∧ L = L1 ∧ R = R1) := by
  refine MTz.of (own := RX12) pn_RX12 rfl (Nat.le_of_ble_eq_true rfl) ?_
  intro p e s m args below meth c Qf X hW hS fin ls hl
  have hx := X.1
  have hb := X.2.1
  have hR : RmOK (rmL 1 0 0) 1 := ⟨rfl, rfl⟩
  have hcs : 0 ≤ (rmL 1 0 0).cells ∧ 0 ≤ (rmL 1 0 0).slots := ⟨Nat.zero_le _, Nat.zero_le _⟩
  have hl : lv_has ls 6 [(0, .long v), (2, .long lo), (4, .long hi2)] := hl
  refine lv_lload_n hx hb (dg D_X12_between (i := 0) rfl) rfl (lv_at hl 0 rfl) ?_
  refine lv_lload_n hx hb (dg D_X12_between (i := 1) rfl) rfl (lv_at hl 1 rfl) ?_
  refine W.lcmp hx hb (dg D_X12_between (i := 2) rfl) ?_
  refine c_if_lt (tgt := 17) hx hb (dg D_X12_between (i := 3) rfl) (by decide) (fun c3 => ?_) (fun c3 => ?_)
  · refine n_iconst (a := 0) hx hb (dg D_X12_between (i := 10) rfl) rfl ?_
    exact fin (dg D_X12_between (i := 11) rfl) hW hS (show _ = bI false from rfl) ⟨by rw [decide_eq_false]; first | exact fun z => Int64.not_lt.mpr z.1 c3 | exact fun z => Int64.not_lt.mpr z.2 c10, rfl, rfl, rfl⟩
  · refine lv_lload_n hx hb (dg D_X12_between (i := 4) rfl) rfl (lv_at hl 0 rfl) ?_
    refine lv_lload hx hb (dg D_X12_between (i := 5) rfl) (lv_at hl 2 rfl) ?_
    refine W.lcmp hx hb (dg D_X12_between (i := 6) rfl) ?_
    refine c_if_gt (tgt := 17) hx hb (dg D_X12_between (i := 7) rfl) (by decide) (fun c10 => ?_) (fun c10 => ?_)
    · refine n_iconst (a := 0) hx hb (dg D_X12_between (i := 10) rfl) rfl ?_
      exact fin (dg D_X12_between (i := 11) rfl) hW hS (show _ = bI false from rfl) ⟨by rw [decide_eq_false]; first | exact fun z => Int64.not_lt.mpr z.1 c3 | exact fun z => Int64.not_lt.mpr z.2 c10, rfl, rfl, rfl⟩
    · refine n_iconst (a := 1) hx hb (dg D_X12_between (i := 8) rfl) rfl ?_
      refine lv_goto (tgt := 18) hx hb (dg D_X12_between (i := 9) rfl) (by decide) ?_
      exact fin (dg D_X12_between (i := 11) rfl) hW hS (show _ = bI true from rfl) ⟨by rw [decide_eq_true ⟨Int64.not_lt.mp c3, Int64.not_lt.mp c10⟩], rfl, rfl, rfl⟩

set_option maxHeartbeats 4000000 in
set_option maxRecDepth 100000 in
theorem c_X12_isYear {l : Launch} {G : va_G} {bs : Nat} {cy : Nat → ClassId} {I : CI} {L : CL} {R : CR} (σ : Row) (v : Int32) (hs : I 68 = σ) (hi : Inv σ) : MTi l G bs cy MX12_isYear 2 [.ref (bs + 67), .int v] I L R (fun r I1 L1 R1 => bI (inB v (Yn σ)) = r ∧ I = I1 ∧ L = L1 ∧ R = R1) := by
  refine MTz.of (own := RX12) pn_RX12 rfl (Nat.le_of_ble_eq_true rfl) ?_
  intro p e s m args below meth c Qf X hW hS fin ls hl
  have hx := X.1
  have hb := X.2.1
  have hR : RmOK (rmL 2 0 0) 2 := ⟨rfl, rfl⟩
  have hcs : 0 ≤ (rmL 2 0 0).cells ∧ 0 ≤ (rmL 2 0 0).slots := ⟨Nat.zero_le _, Nat.zero_le _⟩
  have hl : lv_has ls 2 [(0, .ref (bs + 67)), (1, .int v)] := hl
  obtain ⟨hY, hY1, hY12, hLn, hL4, hSn, hS12, hGn, hG5⟩ := id hi
  refine lv_iload_n hx hb (dg D_X12_isYear (i := 0) rfl) rfl (lv_at hl 1 rfl) ?_
  refine lv_i2l (v := v.toInt64) hx hb (dg D_X12_isYear (i := 1) rfl) rfl ?_
  refine lv_lconst (v := 0) hx hb (dg D_X12_isYear (i := 2) rfl) rfl ?_
  refine lv_aload_n hx hb (dg D_X12_isYear (i := 3) rfl) rfl (lv_at hl 0 rfl) ?_
  refine r_getc (t := 68) X hW FI_X12_7 rfl (by decide) rfl (dg D_X12_isYear (i := 4) rfl) ?_
  refine n_iconst (a := 0) hx hb (dg D_X12_isYear (i := 5) rfl) rfl ?_
  refine r_ald (j := 0) (v := σ 0) X hW rfl (by decide) rfl (by omega) (by decide) (congrFun hs _) (dg D_X12_isYear (i := 6) rfl) ?_
  refine n_iconst (a := 1) hx hb (dg D_X12_isYear (i := 7) rfl) rfl ?_
  refine lv_isub hx hb (dg D_X12_isYear (i := 8) rfl) ?_
  refine lv_i2l (v := ((σ 0) - (nI 1)).toInt64) hx hb (dg D_X12_isYear (i := 9) rfl) rfl ?_
  refine callSi X hW hS hR (c_X12_between (I := I) v.toInt64 0 (((σ 0) - (nI 1)).toInt64)) (by decide) USX12_between LK_X12_84 rfl rfl (Nat.le_of_ble_eq_true rfl) hl hcs (dg D_X12_isYear (i := 10) rfl) (fun r12 I12 L1 R1 H locs hq hW hS => ?_)
  obtain ⟨rfl, rfl, rfl, rfl⟩ := hq
  rw [show bI (decide (0 ≤ v.toInt64 ∧ v.toInt64 ≤ (((σ 0) - (nI 1)).toInt64))) = bI (inB v (Yn σ)) from congrArg bI (btw hY (by omega))]
  exact fin (dg D_X12_isYear (i := 11) rfl) hW hS rfl ⟨rfl, rfl, rfl, rfl⟩

set_option maxHeartbeats 4000000 in
set_option maxRecDepth 100000 in
theorem c_X12_isSpan {l : Launch} {G : va_G} {bs : Nat} {cy : Nat → ClassId} {I : CI} {L : CL} {R : CR} (σ : Row) (v : Int32) (hs : I 68 = σ) (hi : Inv σ) : MTi l G bs cy MX12_isSpan 2 [.ref (bs + 67), .int v] I L R (fun r I1 L1 R1 => bI (inB v (nS σ)) = r ∧ I = I1 ∧ L = L1 ∧ R = R1) := by
  refine MTz.of (own := RX12) pn_RX12 rfl (Nat.le_of_ble_eq_true rfl) ?_
  intro p e s m args below meth c Qf X hW hS fin ls hl
  have hx := X.1
  have hb := X.2.1
  have hR : RmOK (rmL 2 0 0) 2 := ⟨rfl, rfl⟩
  have hcs : 0 ≤ (rmL 2 0 0).cells ∧ 0 ≤ (rmL 2 0 0).slots := ⟨Nat.zero_le _, Nat.zero_le _⟩
  have hl : lv_has ls 2 [(0, .ref (bs + 67)), (1, .int v)] := hl
  obtain ⟨hY, hY1, hY12, hLn, hL4, hSn, hS12, hGn, hG5⟩ := id hi
  refine lv_iload_n hx hb (dg D_X12_isSpan (i := 0) rfl) rfl (lv_at hl 1 rfl) ?_
  refine lv_i2l (v := v.toInt64) hx hb (dg D_X12_isSpan (i := 1) rfl) rfl ?_
  refine lv_lconst (v := 0) hx hb (dg D_X12_isSpan (i := 2) rfl) rfl ?_
  refine lv_aload_n hx hb (dg D_X12_isSpan (i := 3) rfl) rfl (lv_at hl 0 rfl) ?_
  refine r_getc (t := 68) X hW FI_X12_7 rfl (by decide) rfl (dg D_X12_isSpan (i := 4) rfl) ?_
  refine n_iconst (a := 4) hx hb (dg D_X12_isSpan (i := 5) rfl) rfl ?_
  refine r_ald (j := 4) (v := σ 4) X hW rfl (by decide) rfl (by omega) (by decide) (congrFun hs _) (dg D_X12_isSpan (i := 6) rfl) ?_
  refine n_iconst (a := 1) hx hb (dg D_X12_isSpan (i := 7) rfl) rfl ?_
  refine lv_isub hx hb (dg D_X12_isSpan (i := 8) rfl) ?_
  refine lv_i2l (v := ((σ 4) - (nI 1)).toInt64) hx hb (dg D_X12_isSpan (i := 9) rfl) rfl ?_
  refine callSi X hW hS hR (c_X12_between (I := I) v.toInt64 0 (((σ 4) - (nI 1)).toInt64)) (by decide) USX12_between LK_X12_84 rfl rfl (Nat.le_of_ble_eq_true rfl) hl hcs (dg D_X12_isSpan (i := 10) rfl) (fun r12 I12 L1 R1 H locs hq hW hS => ?_)
  obtain ⟨rfl, rfl, rfl, rfl⟩ := hq
  rw [show bI (decide (0 ≤ v.toInt64 ∧ v.toInt64 ≤ (((σ 4) - (nI 1)).toInt64))) = bI (inB v (nS σ)) from congrArg bI (btw hSn (by omega))]
  exact fin (dg D_X12_isSpan (i := 11) rfl) hW hS rfl ⟨rfl, rfl, rfl, rfl⟩

set_option maxHeartbeats 4000000 in
set_option maxRecDepth 100000 in
theorem c_X12_isGang {l : Launch} {G : va_G} {bs : Nat} {cy : Nat → ClassId} {I : CI} {L : CL} {R : CR} (σ : Row) (v : Int32) (hs : I 68 = σ) (hi : Inv σ) : MTi l G bs cy MX12_isGang 2 [.ref (bs + 67), .int v] I L R (fun r I1 L1 R1 => bI (inB v (nG σ)) = r ∧ I = I1 ∧ L = L1 ∧ R = R1) := by
  refine MTz.of (own := RX12) pn_RX12 rfl (Nat.le_of_ble_eq_true rfl) ?_
  intro p e s m args below meth c Qf X hW hS fin ls hl
  have hx := X.1
  have hb := X.2.1
  have hR : RmOK (rmL 2 0 0) 2 := ⟨rfl, rfl⟩
  have hcs : 0 ≤ (rmL 2 0 0).cells ∧ 0 ≤ (rmL 2 0 0).slots := ⟨Nat.zero_le _, Nat.zero_le _⟩
  have hl : lv_has ls 2 [(0, .ref (bs + 67)), (1, .int v)] := hl
  obtain ⟨hY, hY1, hY12, hLn, hL4, hSn, hS12, hGn, hG5⟩ := id hi
  refine lv_iload_n hx hb (dg D_X12_isGang (i := 0) rfl) rfl (lv_at hl 1 rfl) ?_
  refine lv_i2l (v := v.toInt64) hx hb (dg D_X12_isGang (i := 1) rfl) rfl ?_
  refine lv_lconst (v := 0) hx hb (dg D_X12_isGang (i := 2) rfl) rfl ?_
  refine lv_aload_n hx hb (dg D_X12_isGang (i := 3) rfl) rfl (lv_at hl 0 rfl) ?_
  refine r_getc (t := 68) X hW FI_X12_7 rfl (by decide) rfl (dg D_X12_isGang (i := 4) rfl) ?_
  refine n_iconst (a := 5) hx hb (dg D_X12_isGang (i := 5) rfl) rfl ?_
  refine r_ald (j := 5) (v := σ 5) X hW rfl (by decide) rfl (by omega) (by decide) (congrFun hs _) (dg D_X12_isGang (i := 6) rfl) ?_
  refine n_iconst (a := 1) hx hb (dg D_X12_isGang (i := 7) rfl) rfl ?_
  refine lv_isub hx hb (dg D_X12_isGang (i := 8) rfl) ?_
  refine lv_i2l (v := ((σ 5) - (nI 1)).toInt64) hx hb (dg D_X12_isGang (i := 9) rfl) rfl ?_
  refine callSi X hW hS hR (c_X12_between (I := I) v.toInt64 0 (((σ 5) - (nI 1)).toInt64)) (by decide) USX12_between LK_X12_84 rfl rfl (Nat.le_of_ble_eq_true rfl) hl hcs (dg D_X12_isGang (i := 10) rfl) (fun r12 I12 L1 R1 H locs hq hW hS => ?_)
  obtain ⟨rfl, rfl, rfl, rfl⟩ := hq
  rw [show bI (decide (0 ≤ v.toInt64 ∧ v.toInt64 ≤ (((σ 5) - (nI 1)).toInt64))) = bI (inB v (nG σ)) from congrArg bI (btw hGn (by omega))]
  exact fin (dg D_X12_isGang (i := 11) rfl) hW hS rfl ⟨rfl, rfl, rfl, rfl⟩

set_option maxHeartbeats 4000000 in
set_option maxRecDepth 100000 in
theorem c_X12_isLane {l : Launch} {G : va_G} {bs : Nat} {cy : Nat → ClassId} {I : CI} {L : CL} {R : CR} (σ : Row) (v : Int32) (hs : I 68 = σ) (hi : Inv σ) : MTi l G bs cy MX12_isLane 2 [.ref (bs + 67), .int v] I L R (fun r I1 L1 R1 => bI (inB v (nLn σ)) = r ∧ I = I1 ∧ L = L1 ∧ R = R1) := by
  refine MTz.of (own := RX12) pn_RX12 rfl (Nat.le_of_ble_eq_true rfl) ?_
  intro p e s m args below meth c Qf X hW hS fin ls hl
  have hx := X.1
  have hb := X.2.1
  have hR : RmOK (rmL 2 0 0) 2 := ⟨rfl, rfl⟩
  have hcs : 0 ≤ (rmL 2 0 0).cells ∧ 0 ≤ (rmL 2 0 0).slots := ⟨Nat.zero_le _, Nat.zero_le _⟩
  have hl : lv_has ls 2 [(0, .ref (bs + 67)), (1, .int v)] := hl
  obtain ⟨hY, hY1, hY12, hLn, hL4, hSn, hS12, hGn, hG5⟩ := id hi
  refine lv_iload_n hx hb (dg D_X12_isLane (i := 0) rfl) rfl (lv_at hl 1 rfl) ?_
  refine lv_i2l (v := v.toInt64) hx hb (dg D_X12_isLane (i := 1) rfl) rfl ?_
  refine lv_lconst (v := 0) hx hb (dg D_X12_isLane (i := 2) rfl) rfl ?_
  refine lv_aload_n hx hb (dg D_X12_isLane (i := 3) rfl) rfl (lv_at hl 0 rfl) ?_
  refine r_getc (t := 68) X hW FI_X12_7 rfl (by decide) rfl (dg D_X12_isLane (i := 4) rfl) ?_
  refine n_iconst (a := 3) hx hb (dg D_X12_isLane (i := 5) rfl) rfl ?_
  refine r_ald (j := 3) (v := σ 3) X hW rfl (by decide) rfl (by omega) (by decide) (congrFun hs _) (dg D_X12_isLane (i := 6) rfl) ?_
  refine n_iconst (a := 1) hx hb (dg D_X12_isLane (i := 7) rfl) rfl ?_
  refine lv_isub hx hb (dg D_X12_isLane (i := 8) rfl) ?_
  refine lv_i2l (v := ((σ 3) - (nI 1)).toInt64) hx hb (dg D_X12_isLane (i := 9) rfl) rfl ?_
  refine callSi X hW hS hR (c_X12_between (I := I) v.toInt64 0 (((σ 3) - (nI 1)).toInt64)) (by decide) USX12_between LK_X12_84 rfl rfl (Nat.le_of_ble_eq_true rfl) hl hcs (dg D_X12_isLane (i := 10) rfl) (fun r12 I12 L1 R1 H locs hq hW hS => ?_)
  obtain ⟨rfl, rfl, rfl, rfl⟩ := hq
  rw [show bI (decide (0 ≤ v.toInt64 ∧ v.toInt64 ≤ (((σ 3) - (nI 1)).toInt64))) = bI (inB v (nLn σ)) from congrArg bI (btw hLn (by omega))]
  exact fin (dg D_X12_isLane (i := 11) rfl) hW hS rfl ⟨rfl, rfl, rfl, rfl⟩

set_option maxHeartbeats 4000000 in
set_option maxRecDepth 100000 in
theorem c_X12_good {l : Launch} {G : va_G} {bs : Nat} {cy : Nat → ClassId} {I : CI} {L : CL} {R : CR} (b : Bool) : MTi l G bs cy MX12_good 1 [.ref (bs + 67), .int (bI b)] I L R (fun r I1 L1 R1 => bI b = r ∧ Fr ST I I1 ∧ I1 67 6 = thr b ∧ L = L1 ∧ R = R1) := by
  refine MTz.of (own := RX12) pn_RX12 rfl (Nat.le_of_ble_eq_true rfl) ?_
  intro p e s m args below meth c Qf X hW hS fin ls hl
  have hx := X.1
  have hb := X.2.1
  have hR : RmOK (rmL 1 0 0) 1 := ⟨rfl, rfl⟩
  have hcs : 0 ≤ (rmL 1 0 0).cells ∧ 0 ≤ (rmL 1 0 0).slots := ⟨Nat.zero_le _, Nat.zero_le _⟩
  have hl : lv_has ls 2 [(0, .ref (bs + 67)), (1, .int (bI b))] := hl
  have hF : Fr ST I I := Fr.rf
  refine lv_aload_n hx hb (dg D_X12_good (i := 0) rfl) rfl (lv_at hl 0 rfl) ?_
  refine lv_iload_n hx hb (dg D_X12_good (i := 1) rfl) rfl (lv_at hl 1 rfl) ?_
  refine z_if_eq (tgt := 9) hx hb (dg D_X12_good (i := 2) rfl) (by decide) (fun c2 => ?_) (fun c2 => ?_)
  · refine n_iconst (a := 1) hx hb (dg D_X12_good (i := 5) rfl) rfl ?_
    refine r_puti (v := nI 1) (ty := .int) X hW hS FI_X12_74 rfl (by decide) rfl rfl (by decide +kernel) rfl rfl (dg D_X12_good (i := 6) rfl) (fun H locs hW hS => ?_)
    have hF : Fr ST I (u2 I 67 6 (nI 1)) := Fr.put hF rfl
    obtain ⟨J10, eJ10⟩ : ∃ J, J = u2 I 67 6 (nI 1) := ⟨_, rfl⟩
    rw [← eJ10] at hW hF
    refine lv_iload_n hx hb (dg D_X12_good (i := 7) rfl) rfl (lv_at hl 1 rfl) ?_
    exact fin (dg D_X12_good (i := 8) rfl) hW hS rfl ⟨rfl, hF, by rw [eJ10, c2]; rfl, rfl, rfl⟩
  · refine n_iconst (a := 0) hx hb (dg D_X12_good (i := 3) rfl) rfl ?_
    refine lv_goto (tgt := 10) hx hb (dg D_X12_good (i := 4) rfl) (by decide) ?_
    refine r_puti (v := nI 0) (ty := .int) X hW hS FI_X12_74 rfl (by decide) rfl rfl (by decide +kernel) rfl rfl (dg D_X12_good (i := 6) rfl) (fun H locs hW hS => ?_)
    have hF : Fr ST I (u2 I 67 6 (nI 0)) := Fr.put hF rfl
    obtain ⟨J10, eJ10⟩ : ∃ J, J = u2 I 67 6 (nI 0) := ⟨_, rfl⟩
    rw [← eJ10] at hW hF
    refine lv_iload_n hx hb (dg D_X12_good (i := 7) rfl) rfl (lv_at hl 1 rfl) ?_
    exact fin (dg D_X12_good (i := 8) rfl) hW hS rfl ⟨rfl, hF, by rw [eJ10, c2]; rfl, rfl, rfl⟩

set_option maxHeartbeats 4000000 in
set_option maxRecDepth 100000 in
theorem c_X12_goodSpan {l : Launch} {G : va_G} {bs : Nat} {cy : Nat → ClassId} {I : CI} {L : CL} {R : CR} (σ : Row) (v : Int32) (w : Int32) (hs : I 68 = σ) (hi : Inv σ) : MTi l G bs cy MX12_goodSpan 3 [.ref (bs + 67), .int v, .int w] I L R (fun r I1 L1 R1 => bI (inB v (nS σ) && inB w (Yn σ)) = r ∧ Fr ST I I1 ∧ I1 67 6 = thr (inB v (nS σ) && inB w (Yn σ)) ∧ L = L1 ∧ R = R1) := by
  refine MTz.of (own := RX12) pn_RX12 rfl (Nat.le_of_ble_eq_true rfl) ?_
  intro p e s m args below meth c Qf X hW hS fin ls hl
  have hx := X.1
  have hb := X.2.1
  have hR : RmOK (rmL 3 0 0) 3 := ⟨rfl, rfl⟩
  have hcs : 0 ≤ (rmL 3 0 0).cells ∧ 0 ≤ (rmL 3 0 0).slots := ⟨Nat.zero_le _, Nat.zero_le _⟩
  have hl : lv_has ls 3 [(0, .ref (bs + 67)), (1, .int v), (2, .int w)] := hl
  have hF : Fr ST I I := Fr.rf
  refine lv_aload_n hx hb (dg D_X12_goodSpan (i := 0) rfl) rfl (lv_at hl 0 rfl) ?_
  refine lv_aload_n hx hb (dg D_X12_goodSpan (i := 1) rfl) rfl (lv_at hl 0 rfl) ?_
  refine lv_iload_n hx hb (dg D_X12_goodSpan (i := 2) rfl) rfl (lv_at hl 1 rfl) ?_
  refine callVi X hW hS hR (c_X12_isSpan (I := I) σ v (by first | assumption | omega | decide | exact hP.1) (by first | assumption | omega | decide | exact hP.1)) (by decide) UVX12_isSpan LK_X12_88 rfl (by decide) rfl rfl rfl (Nat.le_of_ble_eq_true rfl) hl hcs (dg D_X12_goodSpan (i := 3) rfl) (fun r3 I3 L1 R1 H locs hq hW hS => ?_)
  obtain ⟨rfl, rfl, rfl, rfl⟩ := hq
  refine z_if_eq (tgt := 21) hx hb (dg D_X12_goodSpan (i := 4) rfl) (by decide) (fun c6 => ?_) (fun c6 => ?_)
  · refine n_iconst (a := 0) hx hb (dg D_X12_goodSpan (i := 11) rfl) rfl ?_
    refine callVi X hW hS hR (c_X12_good (I := I) false) (by decide) UVX12_good LK_X12_95 rfl (by decide) rfl rfl rfl (Nat.le_of_ble_eq_true rfl) hl hcs (dg D_X12_goodSpan (i := 12) rfl) (fun r22 I22 L1 R1 H locs hq hW hS => ?_)
    obtain ⟨rfl, hT22, hp22_0, rfl, rfl⟩ := hq
    have hF : Fr ST I I22 := Fr.tr hF hT22 (fun _ _ h => h)
    exact fin (dg D_X12_goodSpan (i := 13) rfl) hW hS rfl ⟨by first | rw [c6, c14]; rfl | (rw [c6]; rfl), hF, by first | (rw [c6, c14]; exact hp22_0) | (rw [c6]; exact hp22_0), rfl, rfl⟩
  · refine lv_aload_n hx hb (dg D_X12_goodSpan (i := 5) rfl) rfl (lv_at hl 0 rfl) ?_
    refine lv_iload_n hx hb (dg D_X12_goodSpan (i := 6) rfl) rfl (lv_at hl 2 rfl) ?_
    refine callVi X hW hS hR (c_X12_isYear (I := I) σ w (by first | assumption | omega | decide | exact hP.1) (by first | assumption | omega | decide | exact hP.1)) (by decide) UVX12_isYear LK_X12_92 rfl (by decide) rfl rfl rfl (Nat.le_of_ble_eq_true rfl) hl hcs (dg D_X12_goodSpan (i := 7) rfl) (fun r11 I11 L1 R1 H locs hq hW hS => ?_)
    obtain ⟨rfl, rfl, rfl, rfl⟩ := hq
    refine z_if_eq (tgt := 21) hx hb (dg D_X12_goodSpan (i := 8) rfl) (by decide) (fun c14 => ?_) (fun c14 => ?_)
    · refine n_iconst (a := 0) hx hb (dg D_X12_goodSpan (i := 11) rfl) rfl ?_
      refine callVi X hW hS hR (c_X12_good (I := I) false) (by decide) UVX12_good LK_X12_95 rfl (by decide) rfl rfl rfl (Nat.le_of_ble_eq_true rfl) hl hcs (dg D_X12_goodSpan (i := 12) rfl) (fun r22 I22 L1 R1 H locs hq hW hS => ?_)
      obtain ⟨rfl, hT22, hp22_0, rfl, rfl⟩ := hq
      have hF : Fr ST I I22 := Fr.tr hF hT22 (fun _ _ h => h)
      exact fin (dg D_X12_goodSpan (i := 13) rfl) hW hS rfl ⟨by first | rw [c6, c14]; rfl | (rw [c6]; rfl), hF, by first | (rw [c6, c14]; exact hp22_0) | (rw [c6]; exact hp22_0), rfl, rfl⟩
    · refine n_iconst (a := 1) hx hb (dg D_X12_goodSpan (i := 9) rfl) rfl ?_
      refine lv_goto (tgt := 22) hx hb (dg D_X12_goodSpan (i := 10) rfl) (by decide) ?_
      refine callVi X hW hS hR (c_X12_good (I := I) true) (by decide) UVX12_good LK_X12_95 rfl (by decide) rfl rfl rfl (Nat.le_of_ble_eq_true rfl) hl hcs (dg D_X12_goodSpan (i := 12) rfl) (fun r22 I22 L1 R1 H locs hq hW hS => ?_)
      obtain ⟨rfl, hT22, hp22_0, rfl, rfl⟩ := hq
      have hF : Fr ST I I22 := Fr.tr hF hT22 (fun _ _ h => h)
      exact fin (dg D_X12_goodSpan (i := 13) rfl) hW hS rfl ⟨by first | rw [c6, c14]; rfl | (rw [c6]; rfl), hF, by first | (rw [c6, c14]; exact hp22_0) | (rw [c6]; exact hp22_0), rfl, rfl⟩

set_option maxHeartbeats 4000000 in
set_option maxRecDepth 100000 in
theorem c_X12_spanOf {l : Launch} {G : va_G} {bs : Nat} {cy : Nat → ClassId} {I : CI} {L : CL} {R : CR} (σ : Row) (x : Nat) (w : Nat) (hs : I 68 = σ) (hx5 : x < 12) (hw : w < 5) : MTi l G bs cy MX12_spanOf 1 [.ref (bs + 67), .int (nI x), .int (nI w)] I L R (fun r I1 L1 R1 => σ (10 + 5 * x + w) = r ∧ I = I1 ∧ L = L1 ∧ R = R1) := by
  refine MTi.of (own := RX12) pn_RX12 rfl (Nat.le_of_ble_eq_true rfl) ?_
  intro p e s m args below meth c Qf X hW hS fin ls hl
  have hx := X.1
  have hb := X.2.1
  have hR : RmOK (rmL 1 0 0) 1 := ⟨rfl, rfl⟩
  have hcs : 0 ≤ (rmL 1 0 0).cells ∧ 0 ≤ (rmL 1 0 0).slots := ⟨Nat.zero_le _, Nat.zero_le _⟩
  have hl : lv_has ls 3 [(0, .ref (bs + 67)), (1, .int (nI x)), (2, .int (nI w))] := hl
  refine lv_aload_n hx hb (dg D_X12_spanOf (i := 0) rfl) rfl (lv_at hl 0 rfl) ?_
  refine r_getc (t := 68) X hW FI_X12_7 rfl (by decide) rfl (dg D_X12_spanOf (i := 1) rfl) ?_
  refine lv_bipush (v := nI 10) hx hb (dg D_X12_spanOf (i := 2) rfl) (by decide) ?_
  refine n_iconst (a := 5) hx hb (dg D_X12_spanOf (i := 3) rfl) rfl ?_
  refine lv_iload_n hx hb (dg D_X12_spanOf (i := 4) rfl) rfl (lv_at hl 1 rfl) ?_
  refine n_imul hx hb (dg D_X12_spanOf (i := 5) rfl) ?_
  refine n_iadd hx hb (dg D_X12_spanOf (i := 6) rfl) ?_
  refine lv_iload_n hx hb (dg D_X12_spanOf (i := 7) rfl) rfl (lv_at hl 2 rfl) ?_
  refine n_iadd hx hb (dg D_X12_spanOf (i := 8) rfl) ?_
  refine r_ald (j := (10 + (5 * x)) + w) (v := σ ((10 + (5 * x)) + w)) X hW rfl (by decide) rfl (by omega) (by decide) (congrFun hs _) (dg D_X12_spanOf (i := 9) rfl) ?_
  exact fin (dg D_X12_spanOf (i := 10) rfl) hW hS ⟨by simp_all, rfl, rfl, rfl⟩

set_option maxHeartbeats 4000000 in
set_option maxRecDepth 100000 in
theorem c_X12_propertyOf {l : Launch} {G : va_G} {bs : Nat} {cy : Nat → ClassId} {I : CI} {L : CL} {R : CR} (σ : Row) (g : Nat) (w : Nat) (hs : I 68 = σ) (hg5 : g < 5) (hw : w < 2) : MTi l G bs cy MX12_propertyOf 1 [.ref (bs + 67), .int (nI g), .int (nI w)] I L R (fun r I1 L1 R1 => σ (70 + 2 * g + w) = r ∧ I = I1 ∧ L = L1 ∧ R = R1) := by
  refine MTi.of (own := RX12) pn_RX12 rfl (Nat.le_of_ble_eq_true rfl) ?_
  intro p e s m args below meth c Qf X hW hS fin ls hl
  have hx := X.1
  have hb := X.2.1
  have hR : RmOK (rmL 1 0 0) 1 := ⟨rfl, rfl⟩
  have hcs : 0 ≤ (rmL 1 0 0).cells ∧ 0 ≤ (rmL 1 0 0).slots := ⟨Nat.zero_le _, Nat.zero_le _⟩
  have hl : lv_has ls 3 [(0, .ref (bs + 67)), (1, .int (nI g)), (2, .int (nI w))] := hl
  refine lv_aload_n hx hb (dg D_X12_propertyOf (i := 0) rfl) rfl (lv_at hl 0 rfl) ?_
  refine r_getc (t := 68) X hW FI_X12_7 rfl (by decide) rfl (dg D_X12_propertyOf (i := 1) rfl) ?_
  refine lv_bipush (v := nI 70) hx hb (dg D_X12_propertyOf (i := 2) rfl) (by decide) ?_
  refine n_iconst (a := 2) hx hb (dg D_X12_propertyOf (i := 3) rfl) rfl ?_
  refine lv_iload_n hx hb (dg D_X12_propertyOf (i := 4) rfl) rfl (lv_at hl 1 rfl) ?_
  refine n_imul hx hb (dg D_X12_propertyOf (i := 5) rfl) ?_
  refine n_iadd hx hb (dg D_X12_propertyOf (i := 6) rfl) ?_
  refine lv_iload_n hx hb (dg D_X12_propertyOf (i := 7) rfl) rfl (lv_at hl 2 rfl) ?_
  refine n_iadd hx hb (dg D_X12_propertyOf (i := 8) rfl) ?_
  refine r_ald (j := (70 + (2 * g)) + w) (v := σ ((70 + (2 * g)) + w)) X hW rfl (by decide) rfl (by omega) (by decide) (congrFun hs _) (dg D_X12_propertyOf (i := 9) rfl) ?_
  exact fin (dg D_X12_propertyOf (i := 10) rfl) hW hS ⟨by simp_all, rfl, rfl, rfl⟩

set_option maxHeartbeats 4000000 in
set_option maxRecDepth 100000 in
theorem c_X12_painter {l : Launch} {G : va_G} {bs : Nat} {cy : Nat → ClassId} {I : CI} {L : CL} {R : CR} (σ : Row) (x : Nat) (y : Nat) (hs : I 68 = σ) (hx5 : x < 12) (hy5 : y < 12) : MTi l G bs cy MX12_painter 1 [.ref (bs + 67), .int (nI x), .int (nI y)] I L R (fun r I1 L1 R1 => pnt σ x y = r ∧ I = I1 ∧ L = L1 ∧ R = R1) := by
  refine MTi.of (own := RX12) pn_RX12 rfl (Nat.le_of_ble_eq_true rfl) ?_
  intro p e s m args below meth c Qf X hW hS fin ls hl
  have hx := X.1
  have hb := X.2.1
  have hR : RmOK (rmL 1 0 0) 1 := ⟨rfl, rfl⟩
  have hcs : 0 ≤ (rmL 1 0 0).cells ∧ 0 ≤ (rmL 1 0 0).slots := ⟨Nat.zero_le _, Nat.zero_le _⟩
  have hl : lv_has ls 3 [(0, .ref (bs + 67)), (1, .int (nI x)), (2, .int (nI y))] := hl
  refine lv_aload_n hx hb (dg D_X12_painter (i := 0) rfl) rfl (lv_at hl 0 rfl) ?_
  refine r_getc (t := 68) X hW FI_X12_7 rfl (by decide) rfl (dg D_X12_painter (i := 1) rfl) ?_
  refine lv_bipush (v := nI 104) hx hb (dg D_X12_painter (i := 2) rfl) (by decide) ?_
  refine lv_bipush (v := nI 12) hx hb (dg D_X12_painter (i := 3) rfl) (by decide) ?_
  refine lv_iload_n hx hb (dg D_X12_painter (i := 4) rfl) rfl (lv_at hl 2 rfl) ?_
  refine n_imul hx hb (dg D_X12_painter (i := 5) rfl) ?_
  refine n_iadd hx hb (dg D_X12_painter (i := 6) rfl) ?_
  refine lv_iload_n hx hb (dg D_X12_painter (i := 7) rfl) rfl (lv_at hl 1 rfl) ?_
  refine n_iadd hx hb (dg D_X12_painter (i := 8) rfl) ?_
  refine r_ald (j := (104 + (12 * y)) + x) (v := σ ((104 + (12 * y)) + x)) X hW rfl (by decide) rfl (by omega) (by decide) (congrFun hs _) (dg D_X12_painter (i := 9) rfl) ?_
  refine n_iconst (a := 1) hx hb (dg D_X12_painter (i := 10) rfl) rfl ?_
  refine lv_isub hx hb (dg D_X12_painter (i := 11) rfl) ?_
  exact fin (dg D_X12_painter (i := 12) rfl) hW hS ⟨rfl, rfl, rfl, rfl⟩

set_option maxHeartbeats 4000000 in
set_option maxRecDepth 100000 in
theorem c_X12_setPainter {l : Launch} {G : va_G} {bs : Nat} {cy : Nat → ClassId} {I : CI} {L : CL} {R : CR} (x : Nat) (y : Nat) (g : Int32) (hx5 : x < 12) (hy5 : y < 12) : MTv l G bs cy MX12_setPainter 1 [.ref (bs + 67), .int (nI x), .int (nI y), .int g] I L R (fun I1 L1 R1 => Fr SP I I1 ∧ I1 68 = upd (I 68) (104 + 12 * y + x) (g + nI 1) ∧ L = L1 ∧ R = R1) := by
  refine MTv.of (own := RX12) pn_RX12 rfl (Nat.le_of_ble_eq_true rfl) ?_
  intro p e s m args below meth c Qf X hW hS fin ls hl
  have hx := X.1
  have hb := X.2.1
  have hR : RmOK (rmL 1 0 0) 1 := ⟨rfl, rfl⟩
  have hcs : 0 ≤ (rmL 1 0 0).cells ∧ 0 ≤ (rmL 1 0 0).slots := ⟨Nat.zero_le _, Nat.zero_le _⟩
  have hl : lv_has ls 4 [(0, .ref (bs + 67)), (1, .int (nI x)), (2, .int (nI y)), (3, .int g)] := hl
  have hF : Fr SP I I := Fr.rf
  refine lv_aload_n hx hb (dg D_X12_setPainter (i := 0) rfl) rfl (lv_at hl 0 rfl) ?_
  refine r_getc (t := 68) X hW FI_X12_7 rfl (by decide) rfl (dg D_X12_setPainter (i := 1) rfl) ?_
  refine lv_bipush (v := nI 104) hx hb (dg D_X12_setPainter (i := 2) rfl) (by decide) ?_
  refine lv_bipush (v := nI 12) hx hb (dg D_X12_setPainter (i := 3) rfl) (by decide) ?_
  refine lv_iload_n hx hb (dg D_X12_setPainter (i := 4) rfl) rfl (lv_at hl 2 rfl) ?_
  refine n_imul hx hb (dg D_X12_setPainter (i := 5) rfl) ?_
  refine n_iadd hx hb (dg D_X12_setPainter (i := 6) rfl) ?_
  refine lv_iload_n hx hb (dg D_X12_setPainter (i := 7) rfl) rfl (lv_at hl 1 rfl) ?_
  refine n_iadd hx hb (dg D_X12_setPainter (i := 8) rfl) ?_
  refine lv_iload_n hx hb (dg D_X12_setPainter (i := 9) rfl) rfl (lv_at hl 3 rfl) ?_
  refine n_iconst (a := 1) hx hb (dg D_X12_setPainter (i := 10) rfl) rfl ?_
  refine lv_iadd hx hb (dg D_X12_setPainter (i := 11) rfl) ?_
  refine r_ast (j := (104 + (12 * y)) + x) (v := g + (nI 1)) X hW hS rfl (by decide) rfl (by omega) (by decide) (dg D_X12_setPainter (i := 12) rfl) (fun H locs hW hS => ?_)
  have hF : Fr SP I (u2 I 68 ((104 + (12 * y)) + x) (g + (nI 1))) := Fr.put hF rfl
  obtain ⟨J16, eJ16⟩ : ∃ J, J = u2 I 68 ((104 + (12 * y)) + x) (g + (nI 1)) := ⟨_, rfl⟩
  rw [← eJ16] at hW hF
  exact fin (dg D_X12_setPainter (i := 13) rfl) hW hS ⟨hF, by rw [eJ16, u2_eq], rfl, rfl⟩

set_option maxHeartbeats 4000000 in
set_option maxRecDepth 100000 in
theorem c_X12_layBy {l : Launch} {G : va_G} {bs : Nat} {cy : Nat → ClassId} {I : CI} {L : CL} {R : CR} (σ : Row) (x : Nat) (v : Int32) (hs : I 68 = σ) (hi : Inv σ) (hx5 : x < 12) : MTv l G bs cy MX12_layBy 2 [.ref (bs + 67), .int (nI x), .int v] I L R (fun I1 L1 R1 => Fr SL I I1 ∧ rowP I1 75 (Yn σ) (fun z => (rgB σ x (bitB v) z).1) ∧ rowP I1 77 (Yn σ) (fun z => (rgB σ x (bitB v) z).2) ∧ rowP I1 76 (Yn σ) (fun z => (rgB σ x (bitB v) (z + 1)).1) ∧ L = L1 ∧ R = R1) := by
  refine MTv.of (own := RX12) pn_RX12 rfl (Nat.le_of_ble_eq_true rfl) ?_
  intro p e s m args below meth c Qf X hW hS fin ls hl
  have hx := X.1
  have hb := X.2.1
  have hR : RmOK (rmL 2 0 0) 2 := ⟨rfl, rfl⟩
  have hcs : 0 ≤ (rmL 2 0 0).cells ∧ 0 ≤ (rmL 2 0 0).slots := ⟨Nat.zero_le _, Nat.zero_le _⟩
  have hl : lv_has ls 6 [(0, .ref (bs + 67)), (1, .int (nI x)), (2, .int v)] := hl
  have hF : Fr SL I I := Fr.rf
  obtain ⟨hY, hY1, hY12, hLn, hL4, hSn, hS12, hGn, hG5⟩ := id hi
  refine lv_aload_n hx hb (dg D_X12_layBy (i := 0) rfl) rfl (lv_at hl 0 rfl) ?_
  refine lv_iload_n hx hb (dg D_X12_layBy (i := 1) rfl) rfl (lv_at hl 1 rfl) ?_
  refine n_iconst (a := 2) hx hb (dg D_X12_layBy (i := 2) rfl) rfl ?_
  refine callVi X hW hS hR (c_X12_spanOf (I := I) σ x 2 (by first | assumption | omega | decide | exact hP.1) (by first | assumption | omega | decide | exact hP.1) (by first | assumption | omega | decide | exact hP.1)) (by decide) UVX12_spanOf LK_X12_224 rfl (by decide) rfl rfl rfl (Nat.le_of_ble_eq_true rfl) hl hcs (dg D_X12_layBy (i := 3) rfl) (fun r3 I3 L1 R1 H locs hq hW hS => ?_)
  obtain ⟨rfl, rfl, rfl, rfl⟩ := hq
  refine lv_istore_n (lv' := [(3, .int (σ (10 + 5 * x + 2))), (0, .ref (bs + 67)), (1, .int (nI x)), (2, .int v)]) hx hb (dg D_X12_layBy (i := 4) rfl) rfl hl (by decide) rfl (fun ls hl => ?_)
  refine n_iconst (a := 0) hx hb (dg D_X12_layBy (i := 5) rfl) rfl ?_
  refine lv_istore (lv' := [(4, .int (nI 0)), (3, .int (σ (10 + 5 * x + 2))), (0, .ref (bs + 67)), (1, .int (nI x)), (2, .int v)]) hx hb (dg D_X12_layBy (i := 6) rfl) hl (by decide) rfl (fun ls hl => ?_)
  refine n_iconst (a := 0) hx hb (dg D_X12_layBy (i := 7) rfl) rfl ?_
  refine lv_istore (lv' := [(5, .int (nI 0)), (4, .int (nI 0)), (3, .int (σ (10 + 5 * x + 2))), (0, .ref (bs + 67)), (1, .int (nI x)), (2, .int v)]) hx hb (dg D_X12_layBy (i := 8) rfl) hl (by decide) rfl (fun ls hl => ?_)
  have loop13 := up_ind (P := fun y => ∀ (K13 : CI) (H : Heap) (locs : List Loc) (ls : Array Slot) (v3 : Int32) (v4 : Int32) (v5 : Int32), v3 = (rgB σ x (bitB v) y).1 → v4 = (rgB σ x (bitB v) y).2 → v5 = nI y → (Fr SL I K13) → (K13 68 = σ) → (rowP K13 75 y (fun z => (rgB σ x (bitB v) z).1)) → (rowP K13 77 y (fun z => (rgB σ x (bitB v) z).2)) → (rowP K13 76 y (fun z => (rgB σ x (bitB v) (z + 1)).1)) → Wd G bs cy K13 L R H → va_S (Aq bs) s.heap H locs → lv_has ls 6 [(0, .ref (bs + 67)), (1, .int (nI x)), (2, .int v), (3, .int v3), (4, .int v4), (5, .int v5)] → W p l e (rmL 2 0 0) s m args below meth c H locs 0 0 Qf (F0 m 13 ls [])) (Yn σ) (fun y hx13 ih13 => by
      intro K13 H locs ls v3 v4 v5 q3 q4 q5 hF hs hB hG hA hW hS hl
      subst q3
      subst q4
      subst q5
      refine lv_iload hx hb (dg D_X12_layBy (i := 9) rfl) (lv_at hl 5 rfl) ?_
      refine lv_aload_n hx hb (dg D_X12_layBy (i := 10) rfl) rfl (lv_at hl 0 rfl) ?_
      refine r_getc (t := 68) X hW FI_X12_7 rfl (by decide) rfl (dg D_X12_layBy (i := 11) rfl) ?_
      refine n_iconst (a := 0) hx hb (dg D_X12_layBy (i := 12) rfl) rfl ?_
      refine r_ald (j := 0) (v := nI (Yn σ)) X hW rfl (by decide) rfl (by omega) (by decide) ((congrFun hs _).trans hY) (dg D_X12_layBy (i := 13) rfl) ?_
      refine n_icmp_ge (tgt := 103) hx hb (by omega) (by omega) (dg D_X12_layBy (i := 14) rfl) (by decide) (fun c21 => ?_) (fun c21 => ?_)
      · exact fin (dg D_X12_layBy (i := 60) rfl) hW hS ⟨hF, by rw [show Yn σ = y by omega]; exact hB, by rw [show Yn σ = y by omega]; exact hG, by rw [show Yn σ = y by omega]; exact hA, rfl, rfl⟩
      · refine lv_aload_n hx hb (dg D_X12_layBy (i := 15) rfl) rfl (lv_at hl 0 rfl) ?_
        refine r_getc (t := 75) X hW FI_X12_37 rfl (by decide) rfl (dg D_X12_layBy (i := 16) rfl) ?_
        refine lv_iload hx hb (dg D_X12_layBy (i := 17) rfl) (lv_at hl 5 rfl) ?_
        refine lv_iload_n hx hb (dg D_X12_layBy (i := 18) rfl) rfl (lv_at hl 3 rfl) ?_
        refine r_ast (j := y) (v := (rgB σ x (bitB v) y).1) X hW hS rfl (by decide) rfl (by omega) (by decide) (dg D_X12_layBy (i := 19) rfl) (fun H locs hW hS => ?_)
        have hF : Fr SL I (u2 K13 75 y ((rgB σ x (bitB v) y).1)) := Fr.put hF rfl
        have hs : (u2 K13 75 y ((rgB σ x (bitB v) y).1)) 68 = σ := hs
        obtain ⟨J31, eJ31⟩ : ∃ J, J = u2 K13 75 y ((rgB σ x (bitB v) y).1) := ⟨_, rfl⟩
        rw [← eJ31] at hW hF hs
        have hB : rowP J31 75 (y + 1) (fun z => (rgB σ x (bitB v) z).1) := by rw [eJ31]; exact hB.ext rfl
        have hG : rowP J31 77 y (fun z => (rgB σ x (bitB v) z).2) := by rw [eJ31]; exact hG.keep (by decide)
        have hA : rowP J31 76 y (fun z => (rgB σ x (bitB v) (z + 1)).1) := by rw [eJ31]; exact hA.keep (by decide)
        refine lv_aload_n hx hb (dg D_X12_layBy (i := 20) rfl) rfl (lv_at hl 0 rfl) ?_
        refine r_getc (t := 77) X hW FI_X12_43 rfl (by decide) rfl (dg D_X12_layBy (i := 21) rfl) ?_
        refine lv_iload hx hb (dg D_X12_layBy (i := 22) rfl) (lv_at hl 5 rfl) ?_
        refine lv_iload hx hb (dg D_X12_layBy (i := 23) rfl) (lv_at hl 4 rfl) ?_
        refine r_ast (j := y) (v := (rgB σ x (bitB v) y).2) X hW hS rfl (by decide) rfl (by omega) (by decide) (dg D_X12_layBy (i := 24) rfl) (fun H locs hW hS => ?_)
        have hF : Fr SL I (u2 J31 77 y ((rgB σ x (bitB v) y).2)) := Fr.put hF rfl
        have hs : (u2 J31 77 y ((rgB σ x (bitB v) y).2)) 68 = σ := hs
        obtain ⟨J40, eJ40⟩ : ∃ J, J = u2 J31 77 y ((rgB σ x (bitB v) y).2) := ⟨_, rfl⟩
        rw [← eJ40] at hW hF hs
        have hB : rowP J40 75 (y + 1) (fun z => (rgB σ x (bitB v) z).1) := by rw [eJ40]; exact hB.keep (by decide)
        have hG : rowP J40 77 (y + 1) (fun z => (rgB σ x (bitB v) z).2) := by rw [eJ40]; exact hG.ext rfl
        have hA : rowP J40 76 y (fun z => (rgB σ x (bitB v) (z + 1)).1) := by rw [eJ40]; exact hA.keep (by decide)
        refine lv_iload_n hx hb (dg D_X12_layBy (i := 25) rfl) rfl (lv_at hl 2 rfl) ?_
        refine lv_iload hx hb (dg D_X12_layBy (i := 26) rfl) (lv_at hl 5 rfl) ?_
        refine lv_ishr hx hb (dg D_X12_layBy (i := 27) rfl) ?_
        refine n_iconst (a := 1) hx hb (dg D_X12_layBy (i := 28) rfl) rfl ?_
        refine lv_iand hx hb (dg D_X12_layBy (i := 29) rfl) ?_
        refine n_iconst (a := 1) hx hb (dg D_X12_layBy (i := 30) rfl) rfl ?_
        refine lv_icmp_ne (tgt := 64) hx hb (dg D_X12_layBy (i := 31) rfl) (by decide) (fun c48 => ?_) (fun c48 => ?_)
        · refine lv_iload hx hb (dg D_X12_layBy (i := 40) rfl) (lv_at hl 4 rfl) ?_
          refine lv_if_le (tgt := 75) hx hb (dg D_X12_layBy (i := 41) rfl) (by decide) (fun c66 => ?_) (fun c66 => ?_)
          · have hrg : rgB σ x (bitB v) (y + 1) = (mn (nI 100) ((rgB σ x (bitB v) y).1 + σ (10 + 5 * x + 3)), (rgB σ x (bitB v) y).2) := rg_g (decide_eq_false c48) c66
            refine lv_bipush (v := nI 100) hx hb (dg D_X12_layBy (i := 44) rfl) (by decide) ?_
            refine lv_iload_n hx hb (dg D_X12_layBy (i := 45) rfl) rfl (lv_at hl 3 rfl) ?_
            refine lv_aload_n hx hb (dg D_X12_layBy (i := 46) rfl) rfl (lv_at hl 0 rfl) ?_
            refine lv_iload_n hx hb (dg D_X12_layBy (i := 47) rfl) rfl (lv_at hl 1 rfl) ?_
            refine n_iconst (a := 3) hx hb (dg D_X12_layBy (i := 48) rfl) rfl ?_
            refine callVi X hW hS hR (c_X12_spanOf (I := J40) σ x 3 (by first | assumption | omega | decide | exact hP.1) (by first | assumption | omega | decide | exact hP.1) (by first | assumption | omega | decide | exact hP.1)) (by decide) UVX12_spanOf LK_X12_224 rfl (by decide) rfl rfl rfl (Nat.le_of_ble_eq_true rfl) hl hcs (dg D_X12_layBy (i := 49) rfl) (fun r81 I81 L1 R1 H locs hq hW hS => ?_)
            obtain ⟨rfl, rfl, rfl, rfl⟩ := hq
            refine lv_iadd hx hb (dg D_X12_layBy (i := 50) rfl) ?_
            refine r_min (v := mn (nI 100) ((rgB σ x (bitB v) y).1 + σ (10 + 5 * x + 3))) X hR (by decide) LK_X12_228 (Nat.le_of_ble_eq_true rfl) hl hcs rfl (dg D_X12_layBy (i := 51) rfl) ?_
            refine lv_istore_n (lv' := [(3, .int (mn (nI 100) ((rgB σ x (bitB v) y).1 + σ (10 + 5 * x + 3)))), (0, .ref (bs + 67)), (1, .int (nI x)), (2, .int v), (4, .int ((rgB σ x (bitB v) y).2)), (5, .int (nI y))]) hx hb (dg D_X12_layBy (i := 52) rfl) rfl hl (by decide) rfl (fun ls hl => ?_)
            refine lv_aload_n hx hb (dg D_X12_layBy (i := 53) rfl) rfl (lv_at hl 1 rfl) ?_
            refine r_getc (t := 76) X hW FI_X12_40 rfl (by decide) rfl (dg D_X12_layBy (i := 54) rfl) ?_
            refine lv_iload hx hb (dg D_X12_layBy (i := 55) rfl) (lv_at hl 5 rfl) ?_
            refine lv_iload_n hx hb (dg D_X12_layBy (i := 56) rfl) rfl (lv_at hl 0 rfl) ?_
            refine r_ast (j := y) (v := mn (nI 100) ((rgB σ x (bitB v) y).1 + σ (10 + 5 * x + 3))) X hW hS rfl (by decide) rfl (by omega) (by decide) (dg D_X12_layBy (i := 57) rfl) (fun H locs hW hS => ?_)
            have hF : Fr SL I (u2 J40 76 y (mn (nI 100) ((rgB σ x (bitB v) y).1 + σ (10 + 5 * x + 3)))) := Fr.put hF rfl
            have hs : (u2 J40 76 y (mn (nI 100) ((rgB σ x (bitB v) y).1 + σ (10 + 5 * x + 3)))) 68 = σ := hs
            obtain ⟨J96, eJ96⟩ : ∃ J, J = u2 J40 76 y (mn (nI 100) ((rgB σ x (bitB v) y).1 + σ (10 + 5 * x + 3))) := ⟨_, rfl⟩
            rw [← eJ96] at hW hF hs
            have hB : rowP J96 75 (y + 1) (fun z => (rgB σ x (bitB v) z).1) := by rw [eJ96]; exact hB.keep (by decide)
            have hG : rowP J96 77 (y + 1) (fun z => (rgB σ x (bitB v) z).2) := by rw [eJ96]; exact hG.keep (by decide)
            have hA : rowP J96 76 (y + 1) (fun z => (rgB σ x (bitB v) (z + 1)).1) := by rw [eJ96]; exact hA.ext (by rw [hrg])
            refine lv_iinc (v := nI (y + 1)) (lv' := [(5, .int (nI (y + 1))), (3, .int (mn (nI 100) ((rgB σ x (bitB v) y).1 + σ (10 + 5 * x + 3)))), (0, .ref (bs + 67)), (1, .int (nI x)), (2, .int v), (4, .int ((rgB σ x (bitB v) y).2))]) hx hb (dg D_X12_layBy (i := 58) rfl) hl (k := 5) rfl (nI_add _ _) (by decide) rfl (fun ls hl => ?_)
            refine lv_goto (tgt := 13) hx hb (dg D_X12_layBy (i := 59) rfl) (by decide) ?_
            exact ih13 (by omega) J96 _ _ _ _ _ _ (by rw [hrg]) (by rw [hrg]) (congrArg nI (by omega)) hF hs hB hG hA hW hS (lv_sub hl [2, 3, 4, 1, 5, 0] rfl)
          · have hrg : rgB σ x (bitB v) (y + 1) = ((rgB σ x (bitB v) y).1, (rgB σ x (bitB v) y).2 + Int32.ofInt (-1)) := rg_d (decide_eq_false c48) c66
            refine lv_iinc (v := ((rgB σ x (bitB v) y).2) + Int32.ofInt (-1)) (lv' := [(4, .int (((rgB σ x (bitB v) y).2) + Int32.ofInt (-1))), (0, .ref (bs + 67)), (1, .int (nI x)), (2, .int v), (3, .int ((rgB σ x (bitB v) y).1)), (5, .int (nI y))]) hx hb (dg D_X12_layBy (i := 42) rfl) hl (k := 4) rfl rfl (by decide) rfl (fun ls hl => ?_)
            refine lv_goto (tgt := 89) hx hb (dg D_X12_layBy (i := 43) rfl) (by decide) ?_
            refine lv_aload_n hx hb (dg D_X12_layBy (i := 53) rfl) rfl (lv_at hl 1 rfl) ?_
            refine r_getc (t := 76) X hW FI_X12_40 rfl (by decide) rfl (dg D_X12_layBy (i := 54) rfl) ?_
            refine lv_iload hx hb (dg D_X12_layBy (i := 55) rfl) (lv_at hl 5 rfl) ?_
            refine lv_iload_n hx hb (dg D_X12_layBy (i := 56) rfl) rfl (lv_at hl 4 rfl) ?_
            refine r_ast (j := y) (v := (rgB σ x (bitB v) y).1) X hW hS rfl (by decide) rfl (by omega) (by decide) (dg D_X12_layBy (i := 57) rfl) (fun H locs hW hS => ?_)
            have hF : Fr SL I (u2 J40 76 y ((rgB σ x (bitB v) y).1)) := Fr.put hF rfl
            have hs : (u2 J40 76 y ((rgB σ x (bitB v) y).1)) 68 = σ := hs
            obtain ⟨J96, eJ96⟩ : ∃ J, J = u2 J40 76 y ((rgB σ x (bitB v) y).1) := ⟨_, rfl⟩
            rw [← eJ96] at hW hF hs
            have hB : rowP J96 75 (y + 1) (fun z => (rgB σ x (bitB v) z).1) := by rw [eJ96]; exact hB.keep (by decide)
            have hG : rowP J96 77 (y + 1) (fun z => (rgB σ x (bitB v) z).2) := by rw [eJ96]; exact hG.keep (by decide)
            have hA : rowP J96 76 (y + 1) (fun z => (rgB σ x (bitB v) (z + 1)).1) := by rw [eJ96]; exact hA.ext (by rw [hrg])
            refine lv_iinc (v := nI (y + 1)) (lv' := [(5, .int (nI (y + 1))), (4, .int (((rgB σ x (bitB v) y).2) + Int32.ofInt (-1))), (0, .ref (bs + 67)), (1, .int (nI x)), (2, .int v), (3, .int ((rgB σ x (bitB v) y).1))]) hx hb (dg D_X12_layBy (i := 58) rfl) hl (k := 5) rfl (nI_add _ _) (by decide) rfl (fun ls hl => ?_)
            refine lv_goto (tgt := 13) hx hb (dg D_X12_layBy (i := 59) rfl) (by decide) ?_
            exact ih13 (by omega) J96 _ _ _ _ _ _ (by rw [hrg]) (by rw [hrg]) (congrArg nI (by omega)) hF hs hB hG hA hW hS (lv_sub hl [2, 3, 4, 5, 1, 0] rfl)
        · have hrg : rgB σ x (bitB v) (y + 1) = (nI 0, σ 2) := rg_p (decide_eq_true c48)
          refine n_iconst (a := 0) hx hb (dg D_X12_layBy (i := 32) rfl) rfl ?_
          refine lv_istore_n (lv' := [(3, .int (nI 0)), (0, .ref (bs + 67)), (1, .int (nI x)), (2, .int v), (4, .int ((rgB σ x (bitB v) y).2)), (5, .int (nI y))]) hx hb (dg D_X12_layBy (i := 33) rfl) rfl hl (by decide) rfl (fun ls hl => ?_)
          refine lv_aload_n hx hb (dg D_X12_layBy (i := 34) rfl) rfl (lv_at hl 1 rfl) ?_
          refine r_getc (t := 68) X hW FI_X12_7 rfl (by decide) rfl (dg D_X12_layBy (i := 35) rfl) ?_
          refine n_iconst (a := 2) hx hb (dg D_X12_layBy (i := 36) rfl) rfl ?_
          refine r_ald (j := 2) (v := σ 2) X hW rfl (by decide) rfl (by omega) (by decide) (congrFun hs _) (dg D_X12_layBy (i := 37) rfl) ?_
          refine lv_istore (lv' := [(4, .int (σ 2)), (3, .int (nI 0)), (0, .ref (bs + 67)), (1, .int (nI x)), (2, .int v), (5, .int (nI y))]) hx hb (dg D_X12_layBy (i := 38) rfl) hl (by decide) rfl (fun ls hl => ?_)
          refine lv_goto (tgt := 89) hx hb (dg D_X12_layBy (i := 39) rfl) (by decide) ?_
          refine lv_aload_n hx hb (dg D_X12_layBy (i := 53) rfl) rfl (lv_at hl 2 rfl) ?_
          refine r_getc (t := 76) X hW FI_X12_40 rfl (by decide) rfl (dg D_X12_layBy (i := 54) rfl) ?_
          refine lv_iload hx hb (dg D_X12_layBy (i := 55) rfl) (lv_at hl 5 rfl) ?_
          refine lv_iload_n hx hb (dg D_X12_layBy (i := 56) rfl) rfl (lv_at hl 1 rfl) ?_
          refine r_ast (j := y) (v := nI 0) X hW hS rfl (by decide) rfl (by omega) (by decide) (dg D_X12_layBy (i := 57) rfl) (fun H locs hW hS => ?_)
          have hF : Fr SL I (u2 J40 76 y (nI 0)) := Fr.put hF rfl
          have hs : (u2 J40 76 y (nI 0)) 68 = σ := hs
          obtain ⟨J96, eJ96⟩ : ∃ J, J = u2 J40 76 y (nI 0) := ⟨_, rfl⟩
          rw [← eJ96] at hW hF hs
          have hB : rowP J96 75 (y + 1) (fun z => (rgB σ x (bitB v) z).1) := by rw [eJ96]; exact hB.keep (by decide)
          have hG : rowP J96 77 (y + 1) (fun z => (rgB σ x (bitB v) z).2) := by rw [eJ96]; exact hG.keep (by decide)
          have hA : rowP J96 76 (y + 1) (fun z => (rgB σ x (bitB v) (z + 1)).1) := by rw [eJ96]; exact hA.ext (by rw [hrg])
          refine lv_iinc (v := nI (y + 1)) (lv' := [(5, .int (nI (y + 1))), (4, .int (σ 2)), (3, .int (nI 0)), (0, .ref (bs + 67)), (1, .int (nI x)), (2, .int v)]) hx hb (dg D_X12_layBy (i := 58) rfl) hl (k := 5) rfl (nI_add _ _) (by decide) rfl (fun ls hl => ?_)
          refine lv_goto (tgt := 13) hx hb (dg D_X12_layBy (i := 59) rfl) (by decide) ?_
          exact ih13 (by omega) J96 _ _ _ _ _ _ (by rw [hrg]) (by rw [hrg]) (congrArg nI (by omega)) hF hs hB hG hA hW hS (lv_sub hl [3, 4, 5, 2, 1, 0] rfl))
  exact loop13 0 (Nat.zero_le _) I _ _ _ _ _ _ (rfl) (rfl) (congrArg nI (by omega)) hF hs rowP.zero rowP.zero rowP.zero hW hS (lv_sub hl [3, 4, 5, 2, 1, 0] rfl)

set_option maxHeartbeats 4000000 in
set_option maxRecDepth 100000 in
theorem c_X12_paintedYears {l : Launch} {G : va_G} {bs : Nat} {cy : Nat → ClassId} {I : CI} {L : CL} {R : CR} (σ : Row) (x : Nat) (hs : I 68 = σ) (hi : Inv σ) (hx5 : x < 12) : MTi l G bs cy MX12_paintedYears 2 [.ref (bs + 67), .int (nI x)] I L R (fun r I1 L1 R1 => orT (setF (ptd σ x)) (Yn σ) = r ∧ I = I1 ∧ L = L1 ∧ R = R1) := by
  refine MTi.of (own := RX12) pn_RX12 rfl (Nat.le_of_ble_eq_true rfl) ?_
  intro p e s m args below meth c Qf X hW hS fin ls hl
  have hx := X.1
  have hb := X.2.1
  have hR : RmOK (rmL 2 0 0) 2 := ⟨rfl, rfl⟩
  have hcs : 0 ≤ (rmL 2 0 0).cells ∧ 0 ≤ (rmL 2 0 0).slots := ⟨Nat.zero_le _, Nat.zero_le _⟩
  have hl : lv_has ls 4 [(0, .ref (bs + 67)), (1, .int (nI x))] := hl
  obtain ⟨hY, hY1, hY12, hLn, hL4, hSn, hS12, hGn, hG5⟩ := id hi
  refine n_iconst (a := 0) hx hb (dg D_X12_paintedYears (i := 0) rfl) rfl ?_
  refine lv_istore_n (lv' := [(2, .int (nI 0)), (0, .ref (bs + 67)), (1, .int (nI x))]) hx hb (dg D_X12_paintedYears (i := 1) rfl) rfl hl (by decide) rfl (fun ls hl => ?_)
  refine n_iconst (a := 0) hx hb (dg D_X12_paintedYears (i := 2) rfl) rfl ?_
  refine lv_istore_n (lv' := [(3, .int (nI 0)), (2, .int (nI 0)), (0, .ref (bs + 67)), (1, .int (nI x))]) hx hb (dg D_X12_paintedYears (i := 3) rfl) rfl hl (by decide) rfl (fun ls hl => ?_)
  have loop4 := up_ind (P := fun y => ∀ (H : Heap) (locs : List Loc) (ls : Array Slot) (v2 : Int32) (v3 : Int32), v2 = orT (setF (ptd σ x)) y → v3 = nI y → Wd G bs cy I L R H → va_S (Aq bs) s.heap H locs → lv_has ls 4 [(0, .ref (bs + 67)), (1, .int (nI x)), (2, .int v2), (3, .int v3)] → W p l e (rmL 2 0 0) s m args below meth c H locs 0 0 Qf (F0 m 4 ls [])) (Yn σ) (fun y hx4 ih4 => by
      intro H locs ls v2 v3 q2 q3 hW hS hl
      subst q2
      subst q3
      refine lv_iload_n hx hb (dg D_X12_paintedYears (i := 4) rfl) rfl (lv_at hl 3 rfl) ?_
      refine lv_aload_n hx hb (dg D_X12_paintedYears (i := 5) rfl) rfl (lv_at hl 0 rfl) ?_
      refine r_getc (t := 68) X hW FI_X12_7 rfl (by decide) rfl (dg D_X12_paintedYears (i := 6) rfl) ?_
      refine n_iconst (a := 0) hx hb (dg D_X12_paintedYears (i := 7) rfl) rfl ?_
      refine r_ald (j := 0) (v := nI (Yn σ)) X hW rfl (by decide) rfl (by omega) (by decide) ((congrFun hs _).trans hY) (dg D_X12_paintedYears (i := 8) rfl) ?_
      refine n_icmp_ge (tgt := 40) hx hb (by omega) (by omega) (dg D_X12_paintedYears (i := 9) rfl) (by decide) (fun c11 => ?_) (fun c11 => ?_)
      · refine lv_iload_n hx hb (dg D_X12_paintedYears (i := 26) rfl) rfl (lv_at hl 2 rfl) ?_
        exact fin (dg D_X12_paintedYears (i := 27) rfl) hW hS ⟨by rw [show Yn σ = y by omega], rfl, rfl, rfl⟩
      · refine lv_iload_n hx hb (dg D_X12_paintedYears (i := 10) rfl) rfl (lv_at hl 2 rfl) ?_
        refine lv_aload_n hx hb (dg D_X12_paintedYears (i := 11) rfl) rfl (lv_at hl 0 rfl) ?_
        refine lv_iload_n hx hb (dg D_X12_paintedYears (i := 12) rfl) rfl (lv_at hl 1 rfl) ?_
        refine lv_iload_n hx hb (dg D_X12_paintedYears (i := 13) rfl) rfl (lv_at hl 3 rfl) ?_
        refine callVi X hW hS hR (c_X12_painter (I := I) σ x y (by first | assumption | omega | decide | exact hP.1) (by first | assumption | omega | decide | exact hP.1) (by first | assumption | omega | decide | exact hP.1)) (by decide) UVX12_painter LK_X12_233 rfl (by decide) rfl rfl rfl (Nat.le_of_ble_eq_true rfl) hl hcs (dg D_X12_paintedYears (i := 14) rfl) (fun r18 I18 L1 R1 H locs hq hW hS => ?_)
        obtain ⟨rfl, rfl, rfl, rfl⟩ := hq
        refine lv_iconst (v := -1) hx hb (dg D_X12_paintedYears (i := 15) rfl) (by decide) ?_
        refine lv_icmp_eq (tgt := 31) hx hb (dg D_X12_paintedYears (i := 16) rfl) (by decide) (fun c22 => ?_) (fun c22 => ?_)
        · refine n_iconst (a := 0) hx hb (dg D_X12_paintedYears (i := 21) rfl) rfl ?_
          refine lv_ior hx hb (dg D_X12_paintedYears (i := 22) rfl) ?_
          refine lv_istore_n (lv' := [(2, .int ((orT (setF (ptd σ x)) y) ||| (nI 0))), (0, .ref (bs + 67)), (1, .int (nI x)), (3, .int (nI y))]) hx hb (dg D_X12_paintedYears (i := 23) rfl) rfl hl (by decide) rfl (fun ls hl => ?_)
          refine lv_iinc (v := nI (y + 1)) (lv' := [(3, .int (nI (y + 1))), (2, .int ((orT (setF (ptd σ x)) y) ||| (nI 0))), (0, .ref (bs + 67)), (1, .int (nI x))]) hx hb (dg D_X12_paintedYears (i := 24) rfl) hl (k := 3) rfl (nI_add _ _) (by decide) rfl (fun ls hl => ?_)
          refine lv_goto (tgt := 4) hx hb (dg D_X12_paintedYears (i := 25) rfl) (by decide) ?_
          exact ih4 (by omega) _ _ _ _ _ (by show _ = _ ||| setF (ptd σ x) y; first | rw [setF_t (p := ptd σ x) (decide_eq_true c22)] | rw [setF_f (p := ptd σ x) (decide_eq_false (fun z => z c22))]) (congrArg nI (by omega)) hW hS (lv_sub hl [2, 3, 1, 0] rfl)
        · refine n_iconst (a := 1) hx hb (dg D_X12_paintedYears (i := 17) rfl) rfl ?_
          refine lv_iload_n hx hb (dg D_X12_paintedYears (i := 18) rfl) rfl (lv_at hl 3 rfl) ?_
          refine lv_ishl hx hb (dg D_X12_paintedYears (i := 19) rfl) ?_
          refine lv_goto (tgt := 32) hx hb (dg D_X12_paintedYears (i := 20) rfl) (by decide) ?_
          refine lv_ior hx hb (dg D_X12_paintedYears (i := 22) rfl) ?_
          refine lv_istore_n (lv' := [(2, .int ((orT (setF (ptd σ x)) y) ||| ((nI 1) <<< ((nI y) &&& 31)))), (0, .ref (bs + 67)), (1, .int (nI x)), (3, .int (nI y))]) hx hb (dg D_X12_paintedYears (i := 23) rfl) rfl hl (by decide) rfl (fun ls hl => ?_)
          refine lv_iinc (v := nI (y + 1)) (lv' := [(3, .int (nI (y + 1))), (2, .int ((orT (setF (ptd σ x)) y) ||| ((nI 1) <<< ((nI y) &&& 31)))), (0, .ref (bs + 67)), (1, .int (nI x))]) hx hb (dg D_X12_paintedYears (i := 24) rfl) hl (k := 3) rfl (nI_add _ _) (by decide) rfl (fun ls hl => ?_)
          refine lv_goto (tgt := 4) hx hb (dg D_X12_paintedYears (i := 25) rfl) (by decide) ?_
          exact ih4 (by omega) _ _ _ _ _ (by show _ = _ ||| setF (ptd σ x) y; first | rw [setF_t (p := ptd σ x) (decide_eq_true c22)] | rw [setF_f (p := ptd σ x) (decide_eq_false (fun z => z c22))]) (congrArg nI (by omega)) hW hS (lv_sub hl [2, 3, 1, 0] rfl))
  exact loop4 0 (Nat.zero_le _) _ _ _ _ _ (rfl) (congrArg nI (by omega)) hW hS (lv_sub hl [2, 3, 1, 0] rfl)

set_option maxHeartbeats 4000000 in
set_option maxRecDepth 100000 in
theorem c_X12_lay {l : Launch} {G : va_G} {bs : Nat} {cy : Nat → ClassId} {I : CI} {L : CL} {R : CR} (σ : Row) (x : Nat) (hs : I 68 = σ) (hi : Inv σ) (hx5 : x < 12) : MTv l G bs cy MX12_lay 3 [.ref (bs + 67), .int (nI x)] I L R (fun I1 L1 R1 => Fr SL I I1 ∧ rowP I1 75 (Yn σ) (fun z => (rgS σ x z).1) ∧ rowP I1 77 (Yn σ) (fun z => (rgS σ x z).2) ∧ rowP I1 76 (Yn σ) (fun z => (rgS σ x (z + 1)).1) ∧ L = L1 ∧ R = R1) := by
  refine MTv.of (own := RX12) pn_RX12 rfl (Nat.le_of_ble_eq_true rfl) ?_
  intro p e s m args below meth c Qf X hW hS fin ls hl
  have hx := X.1
  have hb := X.2.1
  have hR : RmOK (rmL 3 0 0) 3 := ⟨rfl, rfl⟩
  have hcs : 0 ≤ (rmL 3 0 0).cells ∧ 0 ≤ (rmL 3 0 0).slots := ⟨Nat.zero_le _, Nat.zero_le _⟩
  have hl : lv_has ls 2 [(0, .ref (bs + 67)), (1, .int (nI x))] := hl
  have hF : Fr SL I I := Fr.rf
  obtain ⟨hY, hY1, hY12, hLn, hL4, hSn, hS12, hGn, hG5⟩ := id hi
  refine lv_aload_n hx hb (dg D_X12_lay (i := 0) rfl) rfl (lv_at hl 0 rfl) ?_
  refine lv_iload_n hx hb (dg D_X12_lay (i := 1) rfl) rfl (lv_at hl 1 rfl) ?_
  refine lv_aload_n hx hb (dg D_X12_lay (i := 2) rfl) rfl (lv_at hl 0 rfl) ?_
  refine lv_iload_n hx hb (dg D_X12_lay (i := 3) rfl) rfl (lv_at hl 1 rfl) ?_
  refine callVi X hW hS hR (c_X12_paintedYears (I := I) σ x (by first | assumption | omega | decide | exact hP.1) (by first | assumption | omega | decide | exact hP.1) (by first | assumption | omega | decide | exact hP.1)) (by decide) UVX12_paintedYears LK_X12_236 rfl (by decide) rfl rfl rfl (Nat.le_of_ble_eq_true rfl) hl hcs (dg D_X12_lay (i := 4) rfl) (fun r4 I4 L1 R1 H locs hq hW hS => ?_)
  obtain ⟨rfl, rfl, rfl, rfl⟩ := hq
  refine callVv X hW hS hR (c_X12_layBy (I := I) σ x (orT (setF (ptd σ x)) (Yn σ)) (by first | assumption | omega | decide | exact hP.1) (by first | assumption | omega | decide | exact hP.1) (by first | assumption | omega | decide | exact hP.1)) (by decide) UVX12_layBy LK_X12_239 rfl (by decide) rfl rfl rfl (Nat.le_of_ble_eq_true rfl) hl hcs (dg D_X12_lay (i := 5) rfl) (fun I7 L1 R1 H locs hq hW hS => ?_)
  obtain ⟨hT7, hp7_0, hp7_1, hp7_2, rfl, rfl⟩ := hq
  have hF : Fr SL I I7 := Fr.tr hF hT7 (fun _ _ h => h)
  have hs : I7 68 = σ := by rw [Fr.row hT7 (fun _ => rfl)]; exact hs
  exact fin (dg D_X12_lay (i := 6) rfl) hW hS ⟨hF, fun z hz => by rw [hp7_0 z hz]; exact congrArg (fun q => q.1) (rgB_pt hY12 (Nat.le_of_lt hz)), fun z hz => by rw [hp7_1 z hz]; exact congrArg (fun q => q.2) (rgB_pt hY12 (Nat.le_of_lt hz)), fun z hz => by rw [hp7_2 z hz]; exact congrArg (fun q => q.1) (rgB_pt hY12 hz), rfl, rfl⟩

set_option maxHeartbeats 4000000 in
set_option maxRecDepth 100000 in
theorem c_X12_pastLaid {l : Launch} {G : va_G} {bs : Nat} {cy : Nat → ClassId} {I : CI} {L : CL} {R : CR} (σ : Row) (x : Nat) (f : Nat → Int32) (hs : I 68 = σ) (hi : Inv σ) (hx5 : x < 12) (hA : rowP I 76 (Yn σ) f) : MTi l G bs cy MX12_pastLaid 2 [.ref (bs + 67), .int (nI x)] I L R (fun r I1 L1 R1 => fstI (fun z => decide (σ (10 + 5 * x + 4) < f z)) (Yn σ) = r ∧ I = I1 ∧ L = L1 ∧ R = R1) := by
  refine MTi.of (own := RX12) pn_RX12 rfl (Nat.le_of_ble_eq_true rfl) ?_
  intro p e s m args below meth c Qf X hW hS fin ls hl
  have hx := X.1
  have hb := X.2.1
  have hR : RmOK (rmL 2 0 0) 2 := ⟨rfl, rfl⟩
  have hcs : 0 ≤ (rmL 2 0 0).cells ∧ 0 ≤ (rmL 2 0 0).slots := ⟨Nat.zero_le _, Nat.zero_le _⟩
  have hl : lv_has ls 3 [(0, .ref (bs + 67)), (1, .int (nI x))] := hl
  obtain ⟨hY, hY1, hY12, hLn, hL4, hSn, hS12, hGn, hG5⟩ := id hi
  refine n_iconst (a := 0) hx hb (dg D_X12_pastLaid (i := 0) rfl) rfl ?_
  refine lv_istore_n (lv' := [(2, .int (nI 0)), (0, .ref (bs + 67)), (1, .int (nI x))]) hx hb (dg D_X12_pastLaid (i := 1) rfl) rfl hl (by decide) rfl (fun ls hl => ?_)
  have loop2 := up_ind (P := fun y => ∀ (H : Heap) (locs : List Loc) (ls : Array Slot) (v2 : Int32), v2 = nI y → (∀ z, z < y → decide (σ (10 + 5 * x + 4) < f z) = false) → Wd G bs cy I L R H → va_S (Aq bs) s.heap H locs → lv_has ls 3 [(0, .ref (bs + 67)), (1, .int (nI x)), (2, .int v2)] → W p l e (rmL 2 0 0) s m args below meth c H locs 0 0 Qf (F0 m 2 ls [])) (Yn σ) (fun y hx2 ih2 => by
      intro H locs ls v2 q2 hn hW hS hl
      subst q2
      refine lv_iload_n hx hb (dg D_X12_pastLaid (i := 2) rfl) rfl (lv_at hl 2 rfl) ?_
      refine lv_aload_n hx hb (dg D_X12_pastLaid (i := 3) rfl) rfl (lv_at hl 0 rfl) ?_
      refine r_getc (t := 68) X hW FI_X12_7 rfl (by decide) rfl (dg D_X12_pastLaid (i := 4) rfl) ?_
      refine n_iconst (a := 0) hx hb (dg D_X12_pastLaid (i := 5) rfl) rfl ?_
      refine r_ald (j := 0) (v := nI (Yn σ)) X hW rfl (by decide) rfl (by omega) (by decide) ((congrFun hs _).trans hY) (dg D_X12_pastLaid (i := 6) rfl) ?_
      refine n_icmp_ge (tgt := 35) hx hb (by omega) (by omega) (dg D_X12_pastLaid (i := 7) rfl) (by decide) (fun c9 => ?_) (fun c9 => ?_)
      · refine r_ldc X CK_X12_28 (dg D_X12_pastLaid (i := 21) rfl) ?_
        exact fin (dg D_X12_pastLaid (i := 22) rfl) hW hS ⟨fstI_none (fun z hz => hn z (by omega)), rfl, rfl, rfl⟩
      · refine lv_aload_n hx hb (dg D_X12_pastLaid (i := 8) rfl) rfl (lv_at hl 0 rfl) ?_
        refine r_getc (t := 76) X hW FI_X12_40 rfl (by decide) rfl (dg D_X12_pastLaid (i := 9) rfl) ?_
        refine lv_iload_n hx hb (dg D_X12_pastLaid (i := 10) rfl) rfl (lv_at hl 2 rfl) ?_
        refine r_ald (j := y) (v := f y) X hW rfl (by decide) rfl (by omega) (by decide) (hA _ (by omega)) (dg D_X12_pastLaid (i := 11) rfl) ?_
        refine lv_aload_n hx hb (dg D_X12_pastLaid (i := 12) rfl) rfl (lv_at hl 0 rfl) ?_
        refine lv_iload_n hx hb (dg D_X12_pastLaid (i := 13) rfl) rfl (lv_at hl 1 rfl) ?_
        refine n_iconst (a := 4) hx hb (dg D_X12_pastLaid (i := 14) rfl) rfl ?_
        refine callVi X hW hS hR (c_X12_spanOf (I := I) σ x 4 (by first | assumption | omega | decide | exact hP.1) (by first | assumption | omega | decide | exact hP.1) (by first | assumption | omega | decide | exact hP.1)) (by decide) UVX12_spanOf LK_X12_224 rfl (by decide) rfl rfl rfl (Nat.le_of_ble_eq_true rfl) hl hcs (dg D_X12_pastLaid (i := 15) rfl) (fun r21 I21 L1 R1 H locs hq hW hS => ?_)
        obtain ⟨rfl, rfl, rfl, rfl⟩ := hq
        refine lv_icmp_le (tgt := 29) hx hb (dg D_X12_pastLaid (i := 16) rfl) (by decide) (fun c24 => ?_) (fun c24 => ?_)
        · refine lv_iinc (v := nI (y + 1)) (lv' := [(2, .int (nI (y + 1))), (0, .ref (bs + 67)), (1, .int (nI x))]) hx hb (dg D_X12_pastLaid (i := 19) rfl) hl (k := 2) rfl (nI_add _ _) (by decide) rfl (fun ls hl => ?_)
          refine lv_goto (tgt := 2) hx hb (dg D_X12_pastLaid (i := 20) rfl) (by decide) ?_
          exact ih2 (by omega) _ _ _ _ (congrArg nI (by omega)) (all_lt_succ hn (decide_eq_false (Int32.not_lt.mpr c24))) hW hS (lv_sub hl [1, 2, 0] rfl)
        · refine lv_iload_n hx hb (dg D_X12_pastLaid (i := 17) rfl) rfl (lv_at hl 2 rfl) ?_
          exact fin (dg D_X12_pastLaid (i := 18) rfl) hW hS ⟨fstI_hit (by omega) (decide_eq_true (Int32.not_le.mp c24)) hn, rfl, rfl, rfl⟩)
  exact loop2 0 (Nat.zero_le _) _ _ _ _ (congrArg nI (by omega)) (fun z hz => absurd hz (Nat.not_lt_zero z)) hW hS (lv_sub hl [1, 2, 0] rfl)

set_option maxHeartbeats 4000000 in
set_option maxRecDepth 100000 in
theorem c_X12_firstPast {l : Launch} {G : va_G} {bs : Nat} {cy : Nat → ClassId} {I : CI} {L : CL} {R : CR} (σ : Row) (x : Nat) (hs : I 68 = σ) (hi : Inv σ) (hx5 : x < 12) : MTi l G bs cy MX12_firstPast 4 [.ref (bs + 67), .int (nI x)] I L R (fun r I1 L1 R1 => fp σ x = r ∧ Fr SL I I1 ∧ rowP I1 75 (Yn σ) (fun z => (rgS σ x z).1) ∧ rowP I1 76 (Yn σ) (fun z => (rgS σ x (z + 1)).1) ∧ L = L1 ∧ R = R1) := by
  refine MTi.of (own := RX12) pn_RX12 rfl (Nat.le_of_ble_eq_true rfl) ?_
  intro p e s m args below meth c Qf X hW hS fin ls hl
  have hx := X.1
  have hb := X.2.1
  have hR : RmOK (rmL 4 0 0) 4 := ⟨rfl, rfl⟩
  have hcs : 0 ≤ (rmL 4 0 0).cells ∧ 0 ≤ (rmL 4 0 0).slots := ⟨Nat.zero_le _, Nat.zero_le _⟩
  have hl : lv_has ls 2 [(0, .ref (bs + 67)), (1, .int (nI x))] := hl
  have hF : Fr SL I I := Fr.rf
  refine lv_aload_n hx hb (dg D_X12_firstPast (i := 0) rfl) rfl (lv_at hl 0 rfl) ?_
  refine lv_iload_n hx hb (dg D_X12_firstPast (i := 1) rfl) rfl (lv_at hl 1 rfl) ?_
  refine callVv X hW hS hR (c_X12_lay (I := I) σ x (by first | assumption | omega | decide | exact hP.1) (by first | assumption | omega | decide | exact hP.1) (by first | assumption | omega | decide | exact hP.1)) (by decide) UVX12_lay LK_X12_243 rfl (by decide) rfl rfl rfl (Nat.le_of_ble_eq_true rfl) hl hcs (dg D_X12_firstPast (i := 2) rfl) (fun I2 L1 R1 H locs hq hW hS => ?_)
  obtain ⟨hT2, hp2_0, hp2_1, hp2_2, rfl, rfl⟩ := hq
  have hF : Fr SL I I2 := Fr.tr hF hT2 (fun _ _ h => h)
  have hs : I2 68 = σ := by rw [Fr.row hT2 (fun _ => rfl)]; exact hs
  refine lv_aload_n hx hb (dg D_X12_firstPast (i := 3) rfl) rfl (lv_at hl 0 rfl) ?_
  refine lv_iload_n hx hb (dg D_X12_firstPast (i := 4) rfl) rfl (lv_at hl 1 rfl) ?_
  refine callVi X hW hS hR (c_X12_pastLaid (I := I2) σ x (fun z => (rgS σ x (z + 1)).1) (by first | assumption | omega | decide | exact hP.1) (by first | assumption | omega | decide | exact hP.1) (by first | assumption | omega | decide | exact hP.1) (hp2_2)) (by decide) UVX12_pastLaid LK_X12_246 rfl (by decide) rfl rfl rfl (Nat.le_of_ble_eq_true rfl) hl hcs (dg D_X12_firstPast (i := 5) rfl) (fun r7 I7 L1 R1 H locs hq hW hS => ?_)
  obtain ⟨rfl, rfl, rfl, rfl⟩ := hq
  exact fin (dg D_X12_firstPast (i := 6) rfl) hW hS ⟨rfl, hF, hp2_0, hp2_2, rfl, rfl⟩

set_option maxHeartbeats 4000000 in
set_option maxRecDepth 100000 in
theorem c_X12_pastBy {l : Launch} {G : va_G} {bs : Nat} {cy : Nat → ClassId} {I : CI} {L : CL} {R : CR} (σ : Row) (x : Nat) (v : Int32) (hs : I 68 = σ) (hi : Inv σ) (hx5 : x < 12) : MTi l G bs cy MX12_pastBy 3 [.ref (bs + 67), .int (nI x), .int v] I L R (fun r I1 L1 R1 => fpB σ x (bitB v) = r ∧ Fr SL I I1 ∧ L = L1 ∧ R = R1) := by
  refine MTi.of (own := RX12) pn_RX12 rfl (Nat.le_of_ble_eq_true rfl) ?_
  intro p e s m args below meth c Qf X hW hS fin ls hl
  have hx := X.1
  have hb := X.2.1
  have hR : RmOK (rmL 3 0 0) 3 := ⟨rfl, rfl⟩
  have hcs : 0 ≤ (rmL 3 0 0).cells ∧ 0 ≤ (rmL 3 0 0).slots := ⟨Nat.zero_le _, Nat.zero_le _⟩
  have hl : lv_has ls 3 [(0, .ref (bs + 67)), (1, .int (nI x)), (2, .int v)] := hl
  have hF : Fr SL I I := Fr.rf
  refine lv_aload_n hx hb (dg D_X12_pastBy (i := 0) rfl) rfl (lv_at hl 0 rfl) ?_
  refine lv_iload_n hx hb (dg D_X12_pastBy (i := 1) rfl) rfl (lv_at hl 1 rfl) ?_
  refine lv_iload_n hx hb (dg D_X12_pastBy (i := 2) rfl) rfl (lv_at hl 2 rfl) ?_
  refine callVv X hW hS hR (c_X12_layBy (I := I) σ x v (by first | assumption | omega | decide | exact hP.1) (by first | assumption | omega | decide | exact hP.1) (by first | assumption | omega | decide | exact hP.1)) (by decide) UVX12_layBy LK_X12_239 rfl (by decide) rfl rfl rfl (Nat.le_of_ble_eq_true rfl) hl hcs (dg D_X12_pastBy (i := 3) rfl) (fun I3 L1 R1 H locs hq hW hS => ?_)
  obtain ⟨hT3, hp3_0, hp3_1, hp3_2, rfl, rfl⟩ := hq
  have hF : Fr SL I I3 := Fr.tr hF hT3 (fun _ _ h => h)
  have hs : I3 68 = σ := by rw [Fr.row hT3 (fun _ => rfl)]; exact hs
  refine lv_aload_n hx hb (dg D_X12_pastBy (i := 4) rfl) rfl (lv_at hl 0 rfl) ?_
  refine lv_iload_n hx hb (dg D_X12_pastBy (i := 5) rfl) rfl (lv_at hl 1 rfl) ?_
  refine callVi X hW hS hR (c_X12_pastLaid (I := I3) σ x (fun z => (rgB σ x (bitB v) (z + 1)).1) (by first | assumption | omega | decide | exact hP.1) (by first | assumption | omega | decide | exact hP.1) (by first | assumption | omega | decide | exact hP.1) (hp3_2)) (by decide) UVX12_pastLaid LK_X12_246 rfl (by decide) rfl rfl rfl (Nat.le_of_ble_eq_true rfl) hl hcs (dg D_X12_pastBy (i := 6) rfl) (fun r8 I8 L1 R1 H locs hq hW hS => ?_)
  obtain ⟨rfl, rfl, rfl, rfl⟩ := hq
  exact fin (dg D_X12_pastBy (i := 7) rfl) hW hS ⟨rfl, hF, rfl, rfl⟩

set_option maxHeartbeats 4000000 in
set_option maxRecDepth 100000 in
theorem c_X12_countPast {l : Launch} {G : va_G} {bs : Nat} {cy : Nat → ClassId} {I : CI} {L : CL} {R : CR} (σ : Row) (hs : I 68 = σ) (hi : Inv σ) : MTi l G bs cy MX12_countPast 5 [.ref (bs + 67)] I L R (fun r I1 L1 R1 => cntP σ = r ∧ Fr SL I I1 ∧ L = L1 ∧ R = R1) := by
  refine MTi.of (own := RX12) pn_RX12 rfl (Nat.le_of_ble_eq_true rfl) ?_
  intro p e s m args below meth c Qf X hW hS fin ls hl
  have hx := X.1
  have hb := X.2.1
  have hR : RmOK (rmL 5 0 0) 5 := ⟨rfl, rfl⟩
  have hcs : 0 ≤ (rmL 5 0 0).cells ∧ 0 ≤ (rmL 5 0 0).slots := ⟨Nat.zero_le _, Nat.zero_le _⟩
  have hl : lv_has ls 3 [(0, .ref (bs + 67))] := hl
  have hF : Fr SL I I := Fr.rf
  obtain ⟨hY, hY1, hY12, hLn, hL4, hSn, hS12, hGn, hG5⟩ := id hi
  refine n_iconst (a := 0) hx hb (dg D_X12_countPast (i := 0) rfl) rfl ?_
  refine lv_istore_n (lv' := [(1, .int (nI 0)), (0, .ref (bs + 67))]) hx hb (dg D_X12_countPast (i := 1) rfl) rfl hl (by decide) rfl (fun ls hl => ?_)
  refine n_iconst (a := 0) hx hb (dg D_X12_countPast (i := 2) rfl) rfl ?_
  refine lv_istore_n (lv' := [(2, .int (nI 0)), (1, .int (nI 0)), (0, .ref (bs + 67))]) hx hb (dg D_X12_countPast (i := 3) rfl) rfl hl (by decide) rfl (fun ls hl => ?_)
  have loop4 := up_ind (P := fun x => ∀ (K4 : CI) (H : Heap) (locs : List Loc) (ls : Array Slot) (v1 : Int32) (v2 : Int32), v1 = sumT (fun x => if fp σ x = NOTF then nI 0 else nI 1) x → v2 = nI x → (Fr SL I K4) → (K4 68 = σ) → Wd G bs cy K4 L R H → va_S (Aq bs) s.heap H locs → lv_has ls 3 [(0, .ref (bs + 67)), (1, .int v1), (2, .int v2)] → W p l e (rmL 5 0 0) s m args below meth c H locs 0 0 Qf (F0 m 4 ls [])) (nS σ) (fun x hx4 ih4 => by
      intro K4 H locs ls v1 v2 q1 q2 hF hs hW hS hl
      subst q1
      subst q2
      refine lv_iload_n hx hb (dg D_X12_countPast (i := 4) rfl) rfl (lv_at hl 2 rfl) ?_
      refine lv_aload_n hx hb (dg D_X12_countPast (i := 5) rfl) rfl (lv_at hl 0 rfl) ?_
      refine r_getc (t := 68) X hW FI_X12_7 rfl (by decide) rfl (dg D_X12_countPast (i := 6) rfl) ?_
      refine n_iconst (a := 4) hx hb (dg D_X12_countPast (i := 7) rfl) rfl ?_
      refine r_ald (j := 4) (v := nI (nS σ)) X hW rfl (by decide) rfl (by omega) (by decide) ((congrFun hs _).trans hSn) (dg D_X12_countPast (i := 8) rfl) ?_
      refine n_icmp_ge (tgt := 38) hx hb (by omega) (by omega) (dg D_X12_countPast (i := 9) rfl) (by decide) (fun c11 => ?_) (fun c11 => ?_)
      · refine lv_iload_n hx hb (dg D_X12_countPast (i := 23) rfl) rfl (lv_at hl 1 rfl) ?_
        exact fin (dg D_X12_countPast (i := 24) rfl) hW hS ⟨by rw [show x = nS σ by omega]; rfl, hF, rfl, rfl⟩
      · refine lv_iload_n hx hb (dg D_X12_countPast (i := 10) rfl) rfl (lv_at hl 1 rfl) ?_
        refine lv_aload_n hx hb (dg D_X12_countPast (i := 11) rfl) rfl (lv_at hl 0 rfl) ?_
        refine lv_iload_n hx hb (dg D_X12_countPast (i := 12) rfl) rfl (lv_at hl 2 rfl) ?_
        refine callVi X hW hS hR (c_X12_firstPast (I := K4) σ x (by first | assumption | omega | decide | exact hP.1) (by first | assumption | omega | decide | exact hP.1) (by first | assumption | omega | decide | exact hP.1)) (by decide) UVX12_firstPast LK_X12_249 rfl (by decide) rfl rfl rfl (Nat.le_of_ble_eq_true rfl) hl hcs (dg D_X12_countPast (i := 13) rfl) (fun r17 I17 L1 R1 H locs hq hW hS => ?_)
        obtain ⟨rfl, hT17, hp17_0, hp17_1, rfl, rfl⟩ := hq
        have hF : Fr SL I I17 := Fr.tr hF hT17 (fun _ _ h => h)
        have hs : I17 68 = σ := by rw [Fr.row hT17 (fun _ => rfl)]; exact hs
        refine r_ldc X CK_X12_28 (dg D_X12_countPast (i := 14) rfl) ?_
        refine lv_icmp_eq (tgt := 29) hx hb (dg D_X12_countPast (i := 15) rfl) (by decide) (fun c22 => ?_) (fun c22 => ?_)
        · refine n_iconst (a := 0) hx hb (dg D_X12_countPast (i := 18) rfl) rfl ?_
          refine lv_iadd hx hb (dg D_X12_countPast (i := 19) rfl) ?_
          refine lv_istore_n (lv' := [(1, .int ((sumT (fun x => if fp σ x = NOTF then nI 0 else nI 1) x) + (nI 0))), (0, .ref (bs + 67)), (2, .int (nI x))]) hx hb (dg D_X12_countPast (i := 20) rfl) rfl hl (by decide) rfl (fun ls hl => ?_)
          refine lv_iinc (v := nI (x + 1)) (lv' := [(2, .int (nI (x + 1))), (1, .int ((sumT (fun x => if fp σ x = NOTF then nI 0 else nI 1) x) + (nI 0))), (0, .ref (bs + 67))]) hx hb (dg D_X12_countPast (i := 21) rfl) hl (k := 2) rfl (nI_add _ _) (by decide) rfl (fun ls hl => ?_)
          refine lv_goto (tgt := 4) hx hb (dg D_X12_countPast (i := 22) rfl) (by decide) ?_
          exact ih4 (by omega) I17 _ _ _ _ _ (by show _ = _ + (if fp σ x = NOTF then nI 0 else nI 1); first | rw [if_pos c22] | rw [if_neg c22]) (congrArg nI (by omega)) hF hs hW hS (lv_sub hl [2, 1, 0] rfl)
        · refine n_iconst (a := 1) hx hb (dg D_X12_countPast (i := 16) rfl) rfl ?_
          refine lv_goto (tgt := 30) hx hb (dg D_X12_countPast (i := 17) rfl) (by decide) ?_
          refine lv_iadd hx hb (dg D_X12_countPast (i := 19) rfl) ?_
          refine lv_istore_n (lv' := [(1, .int ((sumT (fun x => if fp σ x = NOTF then nI 0 else nI 1) x) + (nI 1))), (0, .ref (bs + 67)), (2, .int (nI x))]) hx hb (dg D_X12_countPast (i := 20) rfl) rfl hl (by decide) rfl (fun ls hl => ?_)
          refine lv_iinc (v := nI (x + 1)) (lv' := [(2, .int (nI (x + 1))), (1, .int ((sumT (fun x => if fp σ x = NOTF then nI 0 else nI 1) x) + (nI 1))), (0, .ref (bs + 67))]) hx hb (dg D_X12_countPast (i := 21) rfl) hl (k := 2) rfl (nI_add _ _) (by decide) rfl (fun ls hl => ?_)
          refine lv_goto (tgt := 4) hx hb (dg D_X12_countPast (i := 22) rfl) (by decide) ?_
          exact ih4 (by omega) I17 _ _ _ _ _ (by show _ = _ + (if fp σ x = NOTF then nI 0 else nI 1); first | rw [if_pos c22] | rw [if_neg c22]) (congrArg nI (by omega)) hF hs hW hS (lv_sub hl [2, 1, 0] rfl))
  exact loop4 0 (Nat.zero_le _) I _ _ _ _ _ (rfl) (congrArg nI (by omega)) hF hs hW hS (lv_sub hl [2, 1, 0] rfl)

