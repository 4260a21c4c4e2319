set_option maxHeartbeats 4000000 in
set_option maxRecDepth 100000 in
theorem c_X12_byteAt {l : Launch} {G : va_G} {bs : Nat} {cy : Nat → ClassId} {I : CI} {L : CL} {R : CR} (b : Nat → Int32) (n : Nat) (q : Nat) (hb3 : I 73 = b) (hln : I 67 11 = nI n) (hn : n ≤ 900) (hq9 : q ≤ 2000) : MTi l G bs cy MX12_byteAt 1 [.ref (bs + 67), .int (nI q)] I L R (fun r I1 L1 R1 => bA b n q = r ∧ I = I1 ∧ L = L1 ∧ R = R1) := by
  refine MTi.of (own := RX12) pn_RX12 rfl (Nat.le_of_ble_eq_true rfl) ?_
  intro p e s m args below meth c Qf X hW hS fin ls hl
  have hx := X.1
  have hb := X.2.1
  have hR : RmOK (rmL 1 0 0) 1 := ⟨rfl, rfl⟩
  have hcs : 0 ≤ (rmL 1 0 0).cells ∧ 0 ≤ (rmL 1 0 0).slots := ⟨Nat.zero_le _, Nat.zero_le _⟩
  have hl : lv_has ls 2 [(0, .ref (bs + 67)), (1, .int (nI q))] := hl
  refine lv_iload_n hx hb (dg D_X12_byteAt (i := 0) rfl) rfl (lv_at hl 1 rfl) ?_
  refine lv_aload_n hx hb (dg D_X12_byteAt (i := 1) rfl) rfl (lv_at hl 0 rfl) ?_
  refine r_geti (v := nI n) X hW FI_X12_107 rfl (by decide) rfl hln (dg D_X12_byteAt (i := 2) rfl) ?_
  refine n_icmp_ge (tgt := 17) hx hb (by omega) (by omega) (dg D_X12_byteAt (i := 3) rfl) (by decide) (fun c5 => ?_) (fun c5 => ?_)
  · refine lv_iconst (v := -1) hx hb (dg D_X12_byteAt (i := 9) rfl) (by decide) ?_
    exact fin (dg D_X12_byteAt (i := 10) rfl) hW hS ⟨bA_out (by omega), rfl, rfl, rfl⟩
  · refine lv_aload_n hx hb (dg D_X12_byteAt (i := 4) rfl) rfl (lv_at hl 0 rfl) ?_
    refine r_getc (t := 73) X hW FI_X12_25 rfl (by decide) rfl (dg D_X12_byteAt (i := 5) rfl) ?_
    refine lv_iload_n hx hb (dg D_X12_byteAt (i := 6) rfl) rfl (lv_at hl 1 rfl) ?_
    refine r_ald (j := q) (v := b q) X hW rfl (by decide) rfl (by omega) (by decide) (congrFun hb3 _) (dg D_X12_byteAt (i := 7) rfl) ?_
    refine lv_goto (tgt := 18) hx hb (dg D_X12_byteAt (i := 8) rfl) (by decide) ?_
    exact fin (dg D_X12_byteAt (i := 10) rfl) hW hS ⟨bA_in (by omega), rfl, rfl, rfl⟩

set_option maxHeartbeats 4000000 in
set_option maxRecDepth 100000 in
theorem c_X12_isLetter {l : Launch} {G : va_G} {bs : Nat} {cy : Nat → ClassId} {I : CI} {L : CL} {R : CR} (v : Int32) : MTi l G bs cy MX12_isLetter 1 [.int v] I L R (fun r I1 L1 R1 => bI (isL v) = r ∧ I = I1 ∧ L = L1 ∧ R = R1) := by
  refine MTz.of (own := RX12) pn_RX12 rfl (Nat.le_of_ble_eq_true rfl) ?_
  intro p e s m args below meth c Qf X hW hS fin ls hl
  have hx := X.1
  have hb := X.2.1
  have hR : RmOK (rmL 1 0 0) 1 := ⟨rfl, rfl⟩
  have hcs : 0 ≤ (rmL 1 0 0).cells ∧ 0 ≤ (rmL 1 0 0).slots := ⟨Nat.zero_le _, Nat.zero_le _⟩
  have hl : lv_has ls 1 [(0, .int v)] := hl
  refine lv_iload_n hx hb (dg D_X12_isLetter (i := 0) rfl) rfl (lv_at hl 0 rfl) ?_
  refine lv_bipush (v := nI 97) hx hb (dg D_X12_isLetter (i := 1) rfl) (by decide) ?_
  refine lv_icmp_lt (tgt := 16) hx hb (dg D_X12_isLetter (i := 2) rfl) (by decide) (fun c3 => ?_) (fun c3 => ?_)
  · refine n_iconst (a := 0) hx hb (dg D_X12_isLetter (i := 8) rfl) rfl ?_
    exact fin (dg D_X12_isLetter (i := 9) rfl) hW hS (show _ = bI false from rfl) ⟨(congrArg bI (decide_eq_false (fun z => Int32.not_lt.mpr z.1 c3))), rfl, rfl, rfl⟩
  · refine lv_iload_n hx hb (dg D_X12_isLetter (i := 3) rfl) rfl (lv_at hl 0 rfl) ?_
    refine lv_bipush (v := nI 122) hx hb (dg D_X12_isLetter (i := 4) rfl) (by decide) ?_
    refine lv_icmp_gt (tgt := 16) hx hb (dg D_X12_isLetter (i := 5) rfl) (by decide) (fun c9 => ?_) (fun c9 => ?_)
    · refine n_iconst (a := 0) hx hb (dg D_X12_isLetter (i := 8) rfl) rfl ?_
      exact fin (dg D_X12_isLetter (i := 9) rfl) hW hS (show _ = bI false from rfl) ⟨(congrArg bI (decide_eq_false (fun z => Int32.not_lt.mpr z.2 c9))), rfl, rfl, rfl⟩
    · refine n_iconst (a := 1) hx hb (dg D_X12_isLetter (i := 6) rfl) rfl ?_
      refine lv_goto (tgt := 17) hx hb (dg D_X12_isLetter (i := 7) rfl) (by decide) ?_
      exact fin (dg D_X12_isLetter (i := 9) rfl) hW hS (show _ = bI true from rfl) ⟨(congrArg bI (decide_eq_true (And.intro (Int32.not_lt.mp c3) (Int32.not_lt.mp c9)))), rfl, rfl, rfl⟩

set_option maxHeartbeats 4000000 in
set_option maxRecDepth 100000 in
theorem c_X12_isDigit {l : Launch} {G : va_G} {bs : Nat} {cy : Nat → ClassId} {I : CI} {L : CL} {R : CR} (v : Int32) : MTi l G bs cy MX12_isDigit 1 [.int v] I L R (fun r I1 L1 R1 => bI (isDg v) = r ∧ I = I1 ∧ L = L1 ∧ R = R1) := by
  refine MTz.of (own := RX12) pn_RX12 rfl (Nat.le_of_ble_eq_true rfl) ?_
  intro p e s m args below meth c Qf X hW hS fin ls hl
  have hx := X.1
  have hb := X.2.1
  have hR : RmOK (rmL 1 0 0) 1 := ⟨rfl, rfl⟩
  have hcs : 0 ≤ (rmL 1 0 0).cells ∧ 0 ≤ (rmL 1 0 0).slots := ⟨Nat.zero_le _, Nat.zero_le _⟩
  have hl : lv_has ls 1 [(0, .int v)] := hl
  refine lv_iload_n hx hb (dg D_X12_isDigit (i := 0) rfl) rfl (lv_at hl 0 rfl) ?_
  refine lv_bipush (v := nI 48) hx hb (dg D_X12_isDigit (i := 1) rfl) (by decide) ?_
  refine lv_icmp_lt (tgt := 16) hx hb (dg D_X12_isDigit (i := 2) rfl) (by decide) (fun c3 => ?_) (fun c3 => ?_)
  · refine n_iconst (a := 0) hx hb (dg D_X12_isDigit (i := 8) rfl) rfl ?_
    exact fin (dg D_X12_isDigit (i := 9) rfl) hW hS (show _ = bI false from rfl) ⟨(congrArg bI (decide_eq_false (fun z => Int32.not_lt.mpr z.1 c3))), rfl, rfl, rfl⟩
  · refine lv_iload_n hx hb (dg D_X12_isDigit (i := 3) rfl) rfl (lv_at hl 0 rfl) ?_
    refine lv_bipush (v := nI 57) hx hb (dg D_X12_isDigit (i := 4) rfl) (by decide) ?_
    refine lv_icmp_gt (tgt := 16) hx hb (dg D_X12_isDigit (i := 5) rfl) (by decide) (fun c9 => ?_) (fun c9 => ?_)
    · refine n_iconst (a := 0) hx hb (dg D_X12_isDigit (i := 8) rfl) rfl ?_
      exact fin (dg D_X12_isDigit (i := 9) rfl) hW hS (show _ = bI false from rfl) ⟨(congrArg bI (decide_eq_false (fun z => Int32.not_lt.mpr z.2 c9))), rfl, rfl, rfl⟩
    · refine n_iconst (a := 1) hx hb (dg D_X12_isDigit (i := 6) rfl) rfl ?_
      refine lv_goto (tgt := 17) hx hb (dg D_X12_isDigit (i := 7) rfl) (by decide) ?_
      exact fin (dg D_X12_isDigit (i := 9) rfl) hW hS (show _ = bI true from rfl) ⟨(congrArg bI (decide_eq_true (And.intro (Int32.not_lt.mp c3) (Int32.not_lt.mp c9)))), rfl, rfl, rfl⟩

set_option maxHeartbeats 4000000 in
set_option maxRecDepth 100000 in
theorem c_X12_isName {l : Launch} {G : va_G} {bs : Nat} {cy : Nat → ClassId} {I : CI} {L : CL} {R : CR} (tk : Int32) (kw : Int32) (htk : I 67 14 = tk) (hkw : I 67 15 = kw) : MTi l G bs cy MX12_isName 1 [.ref (bs + 67)] I L R (fun r I1 L1 R1 => bI (decide (tk = nI 2 ∧ kw = -1)) = r ∧ I = I1 ∧ L = L1 ∧ R = R1) := by
  refine MTz.of (own := RX12) pn_RX12 rfl (Nat.le_of_ble_eq_true rfl) ?_
  intro p e s m args below meth c Qf X hW hS fin ls hl
  have hx := X.1
  have hb := X.2.1
  have hR : RmOK (rmL 1 0 0) 1 := ⟨rfl, rfl⟩
  have hcs : 0 ≤ (rmL 1 0 0).cells ∧ 0 ≤ (rmL 1 0 0).slots := ⟨Nat.zero_le _, Nat.zero_le _⟩
  have hl : lv_has ls 1 [(0, .ref (bs + 67))] := hl
  refine lv_aload_n hx hb (dg D_X12_isName (i := 0) rfl) rfl (lv_at hl 0 rfl) ?_
  refine r_geti (v := tk) X hW FI_X12_123 rfl (by decide) rfl htk (dg D_X12_isName (i := 1) rfl) ?_
  refine n_iconst (a := 2) hx hb (dg D_X12_isName (i := 2) rfl) rfl ?_
  refine lv_icmp_ne (tgt := 20) hx hb (dg D_X12_isName (i := 3) rfl) (by decide) (fun c5 => ?_) (fun c5 => ?_)
  · refine n_iconst (a := 0) hx hb (dg D_X12_isName (i := 10) rfl) rfl ?_
    exact fin (dg D_X12_isName (i := 11) rfl) hW hS (show _ = bI false from rfl) ⟨(congrArg bI (decide_eq_false (fun z => c5 z.1))), rfl, rfl, rfl⟩
  · refine lv_aload_n hx hb (dg D_X12_isName (i := 4) rfl) rfl (lv_at hl 0 rfl) ?_
    refine r_geti (v := kw) X hW FI_X12_120 rfl (by decide) rfl hkw (dg D_X12_isName (i := 5) rfl) ?_
    refine lv_iconst (v := -1) hx hb (dg D_X12_isName (i := 6) rfl) (by decide) ?_
    refine lv_icmp_ne (tgt := 20) hx hb (dg D_X12_isName (i := 7) rfl) (by decide) (fun c13 => ?_) (fun c13 => ?_)
    · refine n_iconst (a := 0) hx hb (dg D_X12_isName (i := 10) rfl) rfl ?_
      exact fin (dg D_X12_isName (i := 11) rfl) hW hS (show _ = bI false from rfl) ⟨(congrArg bI (decide_eq_false (fun z => c13 z.2))), rfl, rfl, rfl⟩
    · refine n_iconst (a := 1) hx hb (dg D_X12_isName (i := 8) rfl) rfl ?_
      refine lv_goto (tgt := 21) hx hb (dg D_X12_isName (i := 9) rfl) (by decide) ?_
      exact fin (dg D_X12_isName (i := 11) rfl) hW hS (show _ = bI true from rfl) ⟨(congrArg bI (decide_eq_true (And.intro c5 c13))), rfl, rfl, rfl⟩

set_option maxHeartbeats 4000000 in
set_option maxRecDepth 100000 in
theorem c_X12_fail {l : Launch} {G : va_G} {bs : Nat} {cy : Nat → ClassId} {I : CI} {L : CL} {R : CR} (w : Int32) (tk : Int32) (sp : Int32) (htk : I 67 14 = tk) (hsp : I 67 12 = sp) : MTi l G bs cy MX12_fail 1 [.ref (bs + 67), .int w] I L R (fun r I1 L1 R1 => bI false = r ∧ Fr SFl I I1 ∧ I1 67 17 = (if tk = nI 1 then nI 1 else w) ∧ I1 67 18 = sp ∧ L = L1 ∧ R = R1) := by
  refine MTz.of (own := RX12) pn_RX12 rfl (Nat.le_of_ble_eq_true rfl) ?_
  intro p e s m args below meth c Qf X hW hS fin ls hl
  have hx := X.1
  have hb := X.2.1
  have hR : RmOK (rmL 1 0 0) 1 := ⟨rfl, rfl⟩
  have hcs : 0 ≤ (rmL 1 0 0).cells ∧ 0 ≤ (rmL 1 0 0).slots := ⟨Nat.zero_le _, Nat.zero_le _⟩
  have hl : lv_has ls 2 [(0, .ref (bs + 67)), (1, .int w)] := hl
  have hF : Fr SFl I I := Fr.rf
  refine lv_aload_n hx hb (dg D_X12_fail (i := 0) rfl) rfl (lv_at hl 0 rfl) ?_
  refine lv_aload_n hx hb (dg D_X12_fail (i := 1) rfl) rfl (lv_at hl 0 rfl) ?_
  refine r_geti (v := tk) X hW FI_X12_123 rfl (by decide) rfl htk (dg D_X12_fail (i := 2) rfl) ?_
  refine n_iconst (a := 1) hx hb (dg D_X12_fail (i := 3) rfl) rfl ?_
  refine lv_icmp_ne (tgt := 13) hx hb (dg D_X12_fail (i := 4) rfl) (by decide) (fun c6 => ?_) (fun c6 => ?_)
  · refine lv_iload_n hx hb (dg D_X12_fail (i := 7) rfl) rfl (lv_at hl 1 rfl) ?_
    refine r_puti (v := w) (ty := .int) X hW hS FI_X12_157 rfl (by decide) rfl rfl (by decide +kernel) rfl rfl (dg D_X12_fail (i := 8) rfl) (fun H locs hW hS => ?_)
    have hF : Fr SFl I (u2 I 67 17 w) := Fr.put hF rfl
    obtain ⟨J14, eJ14⟩ : ∃ J, J = u2 I 67 17 w := ⟨_, rfl⟩
    rw [← eJ14] at hW hF
    have htk : J14 67 14 = tk := by rw [eJ14, u2_off (Or.inr (by decide))]; exact htk
    have hsp : J14 67 12 = sp := by rw [eJ14, u2_off (Or.inr (by decide))]; exact hsp
    have hki : J14 67 17 = w := by rw [eJ14]; exact u2_at
    refine lv_aload_n hx hb (dg D_X12_fail (i := 9) rfl) rfl (lv_at hl 0 rfl) ?_
    refine lv_aload_n hx hb (dg D_X12_fail (i := 10) rfl) rfl (lv_at hl 0 rfl) ?_
    refine r_geti (v := sp) X hW FI_X12_117 rfl (by decide) rfl hsp (dg D_X12_fail (i := 11) rfl) ?_
    refine r_puti (v := sp) (ty := .int) X hW hS FI_X12_160 rfl (by decide) rfl rfl (by decide +kernel) rfl rfl (dg D_X12_fail (i := 12) rfl) (fun H locs hW hS => ?_)
    have hF : Fr SFl I (u2 J14 67 18 sp) := Fr.put hF rfl
    obtain ⟨J22, eJ22⟩ : ∃ J, J = u2 J14 67 18 sp := ⟨_, rfl⟩
    rw [← eJ22] at hW hF
    have htk : J22 67 14 = tk := by rw [eJ22, u2_off (Or.inr (by decide))]; exact htk
    have hsp : J22 67 12 = sp := by rw [eJ22, u2_off (Or.inr (by decide))]; exact hsp
    have hki : J22 67 17 = w := by rw [eJ22, u2_off (Or.inr (by decide))]; exact hki
    have hpo : J22 67 18 = sp := by rw [eJ22]; exact u2_at
    refine n_iconst (a := 0) hx hb (dg D_X12_fail (i := 13) rfl) rfl ?_
    exact fin (dg D_X12_fail (i := 14) rfl) hW hS (show _ = bI false from rfl) ⟨rfl, hF, by rw [hki]; exact (if_neg c6).symm, hpo, rfl, rfl⟩
  · refine n_iconst (a := 1) hx hb (dg D_X12_fail (i := 5) rfl) rfl ?_
    refine lv_goto (tgt := 14) hx hb (dg D_X12_fail (i := 6) rfl) (by decide) ?_
    refine r_puti (v := nI 1) (ty := .int) X hW hS FI_X12_157 rfl (by decide) rfl rfl (by decide +kernel) rfl rfl (dg D_X12_fail (i := 8) rfl) (fun H locs hW hS => ?_)
    have hF : Fr SFl I (u2 I 67 17 (nI 1)) := Fr.put hF rfl
    obtain ⟨J14, eJ14⟩ : ∃ J, J = u2 I 67 17 (nI 1) := ⟨_, rfl⟩
    rw [← eJ14] at hW hF
    have htk : J14 67 14 = tk := by rw [eJ14, u2_off (Or.inr (by decide))]; exact htk
    have hsp : J14 67 12 = sp := by rw [eJ14, u2_off (Or.inr (by decide))]; exact hsp
    have hki : J14 67 17 = nI 1 := by rw [eJ14]; exact u2_at
    refine lv_aload_n hx hb (dg D_X12_fail (i := 9) rfl) rfl (lv_at hl 0 rfl) ?_
    refine lv_aload_n hx hb (dg D_X12_fail (i := 10) rfl) rfl (lv_at hl 0 rfl) ?_
    refine r_geti (v := sp) X hW FI_X12_117 rfl (by decide) rfl hsp (dg D_X12_fail (i := 11) rfl) ?_
    refine r_puti (v := sp) (ty := .int) X hW hS FI_X12_160 rfl (by decide) rfl rfl (by decide +kernel) rfl rfl (dg D_X12_fail (i := 12) rfl) (fun H locs hW hS => ?_)
    have hF : Fr SFl I (u2 J14 67 18 sp) := Fr.put hF rfl
    obtain ⟨J22, eJ22⟩ : ∃ J, J = u2 J14 67 18 sp := ⟨_, rfl⟩
    rw [← eJ22] at hW hF
    have htk : J22 67 14 = tk := by rw [eJ22, u2_off (Or.inr (by decide))]; exact htk
    have hsp : J22 67 12 = sp := by rw [eJ22, u2_off (Or.inr (by decide))]; exact hsp
    have hki : J22 67 17 = nI 1 := by rw [eJ22, u2_off (Or.inr (by decide))]; exact hki
    have hpo : J22 67 18 = sp := by rw [eJ22]; exact u2_at
    refine n_iconst (a := 0) hx hb (dg D_X12_fail (i := 13) rfl) rfl ?_
    exact fin (dg D_X12_fail (i := 14) rfl) hW hS (show _ = bI false from rfl) ⟨rfl, hF, by rw [hki]; exact (if_pos c6).symm, hpo, rfl, rfl⟩

