set_option maxHeartbeats 4000000 in
set_option maxRecDepth 100000 in
theorem c_X11_checkYear {l : Launch} {G : va_G} {bs : Nat} {cy : Nat → ClassId} {I : CI} {L : CL} {R : CR} (σ : Row) (β : Nat) (v : Int32) (hi : Inv σ) (hl0 : l.stackTraces = false) (hβ : isBr β) (hB : BrAt I β σ) (hR7 : R 0 7 = β) : XTv l G bs cy MX11_checkYear 6 [.ref (bs + 0), .int v] I L R (fun I1 L1 R1 => (inB v (Yn σ) = true) ∧ I = I1 ∧ L = L1 ∧ R = R1) (fun E => E = IOE ∧ inB v (Yn σ) = false) 1 6 := by
  refine XTv.of (own := RX11) pn_RX11 rfl (Nat.le_of_ble_eq_true rfl) ?_
  intro p e s m args below meth c Qc Qf X hW hS htab hlk hQf fin ls hl
  have hx := X.1
  have hb := X.2.1
  have hR : RmOK (rmL 6 1 6) 6 := ⟨rfl, rfl⟩
  have hcs : 0 ≤ (rmL 6 1 6).cells ∧ 0 ≤ (rmL 6 1 6).slots := ⟨Nat.zero_le _, Nat.zero_le _⟩
  have hl : lv_has ls 2 [(0, .ref (bs + 0)), (1, .int v)] := hl
  obtain ⟨hY, hY1, hY12, hLn, hL4, hSn, hS12, hGn, hG5⟩ := id hi
  refine lv_iload_n hx hb (dg D_X11_checkYear (i := 0) rfl) rfl (lv_at hl 1 rfl) ?_
  refine lv_if_lt (tgt := 15) hx hb (dg D_X11_checkYear (i := 1) rfl) (by decide) (fun c1 => ?_) (fun c1 => ?_)
  · exact r_th0W X hl0 htab hlk hQf ⟨rfl, inB_lo c1⟩ hW hS hR (Nat.le_of_ble_eq_true rfl) (List.mem_of_getElem? (i := 2) rfl) hl (Nat.le_of_ble_eq_true rfl) (Nat.le_of_ble_eq_true rfl) (Nat.le_of_ble_eq_true rfl) (Nat.le_of_ble_eq_true rfl) (Nat.le_of_ble_eq_true rfl) (dg D_X11_checkYear (i := 7) rfl) (dg D_X11_checkYear (i := 8) rfl) (dg D_X11_checkYear (i := 9) rfl) (dg D_X11_checkYear (i := 10) rfl) (dg D_X11_checkYear (i := 11) rfl)
  · refine lv_iload_n hx hb (dg D_X11_checkYear (i := 2) rfl) rfl (lv_at hl 1 rfl) ?_
    refine lv_aload_n hx hb (dg D_X11_checkYear (i := 3) rfl) rfl (lv_at hl 0 rfl) ?_
    refine r_getr (v := β) X hW FI_X11_67 rfl (by decide) rfl hR7 (dg D_X11_checkYear (i := 4) rfl) ?_
    refine rn_geti (v := nI (Yn σ)) X hW FN_X11_168 (shB hβ) (ncB0 hβ) rfl (hB.c0 hi) (dg D_X11_checkYear (i := 5) rfl) ?_
    refine lv_icmp_lt (tgt := 26) hx hb (dg D_X11_checkYear (i := 6) rfl) (by decide) (fun c12 => ?_) (fun c12 => ?_)
    · exact fin (dg D_X11_checkYear (i := 12) rfl) (Nat.le_of_ble_eq_true rfl) (Nat.le_of_ble_eq_true rfl) hW hS ⟨inB_ok c1 c12 (by omega), rfl, rfl, rfl⟩
    · exact r_th0W X hl0 htab hlk hQf ⟨rfl, inB_hi c12 (by omega)⟩ hW hS hR (Nat.le_of_ble_eq_true rfl) (List.mem_of_getElem? (i := 2) rfl) hl (Nat.le_of_ble_eq_true rfl) (Nat.le_of_ble_eq_true rfl) (Nat.le_of_ble_eq_true rfl) (Nat.le_of_ble_eq_true rfl) (Nat.le_of_ble_eq_true rfl) (dg D_X11_checkYear (i := 7) rfl) (dg D_X11_checkYear (i := 8) rfl) (dg D_X11_checkYear (i := 9) rfl) (dg D_X11_checkYear (i := 10) rfl) (dg D_X11_checkYear (i := 11) rfl)

set_option maxHeartbeats 4000000 in
set_option maxRecDepth 100000 in
theorem c_X11_checkSpan {l : Launch} {G : va_G} {bs : Nat} {cy : Nat → ClassId} {I : CI} {L : CL} {R : CR} (σ : Row) (β : Nat) (v : Int32) (hi : Inv σ) (hl0 : l.stackTraces = false) (hβ : isBr β) (hB : BrAt I β σ) (hR7 : R 0 7 = β) : XTv l G bs cy MX11_checkSpan 6 [.ref (bs + 0), .int v] I L R (fun I1 L1 R1 => (inB v (nS σ) = true) ∧ I = I1 ∧ L = L1 ∧ R = R1) (fun E => E = IOE ∧ inB v (nS σ) = false) 1 6 := by
  refine XTv.of (own := RX11) pn_RX11 rfl (Nat.le_of_ble_eq_true rfl) ?_
  intro p e s m args below meth c Qc Qf X hW hS htab hlk hQf fin ls hl
  have hx := X.1
  have hb := X.2.1
  have hR : RmOK (rmL 6 1 6) 6 := ⟨rfl, rfl⟩
  have hcs : 0 ≤ (rmL 6 1 6).cells ∧ 0 ≤ (rmL 6 1 6).slots := ⟨Nat.zero_le _, Nat.zero_le _⟩
  have hl : lv_has ls 2 [(0, .ref (bs + 0)), (1, .int v)] := hl
  obtain ⟨hY, hY1, hY12, hLn, hL4, hSn, hS12, hGn, hG5⟩ := id hi
  refine lv_iload_n hx hb (dg D_X11_checkSpan (i := 0) rfl) rfl (lv_at hl 1 rfl) ?_
  refine lv_if_lt (tgt := 15) hx hb (dg D_X11_checkSpan (i := 1) rfl) (by decide) (fun c1 => ?_) (fun c1 => ?_)
  · exact r_th0W X hl0 htab hlk hQf ⟨rfl, inB_lo c1⟩ hW hS hR (Nat.le_of_ble_eq_true rfl) (List.mem_of_getElem? (i := 1) rfl) hl (Nat.le_of_ble_eq_true rfl) (Nat.le_of_ble_eq_true rfl) (Nat.le_of_ble_eq_true rfl) (Nat.le_of_ble_eq_true rfl) (Nat.le_of_ble_eq_true rfl) (dg D_X11_checkSpan (i := 7) rfl) (dg D_X11_checkSpan (i := 8) rfl) (dg D_X11_checkSpan (i := 9) rfl) (dg D_X11_checkSpan (i := 10) rfl) (dg D_X11_checkSpan (i := 11) rfl)
  · refine lv_iload_n hx hb (dg D_X11_checkSpan (i := 2) rfl) rfl (lv_at hl 1 rfl) ?_
    refine lv_aload_n hx hb (dg D_X11_checkSpan (i := 3) rfl) rfl (lv_at hl 0 rfl) ?_
    refine r_getr (v := β) X hW FI_X11_67 rfl (by decide) rfl hR7 (dg D_X11_checkSpan (i := 4) rfl) ?_
    refine rn_geti (v := nI (nS σ)) X hW FN_X11_128 (shB hβ) (ncB0 hβ) rfl (hB.c4 hi) (dg D_X11_checkSpan (i := 5) rfl) ?_
    refine lv_icmp_lt (tgt := 26) hx hb (dg D_X11_checkSpan (i := 6) rfl) (by decide) (fun c12 => ?_) (fun c12 => ?_)
    · exact fin (dg D_X11_checkSpan (i := 12) rfl) (Nat.le_of_ble_eq_true rfl) (Nat.le_of_ble_eq_true rfl) hW hS ⟨inB_ok c1 c12 (by omega), rfl, rfl, rfl⟩
    · exact r_th0W X hl0 htab hlk hQf ⟨rfl, inB_hi c12 (by omega)⟩ hW hS hR (Nat.le_of_ble_eq_true rfl) (List.mem_of_getElem? (i := 1) rfl) hl (Nat.le_of_ble_eq_true rfl) (Nat.le_of_ble_eq_true rfl) (Nat.le_of_ble_eq_true rfl) (Nat.le_of_ble_eq_true rfl) (Nat.le_of_ble_eq_true rfl) (dg D_X11_checkSpan (i := 7) rfl) (dg D_X11_checkSpan (i := 8) rfl) (dg D_X11_checkSpan (i := 9) rfl) (dg D_X11_checkSpan (i := 10) rfl) (dg D_X11_checkSpan (i := 11) rfl)

set_option maxHeartbeats 4000000 in
set_option maxRecDepth 100000 in
theorem c_X11_checkLane {l : Launch} {G : va_G} {bs : Nat} {cy : Nat → ClassId} {I : CI} {L : CL} {R : CR} (σ : Row) (β : Nat) (v : Int32) (hi : Inv σ) (hl0 : l.stackTraces = false) (hβ : isBr β) (hB : BrAt I β σ) (hR7 : R 0 7 = β) : XTv l G bs cy MX11_checkLane 6 [.ref (bs + 0), .int v] I L R (fun I1 L1 R1 => (inB v (nLn σ) = true) ∧ I = I1 ∧ L = L1 ∧ R = R1) (fun E => E = IOE ∧ inB v (nLn σ) = false) 1 6 := by
  refine XTv.of (own := RX11) pn_RX11 rfl (Nat.le_of_ble_eq_true rfl) ?_
  intro p e s m args below meth c Qc Qf X hW hS htab hlk hQf fin ls hl
  have hx := X.1
  have hb := X.2.1
  have hR : RmOK (rmL 6 1 6) 6 := ⟨rfl, rfl⟩
  have hcs : 0 ≤ (rmL 6 1 6).cells ∧ 0 ≤ (rmL 6 1 6).slots := ⟨Nat.zero_le _, Nat.zero_le _⟩
  have hl : lv_has ls 2 [(0, .ref (bs + 0)), (1, .int v)] := hl
  obtain ⟨hY, hY1, hY12, hLn, hL4, hSn, hS12, hGn, hG5⟩ := id hi
  refine lv_iload_n hx hb (dg D_X11_checkLane (i := 0) rfl) rfl (lv_at hl 1 rfl) ?_
  refine lv_if_lt (tgt := 15) hx hb (dg D_X11_checkLane (i := 1) rfl) (by decide) (fun c1 => ?_) (fun c1 => ?_)
  · exact r_th0W X hl0 htab hlk hQf ⟨rfl, inB_lo c1⟩ hW hS hR (Nat.le_of_ble_eq_true rfl) (List.mem_of_getElem? (i := 5) rfl) hl (Nat.le_of_ble_eq_true rfl) (Nat.le_of_ble_eq_true rfl) (Nat.le_of_ble_eq_true rfl) (Nat.le_of_ble_eq_true rfl) (Nat.le_of_ble_eq_true rfl) (dg D_X11_checkLane (i := 7) rfl) (dg D_X11_checkLane (i := 8) rfl) (dg D_X11_checkLane (i := 9) rfl) (dg D_X11_checkLane (i := 10) rfl) (dg D_X11_checkLane (i := 11) rfl)
  · refine lv_iload_n hx hb (dg D_X11_checkLane (i := 2) rfl) rfl (lv_at hl 1 rfl) ?_
    refine lv_aload_n hx hb (dg D_X11_checkLane (i := 3) rfl) rfl (lv_at hl 0 rfl) ?_
    refine r_getr (v := β) X hW FI_X11_67 rfl (by decide) rfl hR7 (dg D_X11_checkLane (i := 4) rfl) ?_
    refine rn_geti (v := nI (nLn σ)) X hW FN_X11_336 (shB hβ) (ncB0 hβ) rfl (hB.c3 hi) (dg D_X11_checkLane (i := 5) rfl) ?_
    refine lv_icmp_lt (tgt := 26) hx hb (dg D_X11_checkLane (i := 6) rfl) (by decide) (fun c12 => ?_) (fun c12 => ?_)
    · exact fin (dg D_X11_checkLane (i := 12) rfl) (Nat.le_of_ble_eq_true rfl) (Nat.le_of_ble_eq_true rfl) hW hS ⟨inB_ok c1 c12 (by omega), rfl, rfl, rfl⟩
    · exact r_th0W X hl0 htab hlk hQf ⟨rfl, inB_hi c12 (by omega)⟩ hW hS hR (Nat.le_of_ble_eq_true rfl) (List.mem_of_getElem? (i := 5) rfl) hl (Nat.le_of_ble_eq_true rfl) (Nat.le_of_ble_eq_true rfl) (Nat.le_of_ble_eq_true rfl) (Nat.le_of_ble_eq_true rfl) (Nat.le_of_ble_eq_true rfl) (dg D_X11_checkLane (i := 7) rfl) (dg D_X11_checkLane (i := 8) rfl) (dg D_X11_checkLane (i := 9) rfl) (dg D_X11_checkLane (i := 10) rfl) (dg D_X11_checkLane (i := 11) rfl)

set_option maxHeartbeats 4000000 in
set_option maxRecDepth 100000 in
theorem c_X11_checkGang {l : Launch} {G : va_G} {bs : Nat} {cy : Nat → ClassId} {I : CI} {L : CL} {R : CR} (σ : Row) (β : Nat) (v : Int32) (hi : Inv σ) (hl0 : l.stackTraces = false) (hβ : isBr β) (hB : BrAt I β σ) (hR7 : R 0 7 = β) : XTv l G bs cy MX11_checkGang 6 [.ref (bs + 0), .int v] I L R (fun I1 L1 R1 => (inB v (nG σ) = true) ∧ I = I1 ∧ L = L1 ∧ R = R1) (fun E => E = IOE ∧ inB v (nG σ) = false) 1 6 := by
  refine XTv.of (own := RX11) pn_RX11 rfl (Nat.le_of_ble_eq_true rfl) ?_
  intro p e s m args below meth c Qc Qf X hW hS htab hlk hQf fin ls hl
  have hx := X.1
  have hb := X.2.1
  have hR : RmOK (rmL 6 1 6) 6 := ⟨rfl, rfl⟩
  have hcs : 0 ≤ (rmL 6 1 6).cells ∧ 0 ≤ (rmL 6 1 6).slots := ⟨Nat.zero_le _, Nat.zero_le _⟩
  have hl : lv_has ls 2 [(0, .ref (bs + 0)), (1, .int v)] := hl
  obtain ⟨hY, hY1, hY12, hLn, hL4, hSn, hS12, hGn, hG5⟩ := id hi
  refine lv_iload_n hx hb (dg D_X11_checkGang (i := 0) rfl) rfl (lv_at hl 1 rfl) ?_
  refine lv_if_lt (tgt := 15) hx hb (dg D_X11_checkGang (i := 1) rfl) (by decide) (fun c1 => ?_) (fun c1 => ?_)
  · exact r_th0W X hl0 htab hlk hQf ⟨rfl, inB_lo c1⟩ hW hS hR (Nat.le_of_ble_eq_true rfl) (List.mem_of_getElem? (i := 4) rfl) hl (Nat.le_of_ble_eq_true rfl) (Nat.le_of_ble_eq_true rfl) (Nat.le_of_ble_eq_true rfl) (Nat.le_of_ble_eq_true rfl) (Nat.le_of_ble_eq_true rfl) (dg D_X11_checkGang (i := 7) rfl) (dg D_X11_checkGang (i := 8) rfl) (dg D_X11_checkGang (i := 9) rfl) (dg D_X11_checkGang (i := 10) rfl) (dg D_X11_checkGang (i := 11) rfl)
  · refine lv_iload_n hx hb (dg D_X11_checkGang (i := 2) rfl) rfl (lv_at hl 1 rfl) ?_
    refine lv_aload_n hx hb (dg D_X11_checkGang (i := 3) rfl) rfl (lv_at hl 0 rfl) ?_
    refine r_getr (v := β) X hW FI_X11_67 rfl (by decide) rfl hR7 (dg D_X11_checkGang (i := 4) rfl) ?_
    refine rn_geti (v := nI (nG σ)) X hW FN_X11_226 (shB hβ) (ncB0 hβ) rfl (hB.c5 hi) (dg D_X11_checkGang (i := 5) rfl) ?_
    refine lv_icmp_lt (tgt := 26) hx hb (dg D_X11_checkGang (i := 6) rfl) (by decide) (fun c12 => ?_) (fun c12 => ?_)
    · exact fin (dg D_X11_checkGang (i := 12) rfl) (Nat.le_of_ble_eq_true rfl) (Nat.le_of_ble_eq_true rfl) hW hS ⟨inB_ok c1 c12 (by omega), rfl, rfl, rfl⟩
    · exact r_th0W X hl0 htab hlk hQf ⟨rfl, inB_hi c12 (by omega)⟩ hW hS hR (Nat.le_of_ble_eq_true rfl) (List.mem_of_getElem? (i := 4) rfl) hl (Nat.le_of_ble_eq_true rfl) (Nat.le_of_ble_eq_true rfl) (Nat.le_of_ble_eq_true rfl) (Nat.le_of_ble_eq_true rfl) (Nat.le_of_ble_eq_true rfl) (dg D_X11_checkGang (i := 7) rfl) (dg D_X11_checkGang (i := 8) rfl) (dg D_X11_checkGang (i := 9) rfl) (dg D_X11_checkGang (i := 10) rfl) (dg D_X11_checkGang (i := 11) rfl)

set_option maxHeartbeats 4000000 in
set_option maxRecDepth 100000 in
theorem c_X11_checkRange {l : Launch} {G : va_G} {bs : Nat} {cy : Nat → ClassId} {I : CI} {L : CL} {R : CR} (v : Int32) (a9 : Nat) (b9 : Nat) (hl0 : l.stackTraces = false) (ha9 : a9 < 2 ^ 31) (hb9 : b9 < 2 ^ 31) : XTv l G bs cy MX11_checkRange 6 [.int v, .int (nI a9), .int (nI b9)] I L R (fun I1 L1 R1 => (inR v (a9 : Int) (b9 : Int) = true) ∧ I = I1 ∧ L = L1 ∧ R = R1) (fun E => E = IAE ∧ inR v (a9 : Int) (b9 : Int) = false) 1 6 := by
  refine XTv.of (own := RX11) pn_RX11 rfl (Nat.le_of_ble_eq_true rfl) ?_
  intro p e s m args below meth c Qc Qf X hW hS htab hlk hQf fin ls hl
  have hx := X.1
  have hb := X.2.1
  have hR : RmOK (rmL 6 1 6) 6 := ⟨rfl, rfl⟩
  have hcs : 0 ≤ (rmL 6 1 6).cells ∧ 0 ≤ (rmL 6 1 6).slots := ⟨Nat.zero_le _, Nat.zero_le _⟩
  have hl : lv_has ls 3 [(0, .int v), (1, .int (nI a9)), (2, .int (nI b9))] := hl
  refine lv_iload_n hx hb (dg D_X11_checkRange (i := 0) rfl) rfl (lv_at hl 0 rfl) ?_
  refine lv_iload_n hx hb (dg D_X11_checkRange (i := 1) rfl) rfl (lv_at hl 1 rfl) ?_
  refine lv_icmp_lt (tgt := 10) hx hb (dg D_X11_checkRange (i := 2) rfl) (by decide) (fun c2 => ?_) (fun c2 => ?_)
  · exact r_th1W X hl0 htab hlk hQf ⟨rfl, inR_lo c2 ha9⟩ hW hS hR (Nat.le_of_ble_eq_true rfl) (List.mem_of_getElem? (i := 6) rfl) hl (Nat.le_of_ble_eq_true rfl) (Nat.le_of_ble_eq_true rfl) (Nat.le_of_ble_eq_true rfl) (Nat.le_of_ble_eq_true rfl) (Nat.le_of_ble_eq_true rfl) (dg D_X11_checkRange (i := 6) rfl) (dg D_X11_checkRange (i := 7) rfl) (dg D_X11_checkRange (i := 8) rfl) (dg D_X11_checkRange (i := 9) rfl) (dg D_X11_checkRange (i := 10) rfl)
  · refine lv_iload_n hx hb (dg D_X11_checkRange (i := 3) rfl) rfl (lv_at hl 0 rfl) ?_
    refine lv_iload_n hx hb (dg D_X11_checkRange (i := 4) rfl) rfl (lv_at hl 2 rfl) ?_
    refine lv_icmp_le (tgt := 21) hx hb (dg D_X11_checkRange (i := 5) rfl) (by decide) (fun c7 => ?_) (fun c7 => ?_)
    · exact fin (dg D_X11_checkRange (i := 11) rfl) (Nat.le_of_ble_eq_true rfl) (Nat.le_of_ble_eq_true rfl) hW hS ⟨inR_ok c2 c7 ha9 hb9, rfl, rfl, rfl⟩
    · exact r_th1W X hl0 htab hlk hQf ⟨rfl, inR_hi c7 hb9⟩ hW hS hR (Nat.le_of_ble_eq_true rfl) (List.mem_of_getElem? (i := 6) rfl) hl (Nat.le_of_ble_eq_true rfl) (Nat.le_of_ble_eq_true rfl) (Nat.le_of_ble_eq_true rfl) (Nat.le_of_ble_eq_true rfl) (Nat.le_of_ble_eq_true rfl) (dg D_X11_checkRange (i := 6) rfl) (dg D_X11_checkRange (i := 7) rfl) (dg D_X11_checkRange (i := 8) rfl) (dg D_X11_checkRange (i := 9) rfl) (dg D_X11_checkRange (i := 10) rfl)

set_option maxHeartbeats 4000000 in
set_option maxRecDepth 100000 in
theorem c_X11_rustBefore {l : Launch} {G : va_G} {bs : Nat} {cy : Nat → ClassId} {I : CI} {L : CL} {R : CR} (σ : Row) (β : Nat) (q : Nat) (v : Int32) (w : Int32) (hl0 : l.stackTraces = false) (hi : Inv σ) (hd : DR σ) (hβ : isBr β) (hB : BrAt I β σ) (hq : isPl q) (hP : PlAt I q σ) (hRb : R q 0 = β) (hR7 : R 0 7 = β) (hR8 : R 0 8 = q) : XTi l G bs cy MX11_rustBefore 7 [.ref (bs + 0), .int v, .int w] I L R (fun r I1 L1 R1 => ((inB v (nS σ) && inB w (Yn σ)) = true ∧ r = (rgS σ (tN v) (tN w)).1) ∧ I = I1 ∧ L = L1 ∧ R = R1) (fun E => E = IOE ∧ (inB v (nS σ) && inB w (Yn σ)) = false) 2 12 := by
  refine XTi.of (own := RX11) pn_RX11 rfl (Nat.le_of_ble_eq_true rfl) ?_
  intro p e s m args below meth c Qc Qf X hW hS htab hlk hQf fin ls hl
  have hx := X.1
  have hb := X.2.1
  have hR : RmOK (rmL 7 2 12) 7 := ⟨rfl, rfl⟩
  have hcs : 0 ≤ (rmL 7 2 12).cells ∧ 0 ≤ (rmL 7 2 12).slots := ⟨Nat.zero_le _, Nat.zero_le _⟩
  have hl : lv_has ls 3 [(0, .ref (bs + 0)), (1, .int v), (2, .int w)] := hl
  obtain ⟨hY, hY1, hY12, hLn, hL4, hSn, hS12, hGn, hG5⟩ := id hi
  have hbq := br_pl hβ hq
  refine lv_aload_n hx hb (dg D_X11_rustBefore (i := 0) rfl) rfl (lv_at hl 0 rfl) ?_
  refine lv_iload_n hx hb (dg D_X11_rustBefore (i := 1) rfl) rfl (lv_at hl 1 rfl) ?_
  refine callXv X hW hS hR htab hlk hQf (c_X11_checkSpan (I := I) σ β v (by first | assumption | omega | decide | exact hP.1) (by first | assumption | omega | decide | exact hP.1) (by first | assumption | omega | decide | exact hP.1) (by first | assumption | omega | decide | exact hP.1) (by first | assumption | omega | decide | exact hP.1)) (fun E hE => ⟨hE.1, by simp [hE.2]⟩) (by decide) UVX11_checkSpan LK_X11_131 rfl (by decide) rfl rfl rfl (Nat.le_of_ble_eq_true rfl) hl (Nat.le_of_ble_eq_true rfl) (Nat.le_of_ble_eq_true rfl) (Nat.le_of_ble_eq_true rfl) (Nat.le_of_ble_eq_true rfl) (dg D_X11_rustBefore (i := 2) rfl) (fun I2 L1 R1 H locs hq hW hS => ?_)
  have hcs : 0 + 1 ≤ (rmL 7 2 12).cells ∧ 0 + 6 ≤ (rmL 7 2 12).slots := ⟨Nat.le_of_ble_eq_true rfl, Nat.le_of_ble_eq_true rfl⟩
  obtain ⟨hr2, rfl, rfl, rfl⟩ := hq
  obtain ⟨jv, hjv, rfl⟩ := inB_of hr2 (by omega)
  refine lv_aload_n hx hb (dg D_X11_rustBefore (i := 3) rfl) rfl (lv_at hl 0 rfl) ?_
  refine lv_iload_n hx hb (dg D_X11_rustBefore (i := 4) rfl) rfl (lv_at hl 2 rfl) ?_
  refine callXv X hW hS hR htab hlk hQf (c_X11_checkYear (I := I) σ β w (by first | assumption | omega | decide | exact hP.1) (by first | assumption | omega | decide | exact hP.1) (by first | assumption | omega | decide | exact hP.1) (by first | assumption | omega | decide | exact hP.1) (by first | assumption | omega | decide | exact hP.1)) (fun E hE => ⟨hE.1, by simp [hE.2]⟩) (by decide) UVX11_checkYear LK_X11_134 rfl (by decide) rfl rfl rfl (Nat.le_of_ble_eq_true rfl) hl (Nat.le_of_ble_eq_true rfl) (Nat.le_of_ble_eq_true rfl) (Nat.le_of_ble_eq_true rfl) (Nat.le_of_ble_eq_true rfl) (dg D_X11_rustBefore (i := 5) rfl) (fun I7 L1 R1 H locs hq hW hS => ?_)
  have hcs : 0 + 1 + 1 ≤ (rmL 7 2 12).cells ∧ 0 + 6 + 6 ≤ (rmL 7 2 12).slots := ⟨Nat.le_of_ble_eq_true rfl, Nat.le_of_ble_eq_true rfl⟩
  obtain ⟨hr7, rfl, rfl, rfl⟩ := hq
  obtain ⟨jw, hjw, rfl⟩ := inB_of hr7 (by omega)
  refine lv_aload_n hx hb (dg D_X11_rustBefore (i := 6) rfl) rfl (lv_at hl 0 rfl) ?_
  refine r_getr (v := q) X hW FI_X11_71 rfl (by decide) rfl hR8 (dg D_X11_rustBefore (i := 7) rfl) ?_
  refine lv_iload_n hx hb (dg D_X11_rustBefore (i := 8) rfl) rfl (lv_at hl 1 rfl) ?_
  refine lv_iload_n hx hb (dg D_X11_rustBefore (i := 9) rfl) rfl (lv_at hl 2 rfl) ?_
  refine callVi X hW hS hR (c_X6_rustAtStart (I := I) σ q jv jw (by first | assumption | omega | decide | exact hP.1) (by first | assumption | omega | decide | exact hP.1) (by first | assumption | omega | decide | exact hP.1) (by first | assumption | omega | decide | exact hP.1) (by first | assumption | omega | decide | exact hP.1)) (by decide) UVX6_rustAtStart LK_X11_137 (shP hq) (ncP0 hq) rfl rfl rfl (Nat.le_of_ble_eq_true rfl) hl hcs (dg D_X11_rustBefore (i := 10) rfl) (fun r16 I16 L1 R1 H locs hq hW hS => ?_)
  obtain ⟨rfl, rfl, rfl, rfl⟩ := hq
  exact fin (dg D_X11_rustBefore (i := 11) rfl) (Nat.le_of_ble_eq_true rfl) (Nat.le_of_ble_eq_true rfl) hW hS ⟨⟨by simp [hr2, hr7], by rw [tN_nI (show jv < 2 ^ 31 by omega), tN_nI (show jw < 2 ^ 31 by omega)]⟩, rfl, rfl, rfl⟩

set_option maxHeartbeats 4000000 in
set_option maxRecDepth 100000 in
theorem c_X11_rustAfter {l : Launch} {G : va_G} {bs : Nat} {cy : Nat → ClassId} {I : CI} {L : CL} {R : CR} (σ : Row) (β : Nat) (q : Nat) (v : Int32) (w : Int32) (hl0 : l.stackTraces = false) (hi : Inv σ) (hd : DR σ) (hβ : isBr β) (hB : BrAt I β σ) (hq : isPl q) (hP : PlAt I q σ) (hRb : R q 0 = β) (hR7 : R 0 7 = β) (hR8 : R 0 8 = q) : XTi l G bs cy MX11_rustAfter 7 [.ref (bs + 0), .int v, .int w] I L R (fun r I1 L1 R1 => ((inB v (nS σ) && inB w (Yn σ)) = true ∧ r = (rgS σ (tN v) (tN w + 1)).1) ∧ I = I1 ∧ L = L1 ∧ R = R1) (fun E => E = IOE ∧ (inB v (nS σ) && inB w (Yn σ)) = false) 2 12 := by
  refine XTi.of (own := RX11) pn_RX11 rfl (Nat.le_of_ble_eq_true rfl) ?_
  intro p e s m args below meth c Qc Qf X hW hS htab hlk hQf fin ls hl
  have hx := X.1
  have hb := X.2.1
  have hR : RmOK (rmL 7 2 12) 7 := ⟨rfl, rfl⟩
  have hcs : 0 ≤ (rmL 7 2 12).cells ∧ 0 ≤ (rmL 7 2 12).slots := ⟨Nat.zero_le _, Nat.zero_le _⟩
  have hl : lv_has ls 3 [(0, .ref (bs + 0)), (1, .int v), (2, .int w)] := hl
  obtain ⟨hY, hY1, hY12, hLn, hL4, hSn, hS12, hGn, hG5⟩ := id hi
  have hbq := br_pl hβ hq
  refine lv_aload_n hx hb (dg D_X11_rustAfter (i := 0) rfl) rfl (lv_at hl 0 rfl) ?_
  refine lv_iload_n hx hb (dg D_X11_rustAfter (i := 1) rfl) rfl (lv_at hl 1 rfl) ?_
  refine callXv X hW hS hR htab hlk hQf (c_X11_checkSpan (I := I) σ β v (by first | assumption | omega | decide | exact hP.1) (by first | assumption | omega | decide | exact hP.1) (by first | assumption | omega | decide | exact hP.1) (by first | assumption | omega | decide | exact hP.1) (by first | assumption | omega | decide | exact hP.1)) (fun E hE => ⟨hE.1, by simp [hE.2]⟩) (by decide) UVX11_checkSpan LK_X11_131 rfl (by decide) rfl rfl rfl (Nat.le_of_ble_eq_true rfl) hl (Nat.le_of_ble_eq_true rfl) (Nat.le_of_ble_eq_true rfl) (Nat.le_of_ble_eq_true rfl) (Nat.le_of_ble_eq_true rfl) (dg D_X11_rustAfter (i := 2) rfl) (fun I2 L1 R1 H locs hq hW hS => ?_)
  have hcs : 0 + 1 ≤ (rmL 7 2 12).cells ∧ 0 + 6 ≤ (rmL 7 2 12).slots := ⟨Nat.le_of_ble_eq_true rfl, Nat.le_of_ble_eq_true rfl⟩
  obtain ⟨hr2, rfl, rfl, rfl⟩ := hq
  obtain ⟨jv, hjv, rfl⟩ := inB_of hr2 (by omega)
  refine lv_aload_n hx hb (dg D_X11_rustAfter (i := 3) rfl) rfl (lv_at hl 0 rfl) ?_
  refine lv_iload_n hx hb (dg D_X11_rustAfter (i := 4) rfl) rfl (lv_at hl 2 rfl) ?_
  refine callXv X hW hS hR htab hlk hQf (c_X11_checkYear (I := I) σ β w (by first | assumption | omega | decide | exact hP.1) (by first | assumption | omega | decide | exact hP.1) (by first | assumption | omega | decide | exact hP.1) (by first | assumption | omega | decide | exact hP.1) (by first | assumption | omega | decide | exact hP.1)) (fun E hE => ⟨hE.1, by simp [hE.2]⟩) (by decide) UVX11_checkYear LK_X11_134 rfl (by decide) rfl rfl rfl (Nat.le_of_ble_eq_true rfl) hl (Nat.le_of_ble_eq_true rfl) (Nat.le_of_ble_eq_true rfl) (Nat.le_of_ble_eq_true rfl) (Nat.le_of_ble_eq_true rfl) (dg D_X11_rustAfter (i := 5) rfl) (fun I7 L1 R1 H locs hq hW hS => ?_)
  have hcs : 0 + 1 + 1 ≤ (rmL 7 2 12).cells ∧ 0 + 6 + 6 ≤ (rmL 7 2 12).slots := ⟨Nat.le_of_ble_eq_true rfl, Nat.le_of_ble_eq_true rfl⟩
  obtain ⟨hr7, rfl, rfl, rfl⟩ := hq
  obtain ⟨jw, hjw, rfl⟩ := inB_of hr7 (by omega)
  refine lv_aload_n hx hb (dg D_X11_rustAfter (i := 6) rfl) rfl (lv_at hl 0 rfl) ?_
  refine r_getr (v := q) X hW FI_X11_71 rfl (by decide) rfl hR8 (dg D_X11_rustAfter (i := 7) rfl) ?_
  refine lv_iload_n hx hb (dg D_X11_rustAfter (i := 8) rfl) rfl (lv_at hl 1 rfl) ?_
  refine lv_iload_n hx hb (dg D_X11_rustAfter (i := 9) rfl) rfl (lv_at hl 2 rfl) ?_
  refine callVi X hW hS hR (c_X6_rustAtEnd (I := I) σ q jv jw (by first | assumption | omega | decide | exact hP.1) (by first | assumption | omega | decide | exact hP.1) (by first | assumption | omega | decide | exact hP.1) (by first | assumption | omega | decide | exact hP.1) (by first | assumption | omega | decide | exact hP.1)) (by decide) UVX6_rustAtEnd LK_X11_141 (shP hq) (ncP0 hq) rfl rfl rfl (Nat.le_of_ble_eq_true rfl) hl hcs (dg D_X11_rustAfter (i := 10) rfl) (fun r16 I16 L1 R1 H locs hq hW hS => ?_)
  obtain ⟨rfl, rfl, rfl, rfl⟩ := hq
  exact fin (dg D_X11_rustAfter (i := 11) rfl) (Nat.le_of_ble_eq_true rfl) (Nat.le_of_ble_eq_true rfl) hW hS ⟨⟨by simp [hr2, hr7], by rw [tN_nI (show jv < 2 ^ 31 by omega), tN_nI (show jw < 2 ^ 31 by omega)]⟩, rfl, rfl, rfl⟩

set_option maxHeartbeats 4000000 in
set_option maxRecDepth 100000 in
theorem c_X11_guardLeft {l : Launch} {G : va_G} {bs : Nat} {cy : Nat → ClassId} {I : CI} {L : CL} {R : CR} (σ : Row) (β : Nat) (q : Nat) (v : Int32) (w : Int32) (hl0 : l.stackTraces = false) (hi : Inv σ) (hd : DR σ) (hβ : isBr β) (hB : BrAt I β σ) (hq : isPl q) (hP : PlAt I q σ) (hRb : R q 0 = β) (hR7 : R 0 7 = β) (hR8 : R 0 8 = q) : XTi l G bs cy MX11_guardLeft 7 [.ref (bs + 0), .int v, .int w] I L R (fun r I1 L1 R1 => ((inB v (nS σ) && inB w (Yn σ)) = true ∧ r = (rgS σ (tN v) (tN w)).2) ∧ I = I1 ∧ L = L1 ∧ R = R1) (fun E => E = IOE ∧ (inB v (nS σ) && inB w (Yn σ)) = false) 2 12 := by
  refine XTi.of (own := RX11) pn_RX11 rfl (Nat.le_of_ble_eq_true rfl) ?_
  intro p e s m args below meth c Qc Qf X hW hS htab hlk hQf fin ls hl
  have hx := X.1
  have hb := X.2.1
  have hR : RmOK (rmL 7 2 12) 7 := ⟨rfl, rfl⟩
  have hcs : 0 ≤ (rmL 7 2 12).cells ∧ 0 ≤ (rmL 7 2 12).slots := ⟨Nat.zero_le _, Nat.zero_le _⟩
  have hl : lv_has ls 3 [(0, .ref (bs + 0)), (1, .int v), (2, .int w)] := hl
  obtain ⟨hY, hY1, hY12, hLn, hL4, hSn, hS12, hGn, hG5⟩ := id hi
  have hbq := br_pl hβ hq
  refine lv_aload_n hx hb (dg D_X11_guardLeft (i := 0) rfl) rfl (lv_at hl 0 rfl) ?_
  refine lv_iload_n hx hb (dg D_X11_guardLeft (i := 1) rfl) rfl (lv_at hl 1 rfl) ?_
  refine callXv X hW hS hR htab hlk hQf (c_X11_checkSpan (I := I) σ β v (by first | assumption | omega | decide | exact hP.1) (by first | assumption | omega | decide | exact hP.1) (by first | assumption | omega | decide | exact hP.1) (by first | assumption | omega | decide | exact hP.1) (by first | assumption | omega | decide | exact hP.1)) (fun E hE => ⟨hE.1, by simp [hE.2]⟩) (by decide) UVX11_checkSpan LK_X11_131 rfl (by decide) rfl rfl rfl (Nat.le_of_ble_eq_true rfl) hl (Nat.le_of_ble_eq_true rfl) (Nat.le_of_ble_eq_true rfl) (Nat.le_of_ble_eq_true rfl) (Nat.le_of_ble_eq_true rfl) (dg D_X11_guardLeft (i := 2) rfl) (fun I2 L1 R1 H locs hq hW hS => ?_)
  have hcs : 0 + 1 ≤ (rmL 7 2 12).cells ∧ 0 + 6 ≤ (rmL 7 2 12).slots := ⟨Nat.le_of_ble_eq_true rfl, Nat.le_of_ble_eq_true rfl⟩
  obtain ⟨hr2, rfl, rfl, rfl⟩ := hq
  obtain ⟨jv, hjv, rfl⟩ := inB_of hr2 (by omega)
  refine lv_aload_n hx hb (dg D_X11_guardLeft (i := 3) rfl) rfl (lv_at hl 0 rfl) ?_
  refine lv_iload_n hx hb (dg D_X11_guardLeft (i := 4) rfl) rfl (lv_at hl 2 rfl) ?_
  refine callXv X hW hS hR htab hlk hQf (c_X11_checkYear (I := I) σ β w (by first | assumption | omega | decide | exact hP.1) (by first | assumption | omega | decide | exact hP.1) (by first | assumption | omega | decide | exact hP.1) (by first | assumption | omega | decide | exact hP.1) (by first | assumption | omega | decide | exact hP.1)) (fun E hE => ⟨hE.1, by simp [hE.2]⟩) (by decide) UVX11_checkYear LK_X11_134 rfl (by decide) rfl rfl rfl (Nat.le_of_ble_eq_true rfl) hl (Nat.le_of_ble_eq_true rfl) (Nat.le_of_ble_eq_true rfl) (Nat.le_of_ble_eq_true rfl) (Nat.le_of_ble_eq_true rfl) (dg D_X11_guardLeft (i := 5) rfl) (fun I7 L1 R1 H locs hq hW hS => ?_)
  have hcs : 0 + 1 + 1 ≤ (rmL 7 2 12).cells ∧ 0 + 6 + 6 ≤ (rmL 7 2 12).slots := ⟨Nat.le_of_ble_eq_true rfl, Nat.le_of_ble_eq_true rfl⟩
  obtain ⟨hr7, rfl, rfl, rfl⟩ := hq
  obtain ⟨jw, hjw, rfl⟩ := inB_of hr7 (by omega)
  refine lv_aload_n hx hb (dg D_X11_guardLeft (i := 6) rfl) rfl (lv_at hl 0 rfl) ?_
  refine r_getr (v := q) X hW FI_X11_71 rfl (by decide) rfl hR8 (dg D_X11_guardLeft (i := 7) rfl) ?_
  refine lv_iload_n hx hb (dg D_X11_guardLeft (i := 8) rfl) rfl (lv_at hl 1 rfl) ?_
  refine lv_iload_n hx hb (dg D_X11_guardLeft (i := 9) rfl) rfl (lv_at hl 2 rfl) ?_
  refine callVi X hW hS hR (c_X6_guardAtStart (I := I) σ q jv jw (by first | assumption | omega | decide | exact hP.1) (by first | assumption | omega | decide | exact hP.1) (by first | assumption | omega | decide | exact hP.1) (by first | assumption | omega | decide | exact hP.1) (by first | assumption | omega | decide | exact hP.1)) (by decide) UVX6_guardAtStart LK_X11_144 (shP hq) (ncP0 hq) rfl rfl rfl (Nat.le_of_ble_eq_true rfl) hl hcs (dg D_X11_guardLeft (i := 10) rfl) (fun r16 I16 L1 R1 H locs hq hW hS => ?_)
  obtain ⟨rfl, rfl, rfl, rfl⟩ := hq
  exact fin (dg D_X11_guardLeft (i := 11) rfl) (Nat.le_of_ble_eq_true rfl) (Nat.le_of_ble_eq_true rfl) hW hS ⟨⟨by simp [hr2, hr7], by rw [tN_nI (show jv < 2 ^ 31 by omega), tN_nI (show jw < 2 ^ 31 by omega)]⟩, rfl, rfl, rfl⟩

set_option maxHeartbeats 4000000 in
set_option maxRecDepth 100000 in
theorem c_X11_pastYear {l : Launch} {G : va_G} {bs : Nat} {cy : Nat → ClassId} {I : CI} {L : CL} {R : CR} (σ : Row) (β : Nat) (q : Nat) (v : Int32) (hl0 : l.stackTraces = false) (hi : Inv σ) (hd : DR σ) (hβ : isBr β) (hB : BrAt I β σ) (hq : isPl q) (hP : PlAt I q σ) (hRb : R q 0 = β) (hR7 : R 0 7 = β) (hR8 : R 0 8 = q) : XTi l G bs cy MX11_pastYear 7 [.ref (bs + 0), .int v] I L R (fun r I1 L1 R1 => ((inB v (nS σ)) = true ∧ r = fp σ (tN v)) ∧ I = I1 ∧ L = L1 ∧ R = R1) (fun E => E = IOE ∧ (inB v (nS σ)) = false) 1 6 := by
  refine XTi.of (own := RX11) pn_RX11 rfl (Nat.le_of_ble_eq_true rfl) ?_
  intro p e s m args below meth c Qc Qf X hW hS htab hlk hQf fin ls hl
  have hx := X.1
  have hb := X.2.1
  have hR : RmOK (rmL 7 1 6) 7 := ⟨rfl, rfl⟩
  have hcs : 0 ≤ (rmL 7 1 6).cells ∧ 0 ≤ (rmL 7 1 6).slots := ⟨Nat.zero_le _, Nat.zero_le _⟩
  have hl : lv_has ls 2 [(0, .ref (bs + 0)), (1, .int v)] := hl
  obtain ⟨hY, hY1, hY12, hLn, hL4, hSn, hS12, hGn, hG5⟩ := id hi
  have hbq := br_pl hβ hq
  refine lv_aload_n hx hb (dg D_X11_pastYear (i := 0) rfl) rfl (lv_at hl 0 rfl) ?_
  refine lv_iload_n hx hb (dg D_X11_pastYear (i := 1) rfl) rfl (lv_at hl 1 rfl) ?_
  refine callXv X hW hS hR htab hlk hQf (c_X11_checkSpan (I := I) σ β v (by first | assumption | omega | decide | exact hP.1) (by first | assumption | omega | decide | exact hP.1) (by first | assumption | omega | decide | exact hP.1) (by first | assumption | omega | decide | exact hP.1) (by first | assumption | omega | decide | exact hP.1)) (fun E hE => ⟨hE.1, by simp [hE.2]⟩) (by decide) UVX11_checkSpan LK_X11_131 rfl (by decide) rfl rfl rfl (Nat.le_of_ble_eq_true rfl) hl (Nat.le_of_ble_eq_true rfl) (Nat.le_of_ble_eq_true rfl) (Nat.le_of_ble_eq_true rfl) (Nat.le_of_ble_eq_true rfl) (dg D_X11_pastYear (i := 2) rfl) (fun I2 L1 R1 H locs hq hW hS => ?_)
  have hcs : 0 + 1 ≤ (rmL 7 1 6).cells ∧ 0 + 6 ≤ (rmL 7 1 6).slots := ⟨Nat.le_of_ble_eq_true rfl, Nat.le_of_ble_eq_true rfl⟩
  obtain ⟨hr2, rfl, rfl, rfl⟩ := hq
  obtain ⟨jv, hjv, rfl⟩ := inB_of hr2 (by omega)
  refine lv_aload_n hx hb (dg D_X11_pastYear (i := 3) rfl) rfl (lv_at hl 0 rfl) ?_
  refine r_getr (v := q) X hW FI_X11_71 rfl (by decide) rfl hR8 (dg D_X11_pastYear (i := 4) rfl) ?_
  refine lv_iload_n hx hb (dg D_X11_pastYear (i := 5) rfl) rfl (lv_at hl 1 rfl) ?_
  refine callVi X hW hS hR (c_X6_firstPast (I := I) σ β q jv (by first | assumption | omega | decide | exact hP.1) (by first | assumption | omega | decide | exact hP.1) (by first | assumption | omega | decide | exact hP.1) (by first | assumption | omega | decide | exact hP.1) (by first | assumption | omega | decide | exact hP.1) (by first | assumption | omega | decide | exact hP.1) (by first | assumption | omega | decide | exact hP.1)) (by decide) UVX6_firstPast LK_X11_147 (shP hq) (ncP0 hq) rfl rfl rfl (Nat.le_of_ble_eq_true rfl) hl hcs (dg D_X11_pastYear (i := 6) rfl) (fun r10 I10 L1 R1 H locs hq hW hS => ?_)
  obtain ⟨rfl, rfl, rfl, rfl⟩ := hq
  exact fin (dg D_X11_pastYear (i := 7) rfl) (Nat.le_of_ble_eq_true rfl) (Nat.le_of_ble_eq_true rfl) hW hS ⟨⟨by simp [hr2], by rw [tN_nI (show jv < 2 ^ 31 by omega)]⟩, rfl, rfl, rfl⟩

set_option maxHeartbeats 4000000 in
set_option maxRecDepth 100000 in
theorem c_X11_pastCount {l : Launch} {G : va_G} {bs : Nat} {cy : Nat → ClassId} {I : CI} {L : CL} {R : CR} (σ : Row) (β : Nat) (q : Nat) (hl0 : l.stackTraces = false) (hi : Inv σ) (hd : DR σ) (hβ : isBr β) (hB : BrAt I β σ) (hq : isPl q) (hP : PlAt I q σ) (hRb : R q 0 = β) (hR7 : R 0 7 = β) (hR8 : R 0 8 = q) : MTi l G bs cy MX11_pastCount 4 [.ref (bs + 0)] I L R (fun r I1 L1 R1 => cntP σ = r ∧ I = I1 ∧ L = L1 ∧ R = R1) := by
  refine MTi.of (own := RX11) pn_RX11 rfl (Nat.le_of_ble_eq_true rfl) ?_
  intro p e s m args below meth c Qf X hW hS fin ls hl
  have hx := X.1
  have hb := X.2.1
  have hR : RmOK (rmL 4 0 0) 4 := ⟨rfl, rfl⟩
  have hcs : 0 ≤ (rmL 4 0 0).cells ∧ 0 ≤ (rmL 4 0 0).slots := ⟨Nat.zero_le _, Nat.zero_le _⟩
  have hl : lv_has ls 1 [(0, .ref (bs + 0))] := hl
  obtain ⟨hY, hY1, hY12, hLn, hL4, hSn, hS12, hGn, hG5⟩ := id hi
  have hbq := br_pl hβ hq
  refine lv_aload_n hx hb (dg D_X11_pastCount (i := 0) rfl) rfl (lv_at hl 0 rfl) ?_
  refine r_getr (v := q) X hW FI_X11_71 rfl (by decide) rfl hR8 (dg D_X11_pastCount (i := 1) rfl) ?_
  refine callVi X hW hS hR (c_X6_countPast (I := I) σ β q (by first | assumption | omega | decide | exact hP.1) (by first | assumption | omega | decide | exact hP.1) (by first | assumption | omega | decide | exact hP.1) (by first | assumption | omega | decide | exact hP.1) (by first | assumption | omega | decide | exact hP.1) (by first | assumption | omega | decide | exact hP.1)) (by decide) UVX6_countPast LK_X11_151 (shP hq) (ncP0 hq) rfl rfl rfl (Nat.le_of_ble_eq_true rfl) hl hcs (dg D_X11_pastCount (i := 2) rfl) (fun r4 I4 L1 R1 H locs hq hW hS => ?_)
  obtain ⟨rfl, rfl, rfl, rfl⟩ := hq
  exact fin (dg D_X11_pastCount (i := 3) rfl) hW hS ⟨rfl, rfl, rfl, rfl⟩

set_option maxHeartbeats 4000000 in
set_option maxRecDepth 100000 in
theorem c_X11_pastSpans {l : Launch} {G : va_G} {bs : Nat} {cy : Nat → ClassId} {I : CI} {L : CL} {R : CR} (σ : Row) (β : Nat) (q : Nat) (v : Int32) (hl0 : l.stackTraces = false) (hi : Inv σ) (hd : DR σ) (hβ : isBr β) (hB : BrAt I β σ) (hq : isPl q) (hP : PlAt I q σ) (hRb : R q 0 = β) (hR7 : R 0 7 = β) (hR8 : R 0 8 = q) : XTi l G bs cy MX11_pastSpans 7 [.ref (bs + 0), .int v] I L R (fun r I1 L1 R1 => ((inB v (Yn σ)) = true ∧ r = psp σ (tN v)) ∧ I = I1 ∧ L = L1 ∧ R = R1) (fun E => E = IOE ∧ (inB v (Yn σ)) = false) 1 6 := by
  refine XTi.of (own := RX11) pn_RX11 rfl (Nat.le_of_ble_eq_true rfl) ?_
  intro p e s m args below meth c Qc Qf X hW hS htab hlk hQf fin ls hl
  have hx := X.1
  have hb := X.2.1
  have hR : RmOK (rmL 7 1 6) 7 := ⟨rfl, rfl⟩
  have hcs : 0 ≤ (rmL 7 1 6).cells ∧ 0 ≤ (rmL 7 1 6).slots := ⟨Nat.zero_le _, Nat.zero_le _⟩
  have hl : lv_has ls 4 [(0, .ref (bs + 0)), (1, .int v)] := hl
  obtain ⟨hY, hY1, hY12, hLn, hL4, hSn, hS12, hGn, hG5⟩ := id hi
  have hbq := br_pl hβ hq
  refine lv_aload_n hx hb (dg D_X11_pastSpans (i := 0) rfl) rfl (lv_at hl 0 rfl) ?_
  refine lv_iload_n hx hb (dg D_X11_pastSpans (i := 1) rfl) rfl (lv_at hl 1 rfl) ?_
  refine callXv X hW hS hR htab hlk hQf (c_X11_checkYear (I := I) σ β v (by first | assumption | omega | decide | exact hP.1) (by first | assumption | omega | decide | exact hP.1) (by first | assumption | omega | decide | exact hP.1) (by first | assumption | omega | decide | exact hP.1) (by first | assumption | omega | decide | exact hP.1)) (fun E hE => ⟨hE.1, by simp [hE.2]⟩) (by decide) UVX11_checkYear LK_X11_134 rfl (by decide) rfl rfl rfl (Nat.le_of_ble_eq_true rfl) hl (Nat.le_of_ble_eq_true rfl) (Nat.le_of_ble_eq_true rfl) (Nat.le_of_ble_eq_true rfl) (Nat.le_of_ble_eq_true rfl) (dg D_X11_pastSpans (i := 2) rfl) (fun I2 L1 R1 H locs hq hW hS => ?_)
  have hcs : 0 + 1 ≤ (rmL 7 1 6).cells ∧ 0 + 6 ≤ (rmL 7 1 6).slots := ⟨Nat.le_of_ble_eq_true rfl, Nat.le_of_ble_eq_true rfl⟩
  obtain ⟨hr2, rfl, rfl, rfl⟩ := hq
  obtain ⟨jv, hjv, rfl⟩ := inB_of hr2 (by omega)
  refine n_iconst (a := 0) hx hb (dg D_X11_pastSpans (i := 3) rfl) rfl ?_
  refine lv_istore_n (lv' := [(2, .int (nI 0)), (0, .ref (bs + 0)), (1, .int (nI jv))]) hx hb (dg D_X11_pastSpans (i := 4) rfl) rfl hl (by decide) rfl (fun ls hl => ?_)
  refine n_iconst (a := 0) hx hb (dg D_X11_pastSpans (i := 5) rfl) rfl ?_
  refine lv_istore_n (lv' := [(3, .int (nI 0)), (2, .int (nI 0)), (0, .ref (bs + 0)), (1, .int (nI jv))]) hx hb (dg D_X11_pastSpans (i := 6) rfl) rfl hl (by decide) rfl (fun ls hl => ?_)
  have loop9 := up_ind (P := fun x => ∀ (H : Heap) (locs : List Loc) (ls : Array Slot) (v2 : Int32) (v3 : Int32), v2 = orT (setF (fun x => decide (σ (10 + 5 * x + 4) < (rgS σ x (jv + 1)).1))) x → v3 = nI x → Wd G bs cy I L R H → va_S (Aq bs) s.heap H locs → lv_has ls 4 [(0, .ref (bs + 0)), (1, .int (nI jv)), (2, .int v2), (3, .int v3)] → W p l e (rmL 7 1 6) s m args below meth c H locs (0 + 1) (0 + 6) Qf (F0 m 9 ls [])) (nS σ) (fun x hx9 ih9 => by
      intro H locs ls v2 v3 q2 q3 hW hS hl
      subst q2
      subst q3
      refine lv_iload_n hx hb (dg D_X11_pastSpans (i := 7) rfl) rfl (lv_at hl 3 rfl) ?_
      refine lv_aload_n hx hb (dg D_X11_pastSpans (i := 8) rfl) rfl (lv_at hl 0 rfl) ?_
      refine r_getr (v := β) X hW FI_X11_67 rfl (by decide) rfl hR7 (dg D_X11_pastSpans (i := 9) rfl) ?_
      refine rn_geti (v := nI (nS σ)) X hW FN_X11_128 (shB hβ) (ncB0 hβ) rfl (hB.c4 hi) (dg D_X11_pastSpans (i := 10) rfl) ?_
      refine n_icmp_ge (tgt := 44) hx hb (by omega) (by omega) (dg D_X11_pastSpans (i := 11) rfl) (by decide) (fun c17 => ?_) (fun c17 => ?_)
      · refine lv_iload_n hx hb (dg D_X11_pastSpans (i := 26) rfl) rfl (lv_at hl 2 rfl) ?_
        exact fin (dg D_X11_pastSpans (i := 27) rfl) (Nat.le_of_ble_eq_true rfl) (Nat.le_of_ble_eq_true rfl) hW hS ⟨⟨by simp [hr2], by rw [tN_nI (show jv < 2 ^ 31 by omega), show x = nS σ by omega]; rfl⟩, rfl, rfl, rfl⟩
      · refine lv_aload_n hx hb (dg D_X11_pastSpans (i := 12) rfl) rfl (lv_at hl 0 rfl) ?_
        refine r_getr (v := q) X hW FI_X11_71 rfl (by decide) rfl hR8 (dg D_X11_pastSpans (i := 13) rfl) ?_
        refine lv_iload_n hx hb (dg D_X11_pastSpans (i := 14) rfl) rfl (lv_at hl 3 rfl) ?_
        refine lv_iload_n hx hb (dg D_X11_pastSpans (i := 15) rfl) rfl (lv_at hl 1 rfl) ?_
        refine callVi X hW hS hR (c_X6_isPast (I := I) σ β q x jv (by first | assumption | omega | decide | exact hP.1) (by first | assumption | omega | decide | exact hP.1) (by first | assumption | omega | decide | exact hP.1) (by first | assumption | omega | decide | exact hP.1) (by first | assumption | omega | decide | exact hP.1) (by first | assumption | omega | decide | exact hP.1) (by first | assumption | omega | decide | exact hP.1) (by first | assumption | omega | decide | exact hP.1)) (by decide) UVX6_isPast LK_X11_154 (shP hq) (ncP0 hq) rfl rfl rfl (Nat.le_of_ble_eq_true rfl) hl hcs (dg D_X11_pastSpans (i := 16) rfl) (fun r26 I26 L1 R1 H locs hq hW hS => ?_)
        obtain ⟨rfl, rfl, rfl, rfl⟩ := hq
        refine z_if_eq (tgt := 38) hx hb (dg D_X11_pastSpans (i := 17) rfl) (by decide) (fun c29 => ?_) (fun c29 => ?_)
        · refine lv_iinc (v := nI (x + 1)) (lv' := [(3, .int (nI (x + 1))), (0, .ref (bs + 0)), (1, .int (nI jv)), (2, .int (orT (setF (fun x => decide (σ (10 + 5 * x + 4) < (rgS σ x (jv + 1)).1))) x))]) hx hb (dg D_X11_pastSpans (i := 24) rfl) hl (k := 3) rfl (nI_add _ _) (by decide) rfl (fun ls hl => ?_)
          refine lv_goto (tgt := 9) hx hb (dg D_X11_pastSpans (i := 25) rfl) (by decide) ?_
          exact ih9 (by omega) _ _ _ _ _ (by show _ = _ ||| setF (fun x => decide (σ (10 + 5 * x + 4) < (rgS σ x (jv + 1)).1)) x; rw [setF_f (p := fun x => decide (σ (10 + 5 * x + 4) < (rgS σ x (jv + 1)).1)) c29, or_n0]) (congrArg nI (by omega)) hW hS (lv_sub hl [1, 2, 3, 0] rfl)
        · refine lv_iload_n hx hb (dg D_X11_pastSpans (i := 18) rfl) rfl (lv_at hl 2 rfl) ?_
          refine n_iconst (a := 1) hx hb (dg D_X11_pastSpans (i := 19) rfl) rfl ?_
          refine lv_iload_n hx hb (dg D_X11_pastSpans (i := 20) rfl) rfl (lv_at hl 3 rfl) ?_
          refine lv_ishl hx hb (dg D_X11_pastSpans (i := 21) rfl) ?_
          refine lv_ior hx hb (dg D_X11_pastSpans (i := 22) rfl) ?_
          refine lv_istore_n (lv' := [(2, .int ((orT (setF (fun x => decide (σ (10 + 5 * x + 4) < (rgS σ x (jv + 1)).1))) x) ||| ((nI 1) <<< ((nI x) &&& 31)))), (0, .ref (bs + 0)), (1, .int (nI jv)), (3, .int (nI x))]) hx hb (dg D_X11_pastSpans (i := 23) rfl) rfl hl (by decide) rfl (fun ls hl => ?_)
          refine lv_iinc (v := nI (x + 1)) (lv' := [(3, .int (nI (x + 1))), (2, .int ((orT (setF (fun x => decide (σ (10 + 5 * x + 4) < (rgS σ x (jv + 1)).1))) x) ||| ((nI 1) <<< ((nI x) &&& 31)))), (0, .ref (bs + 0)), (1, .int (nI jv))]) hx hb (dg D_X11_pastSpans (i := 24) rfl) hl (k := 3) rfl (nI_add _ _) (by decide) rfl (fun ls hl => ?_)
          refine lv_goto (tgt := 9) hx hb (dg D_X11_pastSpans (i := 25) rfl) (by decide) ?_
          exact ih9 (by omega) _ _ _ _ _ (by show _ = _ ||| setF (fun x => decide (σ (10 + 5 * x + 4) < (rgS σ x (jv + 1)).1)) x; rw [setF_t (p := fun x => decide (σ (10 + 5 * x + 4) < (rgS σ x (jv + 1)).1)) c29]) (congrArg nI (by omega)) hW hS (lv_sub hl [2, 3, 1, 0] rfl))
  exact loop9 0 (Nat.zero_le _) _ _ _ _ _ (rfl) (congrArg nI (by omega)) hW hS (lv_sub hl [2, 3, 1, 0] rfl)

set_option maxHeartbeats 4000000 in
set_option maxRecDepth 100000 in
theorem c_X11_rustiest {l : Launch} {G : va_G} {bs : Nat} {cy : Nat → ClassId} {I : CI} {L : CL} {R : CR} (σ : Row) (β : Nat) (q : Nat) (v : Int32) (hl0 : l.stackTraces = false) (hi : Inv σ) (hd : DR σ) (hβ : isBr β) (hB : BrAt I β σ) (hq : isPl q) (hP : PlAt I q σ) (hRb : R q 0 = β) (hR7 : R 0 7 = β) (hR8 : R 0 8 = q) : XTi l G bs cy MX11_rustiest 7 [.ref (bs + 0), .int v] I L R (fun r I1 L1 R1 => ((inB v (Yn σ)) = true ∧ r = rst σ (tN v)) ∧ I = I1 ∧ L = L1 ∧ R = R1) (fun E => E = IOE ∧ (inB v (Yn σ)) = false) 1 6 := by
  refine XTi.of (own := RX11) pn_RX11 rfl (Nat.le_of_ble_eq_true rfl) ?_
  intro p e s m args below meth c Qc Qf X hW hS htab hlk hQf fin ls hl
  have hx := X.1
  have hb := X.2.1
  have hR : RmOK (rmL 7 1 6) 7 := ⟨rfl, rfl⟩
  have hcs : 0 ≤ (rmL 7 1 6).cells ∧ 0 ≤ (rmL 7 1 6).slots := ⟨Nat.zero_le _, Nat.zero_le _⟩
  have hl : lv_has ls 6 [(0, .ref (bs + 0)), (1, .int v)] := hl
  obtain ⟨hY, hY1, hY12, hLn, hL4, hSn, hS12, hGn, hG5⟩ := id hi
  have hbq := br_pl hβ hq
  refine lv_aload_n hx hb (dg D_X11_rustiest (i := 0) rfl) rfl (lv_at hl 0 rfl) ?_
  refine lv_iload_n hx hb (dg D_X11_rustiest (i := 1) rfl) rfl (lv_at hl 1 rfl) ?_
  refine callXv X hW hS hR htab hlk hQf (c_X11_checkYear (I := I) σ β v (by first | assumption | omega | decide | exact hP.1) (by first | assumption | omega | decide | exact hP.1) (by first | assumption | omega | decide | exact hP.1) (by first | assumption | omega | decide | exact hP.1) (by first | assumption | omega | decide | exact hP.1)) (fun E hE => ⟨hE.1, by simp [hE.2]⟩) (by decide) UVX11_checkYear LK_X11_134 rfl (by decide) rfl rfl rfl (Nat.le_of_ble_eq_true rfl) hl (Nat.le_of_ble_eq_true rfl) (Nat.le_of_ble_eq_true rfl) (Nat.le_of_ble_eq_true rfl) (Nat.le_of_ble_eq_true rfl) (dg D_X11_rustiest (i := 2) rfl) (fun I2 L1 R1 H locs hq hW hS => ?_)
  have hcs : 0 + 1 ≤ (rmL 7 1 6).cells ∧ 0 + 6 ≤ (rmL 7 1 6).slots := ⟨Nat.le_of_ble_eq_true rfl, Nat.le_of_ble_eq_true rfl⟩
  obtain ⟨hr2, rfl, rfl, rfl⟩ := hq
  obtain ⟨jv, hjv, rfl⟩ := inB_of hr2 (by omega)
  refine r_ldc X CK_X11_48 (dg D_X11_rustiest (i := 3) rfl) ?_
  refine lv_istore_n (lv' := [(2, .int ((-1000004))), (0, .ref (bs + 0)), (1, .int (nI jv))]) hx hb (dg D_X11_rustiest (i := 4) rfl) rfl hl (by decide) rfl (fun ls hl => ?_)
  refine lv_iconst (v := -1) hx hb (dg D_X11_rustiest (i := 5) rfl) (by decide) ?_
  refine lv_istore_n (lv' := [(3, .int ((-1))), (2, .int ((-1000004))), (0, .ref (bs + 0)), (1, .int (nI jv))]) hx hb (dg D_X11_rustiest (i := 6) rfl) rfl hl (by decide) rfl (fun ls hl => ?_)
  refine n_iconst (a := 0) hx hb (dg D_X11_rustiest (i := 7) rfl) rfl ?_
  refine lv_istore (lv' := [(4, .int (nI 0)), (3, .int ((-1))), (2, .int ((-1000004))), (0, .ref (bs + 0)), (1, .int (nI jv))]) hx hb (dg D_X11_rustiest (i := 8) rfl) hl (by decide) rfl (fun ls hl => ?_)
  have loop13 := up_ind (P := fun x => ∀ (H : Heap) (locs : List Loc) (ls : Array Slot) (v2 : Int32) (v3 : Int32) (v4 : Int32), v2 = (amx (fun x => (rgS σ x (jv + 1)).1) NOTF (-1) x).1 → v3 = (amx (fun x => (rgS σ x (jv + 1)).1) NOTF (-1) x).2 → v4 = nI x → Wd G bs cy I L R H → va_S (Aq bs) s.heap H locs → lv_has ls 6 [(0, .ref (bs + 0)), (1, .int (nI jv)), (2, .int v2), (3, .int v3), (4, .int v4)] → W p l e (rmL 7 1 6) s m args below meth c H locs (0 + 1) (0 + 6) Qf (F0 m 13 ls [])) (nS σ) (fun x hx13 ih13 => by
      intro H locs ls v2 v3 v4 q2 q3 q4 hW hS hl
      subst q2
      subst q3
      subst q4
      refine lv_iload hx hb (dg D_X11_rustiest (i := 9) rfl) (lv_at hl 4 rfl) ?_
      refine lv_aload_n hx hb (dg D_X11_rustiest (i := 10) rfl) rfl (lv_at hl 0 rfl) ?_
      refine r_getr (v := β) X hW FI_X11_67 rfl (by decide) rfl hR7 (dg D_X11_rustiest (i := 11) rfl) ?_
      refine rn_geti (v := nI (nS σ)) X hW FN_X11_128 (shB hβ) (ncB0 hβ) rfl (hB.c4 hi) (dg D_X11_rustiest (i := 12) rfl) ?_
      refine n_icmp_ge (tgt := 55) hx hb (by omega) (by omega) (dg D_X11_rustiest (i := 13) rfl) (by decide) (fun c22 => ?_) (fun c22 => ?_)
      · refine lv_iload_n hx hb (dg D_X11_rustiest (i := 29) rfl) rfl (lv_at hl 2 rfl) ?_
        exact fin (dg D_X11_rustiest (i := 30) rfl) (Nat.le_of_ble_eq_true rfl) (Nat.le_of_ble_eq_true rfl) hW hS ⟨⟨by simp [hr2], by rw [tN_nI (show jv < 2 ^ 31 by omega), show x = nS σ by omega]; rfl⟩, rfl, rfl, rfl⟩
      · refine lv_aload_n hx hb (dg D_X11_rustiest (i := 14) rfl) rfl (lv_at hl 0 rfl) ?_
        refine r_getr (v := q) X hW FI_X11_71 rfl (by decide) rfl hR8 (dg D_X11_rustiest (i := 15) rfl) ?_
        refine lv_iload hx hb (dg D_X11_rustiest (i := 16) rfl) (lv_at hl 4 rfl) ?_
        refine lv_iload_n hx hb (dg D_X11_rustiest (i := 17) rfl) rfl (lv_at hl 1 rfl) ?_
        refine callVi X hW hS hR (c_X6_rustAtEnd (I := I) σ q x jv (by first | assumption | omega | decide | exact hP.1) (by first | assumption | omega | decide | exact hP.1) (by first | assumption | omega | decide | exact hP.1) (by first | assumption | omega | decide | exact hP.1) (by first | assumption | omega | decide | exact hP.1)) (by decide) UVX6_rustAtEnd LK_X11_141 (shP hq) (ncP0 hq) rfl rfl rfl (Nat.le_of_ble_eq_true rfl) hl hcs (dg D_X11_rustiest (i := 18) rfl) (fun r32 I32 L1 R1 H locs hq hW hS => ?_)
        obtain ⟨rfl, rfl, rfl, rfl⟩ := hq
        refine lv_istore (lv' := [(5, .int ((rgS σ x (jv + 1)).1)), (0, .ref (bs + 0)), (1, .int (nI jv)), (2, .int ((amx (fun x => (rgS σ x (jv + 1)).1) NOTF (-1) x).1)), (3, .int ((amx (fun x => (rgS σ x (jv + 1)).1) NOTF (-1) x).2)), (4, .int (nI x))]) hx hb (dg D_X11_rustiest (i := 19) rfl) hl (by decide) rfl (fun ls hl => ?_)
        refine lv_iload hx hb (dg D_X11_rustiest (i := 20) rfl) (lv_at hl 0 rfl) ?_
        refine lv_iload_n hx hb (dg D_X11_rustiest (i := 21) rfl) rfl (lv_at hl 4 rfl) ?_
        refine lv_icmp_le (tgt := 49) hx hb (dg D_X11_rustiest (i := 22) rfl) (by decide) (fun c40 => ?_) (fun c40 => ?_)
        · refine lv_iinc (v := nI (x + 1)) (lv' := [(4, .int (nI (x + 1))), (5, .int ((rgS σ x (jv + 1)).1)), (0, .ref (bs + 0)), (1, .int (nI jv)), (2, .int ((amx (fun x => (rgS σ x (jv + 1)).1) NOTF (-1) x).1)), (3, .int ((amx (fun x => (rgS σ x (jv + 1)).1) NOTF (-1) x).2))]) hx hb (dg D_X11_rustiest (i := 27) rfl) hl (k := 5) rfl (nI_add _ _) (by decide) rfl (fun ls hl => ?_)
          refine lv_goto (tgt := 13) hx hb (dg D_X11_rustiest (i := 28) rfl) (by decide) ?_
          exact ih13 (by omega) _ _ _ _ _ _ (by rw [amx_n c40]) (by rw [amx_n c40]) (congrArg nI (by omega)) hW hS (lv_sub hl [2, 3, 4, 5, 0] rfl)
        · refine lv_iload hx hb (dg D_X11_rustiest (i := 23) rfl) (lv_at hl 0 rfl) ?_
          refine lv_istore_n (lv' := [(3, .int ((rgS σ x (jv + 1)).1)), (5, .int ((rgS σ x (jv + 1)).1)), (0, .ref (bs + 0)), (1, .int (nI jv)), (2, .int ((amx (fun x => (rgS σ x (jv + 1)).1) NOTF (-1) x).1)), (4, .int (nI x))]) hx hb (dg D_X11_rustiest (i := 24) rfl) rfl hl (by decide) rfl (fun ls hl => ?_)
          refine lv_iload hx hb (dg D_X11_rustiest (i := 25) rfl) (lv_at hl 5 rfl) ?_
          refine lv_istore_n (lv' := [(2, .int (nI x)), (3, .int ((rgS σ x (jv + 1)).1)), (5, .int ((rgS σ x (jv + 1)).1)), (0, .ref (bs + 0)), (1, .int (nI jv)), (4, .int (nI x))]) hx hb (dg D_X11_rustiest (i := 26) rfl) rfl hl (by decide) rfl (fun ls hl => ?_)
          refine lv_iinc (v := nI (x + 1)) (lv' := [(4, .int (nI (x + 1))), (2, .int (nI x)), (3, .int ((rgS σ x (jv + 1)).1)), (5, .int ((rgS σ x (jv + 1)).1)), (0, .ref (bs + 0)), (1, .int (nI jv))]) hx hb (dg D_X11_rustiest (i := 27) rfl) hl (k := 5) rfl (nI_add _ _) (by decide) rfl (fun ls hl => ?_)
          refine lv_goto (tgt := 13) hx hb (dg D_X11_rustiest (i := 28) rfl) (by decide) ?_
          exact ih13 (by omega) _ _ _ _ _ _ (by rw [amx_y c40]) (by rw [amx_y c40]) (congrArg nI (by omega)) hW hS (lv_sub hl [4, 5, 1, 2, 0] rfl))
  exact loop13 0 (Nat.zero_le _) _ _ _ _ _ _ (rfl) (rfl) (congrArg nI (by omega)) hW hS (lv_sub hl [3, 4, 2, 1, 0] rfl)

set_option maxHeartbeats 4000000 in
set_option maxRecDepth 100000 in
theorem c_X11_averageRust {l : Launch} {G : va_G} {bs : Nat} {cy : Nat → ClassId} {I : CI} {L : CL} {R : CR} (σ : Row) (β : Nat) (q : Nat) (v : Int32) (hl0 : l.stackTraces = false) (hi : Inv σ) (hd : DR σ) (hβ : isBr β) (hB : BrAt I β σ) (hq : isPl q) (hP : PlAt I q σ) (hRb : R q 0 = β) (hR7 : R 0 7 = β) (hR8 : R 0 8 = q) : XTd l G bs cy MX11_averageRust 7 [.ref (bs + 0), .int v] I L R (fun r I1 L1 R1 => ((inB v (Yn σ)) = true ∧ r = avR σ (tN v)) ∧ I = I1 ∧ L = L1 ∧ R = R1) (fun E => E = IOE ∧ (inB v (Yn σ)) = false) 1 6 := by
  refine XTd.of (own := RX11) pn_RX11 rfl (Nat.le_of_ble_eq_true rfl) ?_
  intro p e s m args below meth c Qc Qf X hW hS htab hlk hQf fin ls hl
  have hx := X.1
  have hb := X.2.1
  have hR : RmOK (rmL 7 1 6) 7 := ⟨rfl, rfl⟩
  have hcs : 0 ≤ (rmL 7 1 6).cells ∧ 0 ≤ (rmL 7 1 6).slots := ⟨Nat.zero_le _, Nat.zero_le _⟩
  have hl : lv_has ls 5 [(0, .ref (bs + 0)), (1, .int v)] := hl
  obtain ⟨hY, hY1, hY12, hLn, hL4, hSn, hS12, hGn, hG5⟩ := id hi
  have hbq := br_pl hβ hq
  refine lv_aload_n hx hb (dg D_X11_averageRust (i := 0) rfl) rfl (lv_at hl 0 rfl) ?_
  refine lv_iload_n hx hb (dg D_X11_averageRust (i := 1) rfl) rfl (lv_at hl 1 rfl) ?_
  refine callXv X hW hS hR htab hlk hQf (c_X11_checkYear (I := I) σ β v (by first | assumption | omega | decide | exact hP.1) (by first | assumption | omega | decide | exact hP.1) (by first | assumption | omega | decide | exact hP.1) (by first | assumption | omega | decide | exact hP.1) (by first | assumption | omega | decide | exact hP.1)) (fun E hE => ⟨hE.1, by simp [hE.2]⟩) (by decide) UVX11_checkYear LK_X11_134 rfl (by decide) rfl rfl rfl (Nat.le_of_ble_eq_true rfl) hl (Nat.le_of_ble_eq_true rfl) (Nat.le_of_ble_eq_true rfl) (Nat.le_of_ble_eq_true rfl) (Nat.le_of_ble_eq_true rfl) (dg D_X11_averageRust (i := 2) rfl) (fun I2 L1 R1 H locs hq hW hS => ?_)
  have hcs : 0 + 1 ≤ (rmL 7 1 6).cells ∧ 0 + 6 ≤ (rmL 7 1 6).slots := ⟨Nat.le_of_ble_eq_true rfl, Nat.le_of_ble_eq_true rfl⟩
  obtain ⟨hr2, rfl, rfl, rfl⟩ := hq
  obtain ⟨jv, hjv, rfl⟩ := inB_of hr2 (by omega)
  refine n_iconst (a := 0) hx hb (dg D_X11_averageRust (i := 3) rfl) rfl ?_
  refine lv_istore_n (lv' := [(2, .int (nI 0)), (0, .ref (bs + 0)), (1, .int (nI jv))]) hx hb (dg D_X11_averageRust (i := 4) rfl) rfl hl (by decide) rfl (fun ls hl => ?_)
  refine n_iconst (a := 0) hx hb (dg D_X11_averageRust (i := 5) rfl) rfl ?_
  refine lv_istore_n (lv' := [(3, .int (nI 0)), (2, .int (nI 0)), (0, .ref (bs + 0)), (1, .int (nI jv))]) hx hb (dg D_X11_averageRust (i := 6) rfl) rfl hl (by decide) rfl (fun ls hl => ?_)
  refine n_iconst (a := 0) hx hb (dg D_X11_averageRust (i := 7) rfl) rfl ?_
  refine lv_istore (lv' := [(4, .int (nI 0)), (3, .int (nI 0)), (2, .int (nI 0)), (0, .ref (bs + 0)), (1, .int (nI jv))]) hx hb (dg D_X11_averageRust (i := 8) rfl) hl (by decide) rfl (fun ls hl => ?_)
  have loop12 := up_ind (P := fun x => ∀ (H : Heap) (locs : List Loc) (ls : Array Slot) (v2 : Int32) (v3 : Int32) (v4 : Int32), v2 = sumT (fun x => σ (10 + 5 * x + 1) * (rgS σ x (jv + 1)).1) x → v3 = sumT (fun x => σ (10 + 5 * x + 1)) x → v4 = nI x → Wd G bs cy I L R H → va_S (Aq bs) s.heap H locs → lv_has ls 5 [(0, .ref (bs + 0)), (1, .int (nI jv)), (2, .int v2), (3, .int v3), (4, .int v4)] → W p l e (rmL 7 1 6) s m args below meth c H locs (0 + 1) (0 + 6) Qf (F0 m 12 ls [])) (nS σ) (fun x hx12 ih12 => by
      intro H locs ls v2 v3 v4 q2 q3 q4 hW hS hl
      subst q2
      subst q3
      subst q4
      refine lv_iload hx hb (dg D_X11_averageRust (i := 9) rfl) (lv_at hl 4 rfl) ?_
      refine lv_aload_n hx hb (dg D_X11_averageRust (i := 10) rfl) rfl (lv_at hl 0 rfl) ?_
      refine r_getr (v := β) X hW FI_X11_67 rfl (by decide) rfl hR7 (dg D_X11_averageRust (i := 11) rfl) ?_
      refine rn_geti (v := nI (nS σ)) X hW FN_X11_128 (shB hβ) (ncB0 hβ) rfl (hB.c4 hi) (dg D_X11_averageRust (i := 12) rfl) ?_
      refine n_icmp_ge (tgt := 67) hx hb (by omega) (by omega) (dg D_X11_averageRust (i := 13) rfl) (by decide) (fun c21 => ?_) (fun c21 => ?_)
      · refine lv_iload_n hx hb (dg D_X11_averageRust (i := 38) rfl) rfl (lv_at hl 3 rfl) ?_
        refine lv_if_gt (tgt := 75) hx hb (dg D_X11_averageRust (i := 39) rfl) (by decide) (fun c68 => ?_) (fun c68 => ?_)
        · refine lv_iload_n hx hb (dg D_X11_averageRust (i := 42) rfl) rfl (lv_at hl 2 rfl) ?_
          refine lv_i2d hx hb (dg D_X11_averageRust (i := 43) rfl) ?_
          refine lv_iload_n hx hb (dg D_X11_averageRust (i := 44) rfl) rfl (lv_at hl 3 rfl) ?_
          refine lv_i2d hx hb (dg D_X11_averageRust (i := 45) rfl) ?_
          refine lv_ddiv hx hb (dg D_X11_averageRust (i := 46) rfl) (by rw [show x = nS σ by omega] at c68 ⊢; exact avA_nn hd hi ((avA_le hd hi).mp c68)) ?_
          exact fin (dg D_X11_averageRust (i := 47) rfl) (Nat.le_of_ble_eq_true rfl) (Nat.le_of_ble_eq_true rfl) hW hS ⟨⟨by simp [hr2], by rw [show x = nS σ by omega] at c68; rw [tN_nI (show jv < 2 ^ 31 by omega)]; unfold avR; rw [if_neg ((avA_le hd hi).mp c68)]; rw [show x = nS σ by omega]; rfl⟩, rfl, rfl, rfl⟩
        · refine lv_dconst0 hx hb (dg D_X11_averageRust (i := 40) rfl) ?_
          refine lv_goto (tgt := 80) hx hb (dg D_X11_averageRust (i := 41) rfl) (by decide) ?_
          exact fin (dg D_X11_averageRust (i := 47) rfl) (Nat.le_of_ble_eq_true rfl) (Nat.le_of_ble_eq_true rfl) hW hS ⟨⟨by simp [hr2], by rw [show x = nS σ by omega] at c68; rw [tN_nI (show jv < 2 ^ 31 by omega)]; unfold avR; rw [if_pos (by by_cases e : avA σ = 0; exact e; exact absurd ((avA_le hd hi).mpr e) c68)]⟩, rfl, rfl, rfl⟩
      · refine lv_iload_n hx hb (dg D_X11_averageRust (i := 14) rfl) rfl (lv_at hl 2 rfl) ?_
        refine lv_aload_n hx hb (dg D_X11_averageRust (i := 15) rfl) rfl (lv_at hl 0 rfl) ?_
        refine r_getr (v := β) X hW FI_X11_67 rfl (by decide) rfl hR7 (dg D_X11_averageRust (i := 16) rfl) ?_
        refine rn_getc (t := β + 3) X hW FN_X11_158 (shB hβ) (ncB0 hβ) rfl (dg D_X11_averageRust (i := 17) rfl) ?_
        refine lv_iload hx hb (dg D_X11_averageRust (i := 18) rfl) (lv_at hl 4 rfl) ?_
        refine r_ald (j := x) (v := σ (10 + 5 * x + 1)) X hW (shB3 hβ) (ncB hβ (by decide)) rfl (by omega) (by omega) (hB.ar (by omega)) (dg D_X11_averageRust (i := 19) rfl) ?_
        refine lv_aload_n hx hb (dg D_X11_averageRust (i := 20) rfl) rfl (lv_at hl 0 rfl) ?_
        refine r_getr (v := q) X hW FI_X11_71 rfl (by decide) rfl hR8 (dg D_X11_averageRust (i := 21) rfl) ?_
        refine lv_iload hx hb (dg D_X11_averageRust (i := 22) rfl) (lv_at hl 4 rfl) ?_
        refine lv_iload_n hx hb (dg D_X11_averageRust (i := 23) rfl) rfl (lv_at hl 1 rfl) ?_
        refine callVi X hW hS hR (c_X6_rustAtEnd (I := I) σ q x jv (by first | assumption | omega | decide | exact hP.1) (by first | assumption | omega | decide | exact hP.1) (by first | assumption | omega | decide | exact hP.1) (by first | assumption | omega | decide | exact hP.1) (by first | assumption | omega | decide | exact hP.1)) (by decide) UVX6_rustAtEnd LK_X11_141 (shP hq) (ncP0 hq) rfl rfl rfl (Nat.le_of_ble_eq_true rfl) hl hcs (dg D_X11_averageRust (i := 24) rfl) (fun r42 I42 L1 R1 H locs hq hW hS => ?_)
        obtain ⟨rfl, rfl, rfl, rfl⟩ := hq
        refine lv_imul hx hb (dg D_X11_averageRust (i := 25) rfl) ?_
        refine lv_iadd hx hb (dg D_X11_averageRust (i := 26) rfl) ?_
        refine lv_istore_n (lv' := [(2, .int ((sumT (fun x => σ (10 + 5 * x + 1) * (rgS σ x (jv + 1)).1) x) + ((σ (10 + 5 * x + 1)) * ((rgS σ x (jv + 1)).1)))), (0, .ref (bs + 0)), (1, .int (nI jv)), (3, .int (sumT (fun x => σ (10 + 5 * x + 1)) x)), (4, .int (nI x))]) hx hb (dg D_X11_averageRust (i := 27) rfl) rfl hl (by decide) rfl (fun ls hl => ?_)
        refine lv_iload_n hx hb (dg D_X11_averageRust (i := 28) rfl) rfl (lv_at hl 3 rfl) ?_
        refine lv_aload_n hx hb (dg D_X11_averageRust (i := 29) rfl) rfl (lv_at hl 1 rfl) ?_
        refine r_getr (v := β) X hW FI_X11_67 rfl (by decide) rfl hR7 (dg D_X11_averageRust (i := 30) rfl) ?_
        refine rn_getc (t := β + 3) X hW FN_X11_158 (shB hβ) (ncB0 hβ) rfl (dg D_X11_averageRust (i := 31) rfl) ?_
        refine lv_iload hx hb (dg D_X11_averageRust (i := 32) rfl) (lv_at hl 4 rfl) ?_
        refine r_ald (j := x) (v := σ (10 + 5 * x + 1)) X hW (shB3 hβ) (ncB hβ (by decide)) rfl (by omega) (by omega) (hB.ar (by omega)) (dg D_X11_averageRust (i := 33) rfl) ?_
        refine lv_iadd hx hb (dg D_X11_averageRust (i := 34) rfl) ?_
        refine lv_istore_n (lv' := [(3, .int ((sumT (fun x => σ (10 + 5 * x + 1)) x) + (σ (10 + 5 * x + 1)))), (2, .int ((sumT (fun x => σ (10 + 5 * x + 1) * (rgS σ x (jv + 1)).1) x) + ((σ (10 + 5 * x + 1)) * ((rgS σ x (jv + 1)).1)))), (0, .ref (bs + 0)), (1, .int (nI jv)), (4, .int (nI x))]) hx hb (dg D_X11_averageRust (i := 35) rfl) rfl hl (by decide) rfl (fun ls hl => ?_)
        refine lv_iinc (v := nI (x + 1)) (lv' := [(4, .int (nI (x + 1))), (3, .int ((sumT (fun x => σ (10 + 5 * x + 1)) x) + (σ (10 + 5 * x + 1)))), (2, .int ((sumT (fun x => σ (10 + 5 * x + 1) * (rgS σ x (jv + 1)).1) x) + ((σ (10 + 5 * x + 1)) * ((rgS σ x (jv + 1)).1)))), (0, .ref (bs + 0)), (1, .int (nI jv))]) hx hb (dg D_X11_averageRust (i := 36) rfl) hl (k := 4) rfl (nI_add _ _) (by decide) rfl (fun ls hl => ?_)
        refine lv_goto (tgt := 12) hx hb (dg D_X11_averageRust (i := 37) rfl) (by decide) ?_
        exact ih12 (by omega) _ _ _ _ _ _ (rfl) (rfl) (congrArg nI (by omega)) hW hS (lv_sub hl [3, 4, 2, 1, 0] rfl))
  exact loop12 0 (Nat.zero_le _) _ _ _ _ _ _ (rfl) (rfl) (congrArg nI (by omega)) hW hS (lv_sub hl [3, 4, 2, 1, 0] rfl)

set_option maxHeartbeats 4000000 in
set_option maxRecDepth 100000 in
theorem c_X11_unpaintedPast {l : Launch} {G : va_G} {bs : Nat} {cy : Nat → ClassId} {I : CI} {L : CL} {R : CR} (σ : Row) (β : Nat) (q : Nat) (v : Int32) (hl0 : l.stackTraces = false) (hi : Inv σ) (hd : DR σ) (hβ : isBr β) (hB : BrAt I β σ) (hq : isPl q) (hP : PlAt I q σ) (hRb : R q 0 = β) (hR7 : R 0 7 = β) (hR8 : R 0 8 = q) : XTi l G bs cy MX11_unpaintedPast 7 [.ref (bs + 0), .int v] I L R (fun r I1 L1 R1 => ((inB v (nS σ)) = true ∧ r = fpB σ (tN v) (fun _ => false)) ∧ I = I1 ∧ L = L1 ∧ R = R1) (fun E => E = IOE ∧ (inB v (nS σ)) = false) 1 6 := by
  refine XTi.of (own := RX11) pn_RX11 rfl (Nat.le_of_ble_eq_true rfl) ?_
  intro p e s m args below meth c Qc Qf X hW hS htab hlk hQf fin ls hl
  have hx := X.1
  have hb := X.2.1
  have hR : RmOK (rmL 7 1 6) 7 := ⟨rfl, rfl⟩
  have hcs : 0 ≤ (rmL 7 1 6).cells ∧ 0 ≤ (rmL 7 1 6).slots := ⟨Nat.zero_le _, Nat.zero_le _⟩
  have hl : lv_has ls 2 [(0, .ref (bs + 0)), (1, .int v)] := hl
  obtain ⟨hY, hY1, hY12, hLn, hL4, hSn, hS12, hGn, hG5⟩ := id hi
  have hbq := br_pl hβ hq
  refine lv_aload_n hx hb (dg D_X11_unpaintedPast (i := 0) rfl) rfl (lv_at hl 0 rfl) ?_
  refine lv_iload_n hx hb (dg D_X11_unpaintedPast (i := 1) rfl) rfl (lv_at hl 1 rfl) ?_
  refine callXv X hW hS hR htab hlk hQf (c_X11_checkSpan (I := I) σ β v (by first | assumption | omega | decide | exact hP.1) (by first | assumption | omega | decide | exact hP.1) (by first | assumption | omega | decide | exact hP.1) (by first | assumption | omega | decide | exact hP.1) (by first | assumption | omega | decide | exact hP.1)) (fun E hE => ⟨hE.1, by simp [hE.2]⟩) (by decide) UVX11_checkSpan LK_X11_131 rfl (by decide) rfl rfl rfl (Nat.le_of_ble_eq_true rfl) hl (Nat.le_of_ble_eq_true rfl) (Nat.le_of_ble_eq_true rfl) (Nat.le_of_ble_eq_true rfl) (Nat.le_of_ble_eq_true rfl) (dg D_X11_unpaintedPast (i := 2) rfl) (fun I2 L1 R1 H locs hq hW hS => ?_)
  have hcs : 0 + 1 ≤ (rmL 7 1 6).cells ∧ 0 + 6 ≤ (rmL 7 1 6).slots := ⟨Nat.le_of_ble_eq_true rfl, Nat.le_of_ble_eq_true rfl⟩
  obtain ⟨hr2, rfl, rfl, rfl⟩ := hq
  obtain ⟨jv, hjv, rfl⟩ := inB_of hr2 (by omega)
  refine lv_aload_n hx hb (dg D_X11_unpaintedPast (i := 3) rfl) rfl (lv_at hl 0 rfl) ?_
  refine r_getr (v := β) X hW FI_X11_67 rfl (by decide) rfl hR7 (dg D_X11_unpaintedPast (i := 4) rfl) ?_
  refine lv_iload_n hx hb (dg D_X11_unpaintedPast (i := 5) rfl) rfl (lv_at hl 1 rfl) ?_
  refine lv_aload_n hx hb (dg D_X11_unpaintedPast (i := 6) rfl) rfl (lv_at hl 0 rfl) ?_
  refine r_getr (v := β) X hW FI_X11_67 rfl (by decide) rfl hR7 (dg D_X11_unpaintedPast (i := 7) rfl) ?_
  refine rn_getc (t := β + 5) X hW FN_X11_178 (shB hβ) (ncB0 hβ) rfl (dg D_X11_unpaintedPast (i := 8) rfl) ?_
  refine lv_iload_n hx hb (dg D_X11_unpaintedPast (i := 9) rfl) rfl (lv_at hl 1 rfl) ?_
  refine r_ald (j := jv) (v := σ (10 + 5 * jv + 3)) X hW (shB5 hβ) (ncB hβ (by decide)) rfl (by omega) (by omega) (hB.ra (by omega)) (dg D_X11_unpaintedPast (i := 10) rfl) ?_
  refine callVi X hW hS hR (c_X1_firstPastBare (I := I) σ β jv (σ (10 + 5 * jv + 3)) (by first | assumption | omega | decide | exact hP.1) (by first | assumption | omega | decide | exact hP.1) (by first | assumption | omega | decide | exact hP.1) (by first | assumption | omega | decide | exact hP.1)) (by decide) UVX1_firstPastBare LK_X11_181 (shB hβ) (ncB0 hβ) rfl rfl rfl (Nat.le_of_ble_eq_true rfl) hl hcs (dg D_X11_unpaintedPast (i := 11) rfl) (fun r19 I19 L1 R1 H locs hq hW hS => ?_)
  obtain ⟨rfl, rfl, rfl, rfl⟩ := hq
  exact fin (dg D_X11_unpaintedPast (i := 12) rfl) (Nat.le_of_ble_eq_true rfl) (Nat.le_of_ble_eq_true rfl) hW hS ⟨⟨by simp [hr2], by rw [tN_nI (show jv < 2 ^ 31 by omega)]; rfl⟩, rfl, rfl, rfl⟩

set_option maxHeartbeats 4000000 in
set_option maxRecDepth 100000 in
theorem c_X11_coatsNeeded {l : Launch} {G : va_G} {bs : Nat} {cy : Nat → ClassId} {I : CI} {L : CL} {R : CR} (σ : Row) (β : Nat) (q : Nat) (v : Int32) (hl0 : l.stackTraces = false) (hi : Inv σ) (hd : DR σ) (hβ : isBr β) (hB : BrAt I β σ) (hq : isPl q) (hP : PlAt I q σ) (hRb : R q 0 = β) (hR7 : R 0 7 = β) (hR8 : R 0 8 = q) : XTi l G bs cy MX11_coatsNeeded 7 [.ref (bs + 0), .int v] I L R (fun r I1 L1 R1 => ((inB v (nS σ)) = true ∧ r = nI (coN σ (tN v))) ∧ I = I1 ∧ L = L1 ∧ R = R1) (fun E => E = IOE ∧ (inB v (nS σ)) = false) 1 6 := by
  refine XTi.of (own := RX11) pn_RX11 rfl (Nat.le_of_ble_eq_true rfl) ?_
  intro p e s m args below meth c Qc Qf X hW hS htab hlk hQf fin ls hl
  have hx := X.1
  have hb := X.2.1
  have hR : RmOK (rmL 7 1 6) 7 := ⟨rfl, rfl⟩
  have hcs : 0 ≤ (rmL 7 1 6).cells ∧ 0 ≤ (rmL 7 1 6).slots := ⟨Nat.zero_le _, Nat.zero_le _⟩
  have hl : lv_has ls 3 [(0, .ref (bs + 0)), (1, .int v)] := hl
  obtain ⟨hY, hY1, hY12, hLn, hL4, hSn, hS12, hGn, hG5⟩ := id hi
  have hbq := br_pl hβ hq
  refine lv_aload_n hx hb (dg D_X11_coatsNeeded (i := 0) rfl) rfl (lv_at hl 0 rfl) ?_
  refine lv_iload_n hx hb (dg D_X11_coatsNeeded (i := 1) rfl) rfl (lv_at hl 1 rfl) ?_
  refine callXv X hW hS hR htab hlk hQf (c_X11_checkSpan (I := I) σ β v (by first | assumption | omega | decide | exact hP.1) (by first | assumption | omega | decide | exact hP.1) (by first | assumption | omega | decide | exact hP.1) (by first | assumption | omega | decide | exact hP.1) (by first | assumption | omega | decide | exact hP.1)) (fun E hE => ⟨hE.1, by simp [hE.2]⟩) (by decide) UVX11_checkSpan LK_X11_131 rfl (by decide) rfl rfl rfl (Nat.le_of_ble_eq_true rfl) hl (Nat.le_of_ble_eq_true rfl) (Nat.le_of_ble_eq_true rfl) (Nat.le_of_ble_eq_true rfl) (Nat.le_of_ble_eq_true rfl) (dg D_X11_coatsNeeded (i := 2) rfl) (fun I2 L1 R1 H locs hq hW hS => ?_)
  have hcs : 0 + 1 ≤ (rmL 7 1 6).cells ∧ 0 + 6 ≤ (rmL 7 1 6).slots := ⟨Nat.le_of_ble_eq_true rfl, Nat.le_of_ble_eq_true rfl⟩
  obtain ⟨hr2, rfl, rfl, rfl⟩ := hq
  obtain ⟨jv, hjv, rfl⟩ := inB_of hr2 (by omega)
  refine n_iconst (a := 0) hx hb (dg D_X11_coatsNeeded (i := 3) rfl) rfl ?_
  refine lv_istore_n (lv' := [(2, .int (nI 0)), (0, .ref (bs + 0)), (1, .int (nI jv))]) hx hb (dg D_X11_coatsNeeded (i := 4) rfl) rfl hl (by decide) rfl (fun ls hl => ?_)
  have loop7 := up_ind (P := fun n => ∀ (H : Heap) (locs : List Loc) (ls : Array Slot) (v2 : Int32), v2 = nI n → (n ≤ coN σ jv) → Wd G bs cy I L R H → va_S (Aq bs) s.heap H locs → lv_has ls 3 [(0, .ref (bs + 0)), (1, .int (nI jv)), (2, .int v2)] → W p l e (rmL 7 1 6) s m args below meth c H locs (0 + 1) (0 + 6) Qf (F0 m 7 ls [])) (Yn σ) (fun n hx7 ih7 => by
      intro H locs ls v2 q2 hn hW hS hl
      subst q2
      refine lv_iload_n hx hb (dg D_X11_coatsNeeded (i := 5) rfl) rfl (lv_at hl 2 rfl) ?_
      refine lv_aload_n hx hb (dg D_X11_coatsNeeded (i := 6) rfl) rfl (lv_at hl 0 rfl) ?_
      refine r_getr (v := β) X hW FI_X11_67 rfl (by decide) rfl hR7 (dg D_X11_coatsNeeded (i := 7) rfl) ?_
      refine rn_geti (v := nI (Yn σ)) X hW FN_X11_168 (shB hβ) (ncB0 hβ) rfl (hB.c0 hi) (dg D_X11_coatsNeeded (i := 8) rfl) ?_
      refine n_icmp_ge (tgt := 38) hx hb (by omega) (by omega) (dg D_X11_coatsNeeded (i := 9) rfl) (by decide) (fun c15 => ?_) (fun c15 => ?_)
      · refine lv_iload_n hx hb (dg D_X11_coatsNeeded (i := 19) rfl) rfl (lv_at hl 2 rfl) ?_
        exact fin (dg D_X11_coatsNeeded (i := 20) rfl) (Nat.le_of_ble_eq_true rfl) (Nat.le_of_ble_eq_true rfl) hW hS ⟨⟨by simp [hr2], by rw [tN_nI (show jv < 2 ^ 31 by omega)]; exact congrArg nI (by have h := cntB_le (gzB σ jv) (Yn σ); have h2 : coN σ jv ≤ Yn σ := h; omega)⟩, rfl, rfl, rfl⟩
      · refine lv_aload_n hx hb (dg D_X11_coatsNeeded (i := 10) rfl) rfl (lv_at hl 0 rfl) ?_
        refine r_getr (v := β) X hW FI_X11_67 rfl (by decide) rfl hR7 (dg D_X11_coatsNeeded (i := 11) rfl) ?_
        refine lv_iload_n hx hb (dg D_X11_coatsNeeded (i := 12) rfl) rfl (lv_at hl 1 rfl) ?_
        refine lv_iload_n hx hb (dg D_X11_coatsNeeded (i := 13) rfl) rfl (lv_at hl 2 rfl) ?_
        refine callVi X hW hS hR (c_X1_latestCoat (I := I) σ β jv (nI n) (by first | assumption | omega | decide | exact hP.1) (by first | assumption | omega | decide | exact hP.1) (by first | assumption | omega | decide | exact hP.1) (by first | assumption | omega | decide | exact hP.1) (by first | assumption | omega | decide | exact hP.1)) (by decide) UVX1_latestCoat LK_X11_184 (shB hβ) (ncB0 hβ) rfl rfl rfl (Nat.le_of_ble_eq_true rfl) hl hcs (dg D_X11_coatsNeeded (i := 14) rfl) (fun r24 I24 L1 R1 H locs hq hW hS => ?_)
        obtain ⟨rfl, rfl, rfl, rfl⟩ := hq
        refine r_ldc X CK_X11_48 (dg D_X11_coatsNeeded (i := 15) rfl) ?_
        refine lv_icmp_eq (tgt := 38) hx hb (dg D_X11_coatsNeeded (i := 16) rfl) (by decide) (fun c29 => ?_) (fun c29 => ?_)
        · refine lv_iload_n hx hb (dg D_X11_coatsNeeded (i := 19) rfl) rfl (lv_at hl 2 rfl) ?_
          exact fin (dg D_X11_coatsNeeded (i := 20) rfl) (Nat.le_of_ble_eq_true rfl) (Nat.le_of_ble_eq_true rfl) hW hS ⟨⟨by simp [hr2], by rw [tN_nI (show jv < 2 ^ 31 by omega)]; exact congrArg nI (by have h := cntB_le (gzB σ jv) (Yn σ); have h2 : coN σ jv ≤ Yn σ := h; have h3 := (lp_none (by omega) hY12).mp c29; omega)⟩, rfl, rfl, rfl⟩
        · refine lv_iinc (v := nI (n + 1)) (lv' := [(2, .int (nI (n + 1))), (0, .ref (bs + 0)), (1, .int (nI jv))]) hx hb (dg D_X11_coatsNeeded (i := 17) rfl) hl (k := 2) rfl (nI_add _ _) (by decide) rfl (fun ls hl => ?_)
          refine lv_goto (tgt := 7) hx hb (dg D_X11_coatsNeeded (i := 18) rfl) (by decide) ?_
          exact ih7 (by omega) _ _ _ _ (congrArg nI (by omega)) (by rcases Nat.lt_or_ge n (coN σ jv) with h | h; exact h; exact absurd ((lp_none (by omega) hY12).mpr h) c29) hW hS (lv_sub hl [1, 2, 0] rfl))
  exact loop7 0 (Nat.zero_le _) _ _ _ _ (congrArg nI (by omega)) (Nat.zero_le _) hW hS (lv_sub hl [1, 2, 0] rfl)

set_option maxHeartbeats 4000000 in
set_option maxRecDepth 100000 in
theorem c_X11_latestPainting {l : Launch} {G : va_G} {bs : Nat} {cy : Nat → ClassId} {I : CI} {L : CL} {R : CR} (σ : Row) (β : Nat) (q : Nat) (v : Int32) (w : Int32) (hl0 : l.stackTraces = false) (hi : Inv σ) (hd : DR σ) (hβ : isBr β) (hB : BrAt I β σ) (hq : isPl q) (hP : PlAt I q σ) (hRb : R q 0 = β) (hR7 : R 0 7 = β) (hR8 : R 0 8 = q) : XTi l G bs cy MX11_latestPainting 7 [.ref (bs + 0), .int v, .int w] I L R (fun r I1 L1 R1 => ((inB v (nS σ)) = true ∧ r = lpY σ (tN v) w) ∧ I = I1 ∧ L = L1 ∧ R = R1) (fun E => E = IOE ∧ (inB v (nS σ)) = false) 1 6 := by
  refine XTi.of (own := RX11) pn_RX11 rfl (Nat.le_of_ble_eq_true rfl) ?_
  intro p e s m args below meth c Qc Qf X hW hS htab hlk hQf fin ls hl
  have hx := X.1
  have hb := X.2.1
  have hR : RmOK (rmL 7 1 6) 7 := ⟨rfl, rfl⟩
  have hcs : 0 ≤ (rmL 7 1 6).cells ∧ 0 ≤ (rmL 7 1 6).slots := ⟨Nat.zero_le _, Nat.zero_le _⟩
  have hl : lv_has ls 3 [(0, .ref (bs + 0)), (1, .int v), (2, .int w)] := hl
  obtain ⟨hY, hY1, hY12, hLn, hL4, hSn, hS12, hGn, hG5⟩ := id hi
  have hbq := br_pl hβ hq
  refine lv_aload_n hx hb (dg D_X11_latestPainting (i := 0) rfl) rfl (lv_at hl 0 rfl) ?_
  refine lv_iload_n hx hb (dg D_X11_latestPainting (i := 1) rfl) rfl (lv_at hl 1 rfl) ?_
  refine callXv X hW hS hR htab hlk hQf (c_X11_checkSpan (I := I) σ β v (by first | assumption | omega | decide | exact hP.1) (by first | assumption | omega | decide | exact hP.1) (by first | assumption | omega | decide | exact hP.1) (by first | assumption | omega | decide | exact hP.1) (by first | assumption | omega | decide | exact hP.1)) (fun E hE => ⟨hE.1, by simp [hE.2]⟩) (by decide) UVX11_checkSpan LK_X11_131 rfl (by decide) rfl rfl rfl (Nat.le_of_ble_eq_true rfl) hl (Nat.le_of_ble_eq_true rfl) (Nat.le_of_ble_eq_true rfl) (Nat.le_of_ble_eq_true rfl) (Nat.le_of_ble_eq_true rfl) (dg D_X11_latestPainting (i := 2) rfl) (fun I2 L1 R1 H locs hq hW hS => ?_)
  have hcs : 0 + 1 ≤ (rmL 7 1 6).cells ∧ 0 + 6 ≤ (rmL 7 1 6).slots := ⟨Nat.le_of_ble_eq_true rfl, Nat.le_of_ble_eq_true rfl⟩
  obtain ⟨hr2, rfl, rfl, rfl⟩ := hq
  obtain ⟨jv, hjv, rfl⟩ := inB_of hr2 (by omega)
  refine lv_aload_n hx hb (dg D_X11_latestPainting (i := 3) rfl) rfl (lv_at hl 0 rfl) ?_
  refine r_getr (v := β) X hW FI_X11_67 rfl (by decide) rfl hR7 (dg D_X11_latestPainting (i := 4) rfl) ?_
  refine lv_iload_n hx hb (dg D_X11_latestPainting (i := 5) rfl) rfl (lv_at hl 1 rfl) ?_
  refine lv_iload_n hx hb (dg D_X11_latestPainting (i := 6) rfl) rfl (lv_at hl 2 rfl) ?_
  refine callVi X hW hS hR (c_X1_latestCoat (I := I) σ β jv w (by first | assumption | omega | decide | exact hP.1) (by first | assumption | omega | decide | exact hP.1) (by first | assumption | omega | decide | exact hP.1) (by first | assumption | omega | decide | exact hP.1) (by first | assumption | omega | decide | exact hP.1)) (by decide) UVX1_latestCoat LK_X11_184 (shB hβ) (ncB0 hβ) rfl rfl rfl (Nat.le_of_ble_eq_true rfl) hl hcs (dg D_X11_latestPainting (i := 7) rfl) (fun r11 I11 L1 R1 H locs hq hW hS => ?_)
  obtain ⟨rfl, rfl, rfl, rfl⟩ := hq
  exact fin (dg D_X11_latestPainting (i := 8) rfl) (Nat.le_of_ble_eq_true rfl) (Nat.le_of_ble_eq_true rfl) hW hS ⟨⟨by simp [hr2], by rw [tN_nI (show jv < 2 ^ 31 by omega)]⟩, rfl, rfl, rfl⟩

set_option maxHeartbeats 4000000 in
set_option maxRecDepth 100000 in
theorem c_X11_harmlessRate {l : Launch} {G : va_G} {bs : Nat} {cy : Nat → ClassId} {I : CI} {L : CL} {R : CR} (σ : Row) (β : Nat) (q : Nat) (v : Int32) (hl0 : l.stackTraces = false) (hi : Inv σ) (hd : DR σ) (hβ : isBr β) (hB : BrAt I β σ) (hq : isPl q) (hP : PlAt I q σ) (hRb : R q 0 = β) (hR7 : R 0 7 = β) (hR8 : R 0 8 = q) : XTi l G bs cy MX11_harmlessRate 7 [.ref (bs + 0), .int v] I L R (fun r I1 L1 R1 => ((inB v (nS σ)) = true ∧ r = hrm σ (tN v) 50) ∧ I = I1 ∧ L = L1 ∧ R = R1) (fun E => E = IOE ∧ (inB v (nS σ)) = false) 1 6 := by
  refine XTi.of (own := RX11) pn_RX11 rfl (Nat.le_of_ble_eq_true rfl) ?_
  intro p e s m args below meth c Qc Qf X hW hS htab hlk hQf fin ls hl
  have hx := X.1
  have hb := X.2.1
  have hR : RmOK (rmL 7 1 6) 7 := ⟨rfl, rfl⟩
  have hcs : 0 ≤ (rmL 7 1 6).cells ∧ 0 ≤ (rmL 7 1 6).slots := ⟨Nat.zero_le _, Nat.zero_le _⟩
  have hl : lv_has ls 3 [(0, .ref (bs + 0)), (1, .int v)] := hl
  obtain ⟨hY, hY1, hY12, hLn, hL4, hSn, hS12, hGn, hG5⟩ := id hi
  have hbq := br_pl hβ hq
  refine lv_aload_n hx hb (dg D_X11_harmlessRate (i := 0) rfl) rfl (lv_at hl 0 rfl) ?_
  refine lv_iload_n hx hb (dg D_X11_harmlessRate (i := 1) rfl) rfl (lv_at hl 1 rfl) ?_
  refine callXv X hW hS hR htab hlk hQf (c_X11_checkSpan (I := I) σ β v (by first | assumption | omega | decide | exact hP.1) (by first | assumption | omega | decide | exact hP.1) (by first | assumption | omega | decide | exact hP.1) (by first | assumption | omega | decide | exact hP.1) (by first | assumption | omega | decide | exact hP.1)) (fun E hE => ⟨hE.1, by simp [hE.2]⟩) (by decide) UVX11_checkSpan LK_X11_131 rfl (by decide) rfl rfl rfl (Nat.le_of_ble_eq_true rfl) hl (Nat.le_of_ble_eq_true rfl) (Nat.le_of_ble_eq_true rfl) (Nat.le_of_ble_eq_true rfl) (Nat.le_of_ble_eq_true rfl) (dg D_X11_harmlessRate (i := 2) rfl) (fun I2 L1 R1 H locs hq hW hS => ?_)
  have hcs : 0 + 1 ≤ (rmL 7 1 6).cells ∧ 0 + 6 ≤ (rmL 7 1 6).slots := ⟨Nat.le_of_ble_eq_true rfl, Nat.le_of_ble_eq_true rfl⟩
  obtain ⟨hr2, rfl, rfl, rfl⟩ := hq
  obtain ⟨jv, hjv, rfl⟩ := inB_of hr2 (by omega)
  refine lv_bipush (v := nI 50) hx hb (dg D_X11_harmlessRate (i := 3) rfl) (by decide) ?_
  refine lv_istore_n (lv' := [(2, .int (nI 50)), (0, .ref (bs + 0)), (1, .int (nI jv))]) hx hb (dg D_X11_harmlessRate (i := 4) rfl) rfl hl (by decide) rfl (fun ls hl => ?_)
  have loop8 := up_ind (P := fun t => ∀ (H : Heap) (locs : List Loc) (ls : Array Slot) (v2 : Int32), v2 = nI (50 - t) → (hrm σ jv 50 = hrm σ jv (50 - t)) → Wd G bs cy I L R H → va_S (Aq bs) s.heap H locs → lv_has ls 3 [(0, .ref (bs + 0)), (1, .int (nI jv)), (2, .int v2)] → W p l e (rmL 7 1 6) s m args below meth c H locs (0 + 1) (0 + 6) Qf (F0 m 8 ls [])) 50 (fun t hx8 ih8 => by
      intro H locs ls v2 q2 hh hW hS hl
      subst q2
      refine lv_iload_n hx hb (dg D_X11_harmlessRate (i := 5) rfl) rfl (lv_at hl 2 rfl) ?_
      refine n_iconst (a := 1) hx hb (dg D_X11_harmlessRate (i := 6) rfl) rfl ?_
      refine n_icmp_lt (tgt := 35) hx hb (by omega) (by omega) (dg D_X11_harmlessRate (i := 7) rfl) (by decide) (fun c10 => ?_) (fun c10 => ?_)
      · refine r_ldc X CK_X11_48 (dg D_X11_harmlessRate (i := 19) rfl) ?_
        exact fin (dg D_X11_harmlessRate (i := 20) rfl) (Nat.le_of_ble_eq_true rfl) (Nat.le_of_ble_eq_true rfl) hW hS ⟨⟨by simp [hr2], by rw [tN_nI (show jv < 2 ^ 31 by omega), hh]; rw [show 50 - t = 0 by omega]; rfl⟩, rfl, rfl, rfl⟩
      · refine lv_aload_n hx hb (dg D_X11_harmlessRate (i := 8) rfl) rfl (lv_at hl 0 rfl) ?_
        refine r_getr (v := β) X hW FI_X11_67 rfl (by decide) rfl hR7 (dg D_X11_harmlessRate (i := 9) rfl) ?_
        refine lv_iload_n hx hb (dg D_X11_harmlessRate (i := 10) rfl) rfl (lv_at hl 1 rfl) ?_
        refine lv_iload_n hx hb (dg D_X11_harmlessRate (i := 11) rfl) rfl (lv_at hl 2 rfl) ?_
        refine callVi X hW hS hR (c_X1_firstPastBare (I := I) σ β jv (nI (50 - t)) (by first | assumption | omega | decide | exact hP.1) (by first | assumption | omega | decide | exact hP.1) (by first | assumption | omega | decide | exact hP.1) (by first | assumption | omega | decide | exact hP.1)) (by decide) UVX1_firstPastBare LK_X11_181 (shB hβ) (ncB0 hβ) rfl rfl rfl (Nat.le_of_ble_eq_true rfl) hl hcs (dg D_X11_harmlessRate (i := 12) rfl) (fun r19 I19 L1 R1 H locs hq hW hS => ?_)
        obtain ⟨rfl, rfl, rfl, rfl⟩ := hq
        refine r_ldc X CK_X11_48 (dg D_X11_harmlessRate (i := 13) rfl) ?_
        refine lv_icmp_ne (tgt := 29) hx hb (dg D_X11_harmlessRate (i := 14) rfl) (by decide) (fun c24 => ?_) (fun c24 => ?_)
        · refine lv_iinc (v := nI (50 - (t + 1))) (lv' := [(2, .int (nI (50 - (t + 1)))), (0, .ref (bs + 0)), (1, .int (nI jv))]) hx hb (dg D_X11_harmlessRate (i := 17) rfl) hl (k := 2) rfl (by rw [show 50 - t = 50 - (t + 1) + 1 by omega]; exact nI_dec _) (by decide) rfl (fun ls hl => ?_)
          refine lv_goto (tgt := 8) hx hb (dg D_X11_harmlessRate (i := 18) rfl) (by decide) ?_
          exact ih8 (by omega) _ _ _ _ rfl (by rw [hh, show 50 - t = (50 - (t + 1)) + 1 by omega]; exact if_neg (by rw [show 50 - (t + 1) + 1 = 50 - t by omega]; exact c24)) hW hS (lv_sub hl [1, 2, 0] rfl)
        · refine lv_iload_n hx hb (dg D_X11_harmlessRate (i := 15) rfl) rfl (lv_at hl 2 rfl) ?_
          exact fin (dg D_X11_harmlessRate (i := 16) rfl) (Nat.le_of_ble_eq_true rfl) (Nat.le_of_ble_eq_true rfl) hW hS ⟨⟨by simp [hr2], by rw [tN_nI (show jv < 2 ^ 31 by omega), hh]; rw [show 50 - t = (50 - t - 1) + 1 by omega]; exact (if_pos (by rw [show 50 - t - 1 + 1 = 50 - t by omega]; first | exact c24 | exact Classical.not_not.mp c24)).symm⟩, rfl, rfl, rfl⟩)
  exact loop8 0 (Nat.zero_le _) _ _ _ _ (congrArg nI (by omega)) rfl hW hS (lv_sub hl [1, 2, 0] rfl)

set_option maxHeartbeats 4000000 in
set_option maxRecDepth 100000 in
theorem c_X11_effort {l : Launch} {G : va_G} {bs : Nat} {cy : Nat → ClassId} {I : CI} {L : CL} {R : CR} (σ : Row) (β : Nat) (q : Nat) (v : Int32) (w : Int32) (hl0 : l.stackTraces = false) (hi : Inv σ) (hd : DR σ) (hβ : isBr β) (hB : BrAt I β σ) (hq : isPl q) (hP : PlAt I q σ) (hRb : R q 0 = β) (hR7 : R 0 7 = β) (hR8 : R 0 8 = q) : XTi l G bs cy MX11_effort 7 [.ref (bs + 0), .int v, .int w] I L R (fun r I1 L1 R1 => ((inB v (nS σ) && inB w (Yn σ)) = true ∧ r = eff σ (tN v) (tN w)) ∧ I = I1 ∧ L = L1 ∧ R = R1) (fun E => E = IOE ∧ (inB v (nS σ) && inB w (Yn σ)) = false) 2 12 := by
  refine XTi.of (own := RX11) pn_RX11 rfl (Nat.le_of_ble_eq_true rfl) ?_
  intro p e s m args below meth c Qc Qf X hW hS htab hlk hQf fin ls hl
  have hx := X.1
  have hb := X.2.1
  have hR : RmOK (rmL 7 2 12) 7 := ⟨rfl, rfl⟩
  have hcs : 0 ≤ (rmL 7 2 12).cells ∧ 0 ≤ (rmL 7 2 12).slots := ⟨Nat.zero_le _, Nat.zero_le _⟩
  have hl : lv_has ls 3 [(0, .ref (bs + 0)), (1, .int v), (2, .int w)] := hl
  obtain ⟨hY, hY1, hY12, hLn, hL4, hSn, hS12, hGn, hG5⟩ := id hi
  have hbq := br_pl hβ hq
  refine lv_aload_n hx hb (dg D_X11_effort (i := 0) rfl) rfl (lv_at hl 0 rfl) ?_
  refine lv_iload_n hx hb (dg D_X11_effort (i := 1) rfl) rfl (lv_at hl 1 rfl) ?_
  refine callXv X hW hS hR htab hlk hQf (c_X11_checkSpan (I := I) σ β v (by first | assumption | omega | decide | exact hP.1) (by first | assumption | omega | decide | exact hP.1) (by first | assumption | omega | decide | exact hP.1) (by first | assumption | omega | decide | exact hP.1) (by first | assumption | omega | decide | exact hP.1)) (fun E hE => ⟨hE.1, by simp [hE.2]⟩) (by decide) UVX11_checkSpan LK_X11_131 rfl (by decide) rfl rfl rfl (Nat.le_of_ble_eq_true rfl) hl (Nat.le_of_ble_eq_true rfl) (Nat.le_of_ble_eq_true rfl) (Nat.le_of_ble_eq_true rfl) (Nat.le_of_ble_eq_true rfl) (dg D_X11_effort (i := 2) rfl) (fun I2 L1 R1 H locs hq hW hS => ?_)
  have hcs : 0 + 1 ≤ (rmL 7 2 12).cells ∧ 0 + 6 ≤ (rmL 7 2 12).slots := ⟨Nat.le_of_ble_eq_true rfl, Nat.le_of_ble_eq_true rfl⟩
  obtain ⟨hr2, rfl, rfl, rfl⟩ := hq
  obtain ⟨jv, hjv, rfl⟩ := inB_of hr2 (by omega)
  refine lv_aload_n hx hb (dg D_X11_effort (i := 3) rfl) rfl (lv_at hl 0 rfl) ?_
  refine lv_iload_n hx hb (dg D_X11_effort (i := 4) rfl) rfl (lv_at hl 2 rfl) ?_
  refine callXv X hW hS hR htab hlk hQf (c_X11_checkYear (I := I) σ β w (by first | assumption | omega | decide | exact hP.1) (by first | assumption | omega | decide | exact hP.1) (by first | assumption | omega | decide | exact hP.1) (by first | assumption | omega | decide | exact hP.1) (by first | assumption | omega | decide | exact hP.1)) (fun E hE => ⟨hE.1, by simp [hE.2]⟩) (by decide) UVX11_checkYear LK_X11_134 rfl (by decide) rfl rfl rfl (Nat.le_of_ble_eq_true rfl) hl (Nat.le_of_ble_eq_true rfl) (Nat.le_of_ble_eq_true rfl) (Nat.le_of_ble_eq_true rfl) (Nat.le_of_ble_eq_true rfl) (dg D_X11_effort (i := 5) rfl) (fun I7 L1 R1 H locs hq hW hS => ?_)
  have hcs : 0 + 1 + 1 ≤ (rmL 7 2 12).cells ∧ 0 + 6 + 6 ≤ (rmL 7 2 12).slots := ⟨Nat.le_of_ble_eq_true rfl, Nat.le_of_ble_eq_true rfl⟩
  obtain ⟨hr7, rfl, rfl, rfl⟩ := hq
  obtain ⟨jw, hjw, rfl⟩ := inB_of hr7 (by omega)
  refine lv_aload_n hx hb (dg D_X11_effort (i := 6) rfl) rfl (lv_at hl 0 rfl) ?_
  refine r_getr (v := q) X hW FI_X11_71 rfl (by decide) rfl hR8 (dg D_X11_effort (i := 7) rfl) ?_
  refine lv_iload_n hx hb (dg D_X11_effort (i := 8) rfl) rfl (lv_at hl 1 rfl) ?_
  refine lv_iload_n hx hb (dg D_X11_effort (i := 9) rfl) rfl (lv_at hl 2 rfl) ?_
  refine callVi X hW hS hR (c_X6_spanEffort (I := I) σ β q jv jw (by first | assumption | omega | decide | exact hP.1) (by first | assumption | omega | decide | exact hP.1) (by first | assumption | omega | decide | exact hP.1) (by first | assumption | omega | decide | exact hP.1) (by first | assumption | omega | decide | exact hP.1) (by first | assumption | omega | decide | exact hP.1) (by first | assumption | omega | decide | exact hP.1) (by first | assumption | omega | decide | exact hP.1)) (by decide) UVX6_spanEffort LK_X11_187 (shP hq) (ncP0 hq) rfl rfl rfl (Nat.le_of_ble_eq_true rfl) hl hcs (dg D_X11_effort (i := 10) rfl) (fun r16 I16 L1 R1 H locs hq hW hS => ?_)
  obtain ⟨rfl, rfl, rfl, rfl⟩ := hq
  exact fin (dg D_X11_effort (i := 11) rfl) (Nat.le_of_ble_eq_true rfl) (Nat.le_of_ble_eq_true rfl) hW hS ⟨⟨by simp [hr2, hr7], by rw [tN_nI (show jv < 2 ^ 31 by omega), tN_nI (show jw < 2 ^ 31 by omega)]⟩, rfl, rfl, rfl⟩

set_option maxHeartbeats 4000000 in
set_option maxRecDepth 100000 in
theorem c_X11_capacity {l : Launch} {G : va_G} {bs : Nat} {cy : Nat → ClassId} {I : CI} {L : CL} {R : CR} (σ : Row) (β : Nat) (q : Nat) (v : Int32) (w : Int32) (hl0 : l.stackTraces = false) (hi : Inv σ) (hd : DR σ) (hβ : isBr β) (hB : BrAt I β σ) (hq : isPl q) (hP : PlAt I q σ) (hRb : R q 0 = β) (hR7 : R 0 7 = β) (hR8 : R 0 8 = q) : XTi l G bs cy MX11_capacity 7 [.ref (bs + 0), .int v, .int w] I L R (fun r I1 L1 R1 => ((inB v (nG σ) && inB w (Yn σ)) = true ∧ r = cap σ (tN v) (tN w)) ∧ I = I1 ∧ L = L1 ∧ R = R1) (fun E => E = IOE ∧ (inB v (nG σ) && inB w (Yn σ)) = false) 2 12 := by
  refine XTi.of (own := RX11) pn_RX11 rfl (Nat.le_of_ble_eq_true rfl) ?_
  intro p e s m args below meth c Qc Qf X hW hS htab hlk hQf fin ls hl
  have hx := X.1
  have hb := X.2.1
  have hR : RmOK (rmL 7 2 12) 7 := ⟨rfl, rfl⟩
  have hcs : 0 ≤ (rmL 7 2 12).cells ∧ 0 ≤ (rmL 7 2 12).slots := ⟨Nat.zero_le _, Nat.zero_le _⟩
  have hl : lv_has ls 3 [(0, .ref (bs + 0)), (1, .int v), (2, .int w)] := hl
  obtain ⟨hY, hY1, hY12, hLn, hL4, hSn, hS12, hGn, hG5⟩ := id hi
  have hbq := br_pl hβ hq
  refine lv_aload_n hx hb (dg D_X11_capacity (i := 0) rfl) rfl (lv_at hl 0 rfl) ?_
  refine lv_iload_n hx hb (dg D_X11_capacity (i := 1) rfl) rfl (lv_at hl 1 rfl) ?_
  refine callXv X hW hS hR htab hlk hQf (c_X11_checkGang (I := I) σ β v (by first | assumption | omega | decide | exact hP.1) (by first | assumption | omega | decide | exact hP.1) (by first | assumption | omega | decide | exact hP.1) (by first | assumption | omega | decide | exact hP.1) (by first | assumption | omega | decide | exact hP.1)) (fun E hE => ⟨hE.1, by simp [hE.2]⟩) (by decide) UVX11_checkGang LK_X11_190 rfl (by decide) rfl rfl rfl (Nat.le_of_ble_eq_true rfl) hl (Nat.le_of_ble_eq_true rfl) (Nat.le_of_ble_eq_true rfl) (Nat.le_of_ble_eq_true rfl) (Nat.le_of_ble_eq_true rfl) (dg D_X11_capacity (i := 2) rfl) (fun I2 L1 R1 H locs hq hW hS => ?_)
  have hcs : 0 + 1 ≤ (rmL 7 2 12).cells ∧ 0 + 6 ≤ (rmL 7 2 12).slots := ⟨Nat.le_of_ble_eq_true rfl, Nat.le_of_ble_eq_true rfl⟩
  obtain ⟨hr2, rfl, rfl, rfl⟩ := hq
  obtain ⟨jv, hjv, rfl⟩ := inB_of hr2 (by omega)
  refine lv_aload_n hx hb (dg D_X11_capacity (i := 3) rfl) rfl (lv_at hl 0 rfl) ?_
  refine lv_iload_n hx hb (dg D_X11_capacity (i := 4) rfl) rfl (lv_at hl 2 rfl) ?_
  refine callXv X hW hS hR htab hlk hQf (c_X11_checkYear (I := I) σ β w (by first | assumption | omega | decide | exact hP.1) (by first | assumption | omega | decide | exact hP.1) (by first | assumption | omega | decide | exact hP.1) (by first | assumption | omega | decide | exact hP.1) (by first | assumption | omega | decide | exact hP.1)) (fun E hE => ⟨hE.1, by simp [hE.2]⟩) (by decide) UVX11_checkYear LK_X11_134 rfl (by decide) rfl rfl rfl (Nat.le_of_ble_eq_true rfl) hl (Nat.le_of_ble_eq_true rfl) (Nat.le_of_ble_eq_true rfl) (Nat.le_of_ble_eq_true rfl) (Nat.le_of_ble_eq_true rfl) (dg D_X11_capacity (i := 5) rfl) (fun I7 L1 R1 H locs hq hW hS => ?_)
  have hcs : 0 + 1 + 1 ≤ (rmL 7 2 12).cells ∧ 0 + 6 + 6 ≤ (rmL 7 2 12).slots := ⟨Nat.le_of_ble_eq_true rfl, Nat.le_of_ble_eq_true rfl⟩
  obtain ⟨hr7, rfl, rfl, rfl⟩ := hq
  obtain ⟨jw, hjw, rfl⟩ := inB_of hr7 (by omega)
  refine lv_aload_n hx hb (dg D_X11_capacity (i := 6) rfl) rfl (lv_at hl 0 rfl) ?_
  refine r_getr (v := β) X hW FI_X11_67 rfl (by decide) rfl hR7 (dg D_X11_capacity (i := 7) rfl) ?_
  refine lv_iload_n hx hb (dg D_X11_capacity (i := 8) rfl) rfl (lv_at hl 1 rfl) ?_
  refine lv_iload_n hx hb (dg D_X11_capacity (i := 9) rfl) rfl (lv_at hl 2 rfl) ?_
  refine callVi X hW hS hR (c_X1_gangCapacity (I := I) σ β jv jw (by first | assumption | omega | decide | exact hP.1) (by first | assumption | omega | decide | exact hP.1) (by first | assumption | omega | decide | exact hP.1) (by first | assumption | omega | decide | exact hP.1) (by first | assumption | omega | decide | exact hP.1)) (by decide) UVX1_gangCapacity LK_X11_193 (shB hβ) (ncB0 hβ) rfl rfl rfl (Nat.le_of_ble_eq_true rfl) hl hcs (dg D_X11_capacity (i := 10) rfl) (fun r16 I16 L1 R1 H locs hq hW hS => ?_)
  obtain ⟨rfl, rfl, rfl, rfl⟩ := hq
  exact fin (dg D_X11_capacity (i := 11) rfl) (Nat.le_of_ble_eq_true rfl) (Nat.le_of_ble_eq_true rfl) hW hS ⟨⟨by simp [hr2, hr7], by rw [tN_nI (show jv < 2 ^ 31 by omega), tN_nI (show jw < 2 ^ 31 by omega)]⟩, rfl, rfl, rfl⟩

set_option maxHeartbeats 4000000 in
set_option maxRecDepth 100000 in
theorem c_X11_loadOf {l : Launch} {G : va_G} {bs : Nat} {cy : Nat → ClassId} {I : CI} {L : CL} {R : CR} (σ : Row) (β : Nat) (q : Nat) (v : Int32) (w : Int32) (hl0 : l.stackTraces = false) (hi : Inv σ) (hd : DR σ) (hβ : isBr β) (hB : BrAt I β σ) (hq : isPl q) (hP : PlAt I q σ) (hRb : R q 0 = β) (hR7 : R 0 7 = β) (hR8 : R 0 8 = q) : XTi l G bs cy MX11_loadOf 7 [.ref (bs + 0), .int v, .int w] I L R (fun r I1 L1 R1 => ((inB v (nG σ) && inB w (Yn σ)) = true ∧ r = lod σ v (tN w)) ∧ I = I1 ∧ L = L1 ∧ R = R1) (fun E => E = IOE ∧ (inB v (nG σ) && inB w (Yn σ)) = false) 2 12 := by
  refine XTi.of (own := RX11) pn_RX11 rfl (Nat.le_of_ble_eq_true rfl) ?_
  intro p e s m args below meth c Qc Qf X hW hS htab hlk hQf fin ls hl
  have hx := X.1
  have hb := X.2.1
  have hR : RmOK (rmL 7 2 12) 7 := ⟨rfl, rfl⟩
  have hcs : 0 ≤ (rmL 7 2 12).cells ∧ 0 ≤ (rmL 7 2 12).slots := ⟨Nat.zero_le _, Nat.zero_le _⟩
  have hl : lv_has ls 3 [(0, .ref (bs + 0)), (1, .int v), (2, .int w)] := hl
  obtain ⟨hY, hY1, hY12, hLn, hL4, hSn, hS12, hGn, hG5⟩ := id hi
  have hbq := br_pl hβ hq
  refine lv_aload_n hx hb (dg D_X11_loadOf (i := 0) rfl) rfl (lv_at hl 0 rfl) ?_
  refine lv_iload_n hx hb (dg D_X11_loadOf (i := 1) rfl) rfl (lv_at hl 1 rfl) ?_
  refine callXv X hW hS hR htab hlk hQf (c_X11_checkGang (I := I) σ β v (by first | assumption | omega | decide | exact hP.1) (by first | assumption | omega | decide | exact hP.1) (by first | assumption | omega | decide | exact hP.1) (by first | assumption | omega | decide | exact hP.1) (by first | assumption | omega | decide | exact hP.1)) (fun E hE => ⟨hE.1, by simp [hE.2]⟩) (by decide) UVX11_checkGang LK_X11_190 rfl (by decide) rfl rfl rfl (Nat.le_of_ble_eq_true rfl) hl (Nat.le_of_ble_eq_true rfl) (Nat.le_of_ble_eq_true rfl) (Nat.le_of_ble_eq_true rfl) (Nat.le_of_ble_eq_true rfl) (dg D_X11_loadOf (i := 2) rfl) (fun I2 L1 R1 H locs hq hW hS => ?_)
  have hcs : 0 + 1 ≤ (rmL 7 2 12).cells ∧ 0 + 6 ≤ (rmL 7 2 12).slots := ⟨Nat.le_of_ble_eq_true rfl, Nat.le_of_ble_eq_true rfl⟩
  obtain ⟨hr2, rfl, rfl, rfl⟩ := hq
  obtain ⟨jv, hjv, rfl⟩ := inB_of hr2 (by omega)
  refine lv_aload_n hx hb (dg D_X11_loadOf (i := 3) rfl) rfl (lv_at hl 0 rfl) ?_
  refine lv_iload_n hx hb (dg D_X11_loadOf (i := 4) rfl) rfl (lv_at hl 2 rfl) ?_
  refine callXv X hW hS hR htab hlk hQf (c_X11_checkYear (I := I) σ β w (by first | assumption | omega | decide | exact hP.1) (by first | assumption | omega | decide | exact hP.1) (by first | assumption | omega | decide | exact hP.1) (by first | assumption | omega | decide | exact hP.1) (by first | assumption | omega | decide | exact hP.1)) (fun E hE => ⟨hE.1, by simp [hE.2]⟩) (by decide) UVX11_checkYear LK_X11_134 rfl (by decide) rfl rfl rfl (Nat.le_of_ble_eq_true rfl) hl (Nat.le_of_ble_eq_true rfl) (Nat.le_of_ble_eq_true rfl) (Nat.le_of_ble_eq_true rfl) (Nat.le_of_ble_eq_true rfl) (dg D_X11_loadOf (i := 5) rfl) (fun I7 L1 R1 H locs hq hW hS => ?_)
  have hcs : 0 + 1 + 1 ≤ (rmL 7 2 12).cells ∧ 0 + 6 + 6 ≤ (rmL 7 2 12).slots := ⟨Nat.le_of_ble_eq_true rfl, Nat.le_of_ble_eq_true rfl⟩
  obtain ⟨hr7, rfl, rfl, rfl⟩ := hq
  obtain ⟨jw, hjw, rfl⟩ := inB_of hr7 (by omega)
  refine lv_aload_n hx hb (dg D_X11_loadOf (i := 6) rfl) rfl (lv_at hl 0 rfl) ?_
  refine r_getr (v := q) X hW FI_X11_71 rfl (by decide) rfl hR8 (dg D_X11_loadOf (i := 7) rfl) ?_
  refine lv_iload_n hx hb (dg D_X11_loadOf (i := 8) rfl) rfl (lv_at hl 1 rfl) ?_
  refine lv_iload_n hx hb (dg D_X11_loadOf (i := 9) rfl) rfl (lv_at hl 2 rfl) ?_
  refine callVi X hW hS hR (c_X6_gangLoad (I := I) σ β q (nI jv) jw (by first | assumption | omega | decide | exact hP.1) (by first | assumption | omega | decide | exact hP.1) (by first | assumption | omega | decide | exact hP.1) (by first | assumption | omega | decide | exact hP.1) (by first | assumption | omega | decide | exact hP.1) (by first | assumption | omega | decide | exact hP.1) (by first | assumption | omega | decide | exact hP.1)) (by decide) UVX6_gangLoad LK_X11_196 (shP hq) (ncP0 hq) rfl rfl rfl (Nat.le_of_ble_eq_true rfl) hl hcs (dg D_X11_loadOf (i := 10) rfl) (fun r16 I16 L1 R1 H locs hq hW hS => ?_)
  obtain ⟨rfl, rfl, rfl, rfl⟩ := hq
  exact fin (dg D_X11_loadOf (i := 11) rfl) (Nat.le_of_ble_eq_true rfl) (Nat.le_of_ble_eq_true rfl) hW hS ⟨⟨by simp [hr2, hr7], by rw [tN_nI (show jw < 2 ^ 31 by omega)]⟩, rfl, rfl, rfl⟩

set_option maxHeartbeats 4000000 in
set_option maxRecDepth 100000 in
theorem c_X11_gangOf {l : Launch} {G : va_G} {bs : Nat} {cy : Nat → ClassId} {I : CI} {L : CL} {R : CR} (σ : Row) (β : Nat) (q : Nat) (v : Int32) (w : Int32) (hl0 : l.stackTraces = false) (hi : Inv σ) (hd : DR σ) (hβ : isBr β) (hB : BrAt I β σ) (hq : isPl q) (hP : PlAt I q σ) (hRb : R q 0 = β) (hR7 : R 0 7 = β) (hR8 : R 0 8 = q) : XTi l G bs cy MX11_gangOf 7 [.ref (bs + 0), .int v, .int w] I L R (fun r I1 L1 R1 => ((inB v (nS σ) && inB w (Yn σ)) = true ∧ r = (if pnt σ (tN v) (tN w) = -1 then NOTF else pnt σ (tN v) (tN w))) ∧ I = I1 ∧ L = L1 ∧ R = R1) (fun E => E = IOE ∧ (inB v (nS σ) && inB w (Yn σ)) = false) 2 12 := by
  refine XTi.of (own := RX11) pn_RX11 rfl (Nat.le_of_ble_eq_true rfl) ?_
  intro p e s m args below meth c Qc Qf X hW hS htab hlk hQf fin ls hl
  have hx := X.1
  have hb := X.2.1
  have hR : RmOK (rmL 7 2 12) 7 := ⟨rfl, rfl⟩
  have hcs : 0 ≤ (rmL 7 2 12).cells ∧ 0 ≤ (rmL 7 2 12).slots := ⟨Nat.zero_le _, Nat.zero_le _⟩
  have hl : lv_has ls 3 [(0, .ref (bs + 0)), (1, .int v), (2, .int w)] := hl
  obtain ⟨hY, hY1, hY12, hLn, hL4, hSn, hS12, hGn, hG5⟩ := id hi
  have hbq := br_pl hβ hq
  refine lv_aload_n hx hb (dg D_X11_gangOf (i := 0) rfl) rfl (lv_at hl 0 rfl) ?_
  refine lv_iload_n hx hb (dg D_X11_gangOf (i := 1) rfl) rfl (lv_at hl 1 rfl) ?_
  refine callXv X hW hS hR htab hlk hQf (c_X11_checkSpan (I := I) σ β v (by first | assumption | omega | decide | exact hP.1) (by first | assumption | omega | decide | exact hP.1) (by first | assumption | omega | decide | exact hP.1) (by first | assumption | omega | decide | exact hP.1) (by first | assumption | omega | decide | exact hP.1)) (fun E hE => ⟨hE.1, by simp [hE.2]⟩) (by decide) UVX11_checkSpan LK_X11_131 rfl (by decide) rfl rfl rfl (Nat.le_of_ble_eq_true rfl) hl (Nat.le_of_ble_eq_true rfl) (Nat.le_of_ble_eq_true rfl) (Nat.le_of_ble_eq_true rfl) (Nat.le_of_ble_eq_true rfl) (dg D_X11_gangOf (i := 2) rfl) (fun I2 L1 R1 H locs hq hW hS => ?_)
  have hcs : 0 + 1 ≤ (rmL 7 2 12).cells ∧ 0 + 6 ≤ (rmL 7 2 12).slots := ⟨Nat.le_of_ble_eq_true rfl, Nat.le_of_ble_eq_true rfl⟩
  obtain ⟨hr2, rfl, rfl, rfl⟩ := hq
  obtain ⟨jv, hjv, rfl⟩ := inB_of hr2 (by omega)
  refine lv_aload_n hx hb (dg D_X11_gangOf (i := 3) rfl) rfl (lv_at hl 0 rfl) ?_
  refine lv_iload_n hx hb (dg D_X11_gangOf (i := 4) rfl) rfl (lv_at hl 2 rfl) ?_
  refine callXv X hW hS hR htab hlk hQf (c_X11_checkYear (I := I) σ β w (by first | assumption | omega | decide | exact hP.1) (by first | assumption | omega | decide | exact hP.1) (by first | assumption | omega | decide | exact hP.1) (by first | assumption | omega | decide | exact hP.1) (by first | assumption | omega | decide | exact hP.1)) (fun E hE => ⟨hE.1, by simp [hE.2]⟩) (by decide) UVX11_checkYear LK_X11_134 rfl (by decide) rfl rfl rfl (Nat.le_of_ble_eq_true rfl) hl (Nat.le_of_ble_eq_true rfl) (Nat.le_of_ble_eq_true rfl) (Nat.le_of_ble_eq_true rfl) (Nat.le_of_ble_eq_true rfl) (dg D_X11_gangOf (i := 5) rfl) (fun I7 L1 R1 H locs hq hW hS => ?_)
  have hcs : 0 + 1 + 1 ≤ (rmL 7 2 12).cells ∧ 0 + 6 + 6 ≤ (rmL 7 2 12).slots := ⟨Nat.le_of_ble_eq_true rfl, Nat.le_of_ble_eq_true rfl⟩
  obtain ⟨hr7, rfl, rfl, rfl⟩ := hq
  obtain ⟨jw, hjw, rfl⟩ := inB_of hr7 (by omega)
  refine lv_aload_n hx hb (dg D_X11_gangOf (i := 6) rfl) rfl (lv_at hl 0 rfl) ?_
  refine r_getr (v := q) X hW FI_X11_71 rfl (by decide) rfl hR8 (dg D_X11_gangOf (i := 7) rfl) ?_
  refine lv_iload_n hx hb (dg D_X11_gangOf (i := 8) rfl) rfl (lv_at hl 2 rfl) ?_
  refine lv_iload_n hx hb (dg D_X11_gangOf (i := 9) rfl) rfl (lv_at hl 1 rfl) ?_
  refine callVi X hW hS hR (c_X6_isPainted (I := I) σ q jw jv (by first | assumption | omega | decide | exact hP.1) (by first | assumption | omega | decide | exact hP.1) (by first | assumption | omega | decide | exact hP.1) (by first | assumption | omega | decide | exact hP.1)) (by decide) UVX6_isPainted LK_X11_199 (shP hq) (ncP0 hq) rfl rfl rfl (Nat.le_of_ble_eq_true rfl) hl hcs (dg D_X11_gangOf (i := 10) rfl) (fun r16 I16 L1 R1 H locs hq hW hS => ?_)
  obtain ⟨rfl, rfl, rfl, rfl⟩ := hq
  refine z_if_eq (tgt := 34) hx hb (dg D_X11_gangOf (i := 11) rfl) (by decide) (fun c19 => ?_) (fun c19 => ?_)
  · refine r_ldc X CK_X11_48 (dg D_X11_gangOf (i := 18) rfl) ?_
    exact fin (dg D_X11_gangOf (i := 19) rfl) (Nat.le_of_ble_eq_true rfl) (Nat.le_of_ble_eq_true rfl) hW hS ⟨⟨by simp [hr2, hr7], by rw [tN_nI (show jv < 2 ^ 31 by omega), tN_nI (show jw < 2 ^ 31 by omega)]; rw [if_pos (Classical.not_not.mp (of_decide_eq_false c19))]⟩, rfl, rfl, rfl⟩
  · refine lv_aload_n hx hb (dg D_X11_gangOf (i := 12) rfl) rfl (lv_at hl 0 rfl) ?_
    refine r_getr (v := q) X hW FI_X11_71 rfl (by decide) rfl hR8 (dg D_X11_gangOf (i := 13) rfl) ?_
    refine lv_iload_n hx hb (dg D_X11_gangOf (i := 14) rfl) rfl (lv_at hl 2 rfl) ?_
    refine lv_iload_n hx hb (dg D_X11_gangOf (i := 15) rfl) rfl (lv_at hl 1 rfl) ?_
    refine callVi X hW hS hR (c_X6_painter (I := I) σ q jw jv (by first | assumption | omega | decide | exact hP.1) (by first | assumption | omega | decide | exact hP.1) (by first | assumption | omega | decide | exact hP.1) (by first | assumption | omega | decide | exact hP.1)) (by decide) UVX6_painter LK_X11_202 (shP hq) (ncP0 hq) rfl rfl rfl (Nat.le_of_ble_eq_true rfl) hl hcs (dg D_X11_gangOf (i := 16) rfl) (fun r28 I28 L1 R1 H locs hq hW hS => ?_)
    obtain ⟨rfl, rfl, rfl, rfl⟩ := hq
    refine lv_goto (tgt := 36) hx hb (dg D_X11_gangOf (i := 17) rfl) (by decide) ?_
    exact fin (dg D_X11_gangOf (i := 19) rfl) (Nat.le_of_ble_eq_true rfl) (Nat.le_of_ble_eq_true rfl) hW hS ⟨⟨by simp [hr2, hr7], by rw [tN_nI (show jv < 2 ^ 31 by omega), tN_nI (show jw < 2 ^ 31 by omega)]; rw [if_neg (of_decide_eq_true c19)]⟩, rfl, rfl, rfl⟩

set_option maxHeartbeats 4000000 in
set_option maxRecDepth 100000 in
theorem c_X11_paintedSpans {l : Launch} {G : va_G} {bs : Nat} {cy : Nat → ClassId} {I : CI} {L : CL} {R : CR} (σ : Row) (β : Nat) (q : Nat) (v : Int32) (hl0 : l.stackTraces = false) (hi : Inv σ) (hd : DR σ) (hβ : isBr β) (hB : BrAt I β σ) (hq : isPl q) (hP : PlAt I q σ) (hRb : R q 0 = β) (hR7 : R 0 7 = β) (hR8 : R 0 8 = q) : XTi l G bs cy MX11_paintedSpans 7 [.ref (bs + 0), .int v] I L R (fun r I1 L1 R1 => ((inB v (Yn σ)) = true ∧ r = orT (setF (fun x => ptd σ x (tN v))) (nS σ)) ∧ I = I1 ∧ L = L1 ∧ R = R1) (fun E => E = IOE ∧ (inB v (Yn σ)) = false) 1 6 := by
  refine XTi.of (own := RX11) pn_RX11 rfl (Nat.le_of_ble_eq_true rfl) ?_
  intro p e s m args below meth c Qc Qf X hW hS htab hlk hQf fin ls hl
  have hx := X.1
  have hb := X.2.1
  have hR : RmOK (rmL 7 1 6) 7 := ⟨rfl, rfl⟩
  have hcs : 0 ≤ (rmL 7 1 6).cells ∧ 0 ≤ (rmL 7 1 6).slots := ⟨Nat.zero_le _, Nat.zero_le _⟩
  have hl : lv_has ls 4 [(0, .ref (bs + 0)), (1, .int v)] := hl
  obtain ⟨hY, hY1, hY12, hLn, hL4, hSn, hS12, hGn, hG5⟩ := id hi
  have hbq := br_pl hβ hq
  refine lv_aload_n hx hb (dg D_X11_paintedSpans (i := 0) rfl) rfl (lv_at hl 0 rfl) ?_
  refine lv_iload_n hx hb (dg D_X11_paintedSpans (i := 1) rfl) rfl (lv_at hl 1 rfl) ?_
  refine callXv X hW hS hR htab hlk hQf (c_X11_checkYear (I := I) σ β v (by first | assumption | omega | decide | exact hP.1) (by first | assumption | omega | decide | exact hP.1) (by first | assumption | omega | decide | exact hP.1) (by first | assumption | omega | decide | exact hP.1) (by first | assumption | omega | decide | exact hP.1)) (fun E hE => ⟨hE.1, by simp [hE.2]⟩) (by decide) UVX11_checkYear LK_X11_134 rfl (by decide) rfl rfl rfl (Nat.le_of_ble_eq_true rfl) hl (Nat.le_of_ble_eq_true rfl) (Nat.le_of_ble_eq_true rfl) (Nat.le_of_ble_eq_true rfl) (Nat.le_of_ble_eq_true rfl) (dg D_X11_paintedSpans (i := 2) rfl) (fun I2 L1 R1 H locs hq hW hS => ?_)
  have hcs : 0 + 1 ≤ (rmL 7 1 6).cells ∧ 0 + 6 ≤ (rmL 7 1 6).slots := ⟨Nat.le_of_ble_eq_true rfl, Nat.le_of_ble_eq_true rfl⟩
  obtain ⟨hr2, rfl, rfl, rfl⟩ := hq
  obtain ⟨jv, hjv, rfl⟩ := inB_of hr2 (by omega)
  refine n_iconst (a := 0) hx hb (dg D_X11_paintedSpans (i := 3) rfl) rfl ?_
  refine lv_istore_n (lv' := [(2, .int (nI 0)), (0, .ref (bs + 0)), (1, .int (nI jv))]) hx hb (dg D_X11_paintedSpans (i := 4) rfl) rfl hl (by decide) rfl (fun ls hl => ?_)
  refine n_iconst (a := 0) hx hb (dg D_X11_paintedSpans (i := 5) rfl) rfl ?_
  refine lv_istore_n (lv' := [(3, .int (nI 0)), (2, .int (nI 0)), (0, .ref (bs + 0)), (1, .int (nI jv))]) hx hb (dg D_X11_paintedSpans (i := 6) rfl) rfl hl (by decide) rfl (fun ls hl => ?_)
  have loop9 := up_ind (P := fun x => ∀ (H : Heap) (locs : List Loc) (ls : Array Slot) (v2 : Int32) (v3 : Int32), v2 = orT (setF (fun x => ptd σ x jv)) x → v3 = nI x → Wd G bs cy I L R H → va_S (Aq bs) s.heap H locs → lv_has ls 4 [(0, .ref (bs + 0)), (1, .int (nI jv)), (2, .int v2), (3, .int v3)] → W p l e (rmL 7 1 6) s m args below meth c H locs (0 + 1) (0 + 6) Qf (F0 m 9 ls [])) (nS σ) (fun x hx9 ih9 => by
      intro H locs ls v2 v3 q2 q3 hW hS hl
      subst q2
      subst q3
      refine lv_iload_n hx hb (dg D_X11_paintedSpans (i := 7) rfl) rfl (lv_at hl 3 rfl) ?_
      refine lv_aload_n hx hb (dg D_X11_paintedSpans (i := 8) rfl) rfl (lv_at hl 0 rfl) ?_
      refine r_getr (v := β) X hW FI_X11_67 rfl (by decide) rfl hR7 (dg D_X11_paintedSpans (i := 9) rfl) ?_
      refine rn_geti (v := nI (nS σ)) X hW FN_X11_128 (shB hβ) (ncB0 hβ) rfl (hB.c4 hi) (dg D_X11_paintedSpans (i := 10) rfl) ?_
      refine n_icmp_ge (tgt := 44) hx hb (by omega) (by omega) (dg D_X11_paintedSpans (i := 11) rfl) (by decide) (fun c17 => ?_) (fun c17 => ?_)
      · refine lv_iload_n hx hb (dg D_X11_paintedSpans (i := 26) rfl) rfl (lv_at hl 2 rfl) ?_
        exact fin (dg D_X11_paintedSpans (i := 27) rfl) (Nat.le_of_ble_eq_true rfl) (Nat.le_of_ble_eq_true rfl) hW hS ⟨⟨by simp [hr2], by rw [tN_nI (show jv < 2 ^ 31 by omega), show x = nS σ by omega]⟩, rfl, rfl, rfl⟩
      · refine lv_aload_n hx hb (dg D_X11_paintedSpans (i := 12) rfl) rfl (lv_at hl 0 rfl) ?_
        refine r_getr (v := q) X hW FI_X11_71 rfl (by decide) rfl hR8 (dg D_X11_paintedSpans (i := 13) rfl) ?_
        refine lv_iload_n hx hb (dg D_X11_paintedSpans (i := 14) rfl) rfl (lv_at hl 1 rfl) ?_
        refine lv_iload_n hx hb (dg D_X11_paintedSpans (i := 15) rfl) rfl (lv_at hl 3 rfl) ?_
        refine callVi X hW hS hR (c_X6_isPainted (I := I) σ q jv x (by first | assumption | omega | decide | exact hP.1) (by first | assumption | omega | decide | exact hP.1) (by first | assumption | omega | decide | exact hP.1) (by first | assumption | omega | decide | exact hP.1)) (by decide) UVX6_isPainted LK_X11_199 (shP hq) (ncP0 hq) rfl rfl rfl (Nat.le_of_ble_eq_true rfl) hl hcs (dg D_X11_paintedSpans (i := 16) rfl) (fun r26 I26 L1 R1 H locs hq hW hS => ?_)
        obtain ⟨rfl, rfl, rfl, rfl⟩ := hq
        refine z_if_eq (tgt := 38) hx hb (dg D_X11_paintedSpans (i := 17) rfl) (by decide) (fun c29 => ?_) (fun c29 => ?_)
        · refine lv_iinc (v := nI (x + 1)) (lv' := [(3, .int (nI (x + 1))), (0, .ref (bs + 0)), (1, .int (nI jv)), (2, .int (orT (setF (fun x => ptd σ x jv)) x))]) hx hb (dg D_X11_paintedSpans (i := 24) rfl) hl (k := 3) rfl (nI_add _ _) (by decide) rfl (fun ls hl => ?_)
          refine lv_goto (tgt := 9) hx hb (dg D_X11_paintedSpans (i := 25) rfl) (by decide) ?_
          exact ih9 (by omega) _ _ _ _ _ (by show _ = _ ||| setF (fun x => ptd σ x jv) x; rw [setF_f (p := fun x => ptd σ x jv) c29, or_n0]) (congrArg nI (by omega)) hW hS (lv_sub hl [1, 2, 3, 0] rfl)
        · refine lv_iload_n hx hb (dg D_X11_paintedSpans (i := 18) rfl) rfl (lv_at hl 2 rfl) ?_
          refine n_iconst (a := 1) hx hb (dg D_X11_paintedSpans (i := 19) rfl) rfl ?_
          refine lv_iload_n hx hb (dg D_X11_paintedSpans (i := 20) rfl) rfl (lv_at hl 3 rfl) ?_
          refine lv_ishl hx hb (dg D_X11_paintedSpans (i := 21) rfl) ?_
          refine lv_ior hx hb (dg D_X11_paintedSpans (i := 22) rfl) ?_
          refine lv_istore_n (lv' := [(2, .int ((orT (setF (fun x => ptd σ x jv)) x) ||| ((nI 1) <<< ((nI x) &&& 31)))), (0, .ref (bs + 0)), (1, .int (nI jv)), (3, .int (nI x))]) hx hb (dg D_X11_paintedSpans (i := 23) rfl) rfl hl (by decide) rfl (fun ls hl => ?_)
          refine lv_iinc (v := nI (x + 1)) (lv' := [(3, .int (nI (x + 1))), (2, .int ((orT (setF (fun x => ptd σ x jv)) x) ||| ((nI 1) <<< ((nI x) &&& 31)))), (0, .ref (bs + 0)), (1, .int (nI jv))]) hx hb (dg D_X11_paintedSpans (i := 24) rfl) hl (k := 3) rfl (nI_add _ _) (by decide) rfl (fun ls hl => ?_)
          refine lv_goto (tgt := 9) hx hb (dg D_X11_paintedSpans (i := 25) rfl) (by decide) ?_
          exact ih9 (by omega) _ _ _ _ _ (by show _ = _ ||| setF (fun x => ptd σ x jv) x; rw [setF_t (p := fun x => ptd σ x jv) c29]) (congrArg nI (by omega)) hW hS (lv_sub hl [2, 3, 1, 0] rfl))
  exact loop9 0 (Nat.zero_le _) _ _ _ _ _ (rfl) (congrArg nI (by omega)) hW hS (lv_sub hl [2, 3, 1, 0] rfl)

set_option maxHeartbeats 4000000 in
set_option maxRecDepth 100000 in
theorem c_X11_lanesShut {l : Launch} {G : va_G} {bs : Nat} {cy : Nat → ClassId} {I : CI} {L : CL} {R : CR} (σ : Row) (β : Nat) (q : Nat) (v : Int32) (hl0 : l.stackTraces = false) (hi : Inv σ) (hd : DR σ) (hβ : isBr β) (hB : BrAt I β σ) (hq : isPl q) (hP : PlAt I q σ) (hRb : R q 0 = β) (hR7 : R 0 7 = β) (hR8 : R 0 8 = q) : XTi l G bs cy MX11_lanesShut 7 [.ref (bs + 0), .int v] I L R (fun r I1 L1 R1 => ((inB v (Yn σ)) = true ∧ r = shu σ (tN v)) ∧ I = I1 ∧ L = L1 ∧ R = R1) (fun E => E = IOE ∧ (inB v (Yn σ)) = false) 1 6 := by
  refine XTi.of (own := RX11) pn_RX11 rfl (Nat.le_of_ble_eq_true rfl) ?_
  intro p e s m args below meth c Qc Qf X hW hS htab hlk hQf fin ls hl
  have hx := X.1
  have hb := X.2.1
  have hR : RmOK (rmL 7 1 6) 7 := ⟨rfl, rfl⟩
  have hcs : 0 ≤ (rmL 7 1 6).cells ∧ 0 ≤ (rmL 7 1 6).slots := ⟨Nat.zero_le _, Nat.zero_le _⟩
  have hl : lv_has ls 2 [(0, .ref (bs + 0)), (1, .int v)] := hl
  obtain ⟨hY, hY1, hY12, hLn, hL4, hSn, hS12, hGn, hG5⟩ := id hi
  have hbq := br_pl hβ hq
  refine lv_aload_n hx hb (dg D_X11_lanesShut (i := 0) rfl) rfl (lv_at hl 0 rfl) ?_
  refine lv_iload_n hx hb (dg D_X11_lanesShut (i := 1) rfl) rfl (lv_at hl 1 rfl) ?_
  refine callXv X hW hS hR htab hlk hQf (c_X11_checkYear (I := I) σ β v (by first | assumption | omega | decide | exact hP.1) (by first | assumption | omega | decide | exact hP.1) (by first | assumption | omega | decide | exact hP.1) (by first | assumption | omega | decide | exact hP.1) (by first | assumption | omega | decide | exact hP.1)) (fun E hE => ⟨hE.1, by simp [hE.2]⟩) (by decide) UVX11_checkYear LK_X11_134 rfl (by decide) rfl rfl rfl (Nat.le_of_ble_eq_true rfl) hl (Nat.le_of_ble_eq_true rfl) (Nat.le_of_ble_eq_true rfl) (Nat.le_of_ble_eq_true rfl) (Nat.le_of_ble_eq_true rfl) (dg D_X11_lanesShut (i := 2) rfl) (fun I2 L1 R1 H locs hq hW hS => ?_)
  have hcs : 0 + 1 ≤ (rmL 7 1 6).cells ∧ 0 + 6 ≤ (rmL 7 1 6).slots := ⟨Nat.le_of_ble_eq_true rfl, Nat.le_of_ble_eq_true rfl⟩
  obtain ⟨hr2, rfl, rfl, rfl⟩ := hq
  obtain ⟨jv, hjv, rfl⟩ := inB_of hr2 (by omega)
  refine lv_aload_n hx hb (dg D_X11_lanesShut (i := 3) rfl) rfl (lv_at hl 0 rfl) ?_
  refine r_getr (v := q) X hW FI_X11_71 rfl (by decide) rfl hR8 (dg D_X11_lanesShut (i := 4) rfl) ?_
  refine lv_iload_n hx hb (dg D_X11_lanesShut (i := 5) rfl) rfl (lv_at hl 1 rfl) ?_
  refine callVi X hW hS hR (c_X6_shutLanes (I := I) σ β q jv (by first | assumption | omega | decide | exact hP.1) (by first | assumption | omega | decide | exact hP.1) (by first | assumption | omega | decide | exact hP.1) (by first | assumption | omega | decide | exact hP.1) (by first | assumption | omega | decide | exact hP.1) (by first | assumption | omega | decide | exact hP.1) (by first | assumption | omega | decide | exact hP.1)) (by decide) UVX6_shutLanes LK_X11_205 (shP hq) (ncP0 hq) rfl rfl rfl (Nat.le_of_ble_eq_true rfl) hl hcs (dg D_X11_lanesShut (i := 6) rfl) (fun r10 I10 L1 R1 H locs hq hW hS => ?_)
  obtain ⟨rfl, rfl, rfl, rfl⟩ := hq
  exact fin (dg D_X11_lanesShut (i := 7) rfl) (Nat.le_of_ble_eq_true rfl) (Nat.le_of_ble_eq_true rfl) hW hS ⟨⟨by simp [hr2], by rw [tN_nI (show jv < 2 ^ 31 by omega)]⟩, rfl, rfl, rfl⟩

set_option maxHeartbeats 4000000 in
set_option maxRecDepth 100000 in
theorem c_X11_paintings {l : Launch} {G : va_G} {bs : Nat} {cy : Nat → ClassId} {I : CI} {L : CL} {R : CR} (σ : Row) (β : Nat) (q : Nat) (hl0 : l.stackTraces = false) (hi : Inv σ) (hd : DR σ) (hβ : isBr β) (hB : BrAt I β σ) (hq : isPl q) (hP : PlAt I q σ) (hRb : R q 0 = β) (hR7 : R 0 7 = β) (hR8 : R 0 8 = q) : MTi l G bs cy MX11_paintings 2 [.ref (bs + 0)] I L R (fun r I1 L1 R1 => sumT (fun x => cnt16 (orT (setF (ptd σ x)) (Yn σ))) (nS σ) = r ∧ I = I1 ∧ L = L1 ∧ R = R1) := by
  refine MTi.of (own := RX11) pn_RX11 rfl (Nat.le_of_ble_eq_true rfl) ?_
  intro p e s m args below meth c Qf X hW hS fin ls hl
  have hx := X.1
  have hb := X.2.1
  have hR : RmOK (rmL 2 0 0) 2 := ⟨rfl, rfl⟩
  have hcs : 0 ≤ (rmL 2 0 0).cells ∧ 0 ≤ (rmL 2 0 0).slots := ⟨Nat.zero_le _, Nat.zero_le _⟩
  have hl : lv_has ls 1 [(0, .ref (bs + 0))] := hl
  obtain ⟨hY, hY1, hY12, hLn, hL4, hSn, hS12, hGn, hG5⟩ := id hi
  have hbq := br_pl hβ hq
  refine lv_aload_n hx hb (dg D_X11_paintings (i := 0) rfl) rfl (lv_at hl 0 rfl) ?_
  refine r_getr (v := q) X hW FI_X11_71 rfl (by decide) rfl hR8 (dg D_X11_paintings (i := 1) rfl) ?_
  refine callVi X hW hS hR (c_X6_countPaintings (I := I) σ q (by first | assumption | omega | decide | exact hP.1) (by first | assumption | omega | decide | exact hP.1)) (by decide) UVX6_countPaintings LK_X11_208 (shP hq) (ncP0 hq) rfl rfl rfl (Nat.le_of_ble_eq_true rfl) hl hcs (dg D_X11_paintings (i := 2) rfl) (fun r4 I4 L1 R1 H locs hq hW hS => ?_)
  obtain ⟨rfl, rfl, rfl, rfl⟩ := hq
  exact fin (dg D_X11_paintings (i := 3) rfl) hW hS ⟨pc_sum hd hi, rfl, rfl, rfl⟩

set_option maxHeartbeats 4000000 in
set_option maxRecDepth 100000 in
theorem c_X11_daysUsed {l : Launch} {G : va_G} {bs : Nat} {cy : Nat → ClassId} {I : CI} {L : CL} {R : CR} (σ : Row) (β : Nat) (q : Nat) (v : Int32) (w : Int32) (hl0 : l.stackTraces = false) (hi : Inv σ) (hd : DR σ) (hβ : isBr β) (hB : BrAt I β σ) (hq : isPl q) (hP : PlAt I q σ) (hRb : R q 0 = β) (hR7 : R 0 7 = β) (hR8 : R 0 8 = q) : XTi l G bs cy MX11_daysUsed 7 [.ref (bs + 0), .int v, .int w] I L R (fun r I1 L1 R1 => ((inB v (nG σ) && inB w (Yn σ)) = true ∧ r = dyI σ v (tN w)) ∧ I = I1 ∧ L = L1 ∧ R = R1) (fun E => E = IOE ∧ (inB v (nG σ) && inB w (Yn σ)) = false) 2 12 := by
  refine XTi.of (own := RX11) pn_RX11 rfl (Nat.le_of_ble_eq_true rfl) ?_
  intro p e s m args below meth c Qc Qf X hW hS htab hlk hQf fin ls hl
  have hx := X.1
  have hb := X.2.1
  have hR : RmOK (rmL 7 2 12) 7 := ⟨rfl, rfl⟩
  have hcs : 0 ≤ (rmL 7 2 12).cells ∧ 0 ≤ (rmL 7 2 12).slots := ⟨Nat.zero_le _, Nat.zero_le _⟩
  have hl : lv_has ls 3 [(0, .ref (bs + 0)), (1, .int v), (2, .int w)] := hl
  obtain ⟨hY, hY1, hY12, hLn, hL4, hSn, hS12, hGn, hG5⟩ := id hi
  have hbq := br_pl hβ hq
  refine lv_aload_n hx hb (dg D_X11_daysUsed (i := 0) rfl) rfl (lv_at hl 0 rfl) ?_
  refine lv_iload_n hx hb (dg D_X11_daysUsed (i := 1) rfl) rfl (lv_at hl 1 rfl) ?_
  refine callXv X hW hS hR htab hlk hQf (c_X11_checkGang (I := I) σ β v (by first | assumption | omega | decide | exact hP.1) (by first | assumption | omega | decide | exact hP.1) (by first | assumption | omega | decide | exact hP.1) (by first | assumption | omega | decide | exact hP.1) (by first | assumption | omega | decide | exact hP.1)) (fun E hE => ⟨hE.1, by simp [hE.2]⟩) (by decide) UVX11_checkGang LK_X11_190 rfl (by decide) rfl rfl rfl (Nat.le_of_ble_eq_true rfl) hl (Nat.le_of_ble_eq_true rfl) (Nat.le_of_ble_eq_true rfl) (Nat.le_of_ble_eq_true rfl) (Nat.le_of_ble_eq_true rfl) (dg D_X11_daysUsed (i := 2) rfl) (fun I2 L1 R1 H locs hq hW hS => ?_)
  have hcs : 0 + 1 ≤ (rmL 7 2 12).cells ∧ 0 + 6 ≤ (rmL 7 2 12).slots := ⟨Nat.le_of_ble_eq_true rfl, Nat.le_of_ble_eq_true rfl⟩
  obtain ⟨hr2, rfl, rfl, rfl⟩ := hq
  obtain ⟨jv, hjv, rfl⟩ := inB_of hr2 (by omega)
  refine lv_aload_n hx hb (dg D_X11_daysUsed (i := 3) rfl) rfl (lv_at hl 0 rfl) ?_
  refine lv_iload_n hx hb (dg D_X11_daysUsed (i := 4) rfl) rfl (lv_at hl 2 rfl) ?_
  refine callXv X hW hS hR htab hlk hQf (c_X11_checkYear (I := I) σ β w (by first | assumption | omega | decide | exact hP.1) (by first | assumption | omega | decide | exact hP.1) (by first | assumption | omega | decide | exact hP.1) (by first | assumption | omega | decide | exact hP.1) (by first | assumption | omega | decide | exact hP.1)) (fun E hE => ⟨hE.1, by simp [hE.2]⟩) (by decide) UVX11_checkYear LK_X11_134 rfl (by decide) rfl rfl rfl (Nat.le_of_ble_eq_true rfl) hl (Nat.le_of_ble_eq_true rfl) (Nat.le_of_ble_eq_true rfl) (Nat.le_of_ble_eq_true rfl) (Nat.le_of_ble_eq_true rfl) (dg D_X11_daysUsed (i := 5) rfl) (fun I7 L1 R1 H locs hq hW hS => ?_)
  have hcs : 0 + 1 + 1 ≤ (rmL 7 2 12).cells ∧ 0 + 6 + 6 ≤ (rmL 7 2 12).slots := ⟨Nat.le_of_ble_eq_true rfl, Nat.le_of_ble_eq_true rfl⟩
  obtain ⟨hr7, rfl, rfl, rfl⟩ := hq
  obtain ⟨jw, hjw, rfl⟩ := inB_of hr7 (by omega)
  refine lv_aload_n hx hb (dg D_X11_daysUsed (i := 6) rfl) rfl (lv_at hl 0 rfl) ?_
  refine r_getr (v := q) X hW FI_X11_71 rfl (by decide) rfl hR8 (dg D_X11_daysUsed (i := 7) rfl) ?_
  refine lv_iload_n hx hb (dg D_X11_daysUsed (i := 8) rfl) rfl (lv_at hl 1 rfl) ?_
  refine lv_iload_n hx hb (dg D_X11_daysUsed (i := 9) rfl) rfl (lv_at hl 2 rfl) ?_
  refine callVi X hW hS hR (c_X6_gangDays (I := I) σ β q jv jw (by first | assumption | omega | decide | exact hP.1) (by first | assumption | omega | decide | exact hP.1) (by first | assumption | omega | decide | exact hP.1) (by first | assumption | omega | decide | exact hP.1) (by first | assumption | omega | decide | exact hP.1) (by first | assumption | omega | decide | exact hP.1) (by first | assumption | omega | decide | exact hP.1) (by first | assumption | omega | decide | exact hP.1) (by first | assumption | omega | decide | exact hP.1)) (by decide) UVX6_gangDays LK_X11_211 (shP hq) (ncP0 hq) rfl rfl rfl (Nat.le_of_ble_eq_true rfl) hl hcs (dg D_X11_daysUsed (i := 10) rfl) (fun r16 I16 L1 R1 H locs hq hW hS => ?_)
  obtain ⟨rfl, rfl, rfl, rfl⟩ := hq
  exact fin (dg D_X11_daysUsed (i := 11) rfl) (Nat.le_of_ble_eq_true rfl) (Nat.le_of_ble_eq_true rfl) hW hS ⟨⟨by simp [hr2, hr7], by rw [tN_nI (show jw < 2 ^ 31 by omega)]⟩, rfl, rfl, rfl⟩

set_option maxHeartbeats 4000000 in
set_option maxRecDepth 100000 in
theorem c_X11_laneDays {l : Launch} {G : va_G} {bs : Nat} {cy : Nat → ClassId} {I : CI} {L : CL} {R : CR} (σ : Row) (β : Nat) (q : Nat) (v : Int32) (w : Int32) (hl0 : l.stackTraces = false) (hi : Inv σ) (hd : DR σ) (hβ : isBr β) (hB : BrAt I β σ) (hq : isPl q) (hP : PlAt I q σ) (hRb : R q 0 = β) (hR7 : R 0 7 = β) (hR8 : R 0 8 = q) : XTi l G bs cy MX11_laneDays 7 [.ref (bs + 0), .int v, .int w] I L R (fun r I1 L1 R1 => ((inB v (nLn σ) && inB w (Yn σ)) = true ∧ r = lnI σ v (tN w)) ∧ I = I1 ∧ L = L1 ∧ R = R1) (fun E => E = IOE ∧ (inB v (nLn σ) && inB w (Yn σ)) = false) 2 12 := by
  refine XTi.of (own := RX11) pn_RX11 rfl (Nat.le_of_ble_eq_true rfl) ?_
  intro p e s m args below meth c Qc Qf X hW hS htab hlk hQf fin ls hl
  have hx := X.1
  have hb := X.2.1
  have hR : RmOK (rmL 7 2 12) 7 := ⟨rfl, rfl⟩
  have hcs : 0 ≤ (rmL 7 2 12).cells ∧ 0 ≤ (rmL 7 2 12).slots := ⟨Nat.zero_le _, Nat.zero_le _⟩
  have hl : lv_has ls 3 [(0, .ref (bs + 0)), (1, .int v), (2, .int w)] := hl
  obtain ⟨hY, hY1, hY12, hLn, hL4, hSn, hS12, hGn, hG5⟩ := id hi
  have hbq := br_pl hβ hq
  refine lv_aload_n hx hb (dg D_X11_laneDays (i := 0) rfl) rfl (lv_at hl 0 rfl) ?_
  refine lv_iload_n hx hb (dg D_X11_laneDays (i := 1) rfl) rfl (lv_at hl 1 rfl) ?_
  refine callXv X hW hS hR htab hlk hQf (c_X11_checkLane (I := I) σ β v (by first | assumption | omega | decide | exact hP.1) (by first | assumption | omega | decide | exact hP.1) (by first | assumption | omega | decide | exact hP.1) (by first | assumption | omega | decide | exact hP.1) (by first | assumption | omega | decide | exact hP.1)) (fun E hE => ⟨hE.1, by simp [hE.2]⟩) (by decide) UVX11_checkLane LK_X11_214 rfl (by decide) rfl rfl rfl (Nat.le_of_ble_eq_true rfl) hl (Nat.le_of_ble_eq_true rfl) (Nat.le_of_ble_eq_true rfl) (Nat.le_of_ble_eq_true rfl) (Nat.le_of_ble_eq_true rfl) (dg D_X11_laneDays (i := 2) rfl) (fun I2 L1 R1 H locs hq hW hS => ?_)
  have hcs : 0 + 1 ≤ (rmL 7 2 12).cells ∧ 0 + 6 ≤ (rmL 7 2 12).slots := ⟨Nat.le_of_ble_eq_true rfl, Nat.le_of_ble_eq_true rfl⟩
  obtain ⟨hr2, rfl, rfl, rfl⟩ := hq
  obtain ⟨jv, hjv, rfl⟩ := inB_of hr2 (by omega)
  refine lv_aload_n hx hb (dg D_X11_laneDays (i := 3) rfl) rfl (lv_at hl 0 rfl) ?_
  refine lv_iload_n hx hb (dg D_X11_laneDays (i := 4) rfl) rfl (lv_at hl 2 rfl) ?_
  refine callXv X hW hS hR htab hlk hQf (c_X11_checkYear (I := I) σ β w (by first | assumption | omega | decide | exact hP.1) (by first | assumption | omega | decide | exact hP.1) (by first | assumption | omega | decide | exact hP.1) (by first | assumption | omega | decide | exact hP.1) (by first | assumption | omega | decide | exact hP.1)) (fun E hE => ⟨hE.1, by simp [hE.2]⟩) (by decide) UVX11_checkYear LK_X11_134 rfl (by decide) rfl rfl rfl (Nat.le_of_ble_eq_true rfl) hl (Nat.le_of_ble_eq_true rfl) (Nat.le_of_ble_eq_true rfl) (Nat.le_of_ble_eq_true rfl) (Nat.le_of_ble_eq_true rfl) (dg D_X11_laneDays (i := 5) rfl) (fun I7 L1 R1 H locs hq hW hS => ?_)
  have hcs : 0 + 1 + 1 ≤ (rmL 7 2 12).cells ∧ 0 + 6 + 6 ≤ (rmL 7 2 12).slots := ⟨Nat.le_of_ble_eq_true rfl, Nat.le_of_ble_eq_true rfl⟩
  obtain ⟨hr7, rfl, rfl, rfl⟩ := hq
  obtain ⟨jw, hjw, rfl⟩ := inB_of hr7 (by omega)
  refine lv_aload_n hx hb (dg D_X11_laneDays (i := 6) rfl) rfl (lv_at hl 0 rfl) ?_
  refine r_getr (v := q) X hW FI_X11_71 rfl (by decide) rfl hR8 (dg D_X11_laneDays (i := 7) rfl) ?_
  refine lv_iload_n hx hb (dg D_X11_laneDays (i := 8) rfl) rfl (lv_at hl 1 rfl) ?_
  refine lv_iload_n hx hb (dg D_X11_laneDays (i := 9) rfl) rfl (lv_at hl 2 rfl) ?_
  refine callVi X hW hS hR (c_X6_daysOnLane (I := I) σ β q (nI jv) jw (by first | assumption | omega | decide | exact hP.1) (by first | assumption | omega | decide | exact hP.1) (by first | assumption | omega | decide | exact hP.1) (by first | assumption | omega | decide | exact hP.1) (by first | assumption | omega | decide | exact hP.1) (by first | assumption | omega | decide | exact hP.1) (by first | assumption | omega | decide | exact hP.1) (by first | assumption | omega | decide | exact hP.1)) (by decide) UVX6_daysOnLane LK_X11_217 (shP hq) (ncP0 hq) rfl rfl rfl (Nat.le_of_ble_eq_true rfl) hl hcs (dg D_X11_laneDays (i := 10) rfl) (fun r16 I16 L1 R1 H locs hq hW hS => ?_)
  obtain ⟨rfl, rfl, rfl, rfl⟩ := hq
  exact fin (dg D_X11_laneDays (i := 11) rfl) (Nat.le_of_ble_eq_true rfl) (Nat.le_of_ble_eq_true rfl) hW hS ⟨⟨by simp [hr2, hr7], by rw [tN_nI (show jw < 2 ^ 31 by omega)]⟩, rfl, rfl, rfl⟩

set_option maxHeartbeats 4000000 in
set_option maxRecDepth 100000 in
theorem c_X11_trafficLoss {l : Launch} {G : va_G} {bs : Nat} {cy : Nat → ClassId} {I : CI} {L : CL} {R : CR} (σ : Row) (β : Nat) (q : Nat) (v : Int32) (hl0 : l.stackTraces = false) (hi : Inv σ) (hd : DR σ) (hβ : isBr β) (hB : BrAt I β σ) (hq : isPl q) (hP : PlAt I q σ) (hRb : R q 0 = β) (hR7 : R 0 7 = β) (hR8 : R 0 8 = q) : XTi l G bs cy MX11_trafficLoss 7 [.ref (bs + 0), .int v] I L R (fun r I1 L1 R1 => ((inB v (Yn σ)) = true ∧ r = los σ (tN v)) ∧ I = I1 ∧ L = L1 ∧ R = R1) (fun E => E = IOE ∧ (inB v (Yn σ)) = false) 1 6 := by
  refine XTi.of (own := RX11) pn_RX11 rfl (Nat.le_of_ble_eq_true rfl) ?_
  intro p e s m args below meth c Qc Qf X hW hS htab hlk hQf fin ls hl
  have hx := X.1
  have hb := X.2.1
  have hR : RmOK (rmL 7 1 6) 7 := ⟨rfl, rfl⟩
  have hcs : 0 ≤ (rmL 7 1 6).cells ∧ 0 ≤ (rmL 7 1 6).slots := ⟨Nat.zero_le _, Nat.zero_le _⟩
  have hl : lv_has ls 2 [(0, .ref (bs + 0)), (1, .int v)] := hl
  obtain ⟨hY, hY1, hY12, hLn, hL4, hSn, hS12, hGn, hG5⟩ := id hi
  have hbq := br_pl hβ hq
  refine lv_aload_n hx hb (dg D_X11_trafficLoss (i := 0) rfl) rfl (lv_at hl 0 rfl) ?_
  refine lv_iload_n hx hb (dg D_X11_trafficLoss (i := 1) rfl) rfl (lv_at hl 1 rfl) ?_
  refine callXv X hW hS hR htab hlk hQf (c_X11_checkYear (I := I) σ β v (by first | assumption | omega | decide | exact hP.1) (by first | assumption | omega | decide | exact hP.1) (by first | assumption | omega | decide | exact hP.1) (by first | assumption | omega | decide | exact hP.1) (by first | assumption | omega | decide | exact hP.1)) (fun E hE => ⟨hE.1, by simp [hE.2]⟩) (by decide) UVX11_checkYear LK_X11_134 rfl (by decide) rfl rfl rfl (Nat.le_of_ble_eq_true rfl) hl (Nat.le_of_ble_eq_true rfl) (Nat.le_of_ble_eq_true rfl) (Nat.le_of_ble_eq_true rfl) (Nat.le_of_ble_eq_true rfl) (dg D_X11_trafficLoss (i := 2) rfl) (fun I2 L1 R1 H locs hq hW hS => ?_)
  have hcs : 0 + 1 ≤ (rmL 7 1 6).cells ∧ 0 + 6 ≤ (rmL 7 1 6).slots := ⟨Nat.le_of_ble_eq_true rfl, Nat.le_of_ble_eq_true rfl⟩
  obtain ⟨hr2, rfl, rfl, rfl⟩ := hq
  obtain ⟨jv, hjv, rfl⟩ := inB_of hr2 (by omega)
  refine lv_aload_n hx hb (dg D_X11_trafficLoss (i := 3) rfl) rfl (lv_at hl 0 rfl) ?_
  refine r_getr (v := q) X hW FI_X11_71 rfl (by decide) rfl hR8 (dg D_X11_trafficLoss (i := 4) rfl) ?_
  refine lv_iload_n hx hb (dg D_X11_trafficLoss (i := 5) rfl) rfl (lv_at hl 1 rfl) ?_
  refine callVi X hW hS hR (c_X6_lossIn (I := I) σ β q jv (by first | assumption | omega | decide | exact hP.1) (by first | assumption | omega | decide | exact hP.1) (by first | assumption | omega | decide | exact hP.1) (by first | assumption | omega | decide | exact hP.1) (by first | assumption | omega | decide | exact hP.1) (by first | assumption | omega | decide | exact hP.1) (by first | assumption | omega | decide | exact hP.1) (by first | assumption | omega | decide | exact hP.1)) (by decide) UVX6_lossIn LK_X11_220 (shP hq) (ncP0 hq) rfl rfl rfl (Nat.le_of_ble_eq_true rfl) hl hcs (dg D_X11_trafficLoss (i := 6) rfl) (fun r10 I10 L1 R1 H locs hq hW hS => ?_)
  obtain ⟨rfl, rfl, rfl, rfl⟩ := hq
  exact fin (dg D_X11_trafficLoss (i := 7) rfl) (Nat.le_of_ble_eq_true rfl) (Nat.le_of_ble_eq_true rfl) hW hS ⟨⟨by simp [hr2], by rw [tN_nI (show jv < 2 ^ 31 by omega)]⟩, rfl, rfl, rfl⟩

set_option maxHeartbeats 4000000 in
set_option maxRecDepth 100000 in
theorem c_X11_wages {l : Launch} {G : va_G} {bs : Nat} {cy : Nat → ClassId} {I : CI} {L : CL} {R : CR} (σ : Row) (β : Nat) (q : Nat) (v : Int32) (hl0 : l.stackTraces = false) (hi : Inv σ) (hd : DR σ) (hβ : isBr β) (hB : BrAt I β σ) (hq : isPl q) (hP : PlAt I q σ) (hRb : R q 0 = β) (hR7 : R 0 7 = β) (hR8 : R 0 8 = q) : XTi l G bs cy MX11_wages 7 [.ref (bs + 0), .int v] I L R (fun r I1 L1 R1 => ((inB v (Yn σ)) = true ∧ r = wgs σ (tN v)) ∧ I = I1 ∧ L = L1 ∧ R = R1) (fun E => E = IOE ∧ (inB v (Yn σ)) = false) 1 6 := by
  refine XTi.of (own := RX11) pn_RX11 rfl (Nat.le_of_ble_eq_true rfl) ?_
  intro p e s m args below meth c Qc Qf X hW hS htab hlk hQf fin ls hl
  have hx := X.1
  have hb := X.2.1
  have hR : RmOK (rmL 7 1 6) 7 := ⟨rfl, rfl⟩
  have hcs : 0 ≤ (rmL 7 1 6).cells ∧ 0 ≤ (rmL 7 1 6).slots := ⟨Nat.zero_le _, Nat.zero_le _⟩
  have hl : lv_has ls 2 [(0, .ref (bs + 0)), (1, .int v)] := hl
  obtain ⟨hY, hY1, hY12, hLn, hL4, hSn, hS12, hGn, hG5⟩ := id hi
  have hbq := br_pl hβ hq
  refine lv_aload_n hx hb (dg D_X11_wages (i := 0) rfl) rfl (lv_at hl 0 rfl) ?_
  refine lv_iload_n hx hb (dg D_X11_wages (i := 1) rfl) rfl (lv_at hl 1 rfl) ?_
  refine callXv X hW hS hR htab hlk hQf (c_X11_checkYear (I := I) σ β v (by first | assumption | omega | decide | exact hP.1) (by first | assumption | omega | decide | exact hP.1) (by first | assumption | omega | decide | exact hP.1) (by first | assumption | omega | decide | exact hP.1) (by first | assumption | omega | decide | exact hP.1)) (fun E hE => ⟨hE.1, by simp [hE.2]⟩) (by decide) UVX11_checkYear LK_X11_134 rfl (by decide) rfl rfl rfl (Nat.le_of_ble_eq_true rfl) hl (Nat.le_of_ble_eq_true rfl) (Nat.le_of_ble_eq_true rfl) (Nat.le_of_ble_eq_true rfl) (Nat.le_of_ble_eq_true rfl) (dg D_X11_wages (i := 2) rfl) (fun I2 L1 R1 H locs hq hW hS => ?_)
  have hcs : 0 + 1 ≤ (rmL 7 1 6).cells ∧ 0 + 6 ≤ (rmL 7 1 6).slots := ⟨Nat.le_of_ble_eq_true rfl, Nat.le_of_ble_eq_true rfl⟩
  obtain ⟨hr2, rfl, rfl, rfl⟩ := hq
  obtain ⟨jv, hjv, rfl⟩ := inB_of hr2 (by omega)
  refine lv_aload_n hx hb (dg D_X11_wages (i := 3) rfl) rfl (lv_at hl 0 rfl) ?_
  refine r_getr (v := q) X hW FI_X11_71 rfl (by decide) rfl hR8 (dg D_X11_wages (i := 4) rfl) ?_
  refine lv_iload_n hx hb (dg D_X11_wages (i := 5) rfl) rfl (lv_at hl 1 rfl) ?_
  refine callVi X hW hS hR (c_X6_wagesIn (I := I) σ β q jv (by first | assumption | omega | decide | exact hP.1) (by first | assumption | omega | decide | exact hP.1) (by first | assumption | omega | decide | exact hP.1) (by first | assumption | omega | decide | exact hP.1) (by first | assumption | omega | decide | exact hP.1) (by first | assumption | omega | decide | exact hP.1) (by first | assumption | omega | decide | exact hP.1) (by first | assumption | omega | decide | exact hP.1)) (by decide) UVX6_wagesIn LK_X11_223 (shP hq) (ncP0 hq) rfl rfl rfl (Nat.le_of_ble_eq_true rfl) hl hcs (dg D_X11_wages (i := 6) rfl) (fun r10 I10 L1 R1 H locs hq hW hS => ?_)
  obtain ⟨rfl, rfl, rfl, rfl⟩ := hq
  exact fin (dg D_X11_wages (i := 7) rfl) (Nat.le_of_ble_eq_true rfl) (Nat.le_of_ble_eq_true rfl) hW hS ⟨⟨by simp [hr2], by rw [tN_nI (show jv < 2 ^ 31 by omega)]⟩, rfl, rfl, rfl⟩

set_option maxHeartbeats 4000000 in
set_option maxRecDepth 100000 in
theorem c_X11_totalWages {l : Launch} {G : va_G} {bs : Nat} {cy : Nat → ClassId} {I : CI} {L : CL} {R : CR} (σ : Row) (β : Nat) (q : Nat) (hl0 : l.stackTraces = false) (hi : Inv σ) (hd : DR σ) (hβ : isBr β) (hB : BrAt I β σ) (hq : isPl q) (hP : PlAt I q σ) (hRb : R q 0 = β) (hR7 : R 0 7 = β) (hR8 : R 0 8 = q) : MTi l G bs cy MX11_totalWages 4 [.ref (bs + 0)] I L R (fun r I1 L1 R1 => sumT (wgs σ) (Yn σ) = r ∧ I = I1 ∧ L = L1 ∧ R = R1) := by
  refine MTi.of (own := RX11) pn_RX11 rfl (Nat.le_of_ble_eq_true rfl) ?_
  intro p e s m args below meth c Qf X hW hS fin ls hl
  have hx := X.1
  have hb := X.2.1
  have hR : RmOK (rmL 4 0 0) 4 := ⟨rfl, rfl⟩
  have hcs : 0 ≤ (rmL 4 0 0).cells ∧ 0 ≤ (rmL 4 0 0).slots := ⟨Nat.zero_le _, Nat.zero_le _⟩
  have hl : lv_has ls 3 [(0, .ref (bs + 0))] := hl
  obtain ⟨hY, hY1, hY12, hLn, hL4, hSn, hS12, hGn, hG5⟩ := id hi
  have hbq := br_pl hβ hq
  refine n_iconst (a := 0) hx hb (dg D_X11_totalWages (i := 0) rfl) rfl ?_
  refine lv_istore_n (lv' := [(1, .int (nI 0)), (0, .ref (bs + 0))]) hx hb (dg D_X11_totalWages (i := 1) rfl) rfl hl (by decide) rfl (fun ls hl => ?_)
  refine n_iconst (a := 0) hx hb (dg D_X11_totalWages (i := 2) rfl) rfl ?_
  refine lv_istore_n (lv' := [(2, .int (nI 0)), (1, .int (nI 0)), (0, .ref (bs + 0))]) hx hb (dg D_X11_totalWages (i := 3) rfl) rfl hl (by decide) rfl (fun ls hl => ?_)
  have loop4 := up_ind (P := fun y => ∀ (H : Heap) (locs : List Loc) (ls : Array Slot) (v1 : Int32) (v2 : Int32), v1 = sumT (wgs σ) y → v2 = nI y → Wd G bs cy I L R H → va_S (Aq bs) s.heap H locs → lv_has ls 3 [(0, .ref (bs + 0)), (1, .int v1), (2, .int v2)] → W p l e (rmL 4 0 0) s m args below meth c H locs 0 0 Qf (F0 m 4 ls [])) (Yn σ) (fun y hx4 ih4 => by
      intro H locs ls v1 v2 q1 q2 hW hS hl
      subst q1
      subst q2
      refine lv_iload_n hx hb (dg D_X11_totalWages (i := 4) rfl) rfl (lv_at hl 2 rfl) ?_
      refine lv_aload_n hx hb (dg D_X11_totalWages (i := 5) rfl) rfl (lv_at hl 0 rfl) ?_
      refine r_getr (v := β) X hW FI_X11_67 rfl (by decide) rfl hR7 (dg D_X11_totalWages (i := 6) rfl) ?_
      refine rn_geti (v := nI (Yn σ)) X hW FN_X11_168 (shB hβ) (ncB0 hβ) rfl (hB.c0 hi) (dg D_X11_totalWages (i := 7) rfl) ?_
      refine n_icmp_ge (tgt := 32) hx hb (by omega) (by omega) (dg D_X11_totalWages (i := 8) rfl) (by decide) (fun c12 => ?_) (fun c12 => ?_)
      · refine lv_iload_n hx hb (dg D_X11_totalWages (i := 18) rfl) rfl (lv_at hl 1 rfl) ?_
        exact fin (dg D_X11_totalWages (i := 19) rfl) hW hS ⟨by rw [show y = Yn σ by omega], rfl, rfl, rfl⟩
      · refine lv_iload_n hx hb (dg D_X11_totalWages (i := 9) rfl) rfl (lv_at hl 1 rfl) ?_
        refine lv_aload_n hx hb (dg D_X11_totalWages (i := 10) rfl) rfl (lv_at hl 0 rfl) ?_
        refine r_getr (v := q) X hW FI_X11_71 rfl (by decide) rfl hR8 (dg D_X11_totalWages (i := 11) rfl) ?_
        refine lv_iload_n hx hb (dg D_X11_totalWages (i := 12) rfl) rfl (lv_at hl 2 rfl) ?_
        refine callVi X hW hS hR (c_X6_wagesIn (I := I) σ β q y (by first | assumption | omega | decide | exact hP.1) (by first | assumption | omega | decide | exact hP.1) (by first | assumption | omega | decide | exact hP.1) (by first | assumption | omega | decide | exact hP.1) (by first | assumption | omega | decide | exact hP.1) (by first | assumption | omega | decide | exact hP.1) (by first | assumption | omega | decide | exact hP.1) (by first | assumption | omega | decide | exact hP.1)) (by decide) UVX6_wagesIn LK_X11_223 (shP hq) (ncP0 hq) rfl rfl rfl (Nat.le_of_ble_eq_true rfl) hl hcs (dg D_X11_totalWages (i := 13) rfl) (fun r21 I21 L1 R1 H locs hq hW hS => ?_)
        obtain ⟨rfl, rfl, rfl, rfl⟩ := hq
        refine lv_iadd hx hb (dg D_X11_totalWages (i := 14) rfl) ?_
        refine lv_istore_n (lv' := [(1, .int ((sumT (wgs σ) y) + (wgs σ y))), (0, .ref (bs + 0)), (2, .int (nI y))]) hx hb (dg D_X11_totalWages (i := 15) rfl) rfl hl (by decide) rfl (fun ls hl => ?_)
        refine lv_iinc (v := nI (y + 1)) (lv' := [(2, .int (nI (y + 1))), (1, .int ((sumT (wgs σ) y) + (wgs σ y))), (0, .ref (bs + 0))]) hx hb (dg D_X11_totalWages (i := 16) rfl) hl (k := 2) rfl (nI_add _ _) (by decide) rfl (fun ls hl => ?_)
        refine lv_goto (tgt := 4) hx hb (dg D_X11_totalWages (i := 17) rfl) (by decide) ?_
        exact ih4 (by omega) _ _ _ _ _ (rfl) (congrArg nI (by omega)) hW hS (lv_sub hl [2, 1, 0] rfl))
  exact loop4 0 (Nat.zero_le _) _ _ _ _ _ (rfl) (congrArg nI (by omega)) hW hS (lv_sub hl [2, 1, 0] rfl)

set_option maxHeartbeats 4000000 in
set_option maxRecDepth 100000 in
theorem c_X11_totalLoss {l : Launch} {G : va_G} {bs : Nat} {cy : Nat → ClassId} {I : CI} {L : CL} {R : CR} (σ : Row) (β : Nat) (q : Nat) (hl0 : l.stackTraces = false) (hi : Inv σ) (hd : DR σ) (hβ : isBr β) (hB : BrAt I β σ) (hq : isPl q) (hP : PlAt I q σ) (hRb : R q 0 = β) (hR7 : R 0 7 = β) (hR8 : R 0 8 = q) : MTi l G bs cy MX11_totalLoss 4 [.ref (bs + 0)] I L R (fun r I1 L1 R1 => sumT (los σ) (Yn σ) = r ∧ I = I1 ∧ L = L1 ∧ R = R1) := by
  refine MTi.of (own := RX11) pn_RX11 rfl (Nat.le_of_ble_eq_true rfl) ?_
  intro p e s m args below meth c Qf X hW hS fin ls hl
  have hx := X.1
  have hb := X.2.1
  have hR : RmOK (rmL 4 0 0) 4 := ⟨rfl, rfl⟩
  have hcs : 0 ≤ (rmL 4 0 0).cells ∧ 0 ≤ (rmL 4 0 0).slots := ⟨Nat.zero_le _, Nat.zero_le _⟩
  have hl : lv_has ls 3 [(0, .ref (bs + 0))] := hl
  obtain ⟨hY, hY1, hY12, hLn, hL4, hSn, hS12, hGn, hG5⟩ := id hi
  have hbq := br_pl hβ hq
  refine n_iconst (a := 0) hx hb (dg D_X11_totalLoss (i := 0) rfl) rfl ?_
  refine lv_istore_n (lv' := [(1, .int (nI 0)), (0, .ref (bs + 0))]) hx hb (dg D_X11_totalLoss (i := 1) rfl) rfl hl (by decide) rfl (fun ls hl => ?_)
  refine n_iconst (a := 0) hx hb (dg D_X11_totalLoss (i := 2) rfl) rfl ?_
  refine lv_istore_n (lv' := [(2, .int (nI 0)), (1, .int (nI 0)), (0, .ref (bs + 0))]) hx hb (dg D_X11_totalLoss (i := 3) rfl) rfl hl (by decide) rfl (fun ls hl => ?_)
  have loop4 := up_ind (P := fun y => ∀ (H : Heap) (locs : List Loc) (ls : Array Slot) (v1 : Int32) (v2 : Int32), v1 = sumT (los σ) y → v2 = nI y → Wd G bs cy I L R H → va_S (Aq bs) s.heap H locs → lv_has ls 3 [(0, .ref (bs + 0)), (1, .int v1), (2, .int v2)] → W p l e (rmL 4 0 0) s m args below meth c H locs 0 0 Qf (F0 m 4 ls [])) (Yn σ) (fun y hx4 ih4 => by
      intro H locs ls v1 v2 q1 q2 hW hS hl
      subst q1
      subst q2
      refine lv_iload_n hx hb (dg D_X11_totalLoss (i := 4) rfl) rfl (lv_at hl 2 rfl) ?_
      refine lv_aload_n hx hb (dg D_X11_totalLoss (i := 5) rfl) rfl (lv_at hl 0 rfl) ?_
      refine r_getr (v := β) X hW FI_X11_67 rfl (by decide) rfl hR7 (dg D_X11_totalLoss (i := 6) rfl) ?_
      refine rn_geti (v := nI (Yn σ)) X hW FN_X11_168 (shB hβ) (ncB0 hβ) rfl (hB.c0 hi) (dg D_X11_totalLoss (i := 7) rfl) ?_
      refine n_icmp_ge (tgt := 32) hx hb (by omega) (by omega) (dg D_X11_totalLoss (i := 8) rfl) (by decide) (fun c12 => ?_) (fun c12 => ?_)
      · refine lv_iload_n hx hb (dg D_X11_totalLoss (i := 18) rfl) rfl (lv_at hl 1 rfl) ?_
        exact fin (dg D_X11_totalLoss (i := 19) rfl) hW hS ⟨by rw [show y = Yn σ by omega], rfl, rfl, rfl⟩
      · refine lv_iload_n hx hb (dg D_X11_totalLoss (i := 9) rfl) rfl (lv_at hl 1 rfl) ?_
        refine lv_aload_n hx hb (dg D_X11_totalLoss (i := 10) rfl) rfl (lv_at hl 0 rfl) ?_
        refine r_getr (v := q) X hW FI_X11_71 rfl (by decide) rfl hR8 (dg D_X11_totalLoss (i := 11) rfl) ?_
        refine lv_iload_n hx hb (dg D_X11_totalLoss (i := 12) rfl) rfl (lv_at hl 2 rfl) ?_
        refine callVi X hW hS hR (c_X6_lossIn (I := I) σ β q y (by first | assumption | omega | decide | exact hP.1) (by first | assumption | omega | decide | exact hP.1) (by first | assumption | omega | decide | exact hP.1) (by first | assumption | omega | decide | exact hP.1) (by first | assumption | omega | decide | exact hP.1) (by first | assumption | omega | decide | exact hP.1) (by first | assumption | omega | decide | exact hP.1) (by first | assumption | omega | decide | exact hP.1)) (by decide) UVX6_lossIn LK_X11_220 (shP hq) (ncP0 hq) rfl rfl rfl (Nat.le_of_ble_eq_true rfl) hl hcs (dg D_X11_totalLoss (i := 13) rfl) (fun r21 I21 L1 R1 H locs hq hW hS => ?_)
        obtain ⟨rfl, rfl, rfl, rfl⟩ := hq
        refine lv_iadd hx hb (dg D_X11_totalLoss (i := 14) rfl) ?_
        refine lv_istore_n (lv' := [(1, .int ((sumT (los σ) y) + (los σ y))), (0, .ref (bs + 0)), (2, .int (nI y))]) hx hb (dg D_X11_totalLoss (i := 15) rfl) rfl hl (by decide) rfl (fun ls hl => ?_)
        refine lv_iinc (v := nI (y + 1)) (lv' := [(2, .int (nI (y + 1))), (1, .int ((sumT (los σ) y) + (los σ y))), (0, .ref (bs + 0))]) hx hb (dg D_X11_totalLoss (i := 16) rfl) hl (k := 2) rfl (nI_add _ _) (by decide) rfl (fun ls hl => ?_)
        refine lv_goto (tgt := 4) hx hb (dg D_X11_totalLoss (i := 17) rfl) (by decide) ?_
        exact ih4 (by omega) _ _ _ _ _ (rfl) (congrArg nI (by omega)) hW hS (lv_sub hl [2, 1, 0] rfl))
  exact loop4 0 (Nat.zero_le _) _ _ _ _ _ (rfl) (congrArg nI (by omega)) hW hS (lv_sub hl [2, 1, 0] rfl)

set_option maxHeartbeats 4000000 in
set_option maxRecDepth 100000 in
theorem c_X11_busiestYear {l : Launch} {G : va_G} {bs : Nat} {cy : Nat → ClassId} {I : CI} {L : CL} {R : CR} (σ : Row) (β : Nat) (q : Nat) (hl0 : l.stackTraces = false) (hi : Inv σ) (hd : DR σ) (hβ : isBr β) (hB : BrAt I β σ) (hq : isPl q) (hP : PlAt I q σ) (hRb : R q 0 = β) (hR7 : R 0 7 = β) (hR8 : R 0 8 = q) : MTi l G bs cy MX11_busiestYear 3 [.ref (bs + 0)] I L R (fun r I1 L1 R1 => (amx (fun y => sumT (fun g => lod σ (nI g) y) (nG σ)) (nI 0) (-1) (Yn σ)).1 = r ∧ I = I1 ∧ L = L1 ∧ R = R1) := by
  refine MTi.of (own := RX11) pn_RX11 rfl (Nat.le_of_ble_eq_true rfl) ?_
  intro p e s m args below meth c Qf X hW hS fin ls hl
  have hx := X.1
  have hb := X.2.1
  have hR : RmOK (rmL 3 0 0) 3 := ⟨rfl, rfl⟩
  have hcs : 0 ≤ (rmL 3 0 0).cells ∧ 0 ≤ (rmL 3 0 0).slots := ⟨Nat.zero_le _, Nat.zero_le _⟩
  have hl : lv_has ls 6 [(0, .ref (bs + 0))] := hl
  obtain ⟨hY, hY1, hY12, hLn, hL4, hSn, hS12, hGn, hG5⟩ := id hi
  have hbq := br_pl hβ hq
  refine n_iconst (a := 0) hx hb (dg D_X11_busiestYear (i := 0) rfl) rfl ?_
  refine lv_istore_n (lv' := [(1, .int (nI 0)), (0, .ref (bs + 0))]) hx hb (dg D_X11_busiestYear (i := 1) rfl) rfl hl (by decide) rfl (fun ls hl => ?_)
  refine lv_iconst (v := -1) hx hb (dg D_X11_busiestYear (i := 2) rfl) (by decide) ?_
  refine lv_istore_n (lv' := [(2, .int ((-1))), (1, .int (nI 0)), (0, .ref (bs + 0))]) hx hb (dg D_X11_busiestYear (i := 3) rfl) rfl hl (by decide) rfl (fun ls hl => ?_)
  refine n_iconst (a := 0) hx hb (dg D_X11_busiestYear (i := 4) rfl) rfl ?_
  refine lv_istore_n (lv' := [(3, .int (nI 0)), (2, .int ((-1))), (1, .int (nI 0)), (0, .ref (bs + 0))]) hx hb (dg D_X11_busiestYear (i := 5) rfl) rfl hl (by decide) rfl (fun ls hl => ?_)
  have loop6 := up_ind (P := fun y => ∀ (H : Heap) (locs : List Loc) (ls : Array Slot) (v1 : Int32) (v2 : Int32) (v3 : Int32), v1 = (amx (fun y => sumT (fun g => lod σ (nI g) y) (nG σ)) (nI 0) (-1) y).1 → v2 = (amx (fun y => sumT (fun g => lod σ (nI g) y) (nG σ)) (nI 0) (-1) y).2 → v3 = nI y → Wd G bs cy I L R H → va_S (Aq bs) s.heap H locs → lv_has ls 6 [(0, .ref (bs + 0)), (1, .int v1), (2, .int v2), (3, .int v3)] → W p l e (rmL 3 0 0) s m args below meth c H locs 0 0 Qf (F0 m 6 ls [])) (Yn σ) (fun y hx6 ih6 => by
      intro H locs ls v1 v2 v3 q1 q2 q3 hW hS hl
      subst q1
      subst q2
      subst q3
      refine lv_iload_n hx hb (dg D_X11_busiestYear (i := 6) rfl) rfl (lv_at hl 3 rfl) ?_
      refine lv_aload_n hx hb (dg D_X11_busiestYear (i := 7) rfl) rfl (lv_at hl 0 rfl) ?_
      refine r_getr (v := β) X hW FI_X11_67 rfl (by decide) rfl hR7 (dg D_X11_busiestYear (i := 8) rfl) ?_
      refine rn_geti (v := nI (Yn σ)) X hW FN_X11_168 (shB hβ) (ncB0 hβ) rfl (hB.c0 hi) (dg D_X11_busiestYear (i := 9) rfl) ?_
      refine n_icmp_ge (tgt := 73) hx hb (by omega) (by omega) (dg D_X11_busiestYear (i := 10) rfl) (by decide) (fun c14 => ?_) (fun c14 => ?_)
      · refine lv_iload_n hx hb (dg D_X11_busiestYear (i := 39) rfl) rfl (lv_at hl 1 rfl) ?_
        exact fin (dg D_X11_busiestYear (i := 40) rfl) hW hS ⟨by rw [show y = Yn σ by omega], rfl, rfl, rfl⟩
      · refine n_iconst (a := 0) hx hb (dg D_X11_busiestYear (i := 11) rfl) rfl ?_
        refine lv_istore (lv' := [(4, .int (nI 0)), (0, .ref (bs + 0)), (1, .int ((amx (fun y => sumT (fun g => lod σ (nI g) y) (nG σ)) (nI 0) (-1) y).1)), (2, .int ((amx (fun y => sumT (fun g => lod σ (nI g) y) (nG σ)) (nI 0) (-1) y).2)), (3, .int (nI y))]) hx hb (dg D_X11_busiestYear (i := 12) rfl) hl (by decide) rfl (fun ls hl => ?_)
        refine n_iconst (a := 0) hx hb (dg D_X11_busiestYear (i := 13) rfl) rfl ?_
        refine lv_istore (lv' := [(5, .int (nI 0)), (4, .int (nI 0)), (0, .ref (bs + 0)), (1, .int ((amx (fun y => sumT (fun g => lod σ (nI g) y) (nG σ)) (nI 0) (-1) y).1)), (2, .int ((amx (fun y => sumT (fun g => lod σ (nI g) y) (nG σ)) (nI 0) (-1) y).2)), (3, .int (nI y))]) hx hb (dg D_X11_busiestYear (i := 14) rfl) hl (by decide) rfl (fun ls hl => ?_)
        have loop23 := up_ind (P := fun g => ∀ (H : Heap) (locs : List Loc) (ls : Array Slot) (v4 : Int32) (v5 : Int32), v4 = sumT (fun g => lod σ (nI g) y) g → v5 = nI g → Wd G bs cy I L R H → va_S (Aq bs) s.heap H locs → lv_has ls 6 [(0, .ref (bs + 0)), (1, .int ((amx (fun y => sumT (fun g => lod σ (nI g) y) (nG σ)) (nI 0) (-1) y).1)), (2, .int ((amx (fun y => sumT (fun g => lod σ (nI g) y) (nG σ)) (nI 0) (-1) y).2)), (3, .int (nI y)), (4, .int v4), (5, .int v5)] → W p l e (rmL 3 0 0) s m args below meth c H locs 0 0 Qf (F0 m 23 ls [])) (nG σ) (fun g hx23 ih23 => by
            intro H locs ls v4 v5 q4 q5 hW hS hl
            subst q4
            subst q5
            refine lv_iload hx hb (dg D_X11_busiestYear (i := 15) rfl) (lv_at hl 5 rfl) ?_
            refine lv_aload_n hx hb (dg D_X11_busiestYear (i := 16) rfl) rfl (lv_at hl 0 rfl) ?_
            refine r_getr (v := β) X hW FI_X11_67 rfl (by decide) rfl hR7 (dg D_X11_busiestYear (i := 17) rfl) ?_
            refine rn_geti (v := nI (nG σ)) X hW FN_X11_226 (shB hβ) (ncB0 hβ) rfl (hB.c5 hi) (dg D_X11_busiestYear (i := 18) rfl) ?_
            refine n_icmp_ge (tgt := 56) hx hb (by omega) (by omega) (dg D_X11_busiestYear (i := 19) rfl) (by decide) (fun c32 => ?_) (fun c32 => ?_)
            · refine lv_iload hx hb (dg D_X11_busiestYear (i := 30) rfl) (lv_at hl 4 rfl) ?_
              refine lv_iload_n hx hb (dg D_X11_busiestYear (i := 31) rfl) rfl (lv_at hl 2 rfl) ?_
              refine lv_icmp_le (tgt := 67) hx hb (dg D_X11_busiestYear (i := 32) rfl) (by decide) (fun c59 => ?_) (fun c59 => ?_)
              · refine lv_iinc (v := nI (y + 1)) (lv' := [(3, .int (nI (y + 1))), (0, .ref (bs + 0)), (1, .int ((amx (fun y => sumT (fun g => lod σ (nI g) y) (nG σ)) (nI 0) (-1) y).1)), (2, .int ((amx (fun y => sumT (fun g => lod σ (nI g) y) (nG σ)) (nI 0) (-1) y).2)), (4, .int (sumT (fun g => lod σ (nI g) y) g)), (5, .int (nI g))]) hx hb (dg D_X11_busiestYear (i := 37) rfl) hl (k := 3) rfl (nI_add _ _) (by decide) rfl (fun ls hl => ?_)
                refine lv_goto (tgt := 6) hx hb (dg D_X11_busiestYear (i := 38) rfl) (by decide) ?_
                exact ih6 (by omega) _ _ _ _ _ _ (by rw [show g = nG σ by omega] at c59; rw [amx_n c59]) (by rw [show g = nG σ by omega] at c59; rw [amx_n c59]) (congrArg nI (by omega)) hW hS (lv_sub hl [1, 2, 3, 0] rfl)
              · refine lv_iload hx hb (dg D_X11_busiestYear (i := 33) rfl) (lv_at hl 4 rfl) ?_
                refine lv_istore_n (lv' := [(2, .int (sumT (fun g => lod σ (nI g) y) g)), (0, .ref (bs + 0)), (1, .int ((amx (fun y => sumT (fun g => lod σ (nI g) y) (nG σ)) (nI 0) (-1) y).1)), (3, .int (nI y)), (4, .int (sumT (fun g => lod σ (nI g) y) g)), (5, .int (nI g))]) hx hb (dg D_X11_busiestYear (i := 34) rfl) rfl hl (by decide) rfl (fun ls hl => ?_)
                refine lv_iload_n hx hb (dg D_X11_busiestYear (i := 35) rfl) rfl (lv_at hl 3 rfl) ?_
                refine lv_istore_n (lv' := [(1, .int (nI y)), (2, .int (sumT (fun g => lod σ (nI g) y) g)), (0, .ref (bs + 0)), (3, .int (nI y)), (4, .int (sumT (fun g => lod σ (nI g) y) g)), (5, .int (nI g))]) hx hb (dg D_X11_busiestYear (i := 36) rfl) rfl hl (by decide) rfl (fun ls hl => ?_)
                refine lv_iinc (v := nI (y + 1)) (lv' := [(3, .int (nI (y + 1))), (1, .int (nI y)), (2, .int (sumT (fun g => lod σ (nI g) y) g)), (0, .ref (bs + 0)), (4, .int (sumT (fun g => lod σ (nI g) y) g)), (5, .int (nI g))]) hx hb (dg D_X11_busiestYear (i := 37) rfl) hl (k := 3) rfl (nI_add _ _) (by decide) rfl (fun ls hl => ?_)
                refine lv_goto (tgt := 6) hx hb (dg D_X11_busiestYear (i := 38) rfl) (by decide) ?_
                exact ih6 (by omega) _ _ _ _ _ _ (by rw [show g = nG σ by omega] at c59; rw [amx_y c59]) (by rw [show g = nG σ by omega] at c59; rw [amx_y c59]; rw [show g = nG σ by omega]) (congrArg nI (by omega)) hW hS (lv_sub hl [3, 1, 2, 0] rfl)
            · refine lv_iload hx hb (dg D_X11_busiestYear (i := 20) rfl) (lv_at hl 4 rfl) ?_
              refine lv_aload_n hx hb (dg D_X11_busiestYear (i := 21) rfl) rfl (lv_at hl 0 rfl) ?_
              refine r_getr (v := q) X hW FI_X11_71 rfl (by decide) rfl hR8 (dg D_X11_busiestYear (i := 22) rfl) ?_
              refine lv_iload hx hb (dg D_X11_busiestYear (i := 23) rfl) (lv_at hl 5 rfl) ?_
              refine lv_iload_n hx hb (dg D_X11_busiestYear (i := 24) rfl) rfl (lv_at hl 3 rfl) ?_
              refine callVi X hW hS hR (c_X6_gangLoad (I := I) σ β q (nI g) y (by first | assumption | omega | decide | exact hP.1) (by first | assumption | omega | decide | exact hP.1) (by first | assumption | omega | decide | exact hP.1) (by first | assumption | omega | decide | exact hP.1) (by first | assumption | omega | decide | exact hP.1) (by first | assumption | omega | decide | exact hP.1) (by first | assumption | omega | decide | exact hP.1)) (by decide) UVX6_gangLoad LK_X11_196 (shP hq) (ncP0 hq) rfl rfl rfl (Nat.le_of_ble_eq_true rfl) hl hcs (dg D_X11_busiestYear (i := 25) rfl) (fun r44 I44 L1 R1 H locs hq hW hS => ?_)
              obtain ⟨rfl, rfl, rfl, rfl⟩ := hq
              refine lv_iadd hx hb (dg D_X11_busiestYear (i := 26) rfl) ?_
              refine lv_istore (lv' := [(4, .int ((sumT (fun g => lod σ (nI g) y) g) + (lod σ (nI g) y))), (0, .ref (bs + 0)), (1, .int ((amx (fun y => sumT (fun g => lod σ (nI g) y) (nG σ)) (nI 0) (-1) y).1)), (2, .int ((amx (fun y => sumT (fun g => lod σ (nI g) y) (nG σ)) (nI 0) (-1) y).2)), (3, .int (nI y)), (5, .int (nI g))]) hx hb (dg D_X11_busiestYear (i := 27) rfl) hl (by decide) rfl (fun ls hl => ?_)
              refine lv_iinc (v := nI (g + 1)) (lv' := [(5, .int (nI (g + 1))), (4, .int ((sumT (fun g => lod σ (nI g) y) g) + (lod σ (nI g) y))), (0, .ref (bs + 0)), (1, .int ((amx (fun y => sumT (fun g => lod σ (nI g) y) (nG σ)) (nI 0) (-1) y).1)), (2, .int ((amx (fun y => sumT (fun g => lod σ (nI g) y) (nG σ)) (nI 0) (-1) y).2)), (3, .int (nI y))]) hx hb (dg D_X11_busiestYear (i := 28) rfl) hl (k := 5) rfl (nI_add _ _) (by decide) rfl (fun ls hl => ?_)
              refine lv_goto (tgt := 23) hx hb (dg D_X11_busiestYear (i := 29) rfl) (by decide) ?_
              exact ih23 (by omega) _ _ _ _ _ (rfl) (congrArg nI (by omega)) hW hS (lv_sub hl [2, 3, 4, 5, 1, 0] rfl))
        exact loop23 0 (Nat.zero_le _) _ _ _ _ _ (rfl) (congrArg nI (by omega)) hW hS (lv_sub hl [2, 3, 4, 5, 1, 0] rfl))
  exact loop6 0 (Nat.zero_le _) _ _ _ _ _ _ (rfl) (rfl) (congrArg nI (by omega)) hW hS (lv_sub hl [3, 2, 1, 0] rfl)

set_option maxHeartbeats 4000000 in
set_option maxRecDepth 100000 in
theorem c_X11_idleDays {l : Launch} {G : va_G} {bs : Nat} {cy : Nat → ClassId} {I : CI} {L : CL} {R : CR} (σ : Row) (β : Nat) (q : Nat) (v : Int32) (hl0 : l.stackTraces = false) (hi : Inv σ) (hd : DR σ) (hβ : isBr β) (hB : BrAt I β σ) (hq : isPl q) (hP : PlAt I q σ) (hRb : R q 0 = β) (hR7 : R 0 7 = β) (hR8 : R 0 8 = q) : XTi l G bs cy MX11_idleDays 7 [.ref (bs + 0), .int v] I L R (fun r I1 L1 R1 => ((inB v (nG σ)) = true ∧ r = sumT (fun y => mx (nI 0) (σ (80 + y) - dyI σ v y)) (Yn σ)) ∧ I = I1 ∧ L = L1 ∧ R = R1) (fun E => E = IOE ∧ (inB v (nG σ)) = false) 1 6 := by
  refine XTi.of (own := RX11) pn_RX11 rfl (Nat.le_of_ble_eq_true rfl) ?_
  intro p e s m args below meth c Qc Qf X hW hS htab hlk hQf fin ls hl
  have hx := X.1
  have hb := X.2.1
  have hR : RmOK (rmL 7 1 6) 7 := ⟨rfl, rfl⟩
  have hcs : 0 ≤ (rmL 7 1 6).cells ∧ 0 ≤ (rmL 7 1 6).slots := ⟨Nat.zero_le _, Nat.zero_le _⟩
  have hl : lv_has ls 4 [(0, .ref (bs + 0)), (1, .int v)] := hl
  obtain ⟨hY, hY1, hY12, hLn, hL4, hSn, hS12, hGn, hG5⟩ := id hi
  have hbq := br_pl hβ hq
  refine lv_aload_n hx hb (dg D_X11_idleDays (i := 0) rfl) rfl (lv_at hl 0 rfl) ?_
  refine lv_iload_n hx hb (dg D_X11_idleDays (i := 1) rfl) rfl (lv_at hl 1 rfl) ?_
  refine callXv X hW hS hR htab hlk hQf (c_X11_checkGang (I := I) σ β v (by first | assumption | omega | decide | exact hP.1) (by first | assumption | omega | decide | exact hP.1) (by first | assumption | omega | decide | exact hP.1) (by first | assumption | omega | decide | exact hP.1) (by first | assumption | omega | decide | exact hP.1)) (fun E hE => ⟨hE.1, by simp [hE.2]⟩) (by decide) UVX11_checkGang LK_X11_190 rfl (by decide) rfl rfl rfl (Nat.le_of_ble_eq_true rfl) hl (Nat.le_of_ble_eq_true rfl) (Nat.le_of_ble_eq_true rfl) (Nat.le_of_ble_eq_true rfl) (Nat.le_of_ble_eq_true rfl) (dg D_X11_idleDays (i := 2) rfl) (fun I2 L1 R1 H locs hq hW hS => ?_)
  have hcs : 0 + 1 ≤ (rmL 7 1 6).cells ∧ 0 + 6 ≤ (rmL 7 1 6).slots := ⟨Nat.le_of_ble_eq_true rfl, Nat.le_of_ble_eq_true rfl⟩
  obtain ⟨hr2, rfl, rfl, rfl⟩ := hq
  obtain ⟨jv, hjv, rfl⟩ := inB_of hr2 (by omega)
  refine n_iconst (a := 0) hx hb (dg D_X11_idleDays (i := 3) rfl) rfl ?_
  refine lv_istore_n (lv' := [(2, .int (nI 0)), (0, .ref (bs + 0)), (1, .int (nI jv))]) hx hb (dg D_X11_idleDays (i := 4) rfl) rfl hl (by decide) rfl (fun ls hl => ?_)
  refine n_iconst (a := 0) hx hb (dg D_X11_idleDays (i := 5) rfl) rfl ?_
  refine lv_istore_n (lv' := [(3, .int (nI 0)), (2, .int (nI 0)), (0, .ref (bs + 0)), (1, .int (nI jv))]) hx hb (dg D_X11_idleDays (i := 6) rfl) rfl hl (by decide) rfl (fun ls hl => ?_)
  have loop9 := up_ind (P := fun y => ∀ (H : Heap) (locs : List Loc) (ls : Array Slot) (v2 : Int32) (v3 : Int32), v2 = sumT (fun y => mx (nI 0) (σ (80 + y) - dyI σ (nI jv) y)) y → v3 = nI y → Wd G bs cy I L R H → va_S (Aq bs) s.heap H locs → lv_has ls 4 [(0, .ref (bs + 0)), (1, .int (nI jv)), (2, .int v2), (3, .int v3)] → W p l e (rmL 7 1 6) s m args below meth c H locs (0 + 1) (0 + 6) Qf (F0 m 9 ls [])) (Yn σ) (fun y hx9 ih9 => by
      intro H locs ls v2 v3 q2 q3 hW hS hl
      subst q2
      subst q3
      refine lv_iload_n hx hb (dg D_X11_idleDays (i := 7) rfl) rfl (lv_at hl 3 rfl) ?_
      refine lv_aload_n hx hb (dg D_X11_idleDays (i := 8) rfl) rfl (lv_at hl 0 rfl) ?_
      refine r_getr (v := β) X hW FI_X11_67 rfl (by decide) rfl hR7 (dg D_X11_idleDays (i := 9) rfl) ?_
      refine rn_geti (v := nI (Yn σ)) X hW FN_X11_168 (shB hβ) (ncB0 hβ) rfl (hB.c0 hi) (dg D_X11_idleDays (i := 10) rfl) ?_
      refine n_icmp_ge (tgt := 52) hx hb (by omega) (by omega) (dg D_X11_idleDays (i := 11) rfl) (by decide) (fun c17 => ?_) (fun c17 => ?_)
      · refine lv_iload_n hx hb (dg D_X11_idleDays (i := 30) rfl) rfl (lv_at hl 2 rfl) ?_
        exact fin (dg D_X11_idleDays (i := 31) rfl) (Nat.le_of_ble_eq_true rfl) (Nat.le_of_ble_eq_true rfl) hW hS ⟨⟨by simp [hr2], by rw [show y = Yn σ by omega]⟩, rfl, rfl, rfl⟩
      · refine lv_iload_n hx hb (dg D_X11_idleDays (i := 12) rfl) rfl (lv_at hl 2 rfl) ?_
        refine n_iconst (a := 0) hx hb (dg D_X11_idleDays (i := 13) rfl) rfl ?_
        refine lv_aload_n hx hb (dg D_X11_idleDays (i := 14) rfl) rfl (lv_at hl 0 rfl) ?_
        refine r_getr (v := β) X hW FI_X11_67 rfl (by decide) rfl hR7 (dg D_X11_idleDays (i := 15) rfl) ?_
        refine rn_getc (t := β + 9) X hW FN_X11_229 (shB hβ) (ncB0 hβ) rfl (dg D_X11_idleDays (i := 16) rfl) ?_
        refine lv_iload_n hx hb (dg D_X11_idleDays (i := 17) rfl) rfl (lv_at hl 3 rfl) ?_
        refine r_ald (j := y) (v := σ (80 + y)) X hW (shB9 hβ) (ncB hβ (by decide)) rfl (by omega) (by omega) (hB.da (by omega)) (dg D_X11_idleDays (i := 18) rfl) ?_
        refine lv_aload_n hx hb (dg D_X11_idleDays (i := 19) rfl) rfl (lv_at hl 0 rfl) ?_
        refine r_getr (v := q) X hW FI_X11_71 rfl (by decide) rfl hR8 (dg D_X11_idleDays (i := 20) rfl) ?_
        refine lv_iload_n hx hb (dg D_X11_idleDays (i := 21) rfl) rfl (lv_at hl 1 rfl) ?_
        refine lv_iload_n hx hb (dg D_X11_idleDays (i := 22) rfl) rfl (lv_at hl 3 rfl) ?_
        refine callVi X hW hS hR (c_X6_gangDays (I := I) σ β q jv y (by first | assumption | omega | decide | exact hP.1) (by first | assumption | omega | decide | exact hP.1) (by first | assumption | omega | decide | exact hP.1) (by first | assumption | omega | decide | exact hP.1) (by first | assumption | omega | decide | exact hP.1) (by first | assumption | omega | decide | exact hP.1) (by first | assumption | omega | decide | exact hP.1) (by first | assumption | omega | decide | exact hP.1) (by first | assumption | omega | decide | exact hP.1)) (by decide) UVX6_gangDays LK_X11_211 (shP hq) (ncP0 hq) rfl rfl rfl (Nat.le_of_ble_eq_true rfl) hl hcs (dg D_X11_idleDays (i := 23) rfl) (fun r37 I37 L1 R1 H locs hq hW hS => ?_)
        obtain ⟨rfl, rfl, rfl, rfl⟩ := hq
        refine lv_isub hx hb (dg D_X11_idleDays (i := 24) rfl) ?_
        refine r_max (v := mx (nI 0) (σ (80 + y) - dyI σ (nI jv) y)) X hR (by decide) LK_X11_232 (Nat.le_of_ble_eq_true rfl) hl hcs rfl (dg D_X11_idleDays (i := 25) rfl) ?_
        refine lv_iadd hx hb (dg D_X11_idleDays (i := 26) rfl) ?_
        refine lv_istore_n (lv' := [(2, .int ((sumT (fun y => mx (nI 0) (σ (80 + y) - dyI σ (nI jv) y)) y) + (mx (nI 0) (σ (80 + y) - dyI σ (nI jv) y)))), (0, .ref (bs + 0)), (1, .int (nI jv)), (3, .int (nI y))]) hx hb (dg D_X11_idleDays (i := 27) rfl) rfl hl (by decide) rfl (fun ls hl => ?_)
        refine lv_iinc (v := nI (y + 1)) (lv' := [(3, .int (nI (y + 1))), (2, .int ((sumT (fun y => mx (nI 0) (σ (80 + y) - dyI σ (nI jv) y)) y) + (mx (nI 0) (σ (80 + y) - dyI σ (nI jv) y)))), (0, .ref (bs + 0)), (1, .int (nI jv))]) hx hb (dg D_X11_idleDays (i := 28) rfl) hl (k := 3) rfl (nI_add _ _) (by decide) rfl (fun ls hl => ?_)
        refine lv_goto (tgt := 9) hx hb (dg D_X11_idleDays (i := 29) rfl) (by decide) ?_
        exact ih9 (by omega) _ _ _ _ _ (rfl) (congrArg nI (by omega)) hW hS (lv_sub hl [2, 3, 1, 0] rfl))
  exact loop9 0 (Nat.zero_le _) _ _ _ _ _ (rfl) (congrArg nI (by omega)) hW hS (lv_sub hl [2, 3, 1, 0] rfl)

set_option maxHeartbeats 4000000 in
set_option maxRecDepth 100000 in
theorem c_X11_overloads {l : Launch} {G : va_G} {bs : Nat} {cy : Nat → ClassId} {I : CI} {L : CL} {R : CR} (σ : Row) (β : Nat) (q : Nat) (hl0 : l.stackTraces = false) (hi : Inv σ) (hd : DR σ) (hβ : isBr β) (hB : BrAt I β σ) (hq : isPl q) (hP : PlAt I q σ) (hRb : R q 0 = β) (hR7 : R 0 7 = β) (hR8 : R 0 8 = q) : MTi l G bs cy MX11_overloads 5 [.ref (bs + 0)] I L R (fun r I1 L1 R1 => cov σ = r ∧ I = I1 ∧ L = L1 ∧ R = R1) := by
  refine MTi.of (own := RX11) pn_RX11 rfl (Nat.le_of_ble_eq_true rfl) ?_
  intro p e s m args below meth c Qf X hW hS fin ls hl
  have hx := X.1
  have hb := X.2.1
  have hR : RmOK (rmL 5 0 0) 5 := ⟨rfl, rfl⟩
  have hcs : 0 ≤ (rmL 5 0 0).cells ∧ 0 ≤ (rmL 5 0 0).slots := ⟨Nat.zero_le _, Nat.zero_le _⟩
  have hl : lv_has ls 1 [(0, .ref (bs + 0))] := hl
  obtain ⟨hY, hY1, hY12, hLn, hL4, hSn, hS12, hGn, hG5⟩ := id hi
  have hbq := br_pl hβ hq
  refine lv_aload_n hx hb (dg D_X11_overloads (i := 0) rfl) rfl (lv_at hl 0 rfl) ?_
  refine r_getr (v := q) X hW FI_X11_71 rfl (by decide) rfl hR8 (dg D_X11_overloads (i := 1) rfl) ?_
  refine callVi X hW hS hR (c_X6_countOverloads (I := I) σ β q (by first | assumption | omega | decide | exact hP.1) (by first | assumption | omega | decide | exact hP.1) (by first | assumption | omega | decide | exact hP.1) (by first | assumption | omega | decide | exact hP.1) (by first | assumption | omega | decide | exact hP.1) (by first | assumption | omega | decide | exact hP.1)) (by decide) UVX6_countOverloads LK_X11_237 (shP hq) (ncP0 hq) rfl rfl rfl (Nat.le_of_ble_eq_true rfl) hl hcs (dg D_X11_overloads (i := 2) rfl) (fun r4 I4 L1 R1 H locs hq hW hS => ?_)
  obtain ⟨rfl, rfl, rfl, rfl⟩ := hq
  exact fin (dg D_X11_overloads (i := 3) rfl) hW hS ⟨rfl, rfl, rfl, rfl⟩

set_option maxHeartbeats 4000000 in
set_option maxRecDepth 100000 in
theorem c_X11_firstOverload {l : Launch} {G : va_G} {bs : Nat} {cy : Nat → ClassId} {I : CI} {L : CL} {R : CR} (σ : Row) (β : Nat) (q : Nat) (hl0 : l.stackTraces = false) (hi : Inv σ) (hd : DR σ) (hβ : isBr β) (hB : BrAt I β σ) (hq : isPl q) (hP : PlAt I q σ) (hRb : R q 0 = β) (hR7 : R 0 7 = β) (hR8 : R 0 8 = q) : MTi l G bs cy MX11_firstOverload 4 [.ref (bs + 0)] I L R (fun r I1 L1 R1 => fst2 (fun y g => ovr σ g y) (Yn σ) (nG σ) = r ∧ I = I1 ∧ L = L1 ∧ R = R1) := by
  refine MTi.of (own := RX11) pn_RX11 rfl (Nat.le_of_ble_eq_true rfl) ?_
  intro p e s m args below meth c Qf X hW hS fin ls hl
  have hx := X.1
  have hb := X.2.1
  have hR : RmOK (rmL 4 0 0) 4 := ⟨rfl, rfl⟩
  have hcs : 0 ≤ (rmL 4 0 0).cells ∧ 0 ≤ (rmL 4 0 0).slots := ⟨Nat.zero_le _, Nat.zero_le _⟩
  have hl : lv_has ls 3 [(0, .ref (bs + 0))] := hl
  obtain ⟨hY, hY1, hY12, hLn, hL4, hSn, hS12, hGn, hG5⟩ := id hi
  have hbq := br_pl hβ hq
  refine n_iconst (a := 0) hx hb (dg D_X11_firstOverload (i := 0) rfl) rfl ?_
  refine lv_istore_n (lv' := [(1, .int (nI 0)), (0, .ref (bs + 0))]) hx hb (dg D_X11_firstOverload (i := 1) rfl) rfl hl (by decide) rfl (fun ls hl => ?_)
  have loop2 := up_ind (P := fun y => ∀ (H : Heap) (locs : List Loc) (ls : Array Slot) (v1 : Int32), v1 = nI y → (∀ z, z < y → ∀ g, g < nG σ → ovr σ g z = false) → Wd G bs cy I L R H → va_S (Aq bs) s.heap H locs → lv_has ls 3 [(0, .ref (bs + 0)), (1, .int v1)] → W p l e (rmL 4 0 0) s m args below meth c H locs 0 0 Qf (F0 m 2 ls [])) (Yn σ) (fun y hx2 ih2 => by
      intro H locs ls v1 q1 hn hW hS hl
      subst q1
      refine lv_iload_n hx hb (dg D_X11_firstOverload (i := 2) rfl) rfl (lv_at hl 1 rfl) ?_
      refine lv_aload_n hx hb (dg D_X11_firstOverload (i := 3) rfl) rfl (lv_at hl 0 rfl) ?_
      refine r_getr (v := β) X hW FI_X11_67 rfl (by decide) rfl hR7 (dg D_X11_firstOverload (i := 4) rfl) ?_
      refine rn_geti (v := nI (Yn σ)) X hW FN_X11_168 (shB hβ) (ncB0 hβ) rfl (hB.c0 hi) (dg D_X11_firstOverload (i := 5) rfl) ?_
      refine n_icmp_ge (tgt := 57) hx hb (by omega) (by omega) (dg D_X11_firstOverload (i := 6) rfl) (by decide) (fun c10 => ?_) (fun c10 => ?_)
      · refine r_ldc X CK_X11_48 (dg D_X11_firstOverload (i := 30) rfl) ?_
        exact fin (dg D_X11_firstOverload (i := 31) rfl) hW hS ⟨fst2_none (p := fun y g => ovr σ g y) (fun z hz g hg => hn z (by omega) g hg), rfl, rfl, rfl⟩
      · refine n_iconst (a := 0) hx hb (dg D_X11_firstOverload (i := 7) rfl) rfl ?_
        refine lv_istore_n (lv' := [(2, .int (nI 0)), (0, .ref (bs + 0)), (1, .int (nI y))]) hx hb (dg D_X11_firstOverload (i := 8) rfl) rfl hl (by decide) rfl (fun ls hl => ?_)
        have loop15 := up_ind (P := fun k => ∀ (H : Heap) (locs : List Loc) (ls : Array Slot) (v2 : Int32), v2 = nI k → (∀ g, g < k → ovr σ g y = false) → Wd G bs cy I L R H → va_S (Aq bs) s.heap H locs → lv_has ls 3 [(0, .ref (bs + 0)), (1, .int (nI y)), (2, .int v2)] → W p l e (rmL 4 0 0) s m args below meth c H locs 0 0 Qf (F0 m 15 ls [])) (nG σ) (fun k hx15 ih15 => by
            intro H locs ls v2 q2 hm hW hS hl
            subst q2
            refine lv_iload_n hx hb (dg D_X11_firstOverload (i := 9) rfl) rfl (lv_at hl 2 rfl) ?_
            refine lv_aload_n hx hb (dg D_X11_firstOverload (i := 10) rfl) rfl (lv_at hl 0 rfl) ?_
            refine r_getr (v := β) X hW FI_X11_67 rfl (by decide) rfl hR7 (dg D_X11_firstOverload (i := 11) rfl) ?_
            refine rn_geti (v := nI (nG σ)) X hW FN_X11_226 (shB hβ) (ncB0 hβ) rfl (hB.c5 hi) (dg D_X11_firstOverload (i := 12) rfl) ?_
            refine n_icmp_ge (tgt := 51) hx hb (by omega) (by omega) (dg D_X11_firstOverload (i := 13) rfl) (by decide) (fun c23 => ?_) (fun c23 => ?_)
            · refine lv_iinc (v := nI (y + 1)) (lv' := [(1, .int (nI (y + 1))), (0, .ref (bs + 0)), (2, .int (nI k))]) hx hb (dg D_X11_firstOverload (i := 28) rfl) hl (k := 1) rfl (nI_add _ _) (by decide) rfl (fun ls hl => ?_)
              refine lv_goto (tgt := 2) hx hb (dg D_X11_firstOverload (i := 29) rfl) (by decide) ?_
              exact ih2 (by omega) _ _ _ _ (congrArg nI (by omega)) (fst2_step (p := fun y g => ovr σ g y) hn (fun q hq => hm q (by omega))) hW hS (lv_sub hl [1, 0] rfl)
            · refine lv_aload_n hx hb (dg D_X11_firstOverload (i := 14) rfl) rfl (lv_at hl 0 rfl) ?_
              refine r_getr (v := q) X hW FI_X11_71 rfl (by decide) rfl hR8 (dg D_X11_firstOverload (i := 15) rfl) ?_
              refine lv_iload_n hx hb (dg D_X11_firstOverload (i := 16) rfl) rfl (lv_at hl 2 rfl) ?_
              refine lv_iload_n hx hb (dg D_X11_firstOverload (i := 17) rfl) rfl (lv_at hl 1 rfl) ?_
              refine callVi X hW hS hR (c_X6_isOverloaded (I := I) σ β q k y (by first | assumption | omega | decide | exact hP.1) (by first | assumption | omega | decide | exact hP.1) (by first | assumption | omega | decide | exact hP.1) (by first | assumption | omega | decide | exact hP.1) (by first | assumption | omega | decide | exact hP.1) (by first | assumption | omega | decide | exact hP.1) (by first | assumption | omega | decide | exact hP.1) (by first | assumption | omega | decide | exact hP.1)) (by decide) UVX6_isOverloaded LK_X11_240 (shP hq) (ncP0 hq) rfl rfl rfl (Nat.le_of_ble_eq_true rfl) hl hcs (dg D_X11_firstOverload (i := 18) rfl) (fun r32 I32 L1 R1 H locs hq hW hS => ?_)
              obtain ⟨rfl, rfl, rfl, rfl⟩ := hq
              refine z_if_eq (tgt := 45) hx hb (dg D_X11_firstOverload (i := 19) rfl) (by decide) (fun c35 => ?_) (fun c35 => ?_)
              · refine lv_iinc (v := nI (k + 1)) (lv' := [(2, .int (nI (k + 1))), (0, .ref (bs + 0)), (1, .int (nI y))]) hx hb (dg D_X11_firstOverload (i := 26) rfl) hl (k := 2) rfl (nI_add _ _) (by decide) rfl (fun ls hl => ?_)
                refine lv_goto (tgt := 15) hx hb (dg D_X11_firstOverload (i := 27) rfl) (by decide) ?_
                exact ih15 (by omega) _ _ _ _ (congrArg nI (by omega)) (all_lt_succ (p := fun g => ovr σ g y) hm c35) hW hS (lv_sub hl [1, 2, 0] rfl)
              · refine lv_bipush (v := nI 10) hx hb (dg D_X11_firstOverload (i := 20) rfl) (by decide) ?_
                refine lv_iload_n hx hb (dg D_X11_firstOverload (i := 21) rfl) rfl (lv_at hl 1 rfl) ?_
                refine n_imul hx hb (dg D_X11_firstOverload (i := 22) rfl) ?_
                refine lv_iload_n hx hb (dg D_X11_firstOverload (i := 23) rfl) rfl (lv_at hl 2 rfl) ?_
                refine n_iadd hx hb (dg D_X11_firstOverload (i := 24) rfl) ?_
                exact fin (dg D_X11_firstOverload (i := 25) rfl) hW hS ⟨fst2_hit (p := fun y g => ovr σ g y) (by omega) (by omega) c35 hn hm, rfl, rfl, rfl⟩)
        exact loop15 0 (Nat.zero_le _) _ _ _ _ (congrArg nI (by omega)) (fun z hz => absurd hz (Nat.not_lt_zero z)) hW hS (lv_sub hl [1, 2, 0] rfl))
  exact loop2 0 (Nat.zero_le _) _ _ _ _ (congrArg nI (by omega)) (fun z hz => absurd hz (Nat.not_lt_zero z)) hW hS (lv_sub hl [1, 0] rfl)

set_option maxHeartbeats 4000000 in
set_option maxRecDepth 100000 in
theorem c_X11_refusal {l : Launch} {G : va_G} {bs : Nat} {cy : Nat → ClassId} {I : CI} {L : CL} {R : CR} (σ : Row) (β : Nat) (q : Nat) (u : Int32) (v : Int32) (w : Int32) (hl0 : l.stackTraces = false) (hi : Inv σ) (hd : DR σ) (hβ : isBr β) (hB : BrAt I β σ) (hq : isPl q) (hP : PlAt I q σ) (hRb : R q 0 = β) (hR7 : R 0 7 = β) (hR8 : R 0 8 = q) : XTi l G bs cy MX11_refusal 7 [.ref (bs + 0), .int u, .int v, .int w] I L R (fun r I1 L1 R1 => ((inB u (Yn σ) && inB v (nS σ) && inB w (nG σ)) = true ∧ r = rfs σ (tN u) (tN v) (tN w)) ∧ I = I1 ∧ L = L1 ∧ R = R1) (fun E => E = IOE ∧ (inB u (Yn σ) && inB v (nS σ) && inB w (nG σ)) = false) 3 18 := by
  refine XTi.of (own := RX11) pn_RX11 rfl (Nat.le_of_ble_eq_true rfl) ?_
  intro p e s m args below meth c Qc Qf X hW hS htab hlk hQf fin ls hl
  have hx := X.1
  have hb := X.2.1
  have hR : RmOK (rmL 7 3 18) 7 := ⟨rfl, rfl⟩
  have hcs : 0 ≤ (rmL 7 3 18).cells ∧ 0 ≤ (rmL 7 3 18).slots := ⟨Nat.zero_le _, Nat.zero_le _⟩
  have hl : lv_has ls 4 [(0, .ref (bs + 0)), (1, .int u), (2, .int v), (3, .int w)] := hl
  obtain ⟨hY, hY1, hY12, hLn, hL4, hSn, hS12, hGn, hG5⟩ := id hi
  have hbq := br_pl hβ hq
  refine lv_aload_n hx hb (dg D_X11_refusal (i := 0) rfl) rfl (lv_at hl 0 rfl) ?_
  refine lv_iload_n hx hb (dg D_X11_refusal (i := 1) rfl) rfl (lv_at hl 1 rfl) ?_
  refine callXv X hW hS hR htab hlk hQf (c_X11_checkYear (I := I) σ β u (by first | assumption | omega | decide | exact hP.1) (by first | assumption | omega | decide | exact hP.1) (by first | assumption | omega | decide | exact hP.1) (by first | assumption | omega | decide | exact hP.1) (by first | assumption | omega | decide | exact hP.1)) (fun E hE => ⟨hE.1, by simp [hE.2]⟩) (by decide) UVX11_checkYear LK_X11_134 rfl (by decide) rfl rfl rfl (Nat.le_of_ble_eq_true rfl) hl (Nat.le_of_ble_eq_true rfl) (Nat.le_of_ble_eq_true rfl) (Nat.le_of_ble_eq_true rfl) (Nat.le_of_ble_eq_true rfl) (dg D_X11_refusal (i := 2) rfl) (fun I2 L1 R1 H locs hq hW hS => ?_)
  have hcs : 0 + 1 ≤ (rmL 7 3 18).cells ∧ 0 + 6 ≤ (rmL 7 3 18).slots := ⟨Nat.le_of_ble_eq_true rfl, Nat.le_of_ble_eq_true rfl⟩
  obtain ⟨hr2, rfl, rfl, rfl⟩ := hq
  obtain ⟨ju, hju, rfl⟩ := inB_of hr2 (by omega)
  refine lv_aload_n hx hb (dg D_X11_refusal (i := 3) rfl) rfl (lv_at hl 0 rfl) ?_
  refine lv_iload_n hx hb (dg D_X11_refusal (i := 4) rfl) rfl (lv_at hl 2 rfl) ?_
  refine callXv X hW hS hR htab hlk hQf (c_X11_checkSpan (I := I) σ β v (by first | assumption | omega | decide | exact hP.1) (by first | assumption | omega | decide | exact hP.1) (by first | assumption | omega | decide | exact hP.1) (by first | assumption | omega | decide | exact hP.1) (by first | assumption | omega | decide | exact hP.1)) (fun E hE => ⟨hE.1, by simp [hE.2]⟩) (by decide) UVX11_checkSpan LK_X11_131 rfl (by decide) rfl rfl rfl (Nat.le_of_ble_eq_true rfl) hl (Nat.le_of_ble_eq_true rfl) (Nat.le_of_ble_eq_true rfl) (Nat.le_of_ble_eq_true rfl) (Nat.le_of_ble_eq_true rfl) (dg D_X11_refusal (i := 5) rfl) (fun I7 L1 R1 H locs hq hW hS => ?_)
  have hcs : 0 + 1 + 1 ≤ (rmL 7 3 18).cells ∧ 0 + 6 + 6 ≤ (rmL 7 3 18).slots := ⟨Nat.le_of_ble_eq_true rfl, Nat.le_of_ble_eq_true rfl⟩
  obtain ⟨hr7, rfl, rfl, rfl⟩ := hq
  obtain ⟨jv, hjv, rfl⟩ := inB_of hr7 (by omega)
  refine lv_aload_n hx hb (dg D_X11_refusal (i := 6) rfl) rfl (lv_at hl 0 rfl) ?_
  refine lv_iload_n hx hb (dg D_X11_refusal (i := 7) rfl) rfl (lv_at hl 3 rfl) ?_
  refine callXv X hW hS hR htab hlk hQf (c_X11_checkGang (I := I) σ β w (by first | assumption | omega | decide | exact hP.1) (by first | assumption | omega | decide | exact hP.1) (by first | assumption | omega | decide | exact hP.1) (by first | assumption | omega | decide | exact hP.1) (by first | assumption | omega | decide | exact hP.1)) (fun E hE => ⟨hE.1, by simp [hE.2]⟩) (by decide) UVX11_checkGang LK_X11_190 rfl (by decide) rfl rfl rfl (Nat.le_of_ble_eq_true rfl) hl (Nat.le_of_ble_eq_true rfl) (Nat.le_of_ble_eq_true rfl) (Nat.le_of_ble_eq_true rfl) (Nat.le_of_ble_eq_true rfl) (dg D_X11_refusal (i := 8) rfl) (fun I12 L1 R1 H locs hq hW hS => ?_)
  have hcs : 0 + 1 + 1 + 1 ≤ (rmL 7 3 18).cells ∧ 0 + 6 + 6 + 6 ≤ (rmL 7 3 18).slots := ⟨Nat.le_of_ble_eq_true rfl, Nat.le_of_ble_eq_true rfl⟩
  obtain ⟨hr12, rfl, rfl, rfl⟩ := hq
  obtain ⟨jw, hjw, rfl⟩ := inB_of hr12 (by omega)
  refine lv_aload_n hx hb (dg D_X11_refusal (i := 9) rfl) rfl (lv_at hl 0 rfl) ?_
  refine r_getr (v := q) X hW FI_X11_71 rfl (by decide) rfl hR8 (dg D_X11_refusal (i := 10) rfl) ?_
  refine lv_iload_n hx hb (dg D_X11_refusal (i := 11) rfl) rfl (lv_at hl 1 rfl) ?_
  refine lv_iload_n hx hb (dg D_X11_refusal (i := 12) rfl) rfl (lv_at hl 2 rfl) ?_
  refine lv_iload_n hx hb (dg D_X11_refusal (i := 13) rfl) rfl (lv_at hl 3 rfl) ?_
  refine callVi X hW hS hR (c_X6_reasonAgainst (I := I) σ β q ju jv jw (by first | assumption | omega | decide | exact hP.1) (by first | assumption | omega | decide | exact hP.1) (by first | assumption | omega | decide | exact hP.1) (by first | assumption | omega | decide | exact hP.1) (by first | assumption | omega | decide | exact hP.1) (by first | assumption | omega | decide | exact hP.1) (by first | assumption | omega | decide | exact hP.1) (by first | assumption | omega | decide | exact hP.1) (by first | assumption | omega | decide | exact hP.1) (by first | assumption | omega | decide | exact hP.1)) (by decide) UVX6_reasonAgainst LK_X11_243 (shP hq) (ncP0 hq) rfl rfl rfl (Nat.le_of_ble_eq_true rfl) hl hcs (dg D_X11_refusal (i := 14) rfl) (fun r22 I22 L1 R1 H locs hq hW hS => ?_)
  obtain ⟨rfl, rfl, rfl, rfl⟩ := hq
  exact fin (dg D_X11_refusal (i := 15) rfl) (Nat.le_of_ble_eq_true rfl) (Nat.le_of_ble_eq_true rfl) hW hS ⟨⟨by simp [hr2, hr7, hr12], by rw [tN_nI (show ju < 2 ^ 31 by omega), tN_nI (show jv < 2 ^ 31 by omega), tN_nI (show jw < 2 ^ 31 by omega)]⟩, rfl, rfl, rfl⟩

set_option maxHeartbeats 4000000 in
set_option maxRecDepth 100000 in
theorem c_X11_possibleGangs {l : Launch} {G : va_G} {bs : Nat} {cy : Nat → ClassId} {I : CI} {L : CL} {R : CR} (σ : Row) (β : Nat) (q : Nat) (v : Int32) (w : Int32) (hl0 : l.stackTraces = false) (hi : Inv σ) (hd : DR σ) (hβ : isBr β) (hB : BrAt I β σ) (hq : isPl q) (hP : PlAt I q σ) (hRb : R q 0 = β) (hR7 : R 0 7 = β) (hR8 : R 0 8 = q) : XTi l G bs cy MX11_possibleGangs 7 [.ref (bs + 0), .int v, .int w] I L R (fun r I1 L1 R1 => ((inB w (nS σ) && inB v (Yn σ)) = true ∧ r = orT (setF (fun g => decide (rfs σ (tN v) (tN w) g = 0))) (nG σ)) ∧ I = I1 ∧ L = L1 ∧ R = R1) (fun E => E = IOE ∧ (inB w (nS σ) && inB v (Yn σ)) = false) 2 12 := by
  refine XTi.of (own := RX11) pn_RX11 rfl (Nat.le_of_ble_eq_true rfl) ?_
  intro p e s m args below meth c Qc Qf X hW hS htab hlk hQf fin ls hl
  have hx := X.1
  have hb := X.2.1
  have hR : RmOK (rmL 7 2 12) 7 := ⟨rfl, rfl⟩
  have hcs : 0 ≤ (rmL 7 2 12).cells ∧ 0 ≤ (rmL 7 2 12).slots := ⟨Nat.zero_le _, Nat.zero_le _⟩
  have hl : lv_has ls 5 [(0, .ref (bs + 0)), (1, .int v), (2, .int w)] := hl
  obtain ⟨hY, hY1, hY12, hLn, hL4, hSn, hS12, hGn, hG5⟩ := id hi
  have hbq := br_pl hβ hq
  refine lv_aload_n hx hb (dg D_X11_possibleGangs (i := 0) rfl) rfl (lv_at hl 0 rfl) ?_
  refine lv_iload_n hx hb (dg D_X11_possibleGangs (i := 1) rfl) rfl (lv_at hl 1 rfl) ?_
  refine callXv X hW hS hR htab hlk hQf (c_X11_checkYear (I := I) σ β v (by first | assumption | omega | decide | exact hP.1) (by first | assumption | omega | decide | exact hP.1) (by first | assumption | omega | decide | exact hP.1) (by first | assumption | omega | decide | exact hP.1) (by first | assumption | omega | decide | exact hP.1)) (fun E hE => ⟨hE.1, by simp [hE.2]⟩) (by decide) UVX11_checkYear LK_X11_134 rfl (by decide) rfl rfl rfl (Nat.le_of_ble_eq_true rfl) hl (Nat.le_of_ble_eq_true rfl) (Nat.le_of_ble_eq_true rfl) (Nat.le_of_ble_eq_true rfl) (Nat.le_of_ble_eq_true rfl) (dg D_X11_possibleGangs (i := 2) rfl) (fun I2 L1 R1 H locs hq hW hS => ?_)
  have hcs : 0 + 1 ≤ (rmL 7 2 12).cells ∧ 0 + 6 ≤ (rmL 7 2 12).slots := ⟨Nat.le_of_ble_eq_true rfl, Nat.le_of_ble_eq_true rfl⟩
  obtain ⟨hr2, rfl, rfl, rfl⟩ := hq
  obtain ⟨jv, hjv, rfl⟩ := inB_of hr2 (by omega)
  refine lv_aload_n hx hb (dg D_X11_possibleGangs (i := 3) rfl) rfl (lv_at hl 0 rfl) ?_
  refine lv_iload_n hx hb (dg D_X11_possibleGangs (i := 4) rfl) rfl (lv_at hl 2 rfl) ?_
  refine callXv X hW hS hR htab hlk hQf (c_X11_checkSpan (I := I) σ β w (by first | assumption | omega | decide | exact hP.1) (by first | assumption | omega | decide | exact hP.1) (by first | assumption | omega | decide | exact hP.1) (by first | assumption | omega | decide | exact hP.1) (by first | assumption | omega | decide | exact hP.1)) (fun E hE => ⟨hE.1, by simp [hE.2]⟩) (by decide) UVX11_checkSpan LK_X11_131 rfl (by decide) rfl rfl rfl (Nat.le_of_ble_eq_true rfl) hl (Nat.le_of_ble_eq_true rfl) (Nat.le_of_ble_eq_true rfl) (Nat.le_of_ble_eq_true rfl) (Nat.le_of_ble_eq_true rfl) (dg D_X11_possibleGangs (i := 5) rfl) (fun I7 L1 R1 H locs hq hW hS => ?_)
  have hcs : 0 + 1 + 1 ≤ (rmL 7 2 12).cells ∧ 0 + 6 + 6 ≤ (rmL 7 2 12).slots := ⟨Nat.le_of_ble_eq_true rfl, Nat.le_of_ble_eq_true rfl⟩
  obtain ⟨hr7, rfl, rfl, rfl⟩ := hq
  obtain ⟨jw, hjw, rfl⟩ := inB_of hr7 (by omega)
  refine n_iconst (a := 0) hx hb (dg D_X11_possibleGangs (i := 6) rfl) rfl ?_
  refine lv_istore_n (lv' := [(3, .int (nI 0)), (0, .ref (bs + 0)), (1, .int (nI jv)), (2, .int (nI jw))]) hx hb (dg D_X11_possibleGangs (i := 7) rfl) rfl hl (by decide) rfl (fun ls hl => ?_)
  refine n_iconst (a := 0) hx hb (dg D_X11_possibleGangs (i := 8) rfl) rfl ?_
  refine lv_istore (lv' := [(4, .int (nI 0)), (3, .int (nI 0)), (0, .ref (bs + 0)), (1, .int (nI jv)), (2, .int (nI jw))]) hx hb (dg D_X11_possibleGangs (i := 9) rfl) hl (by decide) rfl (fun ls hl => ?_)
  have loop15 := up_ind (P := fun g => ∀ (H : Heap) (locs : List Loc) (ls : Array Slot) (v3 : Int32) (v4 : Int32), v3 = orT (setF (fun g => decide (rfs σ jv jw g = 0))) g → v4 = nI g → Wd G bs cy I L R H → va_S (Aq bs) s.heap H locs → lv_has ls 5 [(0, .ref (bs + 0)), (1, .int (nI jv)), (2, .int (nI jw)), (3, .int v3), (4, .int v4)] → W p l e (rmL 7 2 12) s m args below meth c H locs (0 + 1 + 1) (0 + 6 + 6) Qf (F0 m 15 ls [])) (nG σ) (fun g hx15 ih15 => by
      intro H locs ls v3 v4 q3 q4 hW hS hl
      subst q3
      subst q4
      refine lv_iload hx hb (dg D_X11_possibleGangs (i := 10) rfl) (lv_at hl 4 rfl) ?_
      refine lv_aload_n hx hb (dg D_X11_possibleGangs (i := 11) rfl) rfl (lv_at hl 0 rfl) ?_
      refine r_getr (v := β) X hW FI_X11_67 rfl (by decide) rfl hR7 (dg D_X11_possibleGangs (i := 12) rfl) ?_
      refine rn_geti (v := nI (nG σ)) X hW FN_X11_226 (shB hβ) (ncB0 hβ) rfl (hB.c5 hi) (dg D_X11_possibleGangs (i := 13) rfl) ?_
      refine n_icmp_ge (tgt := 54) hx hb (by omega) (by omega) (dg D_X11_possibleGangs (i := 14) rfl) (by decide) (fun c24 => ?_) (fun c24 => ?_)
      · refine lv_iload_n hx hb (dg D_X11_possibleGangs (i := 30) rfl) rfl (lv_at hl 3 rfl) ?_
        exact fin (dg D_X11_possibleGangs (i := 31) rfl) (Nat.le_of_ble_eq_true rfl) (Nat.le_of_ble_eq_true rfl) hW hS ⟨⟨by simp [hr2, hr7], by rw [tN_nI (show jv < 2 ^ 31 by omega), tN_nI (show jw < 2 ^ 31 by omega), show g = nG σ by omega]⟩, rfl, rfl, rfl⟩
      · refine lv_aload_n hx hb (dg D_X11_possibleGangs (i := 15) rfl) rfl (lv_at hl 0 rfl) ?_
        refine r_getr (v := q) X hW FI_X11_71 rfl (by decide) rfl hR8 (dg D_X11_possibleGangs (i := 16) rfl) ?_
        refine lv_iload_n hx hb (dg D_X11_possibleGangs (i := 17) rfl) rfl (lv_at hl 1 rfl) ?_
        refine lv_iload_n hx hb (dg D_X11_possibleGangs (i := 18) rfl) rfl (lv_at hl 2 rfl) ?_
        refine lv_iload hx hb (dg D_X11_possibleGangs (i := 19) rfl) (lv_at hl 4 rfl) ?_
        refine callVi X hW hS hR (c_X6_reasonAgainst (I := I) σ β q jv jw g (by first | assumption | omega | decide | exact hP.1) (by first | assumption | omega | decide | exact hP.1) (by first | assumption | omega | decide | exact hP.1) (by first | assumption | omega | decide | exact hP.1) (by first | assumption | omega | decide | exact hP.1) (by first | assumption | omega | decide | exact hP.1) (by first | assumption | omega | decide | exact hP.1) (by first | assumption | omega | decide | exact hP.1) (by first | assumption | omega | decide | exact hP.1) (by first | assumption | omega | decide | exact hP.1)) (by decide) UVX6_reasonAgainst LK_X11_243 (shP hq) (ncP0 hq) rfl rfl rfl (Nat.le_of_ble_eq_true rfl) hl hcs (dg D_X11_possibleGangs (i := 20) rfl) (fun r35 I35 L1 R1 H locs hq hW hS => ?_)
        obtain ⟨rfl, rfl, rfl, rfl⟩ := hq
        refine lv_if_ne (tgt := 48) hx hb (dg D_X11_possibleGangs (i := 21) rfl) (by decide) (fun c38 => ?_) (fun c38 => ?_)
        · refine lv_iinc (v := nI (g + 1)) (lv' := [(4, .int (nI (g + 1))), (0, .ref (bs + 0)), (1, .int (nI jv)), (2, .int (nI jw)), (3, .int (orT (setF (fun g => decide (rfs σ jv jw g = 0))) g))]) hx hb (dg D_X11_possibleGangs (i := 28) rfl) hl (k := 4) rfl (nI_add _ _) (by decide) rfl (fun ls hl => ?_)
          refine lv_goto (tgt := 15) hx hb (dg D_X11_possibleGangs (i := 29) rfl) (by decide) ?_
          exact ih15 (by omega) _ _ _ _ _ (by show _ = _ ||| setF (fun g => decide (rfs σ jv jw g = 0)) g; rw [setF_f (p := fun g => decide (rfs σ jv jw g = 0)) (decide_eq_false c38), or_n0]) (congrArg nI (by omega)) hW hS (lv_sub hl [1, 2, 3, 4, 0] rfl)
        · refine lv_iload_n hx hb (dg D_X11_possibleGangs (i := 22) rfl) rfl (lv_at hl 3 rfl) ?_
          refine n_iconst (a := 1) hx hb (dg D_X11_possibleGangs (i := 23) rfl) rfl ?_
          refine lv_iload hx hb (dg D_X11_possibleGangs (i := 24) rfl) (lv_at hl 4 rfl) ?_
          refine lv_ishl hx hb (dg D_X11_possibleGangs (i := 25) rfl) ?_
          refine lv_ior hx hb (dg D_X11_possibleGangs (i := 26) rfl) ?_
          refine lv_istore_n (lv' := [(3, .int ((orT (setF (fun g => decide (rfs σ jv jw g = 0))) g) ||| ((nI 1) <<< ((nI g) &&& 31)))), (0, .ref (bs + 0)), (1, .int (nI jv)), (2, .int (nI jw)), (4, .int (nI g))]) hx hb (dg D_X11_possibleGangs (i := 27) rfl) rfl hl (by decide) rfl (fun ls hl => ?_)
          refine lv_iinc (v := nI (g + 1)) (lv' := [(4, .int (nI (g + 1))), (3, .int ((orT (setF (fun g => decide (rfs σ jv jw g = 0))) g) ||| ((nI 1) <<< ((nI g) &&& 31)))), (0, .ref (bs + 0)), (1, .int (nI jv)), (2, .int (nI jw))]) hx hb (dg D_X11_possibleGangs (i := 28) rfl) hl (k := 4) rfl (nI_add _ _) (by decide) rfl (fun ls hl => ?_)
          refine lv_goto (tgt := 15) hx hb (dg D_X11_possibleGangs (i := 29) rfl) (by decide) ?_
          exact ih15 (by omega) _ _ _ _ _ (by show _ = _ ||| setF (fun g => decide (rfs σ jv jw g = 0)) g; rw [setF_t (p := fun g => decide (rfs σ jv jw g = 0)) (decide_eq_true (by first | exact c38 | exact Classical.not_not.mp c38))]) (congrArg nI (by omega)) hW hS (lv_sub hl [2, 3, 4, 1, 0] rfl))
  exact loop15 0 (Nat.zero_le _) _ _ _ _ _ (rfl) (congrArg nI (by omega)) hW hS (lv_sub hl [2, 3, 4, 1, 0] rfl)

set_option maxHeartbeats 4000000 in
set_option maxRecDepth 100000 in
theorem c_X11_firstPossible {l : Launch} {G : va_G} {bs : Nat} {cy : Nat → ClassId} {I : CI} {L : CL} {R : CR} (σ : Row) (β : Nat) (q : Nat) (v : Int32) (hl0 : l.stackTraces = false) (hi : Inv σ) (hd : DR σ) (hβ : isBr β) (hB : BrAt I β σ) (hq : isPl q) (hP : PlAt I q σ) (hRb : R q 0 = β) (hR7 : R 0 7 = β) (hR8 : R 0 8 = q) : XTi l G bs cy MX11_firstPossible 7 [.ref (bs + 0), .int v] I L R (fun r I1 L1 R1 => ((inB v (nS σ)) = true ∧ r = fpos σ (tN v)) ∧ I = I1 ∧ L = L1 ∧ R = R1) (fun E => E = IOE ∧ (inB v (nS σ)) = false) 1 6 := by
  refine XTi.of (own := RX11) pn_RX11 rfl (Nat.le_of_ble_eq_true rfl) ?_
  intro p e s m args below meth c Qc Qf X hW hS htab hlk hQf fin ls hl
  have hx := X.1
  have hb := X.2.1
  have hR : RmOK (rmL 7 1 6) 7 := ⟨rfl, rfl⟩
  have hcs : 0 ≤ (rmL 7 1 6).cells ∧ 0 ≤ (rmL 7 1 6).slots := ⟨Nat.zero_le _, Nat.zero_le _⟩
  have hl : lv_has ls 4 [(0, .ref (bs + 0)), (1, .int v)] := hl
  obtain ⟨hY, hY1, hY12, hLn, hL4, hSn, hS12, hGn, hG5⟩ := id hi
  have hbq := br_pl hβ hq
  refine lv_aload_n hx hb (dg D_X11_firstPossible (i := 0) rfl) rfl (lv_at hl 0 rfl) ?_
  refine lv_iload_n hx hb (dg D_X11_firstPossible (i := 1) rfl) rfl (lv_at hl 1 rfl) ?_
  refine callXv X hW hS hR htab hlk hQf (c_X11_checkSpan (I := I) σ β v (by first | assumption | omega | decide | exact hP.1) (by first | assumption | omega | decide | exact hP.1) (by first | assumption | omega | decide | exact hP.1) (by first | assumption | omega | decide | exact hP.1) (by first | assumption | omega | decide | exact hP.1)) (fun E hE => ⟨hE.1, by simp [hE.2]⟩) (by decide) UVX11_checkSpan LK_X11_131 rfl (by decide) rfl rfl rfl (Nat.le_of_ble_eq_true rfl) hl (Nat.le_of_ble_eq_true rfl) (Nat.le_of_ble_eq_true rfl) (Nat.le_of_ble_eq_true rfl) (Nat.le_of_ble_eq_true rfl) (dg D_X11_firstPossible (i := 2) rfl) (fun I2 L1 R1 H locs hq hW hS => ?_)
  have hcs : 0 + 1 ≤ (rmL 7 1 6).cells ∧ 0 + 6 ≤ (rmL 7 1 6).slots := ⟨Nat.le_of_ble_eq_true rfl, Nat.le_of_ble_eq_true rfl⟩
  obtain ⟨hr2, rfl, rfl, rfl⟩ := hq
  obtain ⟨jv, hjv, rfl⟩ := inB_of hr2 (by omega)
  refine n_iconst (a := 0) hx hb (dg D_X11_firstPossible (i := 3) rfl) rfl ?_
  refine lv_istore_n (lv' := [(2, .int (nI 0)), (0, .ref (bs + 0)), (1, .int (nI jv))]) hx hb (dg D_X11_firstPossible (i := 4) rfl) rfl hl (by decide) rfl (fun ls hl => ?_)
  have loop7 := up_ind (P := fun y => ∀ (H : Heap) (locs : List Loc) (ls : Array Slot) (v2 : Int32), v2 = nI y → (∀ z, z < y → ∀ g, g < nG σ → rfs σ z jv g ≠ 0) → Wd G bs cy I L R H → va_S (Aq bs) s.heap H locs → lv_has ls 4 [(0, .ref (bs + 0)), (1, .int (nI jv)), (2, .int v2)] → W p l e (rmL 7 1 6) s m args below meth c H locs (0 + 1) (0 + 6) Qf (F0 m 7 ls [])) (Yn σ) (fun y hx7 ih7 => by
      intro H locs ls v2 q2 hn hW hS hl
      subst q2
      refine lv_iload_n hx hb (dg D_X11_firstPossible (i := 5) rfl) rfl (lv_at hl 2 rfl) ?_
      refine lv_aload_n hx hb (dg D_X11_firstPossible (i := 6) rfl) rfl (lv_at hl 0 rfl) ?_
      refine r_getr (v := β) X hW FI_X11_67 rfl (by decide) rfl hR7 (dg D_X11_firstPossible (i := 7) rfl) ?_
      refine rn_geti (v := nI (Yn σ)) X hW FN_X11_168 (shB hβ) (ncB0 hβ) rfl (hB.c0 hi) (dg D_X11_firstPossible (i := 8) rfl) ?_
      refine n_icmp_ge (tgt := 63) hx hb (by omega) (by omega) (dg D_X11_firstPossible (i := 9) rfl) (by decide) (fun c15 => ?_) (fun c15 => ?_)
      · refine r_ldc X CK_X11_48 (dg D_X11_firstPossible (i := 34) rfl) ?_
        exact fin (dg D_X11_firstPossible (i := 35) rfl) (Nat.le_of_ble_eq_true rfl) (Nat.le_of_ble_eq_true rfl) hW hS ⟨⟨by simp [hr2], by rw [tN_nI (show jv < 2 ^ 31 by omega)]; exact (fpos_none (fun z hz g hg => hn z (by omega) g hg)).symm⟩, rfl, rfl, rfl⟩
      · refine n_iconst (a := 0) hx hb (dg D_X11_firstPossible (i := 10) rfl) rfl ?_
        refine lv_istore_n (lv' := [(3, .int (nI 0)), (0, .ref (bs + 0)), (1, .int (nI jv)), (2, .int (nI y))]) hx hb (dg D_X11_firstPossible (i := 11) rfl) rfl hl (by decide) rfl (fun ls hl => ?_)
        have loop20 := up_ind (P := fun k => ∀ (H : Heap) (locs : List Loc) (ls : Array Slot) (v3 : Int32), v3 = nI k → (∀ g, g < k → rfs σ y jv g ≠ 0) → Wd G bs cy I L R H → va_S (Aq bs) s.heap H locs → lv_has ls 4 [(0, .ref (bs + 0)), (1, .int (nI jv)), (2, .int (nI y)), (3, .int v3)] → W p l e (rmL 7 1 6) s m args below meth c H locs (0 + 1) (0 + 6) Qf (F0 m 20 ls [])) (nG σ) (fun k hx20 ih20 => by
            intro H locs ls v3 q3 hm hW hS hl
            subst q3
            refine lv_iload_n hx hb (dg D_X11_firstPossible (i := 12) rfl) rfl (lv_at hl 3 rfl) ?_
            refine lv_aload_n hx hb (dg D_X11_firstPossible (i := 13) rfl) rfl (lv_at hl 0 rfl) ?_
            refine r_getr (v := β) X hW FI_X11_67 rfl (by decide) rfl hR7 (dg D_X11_firstPossible (i := 14) rfl) ?_
            refine rn_geti (v := nI (nG σ)) X hW FN_X11_226 (shB hβ) (ncB0 hβ) rfl (hB.c5 hi) (dg D_X11_firstPossible (i := 15) rfl) ?_
            refine n_icmp_ge (tgt := 57) hx hb (by omega) (by omega) (dg D_X11_firstPossible (i := 16) rfl) (by decide) (fun c28 => ?_) (fun c28 => ?_)
            · refine lv_iinc (v := nI (y + 1)) (lv' := [(2, .int (nI (y + 1))), (0, .ref (bs + 0)), (1, .int (nI jv)), (3, .int (nI k))]) hx hb (dg D_X11_firstPossible (i := 32) rfl) hl (k := 2) rfl (nI_add _ _) (by decide) rfl (fun ls hl => ?_)
              refine lv_goto (tgt := 7) hx hb (dg D_X11_firstPossible (i := 33) rfl) (by decide) ?_
              exact ih7 (by omega) _ _ _ _ (congrArg nI (by omega)) (fun z hz g hg => by rcases Nat.lt_succ_iff_lt_or_eq.mp hz with q | q; exact hn z q g hg; rw [q]; exact hm g (by omega)) hW hS (lv_sub hl [1, 2, 0] rfl)
            · refine lv_aload_n hx hb (dg D_X11_firstPossible (i := 17) rfl) rfl (lv_at hl 0 rfl) ?_
              refine r_getr (v := q) X hW FI_X11_71 rfl (by decide) rfl hR8 (dg D_X11_firstPossible (i := 18) rfl) ?_
              refine lv_iload_n hx hb (dg D_X11_firstPossible (i := 19) rfl) rfl (lv_at hl 2 rfl) ?_
              refine lv_iload_n hx hb (dg D_X11_firstPossible (i := 20) rfl) rfl (lv_at hl 1 rfl) ?_
              refine lv_iload_n hx hb (dg D_X11_firstPossible (i := 21) rfl) rfl (lv_at hl 3 rfl) ?_
              refine callVi X hW hS hR (c_X6_reasonAgainst (I := I) σ β q y jv k (by first | assumption | omega | decide | exact hP.1) (by first | assumption | omega | decide | exact hP.1) (by first | assumption | omega | decide | exact hP.1) (by first | assumption | omega | decide | exact hP.1) (by first | assumption | omega | decide | exact hP.1) (by first | assumption | omega | decide | exact hP.1) (by first | assumption | omega | decide | exact hP.1) (by first | assumption | omega | decide | exact hP.1) (by first | assumption | omega | decide | exact hP.1) (by first | assumption | omega | decide | exact hP.1)) (by decide) UVX6_reasonAgainst LK_X11_243 (shP hq) (ncP0 hq) rfl rfl rfl (Nat.le_of_ble_eq_true rfl) hl hcs (dg D_X11_firstPossible (i := 22) rfl) (fun r38 I38 L1 R1 H locs hq hW hS => ?_)
              obtain ⟨rfl, rfl, rfl, rfl⟩ := hq
              refine lv_if_ne (tgt := 51) hx hb (dg D_X11_firstPossible (i := 23) rfl) (by decide) (fun c41 => ?_) (fun c41 => ?_)
              · refine lv_iinc (v := nI (k + 1)) (lv' := [(3, .int (nI (k + 1))), (0, .ref (bs + 0)), (1, .int (nI jv)), (2, .int (nI y))]) hx hb (dg D_X11_firstPossible (i := 30) rfl) hl (k := 3) rfl (nI_add _ _) (by decide) rfl (fun ls hl => ?_)
                refine lv_goto (tgt := 20) hx hb (dg D_X11_firstPossible (i := 31) rfl) (by decide) ?_
                exact ih20 (by omega) _ _ _ _ (congrArg nI (by omega)) (fun z hz => by rcases Nat.lt_succ_iff_lt_or_eq.mp hz with q | q; exact hm z q; rw [q]; exact c41) hW hS (lv_sub hl [1, 2, 3, 0] rfl)
              · refine lv_bipush (v := nI 10) hx hb (dg D_X11_firstPossible (i := 24) rfl) (by decide) ?_
                refine lv_iload_n hx hb (dg D_X11_firstPossible (i := 25) rfl) rfl (lv_at hl 2 rfl) ?_
                refine n_imul hx hb (dg D_X11_firstPossible (i := 26) rfl) ?_
                refine lv_iload_n hx hb (dg D_X11_firstPossible (i := 27) rfl) rfl (lv_at hl 3 rfl) ?_
                refine n_iadd hx hb (dg D_X11_firstPossible (i := 28) rfl) ?_
                exact fin (dg D_X11_firstPossible (i := 29) rfl) (Nat.le_of_ble_eq_true rfl) (Nat.le_of_ble_eq_true rfl) hW hS ⟨⟨by simp [hr2], by rw [tN_nI (show jv < 2 ^ 31 by omega)]; exact (fpos_hit (by omega) (by omega) (by first | exact c41 | exact Classical.not_not.mp c41) hn hm).symm⟩, rfl, rfl, rfl⟩)
        exact loop20 0 (Nat.zero_le _) _ _ _ _ (congrArg nI (by omega)) (fun z hz => absurd hz (Nat.not_lt_zero z)) hW hS (lv_sub hl [1, 2, 3, 0] rfl))
  exact loop7 0 (Nat.zero_le _) _ _ _ _ (congrArg nI (by omega)) (fun z hz => absurd hz (Nat.not_lt_zero z)) hW hS (lv_sub hl [1, 2, 0] rfl)

set_option maxHeartbeats 4000000 in
set_option maxRecDepth 100000 in
theorem c_X11_shutYears {l : Launch} {G : va_G} {bs : Nat} {cy : Nat → ClassId} {I : CI} {L : CL} {R : CR} (σ : Row) (β : Nat) (q : Nat) (v : Int32) (hl0 : l.stackTraces = false) (hi : Inv σ) (hd : DR σ) (hβ : isBr β) (hB : BrAt I β σ) (hq : isPl q) (hP : PlAt I q σ) (hRb : R q 0 = β) (hR7 : R 0 7 = β) (hR8 : R 0 8 = q) : XTi l G bs cy MX11_shutYears 7 [.ref (bs + 0), .int v] I L R (fun r I1 L1 R1 => ((inB v (nLn σ)) = true ∧ r = orT (shy σ (tN v)) (Yn σ)) ∧ I = I1 ∧ L = L1 ∧ R = R1) (fun E => E = IOE ∧ (inB v (nLn σ)) = false) 1 6 := by
  refine XTi.of (own := RX11) pn_RX11 rfl (Nat.le_of_ble_eq_true rfl) ?_
  intro p e s m args below meth c Qc Qf X hW hS htab hlk hQf fin ls hl
  have hx := X.1
  have hb := X.2.1
  have hR : RmOK (rmL 7 1 6) 7 := ⟨rfl, rfl⟩
  have hcs : 0 ≤ (rmL 7 1 6).cells ∧ 0 ≤ (rmL 7 1 6).slots := ⟨Nat.zero_le _, Nat.zero_le _⟩
  have hl : lv_has ls 4 [(0, .ref (bs + 0)), (1, .int v)] := hl
  obtain ⟨hY, hY1, hY12, hLn, hL4, hSn, hS12, hGn, hG5⟩ := id hi
  have hbq := br_pl hβ hq
  refine lv_aload_n hx hb (dg D_X11_shutYears (i := 0) rfl) rfl (lv_at hl 0 rfl) ?_
  refine lv_iload_n hx hb (dg D_X11_shutYears (i := 1) rfl) rfl (lv_at hl 1 rfl) ?_
  refine callXv X hW hS hR htab hlk hQf (c_X11_checkLane (I := I) σ β v (by first | assumption | omega | decide | exact hP.1) (by first | assumption | omega | decide | exact hP.1) (by first | assumption | omega | decide | exact hP.1) (by first | assumption | omega | decide | exact hP.1) (by first | assumption | omega | decide | exact hP.1)) (fun E hE => ⟨hE.1, by simp [hE.2]⟩) (by decide) UVX11_checkLane LK_X11_214 rfl (by decide) rfl rfl rfl (Nat.le_of_ble_eq_true rfl) hl (Nat.le_of_ble_eq_true rfl) (Nat.le_of_ble_eq_true rfl) (Nat.le_of_ble_eq_true rfl) (Nat.le_of_ble_eq_true rfl) (dg D_X11_shutYears (i := 2) rfl) (fun I2 L1 R1 H locs hq hW hS => ?_)
  have hcs : 0 + 1 ≤ (rmL 7 1 6).cells ∧ 0 + 6 ≤ (rmL 7 1 6).slots := ⟨Nat.le_of_ble_eq_true rfl, Nat.le_of_ble_eq_true rfl⟩
  obtain ⟨hr2, rfl, rfl, rfl⟩ := hq
  obtain ⟨jv, hjv, rfl⟩ := inB_of hr2 (by omega)
  refine n_iconst (a := 0) hx hb (dg D_X11_shutYears (i := 3) rfl) rfl ?_
  refine lv_istore_n (lv' := [(2, .int (nI 0)), (0, .ref (bs + 0)), (1, .int (nI jv))]) hx hb (dg D_X11_shutYears (i := 4) rfl) rfl hl (by decide) rfl (fun ls hl => ?_)
  refine n_iconst (a := 0) hx hb (dg D_X11_shutYears (i := 5) rfl) rfl ?_
  refine lv_istore_n (lv' := [(3, .int (nI 0)), (2, .int (nI 0)), (0, .ref (bs + 0)), (1, .int (nI jv))]) hx hb (dg D_X11_shutYears (i := 6) rfl) rfl hl (by decide) rfl (fun ls hl => ?_)
  have loop9 := up_ind (P := fun y => ∀ (H : Heap) (locs : List Loc) (ls : Array Slot) (v2 : Int32) (v3 : Int32), v2 = orT (shy σ jv) y → v3 = nI y → Wd G bs cy I L R H → va_S (Aq bs) s.heap H locs → lv_has ls 4 [(0, .ref (bs + 0)), (1, .int (nI jv)), (2, .int v2), (3, .int v3)] → W p l e (rmL 7 1 6) s m args below meth c H locs (0 + 1) (0 + 6) Qf (F0 m 9 ls [])) (Yn σ) (fun y hx9 ih9 => by
      intro H locs ls v2 v3 q2 q3 hW hS hl
      subst q2
      subst q3
      refine lv_iload_n hx hb (dg D_X11_shutYears (i := 7) rfl) rfl (lv_at hl 3 rfl) ?_
      refine lv_aload_n hx hb (dg D_X11_shutYears (i := 8) rfl) rfl (lv_at hl 0 rfl) ?_
      refine r_getr (v := β) X hW FI_X11_67 rfl (by decide) rfl hR7 (dg D_X11_shutYears (i := 9) rfl) ?_
      refine rn_geti (v := nI (Yn σ)) X hW FN_X11_168 (shB hβ) (ncB0 hβ) rfl (hB.c0 hi) (dg D_X11_shutYears (i := 10) rfl) ?_
      refine n_icmp_ge (tgt := 47) hx hb (by omega) (by omega) (dg D_X11_shutYears (i := 11) rfl) (by decide) (fun c17 => ?_) (fun c17 => ?_)
      · refine lv_iload_n hx hb (dg D_X11_shutYears (i := 29) rfl) rfl (lv_at hl 2 rfl) ?_
        exact fin (dg D_X11_shutYears (i := 30) rfl) (Nat.le_of_ble_eq_true rfl) (Nat.le_of_ble_eq_true rfl) hW hS ⟨⟨by simp [hr2], by rw [tN_nI (show jv < 2 ^ 31 by omega), show y = Yn σ by omega]⟩, rfl, rfl, rfl⟩
      · refine lv_aload_n hx hb (dg D_X11_shutYears (i := 12) rfl) rfl (lv_at hl 0 rfl) ?_
        refine r_getr (v := q) X hW FI_X11_71 rfl (by decide) rfl hR8 (dg D_X11_shutYears (i := 13) rfl) ?_
        refine lv_iload_n hx hb (dg D_X11_shutYears (i := 14) rfl) rfl (lv_at hl 3 rfl) ?_
        refine callVi X hW hS hR (c_X6_shutLanes (I := I) σ β q y (by first | assumption | omega | decide | exact hP.1) (by first | assumption | omega | decide | exact hP.1) (by first | assumption | omega | decide | exact hP.1) (by first | assumption | omega | decide | exact hP.1) (by first | assumption | omega | decide | exact hP.1) (by first | assumption | omega | decide | exact hP.1) (by first | assumption | omega | decide | exact hP.1)) (by decide) UVX6_shutLanes LK_X11_205 (shP hq) (ncP0 hq) rfl rfl rfl (Nat.le_of_ble_eq_true rfl) hl hcs (dg D_X11_shutYears (i := 15) rfl) (fun r25 I25 L1 R1 H locs hq hW hS => ?_)
        obtain ⟨rfl, rfl, rfl, rfl⟩ := hq
        refine lv_iload_n hx hb (dg D_X11_shutYears (i := 16) rfl) rfl (lv_at hl 1 rfl) ?_
        refine lv_ishr hx hb (dg D_X11_shutYears (i := 17) rfl) ?_
        refine n_iconst (a := 1) hx hb (dg D_X11_shutYears (i := 18) rfl) rfl ?_
        refine lv_iand hx hb (dg D_X11_shutYears (i := 19) rfl) ?_
        refine lv_if_eq (tgt := 41) hx hb (dg D_X11_shutYears (i := 20) rfl) (by decide) (fun c32 => ?_) (fun c32 => ?_)
        · refine lv_iinc (v := nI (y + 1)) (lv' := [(3, .int (nI (y + 1))), (0, .ref (bs + 0)), (1, .int (nI jv)), (2, .int (orT (shy σ jv) y))]) hx hb (dg D_X11_shutYears (i := 27) rfl) hl (k := 3) rfl (nI_add _ _) (by decide) rfl (fun ls hl => ?_)
          refine lv_goto (tgt := 9) hx hb (dg D_X11_shutYears (i := 28) rfl) (by decide) ?_
          exact ih9 (by omega) _ _ _ _ _ (by show _ = _ ||| shy σ jv y; rw [shy_b (by omega) c32, or_n0]) (congrArg nI (by omega)) hW hS (lv_sub hl [1, 2, 3, 0] rfl)
        · refine lv_iload_n hx hb (dg D_X11_shutYears (i := 21) rfl) rfl (lv_at hl 2 rfl) ?_
          refine n_iconst (a := 1) hx hb (dg D_X11_shutYears (i := 22) rfl) rfl ?_
          refine lv_iload_n hx hb (dg D_X11_shutYears (i := 23) rfl) rfl (lv_at hl 3 rfl) ?_
          refine lv_ishl hx hb (dg D_X11_shutYears (i := 24) rfl) ?_
          refine lv_ior hx hb (dg D_X11_shutYears (i := 25) rfl) ?_
          refine lv_istore_n (lv' := [(2, .int ((orT (shy σ jv) y) ||| ((nI 1) <<< ((nI y) &&& 31)))), (0, .ref (bs + 0)), (1, .int (nI jv)), (3, .int (nI y))]) hx hb (dg D_X11_shutYears (i := 26) rfl) rfl hl (by decide) rfl (fun ls hl => ?_)
          refine lv_iinc (v := nI (y + 1)) (lv' := [(3, .int (nI (y + 1))), (2, .int ((orT (shy σ jv) y) ||| ((nI 1) <<< ((nI y) &&& 31)))), (0, .ref (bs + 0)), (1, .int (nI jv))]) hx hb (dg D_X11_shutYears (i := 27) rfl) hl (k := 3) rfl (nI_add _ _) (by decide) rfl (fun ls hl => ?_)
          refine lv_goto (tgt := 9) hx hb (dg D_X11_shutYears (i := 28) rfl) (by decide) ?_
          exact ih9 (by omega) _ _ _ _ _ (by show _ = _ ||| shy σ jv y; rw [shy_1 (by omega) c32]) (congrArg nI (by omega)) hW hS (lv_sub hl [2, 3, 1, 0] rfl))
  exact loop9 0 (Nat.zero_le _) _ _ _ _ _ (rfl) (congrArg nI (by omega)) hW hS (lv_sub hl [2, 3, 1, 0] rfl)

set_option maxHeartbeats 4000000 in
set_option maxRecDepth 100000 in
theorem c_X11_sufficientSpeed {l : Launch} {G : va_G} {bs : Nat} {cy : Nat → ClassId} {I : CI} {L : CL} {R : CR} (σ : Row) (β : Nat) (q : Nat) (v : Int32) (hl0 : l.stackTraces = false) (hi : Inv σ) (hd : DR σ) (hβ : isBr β) (hB : BrAt I β σ) (hq : isPl q) (hP : PlAt I q σ) (hRb : R q 0 = β) (hR7 : R 0 7 = β) (hR8 : R 0 8 = q) : XTi l G bs cy MX11_sufficientSpeed 7 [.ref (bs + 0), .int v] I L R (fun r I1 L1 R1 => ((inB v (nG σ)) = true ∧ r = fstI (spOK σ v) 51) ∧ I = I1 ∧ L = L1 ∧ R = R1) (fun E => E = IOE ∧ (inB v (nG σ)) = false) 1 6 := by
  refine XTi.of (own := RX11) pn_RX11 rfl (Nat.le_of_ble_eq_true rfl) ?_
  intro p e s m args below meth c Qc Qf X hW hS htab hlk hQf fin ls hl
  have hx := X.1
  have hb := X.2.1
  have hR : RmOK (rmL 7 1 6) 7 := ⟨rfl, rfl⟩
  have hcs : 0 ≤ (rmL 7 1 6).cells ∧ 0 ≤ (rmL 7 1 6).slots := ⟨Nat.zero_le _, Nat.zero_le _⟩
  have hl : lv_has ls 3 [(0, .ref (bs + 0)), (1, .int v)] := hl
  obtain ⟨hY, hY1, hY12, hLn, hL4, hSn, hS12, hGn, hG5⟩ := id hi
  have hbq := br_pl hβ hq
  refine lv_aload_n hx hb (dg D_X11_sufficientSpeed (i := 0) rfl) rfl (lv_at hl 0 rfl) ?_
  refine lv_iload_n hx hb (dg D_X11_sufficientSpeed (i := 1) rfl) rfl (lv_at hl 1 rfl) ?_
  refine callXv X hW hS hR htab hlk hQf (c_X11_checkGang (I := I) σ β v (by first | assumption | omega | decide | exact hP.1) (by first | assumption | omega | decide | exact hP.1) (by first | assumption | omega | decide | exact hP.1) (by first | assumption | omega | decide | exact hP.1) (by first | assumption | omega | decide | exact hP.1)) (fun E hE => ⟨hE.1, by simp [hE.2]⟩) (by decide) UVX11_checkGang LK_X11_190 rfl (by decide) rfl rfl rfl (Nat.le_of_ble_eq_true rfl) hl (Nat.le_of_ble_eq_true rfl) (Nat.le_of_ble_eq_true rfl) (Nat.le_of_ble_eq_true rfl) (Nat.le_of_ble_eq_true rfl) (dg D_X11_sufficientSpeed (i := 2) rfl) (fun I2 L1 R1 H locs hq hW hS => ?_)
  have hcs : 0 + 1 ≤ (rmL 7 1 6).cells ∧ 0 + 6 ≤ (rmL 7 1 6).slots := ⟨Nat.le_of_ble_eq_true rfl, Nat.le_of_ble_eq_true rfl⟩
  obtain ⟨hr2, rfl, rfl, rfl⟩ := hq
  obtain ⟨jv, hjv, rfl⟩ := inB_of hr2 (by omega)
  refine n_iconst (a := 1) hx hb (dg D_X11_sufficientSpeed (i := 3) rfl) rfl ?_
  refine lv_istore_n (lv' := [(2, .int (nI 1)), (0, .ref (bs + 0)), (1, .int (nI jv))]) hx hb (dg D_X11_sufficientSpeed (i := 4) rfl) rfl hl (by decide) rfl (fun ls hl => ?_)
  have loop7 := up_ind (P := fun k => ∀ (H : Heap) (locs : List Loc) (ls : Array Slot) (v2 : Int32), v2 = nI k → (1 ≤ k) → (∀ z, z < k → spOK σ (nI jv) z = false) → Wd G bs cy I L R H → va_S (Aq bs) s.heap H locs → lv_has ls 3 [(0, .ref (bs + 0)), (1, .int (nI jv)), (2, .int v2)] → W p l e (rmL 7 1 6) s m args below meth c H locs (0 + 1) (0 + 6) Qf (F0 m 7 ls [])) 51 (fun k hx7 ih7 => by
      intro H locs ls v2 q2 hk1 hn hW hS hl
      subst q2
      refine lv_iload_n hx hb (dg D_X11_sufficientSpeed (i := 5) rfl) rfl (lv_at hl 2 rfl) ?_
      refine lv_bipush (v := nI 50) hx hb (dg D_X11_sufficientSpeed (i := 6) rfl) (by decide) ?_
      refine n_icmp_gt (tgt := 33) hx hb (by omega) (by omega) (dg D_X11_sufficientSpeed (i := 7) rfl) (by decide) (fun c10 => ?_) (fun c10 => ?_)
      · refine r_ldc X CK_X11_48 (dg D_X11_sufficientSpeed (i := 18) rfl) ?_
        exact fin (dg D_X11_sufficientSpeed (i := 19) rfl) (Nat.le_of_ble_eq_true rfl) (Nat.le_of_ble_eq_true rfl) hW hS ⟨⟨by simp [hr2], (fstI_none (p := spOK σ (nI jv)) (n := 51) (fun z hz => hn z (by omega))).symm⟩, rfl, rfl, rfl⟩
      · refine lv_aload_n hx hb (dg D_X11_sufficientSpeed (i := 8) rfl) rfl (lv_at hl 0 rfl) ?_
        refine r_getr (v := q) X hW FI_X11_71 rfl (by decide) rfl hR8 (dg D_X11_sufficientSpeed (i := 9) rfl) ?_
        refine lv_iload_n hx hb (dg D_X11_sufficientSpeed (i := 10) rfl) rfl (lv_at hl 1 rfl) ?_
        refine lv_iload_n hx hb (dg D_X11_sufficientSpeed (i := 11) rfl) rfl (lv_at hl 2 rfl) ?_
        refine callVi X hW hS hR (c_X6_canCopeAt (I := I) σ β q jv (nI k) (by first | assumption | omega | decide | exact hP.1) (by first | assumption | omega | decide | exact hP.1) (by first | assumption | omega | decide | exact hP.1) (by first | assumption | omega | decide | exact hP.1) (by first | assumption | omega | decide | exact hP.1) (by first | assumption | omega | decide | exact hP.1) (by first | assumption | omega | decide | exact hP.1)) (by decide) UVX6_canCopeAt LK_X11_250 (shP hq) (ncP0 hq) rfl rfl rfl (Nat.le_of_ble_eq_true rfl) hl hcs (dg D_X11_sufficientSpeed (i := 12) rfl) (fun r19 I19 L1 R1 H locs hq hW hS => ?_)
        obtain ⟨rfl, rfl, rfl, rfl⟩ := hq
        refine z_if_eq (tgt := 27) hx hb (dg D_X11_sufficientSpeed (i := 13) rfl) (by decide) (fun c22 => ?_) (fun c22 => ?_)
        · refine lv_iinc (v := nI (k + 1)) (lv' := [(2, .int (nI (k + 1))), (0, .ref (bs + 0)), (1, .int (nI jv))]) hx hb (dg D_X11_sufficientSpeed (i := 16) rfl) hl (k := 2) rfl (nI_add _ _) (by decide) rfl (fun ls hl => ?_)
          refine lv_goto (tgt := 7) hx hb (dg D_X11_sufficientSpeed (i := 17) rfl) (by decide) ?_
          exact ih7 (by omega) _ _ _ _ (congrArg nI (by omega)) (by omega) (all_lt_succ hn (by unfold spOK; rw [c22, Bool.and_false])) hW hS (lv_sub hl [1, 2, 0] rfl)
        · refine lv_iload_n hx hb (dg D_X11_sufficientSpeed (i := 14) rfl) rfl (lv_at hl 2 rfl) ?_
          exact fin (dg D_X11_sufficientSpeed (i := 15) rfl) (Nat.le_of_ble_eq_true rfl) (Nat.le_of_ble_eq_true rfl) hW hS ⟨⟨by simp [hr2], (fstI_hit (p := spOK σ (nI jv)) (n := 51) (by omega) (by unfold spOK; rw [c22, Bool.and_true]; exact decide_eq_true hk1) hn).symm⟩, rfl, rfl, rfl⟩)
  exact loop7 1 (by decide) _ _ _ _ (congrArg nI (by omega)) (Nat.le_refl 1) (fun z hz => by rw [show z = 0 by omega]; rfl) hW hS (lv_sub hl [1, 2, 0] rfl)

