set_option maxHeartbeats 4000000 in
set_option maxRecDepth 100000 in
theorem c_X11_checkYear {l : Launch} {G : va_G} {bs : Nat} {cy : Nat → ClassId} {I : CI} {L : CL} {R : CR} (σ : Row) (β : Nat) (v : Int32) (hi : Inv σ) (hl0 : l.stackTraces = false) (hβ : isBr β) (hB : BrAt I β σ) (hR7 : R 0 7 = β) : XTv l G bs cy MX11_checkYear 6 [.ref (bs + 0), .int v] I L R (fun I1 L1 R1 => (inB v (Yn σ) = true) ∧ I = I1 ∧ L = L1 ∧ R = R1) (fun E => E = IOE ∧ inB v (Yn σ) = false) 1 6 := by
  refine XTv.of (own := RX11) pn_RX11 rfl (Nat.le_of_ble_eq_true rfl) ?_
  intro p e s m args below meth c Qc Qf X hW hS htab hlk hQf fin ls hl
  have hx := X.1
  have hb := X.2.1
  have hR : RmOK (rmL 6 1 6) 6 := ⟨rfl, rfl⟩
  have hcs : 0 ≤ (rmL 6 1 6).cells ∧ 0 ≤ (rmL 6 1 6).slots := ⟨Nat.zero_le _, Nat.zero_le _⟩
  have hl : lv_has ls 2 [(0, .ref (bs + 0)), (1, .int v)] := hl
  obtain ⟨hY, hY1, hY12, hLn, hL4, hSn, hS12, hGn, hG5⟩ := id hi
  refine lv_iload_n hx hb (dg D_X11_checkYear (i := 0) rfl) rfl (lv_at hl 1 rfl) ?_
  refine lv_if_lt (tgt := 15) hx hb (dg D_X11_checkYear (i := 1) rfl) (by decide) (fun c1 => ?_) (fun c1 => ?_)
  · exact r_th0W X hl0 htab hlk hQf ⟨rfl, inB_lo c1⟩ hW hS hR (Nat.le_of_ble_eq_true rfl) (List.mem_of_getElem? (i := 2) rfl) hl (Nat.le_of_ble_eq_true rfl) (Nat.le_of_ble_eq_true rfl) (Nat.le_of_ble_eq_true rfl) (Nat.le_of_ble_eq_true rfl) (Nat.le_of_ble_eq_true rfl) (dg D_X11_checkYear (i := 7) rfl) (dg D_X11_checkYear (i := 8) rfl) (dg D_X11_checkYear (i := 9) rfl) (dg D_X11_checkYear (i := 10) rfl) (dg D_X11_checkYear (i := 11) rfl)
  · refine lv_iload_n hx hb (dg D_X11_checkYear (i := 2) rfl) rfl (lv_at hl 1 rfl) ?_
    refine lv_aload_n hx hb (dg D_X11_checkYear (i := 3) rfl) rfl (lv_at hl 0 rfl) ?_
    refine r_getr (v := β) X hW FI_X11_67 rfl (by decide) rfl hR7 (dg D_X11_checkYear (i := 4) rfl) ?_
    refine rn_geti (v := nI (Yn σ)) X hW FN_X11_168 (shB hβ) (ncB0 hβ) rfl (hB.c0 hi) (dg D_X11_checkYear (i := 5) rfl) ?_
    refine lv_icmp_lt (tgt := 26) hx hb (dg D_X11_checkYear (i := 6) rfl) (by decide) (fun c12 => ?_) (fun c12 => ?_)
    · exact fin (dg D_X11_checkYear (i := 12) rfl) (Nat.le_of_ble_eq_true rfl) (Nat.le_of_ble_eq_true rfl) hW hS ⟨inB_ok c1 c12 (by omega), rfl, rfl, rfl⟩
    · exact r_th0W X hl0 htab hlk hQf ⟨rfl, inB_hi c12 (by omega)⟩ hW hS hR (Nat.le_of_ble_eq_true rfl) (List.mem_of_getElem? (i := 2) rfl) hl (Nat.le_of_ble_eq_true rfl) (Nat.le_of_ble_eq_true rfl) (Nat.le_of_ble_eq_true rfl) (Nat.le_of_ble_eq_true rfl) (Nat.le_of_ble_eq_true rfl) (dg D_X11_checkYear (i := 7) rfl) (dg D_X11_checkYear (i := 8) rfl) (dg D_X11_checkYear (i := 9) rfl) (dg D_X11_checkYear (i := 10) rfl) (dg D_X11_checkYear (i := 11) rfl)

set_option maxHeartbeats 4000000 in
set_option maxRecDepth 100000 in
theorem c_X11_checkSpan {l : Launch} {G : va_G} {bs : Nat} {cy : Nat → ClassId} {I : CI} {L : CL} {R : CR} (σ : Row) (β : Nat) (v : Int32) (hi : Inv σ) (hl0 : l.stackTraces = false) (hβ : isBr β) (hB : BrAt I β σ) (hR7 : R 0 7 = β) : XTv l G bs cy MX11_checkSpan 6 [.ref (bs + 0), .int v] I L R (fun I1 L1 R1 => (inB v (nS σ) = true) ∧ I = I1 ∧ L = L1 ∧ R = R1) (fun E => E = IOE ∧ inB v (nS σ) = false) 1 6 := by
  refine XTv.of (own := RX11) pn_RX11 rfl (Nat.le_of_ble_eq_true rfl) ?_
  intro p e s m args below meth c Qc Qf X hW hS htab hlk hQf fin ls hl
  have hx := X.1
  have hb := X.2.1
  have hR : RmOK (rmL 6 1 6) 6 := ⟨rfl, rfl⟩
  have hcs : 0 ≤ (rmL 6 1 6).cells ∧ 0 ≤ (rmL 6 1 6).slots := ⟨Nat.zero_le _, Nat.zero_le _⟩
  have hl : lv_has ls 2 [(0, .ref (bs + 0)), (1, .int v)] := hl
  obtain ⟨hY, hY1, hY12, hLn, hL4, hSn, hS12, hGn, hG5⟩ := id hi
  refine lv_iload_n hx hb (dg D_X11_checkSpan (i := 0) rfl) rfl (lv_at hl 1 rfl) ?_
  refine lv_if_lt (tgt := 15) hx hb (dg D_X11_checkSpan (i := 1) rfl) (by decide) (fun c1 => ?_) (fun c1 => ?_)
  · exact r_th0W X hl0 htab hlk hQf ⟨rfl, inB_lo c1⟩ hW hS hR (Nat.le_of_ble_eq_true rfl) (List.mem_of_getElem? (i := 1) rfl) hl (Nat.le_of_ble_eq_true rfl) (Nat.le_of_ble_eq_true rfl) (Nat.le_of_ble_eq_true rfl) (Nat.le_of_ble_eq_true rfl) (Nat.le_of_ble_eq_true rfl) (dg D_X11_checkSpan (i := 7) rfl) (dg D_X11_checkSpan (i := 8) rfl) (dg D_X11_checkSpan (i := 9) rfl) (dg D_X11_checkSpan (i := 10) rfl) (dg D_X11_checkSpan (i := 11) rfl)
  · refine lv_iload_n hx hb (dg D_X11_checkSpan (i := 2) rfl) rfl (lv_at hl 1 rfl) ?_
    refine lv_aload_n hx hb (dg D_X11_checkSpan (i := 3) rfl) rfl (lv_at hl 0 rfl) ?_
    refine r_getr (v := β) X hW FI_X11_67 rfl (by decide) rfl hR7 (dg D_X11_checkSpan (i := 4) rfl) ?_
    refine rn_geti (v := nI (nS σ)) X hW FN_X11_128 (shB hβ) (ncB0 hβ) rfl (hB.c4 hi) (dg D_X11_checkSpan (i := 5) rfl) ?_
    refine lv_icmp_lt (tgt := 26) hx hb (dg D_X11_checkSpan (i := 6) rfl) (by decide) (fun c12 => ?_) (fun c12 => ?_)
    · exact fin (dg D_X11_checkSpan (i := 12) rfl) (Nat.le_of_ble_eq_true rfl) (Nat.le_of_ble_eq_true rfl) hW hS ⟨inB_ok c1 c12 (by omega), rfl, rfl, rfl⟩
    · exact r_th0W X hl0 htab hlk hQf ⟨rfl, inB_hi c12 (by omega)⟩ hW hS hR (Nat.le_of_ble_eq_true rfl) (List.mem_of_getElem? (i := 1) rfl) hl (Nat.le_of_ble_eq_true rfl) (Nat.le_of_ble_eq_true rfl) (Nat.le_of_ble_eq_true rfl) (Nat.le_of_ble_eq_true rfl) (Nat.le_of_ble_eq_true rfl) (dg D_X11_checkSpan (i := 7) rfl) (dg D_X11_checkSpan (i := 8) rfl) (dg D_X11_checkSpan (i := 9) rfl) (dg D_X11_checkSpan (i := 10) rfl) (dg D_X11_checkSpan (i := 11) rfl)

set_option maxHeartbeats 4000000 in
set_option maxRecDepth 100000 in
theorem c_X11_checkGang {l : Launch} {G : va_G} {bs : Nat} {cy : Nat → ClassId} {I : CI} {L : CL} {R : CR} (σ : Row) (β : Nat) (v : Int32) (hi : Inv σ) (hl0 : l.stackTraces = false) (hβ : isBr β) (hB : BrAt I β σ) (hR7 : R 0 7 = β) : XTv l G bs cy MX11_checkGang 6 [.ref (bs + 0), .int v] I L R (fun I1 L1 R1 => (inB v (nG σ) = true) ∧ I = I1 ∧ L = L1 ∧ R = R1) (fun E => E = IOE ∧ inB v (nG σ) = false) 1 6 := by
  refine XTv.of (own := RX11) pn_RX11 rfl (Nat.le_of_ble_eq_true rfl) ?_
  intro p e s m args below meth c Qc Qf X hW hS htab hlk hQf fin ls hl
  have hx := X.1
  have hb := X.2.1
  have hR : RmOK (rmL 6 1 6) 6 := ⟨rfl, rfl⟩
  have hcs : 0 ≤ (rmL 6 1 6).cells ∧ 0 ≤ (rmL 6 1 6).slots := ⟨Nat.zero_le _, Nat.zero_le _⟩
  have hl : lv_has ls 2 [(0, .ref (bs + 0)), (1, .int v)] := hl
  obtain ⟨hY, hY1, hY12, hLn, hL4, hSn, hS12, hGn, hG5⟩ := id hi
  refine lv_iload_n hx hb (dg D_X11_checkGang (i := 0) rfl) rfl (lv_at hl 1 rfl) ?_
  refine lv_if_lt (tgt := 15) hx hb (dg D_X11_checkGang (i := 1) rfl) (by decide) (fun c1 => ?_) (fun c1 => ?_)
  · exact r_th0W X hl0 htab hlk hQf ⟨rfl, inB_lo c1⟩ hW hS hR (Nat.le_of_ble_eq_true rfl) (List.mem_of_getElem? (i := 3) rfl) hl (Nat.le_of_ble_eq_true rfl) (Nat.le_of_ble_eq_true rfl) (Nat.le_of_ble_eq_true rfl) (Nat.le_of_ble_eq_true rfl) (Nat.le_of_ble_eq_true rfl) (dg D_X11_checkGang (i := 7) rfl) (dg D_X11_checkGang (i := 8) rfl) (dg D_X11_checkGang (i := 9) rfl) (dg D_X11_checkGang (i := 10) rfl) (dg D_X11_checkGang (i := 11) rfl)
  · refine lv_iload_n hx hb (dg D_X11_checkGang (i := 2) rfl) rfl (lv_at hl 1 rfl) ?_
    refine lv_aload_n hx hb (dg D_X11_checkGang (i := 3) rfl) rfl (lv_at hl 0 rfl) ?_
    refine r_getr (v := β) X hW FI_X11_67 rfl (by decide) rfl hR7 (dg D_X11_checkGang (i := 4) rfl) ?_
    refine rn_geti (v := nI (nG σ)) X hW FN_X11_226 (shB hβ) (ncB0 hβ) rfl (hB.c5 hi) (dg D_X11_checkGang (i := 5) rfl) ?_
    refine lv_icmp_lt (tgt := 26) hx hb (dg D_X11_checkGang (i := 6) rfl) (by decide) (fun c12 => ?_) (fun c12 => ?_)
    · exact fin (dg D_X11_checkGang (i := 12) rfl) (Nat.le_of_ble_eq_true rfl) (Nat.le_of_ble_eq_true rfl) hW hS ⟨inB_ok c1 c12 (by omega), rfl, rfl, rfl⟩
    · exact r_th0W X hl0 htab hlk hQf ⟨rfl, inB_hi c12 (by omega)⟩ hW hS hR (Nat.le_of_ble_eq_true rfl) (List.mem_of_getElem? (i := 3) rfl) hl (Nat.le_of_ble_eq_true rfl) (Nat.le_of_ble_eq_true rfl) (Nat.le_of_ble_eq_true rfl) (Nat.le_of_ble_eq_true rfl) (Nat.le_of_ble_eq_true rfl) (dg D_X11_checkGang (i := 7) rfl) (dg D_X11_checkGang (i := 8) rfl) (dg D_X11_checkGang (i := 9) rfl) (dg D_X11_checkGang (i := 10) rfl) (dg D_X11_checkGang (i := 11) rfl)

set_option maxHeartbeats 4000000 in
set_option maxRecDepth 100000 in
theorem c_X11_rustBefore {l : Launch} {G : va_G} {bs : Nat} {cy : Nat → ClassId} {I : CI} {L : CL} {R : CR} (σ : Row) (β : Nat) (q : Nat) (v : Int32) (w : Int32) (hl0 : l.stackTraces = false) (hi : Inv σ) (hd : DR σ) (hβ : isBr β) (hB : BrAt I β σ) (hq : isPl q) (hP : PlAt I q σ) (hRb : R q 0 = β) (hR7 : R 0 7 = β) (hR8 : R 0 8 = q) : XTi l G bs cy MX11_rustBefore 7 [.ref (bs + 0), .int v, .int w] I L R (fun r I1 L1 R1 => ((inB v (nS σ) && inB w (Yn σ)) = true ∧ r = (rgS σ (tN v) (tN w)).1) ∧ I = I1 ∧ L = L1 ∧ R = R1) (fun E => E = IOE ∧ (inB v (nS σ) && inB w (Yn σ)) = false) 2 12 := by
  refine XTi.of (own := RX11) pn_RX11 rfl (Nat.le_of_ble_eq_true rfl) ?_
  intro p e s m args below meth c Qc Qf X hW hS htab hlk hQf fin ls hl
  have hx := X.1
  have hb := X.2.1
  have hR : RmOK (rmL 7 2 12) 7 := ⟨rfl, rfl⟩
  have hcs : 0 ≤ (rmL 7 2 12).cells ∧ 0 ≤ (rmL 7 2 12).slots := ⟨Nat.zero_le _, Nat.zero_le _⟩
  have hl : lv_has ls 3 [(0, .ref (bs + 0)), (1, .int v), (2, .int w)] := hl
  obtain ⟨hY, hY1, hY12, hLn, hL4, hSn, hS12, hGn, hG5⟩ := id hi
  have hbq := br_pl hβ hq
  refine lv_aload_n hx hb (dg D_X11_rustBefore (i := 0) rfl) rfl (lv_at hl 0 rfl) ?_
  refine lv_iload_n hx hb (dg D_X11_rustBefore (i := 1) rfl) rfl (lv_at hl 1 rfl) ?_
  refine callXv X hW hS hR htab hlk hQf (c_X11_checkSpan (I := I) σ β v (by first | assumption | omega | decide | exact hP.1) (by first | assumption | omega | decide | exact hP.1) (by first | assumption | omega | decide | exact hP.1) (by first | assumption | omega | decide | exact hP.1) (by first | assumption | omega | decide | exact hP.1)) (fun E hE => ⟨hE.1, by simp [hE.2]⟩) (by decide) UVX11_checkSpan LK_X11_131 rfl (by decide) rfl rfl rfl (Nat.le_of_ble_eq_true rfl) hl (Nat.le_of_ble_eq_true rfl) (Nat.le_of_ble_eq_true rfl) (Nat.le_of_ble_eq_true rfl) (Nat.le_of_ble_eq_true rfl) (dg D_X11_rustBefore (i := 2) rfl) (fun I2 L1 R1 H locs hq hW hS => ?_)
  have hcs : 0 + 1 ≤ (rmL 7 2 12).cells ∧ 0 + 6 ≤ (rmL 7 2 12).slots := ⟨Nat.le_of_ble_eq_true rfl, Nat.le_of_ble_eq_true rfl⟩
  obtain ⟨hr2, rfl, rfl, rfl⟩ := hq
  obtain ⟨jv, hjv, rfl⟩ := inB_of hr2 (by omega)
  refine lv_aload_n hx hb (dg D_X11_rustBefore (i := 3) rfl) rfl (lv_at hl 0 rfl) ?_
  refine lv_iload_n hx hb (dg D_X11_rustBefore (i := 4) rfl) rfl (lv_at hl 2 rfl) ?_
  refine callXv X hW hS hR htab hlk hQf (c_X11_checkYear (I := I) σ β w (by first | assumption | omega | decide | exact hP.1) (by first | assumption | omega | decide | exact hP.1) (by first | assumption | omega | decide | exact hP.1) (by first | assumption | omega | decide | exact hP.1) (by first | assumption | omega | decide | exact hP.1)) (fun E hE => ⟨hE.1, by simp [hE.2]⟩) (by decide) UVX11_checkYear LK_X11_134 rfl (by decide) rfl rfl rfl (Nat.le_of_ble_eq_true rfl) hl (Nat.le_of_ble_eq_true rfl) (Nat.le_of_ble_eq_true rfl) (Nat.le_of_ble_eq_true rfl) (Nat.le_of_ble_eq_true rfl) (dg D_X11_rustBefore (i := 5) rfl) (fun I7 L1 R1 H locs hq hW hS => ?_)
  have hcs : 0 + 1 + 1 ≤ (rmL 7 2 12).cells ∧ 0 + 6 + 6 ≤ (rmL 7 2 12).slots := ⟨Nat.le_of_ble_eq_true rfl, Nat.le_of_ble_eq_true rfl⟩
  obtain ⟨hr7, rfl, rfl, rfl⟩ := hq
  obtain ⟨jw, hjw, rfl⟩ := inB_of hr7 (by omega)
  refine lv_aload_n hx hb (dg D_X11_rustBefore (i := 6) rfl) rfl (lv_at hl 0 rfl) ?_
  refine r_getr (v := q) X hW FI_X11_71 rfl (by decide) rfl hR8 (dg D_X11_rustBefore (i := 7) rfl) ?_
  refine lv_iload_n hx hb (dg D_X11_rustBefore (i := 8) rfl) rfl (lv_at hl 1 rfl) ?_
  refine lv_iload_n hx hb (dg D_X11_rustBefore (i := 9) rfl) rfl (lv_at hl 2 rfl) ?_
  refine callVi X hW hS hR (c_X6_rustAtStart (I := I) σ q jv jw (by first | assumption | omega | decide | exact hP.1) (by first | assumption | omega | decide | exact hP.1) (by first | assumption | omega | decide | exact hP.1) (by first | assumption | omega | decide | exact hP.1) (by first | assumption | omega | decide | exact hP.1)) (by decide) UVX6_rustAtStart LK_X11_137 (shP hq) (ncP0 hq) rfl rfl rfl (Nat.le_of_ble_eq_true rfl) hl hcs (dg D_X11_rustBefore (i := 10) rfl) (fun r16 I16 L1 R1 H locs hq hW hS => ?_)
  obtain ⟨rfl, rfl, rfl, rfl⟩ := hq
  exact fin (dg D_X11_rustBefore (i := 11) rfl) (Nat.le_of_ble_eq_true rfl) (Nat.le_of_ble_eq_true rfl) hW hS ⟨⟨by simp [hr2, hr7], by rw [tN_nI (show jv < 2 ^ 31 by omega), tN_nI (show jw < 2 ^ 31 by omega)]⟩, rfl, rfl, rfl⟩

set_option maxHeartbeats 4000000 in
set_option maxRecDepth 100000 in
theorem c_X11_rustAfter {l : Launch} {G : va_G} {bs : Nat} {cy : Nat → ClassId} {I : CI} {L : CL} {R : CR} (σ : Row) (β : Nat) (q : Nat) (v : Int32) (w : Int32) (hl0 : l.stackTraces = false) (hi : Inv σ) (hd : DR σ) (hβ : isBr β) (hB : BrAt I β σ) (hq : isPl q) (hP : PlAt I q σ) (hRb : R q 0 = β) (hR7 : R 0 7 = β) (hR8 : R 0 8 = q) : XTi l G bs cy MX11_rustAfter 7 [.ref (bs + 0), .int v, .int w] I L R (fun r I1 L1 R1 => ((inB v (nS σ) && inB w (Yn σ)) = true ∧ r = (rgS σ (tN v) (tN w + 1)).1) ∧ I = I1 ∧ L = L1 ∧ R = R1) (fun E => E = IOE ∧ (inB v (nS σ) && inB w (Yn σ)) = false) 2 12 := by
  refine XTi.of (own := RX11) pn_RX11 rfl (Nat.le_of_ble_eq_true rfl) ?_
  intro p e s m args below meth c Qc Qf X hW hS htab hlk hQf fin ls hl
  have hx := X.1
  have hb := X.2.1
  have hR : RmOK (rmL 7 2 12) 7 := ⟨rfl, rfl⟩
  have hcs : 0 ≤ (rmL 7 2 12).cells ∧ 0 ≤ (rmL 7 2 12).slots := ⟨Nat.zero_le _, Nat.zero_le _⟩
  have hl : lv_has ls 3 [(0, .ref (bs + 0)), (1, .int v), (2, .int w)] := hl
  obtain ⟨hY, hY1, hY12, hLn, hL4, hSn, hS12, hGn, hG5⟩ := id hi
  have hbq := br_pl hβ hq
  refine lv_aload_n hx hb (dg D_X11_rustAfter (i := 0) rfl) rfl (lv_at hl 0 rfl) ?_
  refine lv_iload_n hx hb (dg D_X11_rustAfter (i := 1) rfl) rfl (lv_at hl 1 rfl) ?_
  refine callXv X hW hS hR htab hlk hQf (c_X11_checkSpan (I := I) σ β v (by first | assumption | omega | decide | exact hP.1) (by first | assumption | omega | decide | exact hP.1) (by first | assumption | omega | decide | exact hP.1) (by first | assumption | omega | decide | exact hP.1) (by first | assumption | omega | decide | exact hP.1)) (fun E hE => ⟨hE.1, by simp [hE.2]⟩) (by decide) UVX11_checkSpan LK_X11_131 rfl (by decide) rfl rfl rfl (Nat.le_of_ble_eq_true rfl) hl (Nat.le_of_ble_eq_true rfl) (Nat.le_of_ble_eq_true rfl) (Nat.le_of_ble_eq_true rfl) (Nat.le_of_ble_eq_true rfl) (dg D_X11_rustAfter (i := 2) rfl) (fun I2 L1 R1 H locs hq hW hS => ?_)
  have hcs : 0 + 1 ≤ (rmL 7 2 12).cells ∧ 0 + 6 ≤ (rmL 7 2 12).slots := ⟨Nat.le_of_ble_eq_true rfl, Nat.le_of_ble_eq_true rfl⟩
  obtain ⟨hr2, rfl, rfl, rfl⟩ := hq
  obtain ⟨jv, hjv, rfl⟩ := inB_of hr2 (by omega)
  refine lv_aload_n hx hb (dg D_X11_rustAfter (i := 3) rfl) rfl (lv_at hl 0 rfl) ?_
  refine lv_iload_n hx hb (dg D_X11_rustAfter (i := 4) rfl) rfl (lv_at hl 2 rfl) ?_
  refine callXv X hW hS hR htab hlk hQf (c_X11_checkYear (I := I) σ β w (by first | assumption | omega | decide | exact hP.1) (by first | assumption | omega | decide | exact hP.1) (by first | assumption | omega | decide | exact hP.1) (by first | assumption | omega | decide | exact hP.1) (by first | assumption | omega | decide | exact hP.1)) (fun E hE => ⟨hE.1, by simp [hE.2]⟩) (by decide) UVX11_checkYear LK_X11_134 rfl (by decide) rfl rfl rfl (Nat.le_of_ble_eq_true rfl) hl (Nat.le_of_ble_eq_true rfl) (Nat.le_of_ble_eq_true rfl) (Nat.le_of_ble_eq_true rfl) (Nat.le_of_ble_eq_true rfl) (dg D_X11_rustAfter (i := 5) rfl) (fun I7 L1 R1 H locs hq hW hS => ?_)
  have hcs : 0 + 1 + 1 ≤ (rmL 7 2 12).cells ∧ 0 + 6 + 6 ≤ (rmL 7 2 12).slots := ⟨Nat.le_of_ble_eq_true rfl, Nat.le_of_ble_eq_true rfl⟩
  obtain ⟨hr7, rfl, rfl, rfl⟩ := hq
  obtain ⟨jw, hjw, rfl⟩ := inB_of hr7 (by omega)
  refine lv_aload_n hx hb (dg D_X11_rustAfter (i := 6) rfl) rfl (lv_at hl 0 rfl) ?_
  refine r_getr (v := q) X hW FI_X11_71 rfl (by decide) rfl hR8 (dg D_X11_rustAfter (i := 7) rfl) ?_
  refine lv_iload_n hx hb (dg D_X11_rustAfter (i := 8) rfl) rfl (lv_at hl 1 rfl) ?_
  refine lv_iload_n hx hb (dg D_X11_rustAfter (i := 9) rfl) rfl (lv_at hl 2 rfl) ?_
  refine callVi X hW hS hR (c_X6_rustAtEnd (I := I) σ q jv jw (by first | assumption | omega | decide | exact hP.1) (by first | assumption | omega | decide | exact hP.1) (by first | assumption | omega | decide | exact hP.1) (by first | assumption | omega | decide | exact hP.1) (by first | assumption | omega | decide | exact hP.1)) (by decide) UVX6_rustAtEnd LK_X11_141 (shP hq) (ncP0 hq) rfl rfl rfl (Nat.le_of_ble_eq_true rfl) hl hcs (dg D_X11_rustAfter (i := 10) rfl) (fun r16 I16 L1 R1 H locs hq hW hS => ?_)
  obtain ⟨rfl, rfl, rfl, rfl⟩ := hq
  exact fin (dg D_X11_rustAfter (i := 11) rfl) (Nat.le_of_ble_eq_true rfl) (Nat.le_of_ble_eq_true rfl) hW hS ⟨⟨by simp [hr2, hr7], by rw [tN_nI (show jv < 2 ^ 31 by omega), tN_nI (show jw < 2 ^ 31 by omega)]⟩, rfl, rfl, rfl⟩

set_option maxHeartbeats 4000000 in
set_option maxRecDepth 100000 in
theorem c_X11_guardLeft {l : Launch} {G : va_G} {bs : Nat} {cy : Nat → ClassId} {I : CI} {L : CL} {R : CR} (σ : Row) (β : Nat) (q : Nat) (v : Int32) (w : Int32) (hl0 : l.stackTraces = false) (hi : Inv σ) (hd : DR σ) (hβ : isBr β) (hB : BrAt I β σ) (hq : isPl q) (hP : PlAt I q σ) (hRb : R q 0 = β) (hR7 : R 0 7 = β) (hR8 : R 0 8 = q) : XTi l G bs cy MX11_guardLeft 7 [.ref (bs + 0), .int v, .int w] I L R (fun r I1 L1 R1 => ((inB v (nS σ) && inB w (Yn σ)) = true ∧ r = (rgS σ (tN v) (tN w)).2) ∧ I = I1 ∧ L = L1 ∧ R = R1) (fun E => E = IOE ∧ (inB v (nS σ) && inB w (Yn σ)) = false) 2 12 := by
  refine XTi.of (own := RX11) pn_RX11 rfl (Nat.le_of_ble_eq_true rfl) ?_
  intro p e s m args below meth c Qc Qf X hW hS htab hlk hQf fin ls hl
  have hx := X.1
  have hb := X.2.1
  have hR : RmOK (rmL 7 2 12) 7 := ⟨rfl, rfl⟩
  have hcs : 0 ≤ (rmL 7 2 12).cells ∧ 0 ≤ (rmL 7 2 12).slots := ⟨Nat.zero_le _, Nat.zero_le _⟩
  have hl : lv_has ls 3 [(0, .ref (bs + 0)), (1, .int v), (2, .int w)] := hl
  obtain ⟨hY, hY1, hY12, hLn, hL4, hSn, hS12, hGn, hG5⟩ := id hi
  have hbq := br_pl hβ hq
  refine lv_aload_n hx hb (dg D_X11_guardLeft (i := 0) rfl) rfl (lv_at hl 0 rfl) ?_
  refine lv_iload_n hx hb (dg D_X11_guardLeft (i := 1) rfl) rfl (lv_at hl 1 rfl) ?_
  refine callXv X hW hS hR htab hlk hQf (c_X11_checkSpan (I := I) σ β v (by first | assumption | omega | decide | exact hP.1) (by first | assumption | omega | decide | exact hP.1) (by first | assumption | omega | decide | exact hP.1) (by first | assumption | omega | decide | exact hP.1) (by first | assumption | omega | decide | exact hP.1)) (fun E hE => ⟨hE.1, by simp [hE.2]⟩) (by decide) UVX11_checkSpan LK_X11_131 rfl (by decide) rfl rfl rfl (Nat.le_of_ble_eq_true rfl) hl (Nat.le_of_ble_eq_true rfl) (Nat.le_of_ble_eq_true rfl) (Nat.le_of_ble_eq_true rfl) (Nat.le_of_ble_eq_true rfl) (dg D_X11_guardLeft (i := 2) rfl) (fun I2 L1 R1 H locs hq hW hS => ?_)
  have hcs : 0 + 1 ≤ (rmL 7 2 12).cells ∧ 0 + 6 ≤ (rmL 7 2 12).slots := ⟨Nat.le_of_ble_eq_true rfl, Nat.le_of_ble_eq_true rfl⟩
  obtain ⟨hr2, rfl, rfl, rfl⟩ := hq
  obtain ⟨jv, hjv, rfl⟩ := inB_of hr2 (by omega)
  refine lv_aload_n hx hb (dg D_X11_guardLeft (i := 3) rfl) rfl (lv_at hl 0 rfl) ?_
  refine lv_iload_n hx hb (dg D_X11_guardLeft (i := 4) rfl) rfl (lv_at hl 2 rfl) ?_
  refine callXv X hW hS hR htab hlk hQf (c_X11_checkYear (I := I) σ β w (by first | assumption | omega | decide | exact hP.1) (by first | assumption | omega | decide | exact hP.1) (by first | assumption | omega | decide | exact hP.1) (by first | assumption | omega | decide | exact hP.1) (by first | assumption | omega | decide | exact hP.1)) (fun E hE => ⟨hE.1, by simp [hE.2]⟩) (by decide) UVX11_checkYear LK_X11_134 rfl (by decide) rfl rfl rfl (Nat.le_of_ble_eq_true rfl) hl (Nat.le_of_ble_eq_true rfl) (Nat.le_of_ble_eq_true rfl) (Nat.le_of_ble_eq_true rfl) (Nat.le_of_ble_eq_true rfl) (dg D_X11_guardLeft (i := 5) rfl) (fun I7 L1 R1 H locs hq hW hS => ?_)
  have hcs : 0 + 1 + 1 ≤ (rmL 7 2 12).cells ∧ 0 + 6 + 6 ≤ (rmL 7 2 12).slots := ⟨Nat.le_of_ble_eq_true rfl, Nat.le_of_ble_eq_true rfl⟩
  obtain ⟨hr7, rfl, rfl, rfl⟩ := hq
  obtain ⟨jw, hjw, rfl⟩ := inB_of hr7 (by omega)
  refine lv_aload_n hx hb (dg D_X11_guardLeft (i := 6) rfl) rfl (lv_at hl 0 rfl) ?_
  refine r_getr (v := q) X hW FI_X11_71 rfl (by decide) rfl hR8 (dg D_X11_guardLeft (i := 7) rfl) ?_
  refine lv_iload_n hx hb (dg D_X11_guardLeft (i := 8) rfl) rfl (lv_at hl 1 rfl) ?_
  refine lv_iload_n hx hb (dg D_X11_guardLeft (i := 9) rfl) rfl (lv_at hl 2 rfl) ?_
  refine callVi X hW hS hR (c_X6_guardAtStart (I := I) σ q jv jw (by first | assumption | omega | decide | exact hP.1) (by first | assumption | omega | decide | exact hP.1) (by first | assumption | omega | decide | exact hP.1) (by first | assumption | omega | decide | exact hP.1) (by first | assumption | omega | decide | exact hP.1)) (by decide) UVX6_guardAtStart LK_X11_144 (shP hq) (ncP0 hq) rfl rfl rfl (Nat.le_of_ble_eq_true rfl) hl hcs (dg D_X11_guardLeft (i := 10) rfl) (fun r16 I16 L1 R1 H locs hq hW hS => ?_)
  obtain ⟨rfl, rfl, rfl, rfl⟩ := hq
  exact fin (dg D_X11_guardLeft (i := 11) rfl) (Nat.le_of_ble_eq_true rfl) (Nat.le_of_ble_eq_true rfl) hW hS ⟨⟨by simp [hr2, hr7], by rw [tN_nI (show jv < 2 ^ 31 by omega), tN_nI (show jw < 2 ^ 31 by omega)]⟩, rfl, rfl, rfl⟩

set_option maxHeartbeats 4000000 in
set_option maxRecDepth 100000 in
theorem c_X11_pastYear {l : Launch} {G : va_G} {bs : Nat} {cy : Nat → ClassId} {I : CI} {L : CL} {R : CR} (σ : Row) (β : Nat) (q : Nat) (v : Int32) (hl0 : l.stackTraces = false) (hi : Inv σ) (hd : DR σ) (hβ : isBr β) (hB : BrAt I β σ) (hq : isPl q) (hP : PlAt I q σ) (hRb : R q 0 = β) (hR7 : R 0 7 = β) (hR8 : R 0 8 = q) : XTi l G bs cy MX11_pastYear 7 [.ref (bs + 0), .int v] I L R (fun r I1 L1 R1 => ((inB v (nS σ)) = true ∧ r = fp σ (tN v)) ∧ I = I1 ∧ L = L1 ∧ R = R1) (fun E => E = IOE ∧ (inB v (nS σ)) = false) 1 6 := by
  refine XTi.of (own := RX11) pn_RX11 rfl (Nat.le_of_ble_eq_true rfl) ?_
  intro p e s m args below meth c Qc Qf X hW hS htab hlk hQf fin ls hl
  have hx := X.1
  have hb := X.2.1
  have hR : RmOK (rmL 7 1 6) 7 := ⟨rfl, rfl⟩
  have hcs : 0 ≤ (rmL 7 1 6).cells ∧ 0 ≤ (rmL 7 1 6).slots := ⟨Nat.zero_le _, Nat.zero_le _⟩
  have hl : lv_has ls 2 [(0, .ref (bs + 0)), (1, .int v)] := hl
  obtain ⟨hY, hY1, hY12, hLn, hL4, hSn, hS12, hGn, hG5⟩ := id hi
  have hbq := br_pl hβ hq
  refine lv_aload_n hx hb (dg D_X11_pastYear (i := 0) rfl) rfl (lv_at hl 0 rfl) ?_
  refine lv_iload_n hx hb (dg D_X11_pastYear (i := 1) rfl) rfl (lv_at hl 1 rfl) ?_
  refine callXv X hW hS hR htab hlk hQf (c_X11_checkSpan (I := I) σ β v (by first | assumption | omega | decide | exact hP.1) (by first | assumption | omega | decide | exact hP.1) (by first | assumption | omega | decide | exact hP.1) (by first | assumption | omega | decide | exact hP.1) (by first | assumption | omega | decide | exact hP.1)) (fun E hE => ⟨hE.1, by simp [hE.2]⟩) (by decide) UVX11_checkSpan LK_X11_131 rfl (by decide) rfl rfl rfl (Nat.le_of_ble_eq_true rfl) hl (Nat.le_of_ble_eq_true rfl) (Nat.le_of_ble_eq_true rfl) (Nat.le_of_ble_eq_true rfl) (Nat.le_of_ble_eq_true rfl) (dg D_X11_pastYear (i := 2) rfl) (fun I2 L1 R1 H locs hq hW hS => ?_)
  have hcs : 0 + 1 ≤ (rmL 7 1 6).cells ∧ 0 + 6 ≤ (rmL 7 1 6).slots := ⟨Nat.le_of_ble_eq_true rfl, Nat.le_of_ble_eq_true rfl⟩
  obtain ⟨hr2, rfl, rfl, rfl⟩ := hq
  obtain ⟨jv, hjv, rfl⟩ := inB_of hr2 (by omega)
  refine lv_aload_n hx hb (dg D_X11_pastYear (i := 3) rfl) rfl (lv_at hl 0 rfl) ?_
  refine r_getr (v := q) X hW FI_X11_71 rfl (by decide) rfl hR8 (dg D_X11_pastYear (i := 4) rfl) ?_
  refine lv_iload_n hx hb (dg D_X11_pastYear (i := 5) rfl) rfl (lv_at hl 1 rfl) ?_
  refine callVi X hW hS hR (c_X6_firstPast (I := I) σ β q jv (by first | assumption | omega | decide | exact hP.1) (by first | assumption | omega | decide | exact hP.1) (by first | assumption | omega | decide | exact hP.1) (by first | assumption | omega | decide | exact hP.1) (by first | assumption | omega | decide | exact hP.1) (by first | assumption | omega | decide | exact hP.1) (by first | assumption | omega | decide | exact hP.1)) (by decide) UVX6_firstPast LK_X11_147 (shP hq) (ncP0 hq) rfl rfl rfl (Nat.le_of_ble_eq_true rfl) hl hcs (dg D_X11_pastYear (i := 6) rfl) (fun r10 I10 L1 R1 H locs hq hW hS => ?_)
  obtain ⟨rfl, rfl, rfl, rfl⟩ := hq
  exact fin (dg D_X11_pastYear (i := 7) rfl) (Nat.le_of_ble_eq_true rfl) (Nat.le_of_ble_eq_true rfl) hW hS ⟨⟨by simp [hr2], by rw [tN_nI (show jv < 2 ^ 31 by omega)]⟩, rfl, rfl, rfl⟩

set_option maxHeartbeats 4000000 in
set_option maxRecDepth 100000 in
theorem c_X11_effort {l : Launch} {G : va_G} {bs : Nat} {cy : Nat → ClassId} {I : CI} {L : CL} {R : CR} (σ : Row) (β : Nat) (q : Nat) (v : Int32) (w : Int32) (hl0 : l.stackTraces = false) (hi : Inv σ) (hd : DR σ) (hβ : isBr β) (hB : BrAt I β σ) (hq : isPl q) (hP : PlAt I q σ) (hRb : R q 0 = β) (hR7 : R 0 7 = β) (hR8 : R 0 8 = q) : XTi l G bs cy MX11_effort 7 [.ref (bs + 0), .int v, .int w] I L R (fun r I1 L1 R1 => ((inB v (nS σ) && inB w (Yn σ)) = true ∧ r = eff σ (tN v) (tN w)) ∧ I = I1 ∧ L = L1 ∧ R = R1) (fun E => E = IOE ∧ (inB v (nS σ) && inB w (Yn σ)) = false) 2 12 := by
  refine XTi.of (own := RX11) pn_RX11 rfl (Nat.le_of_ble_eq_true rfl) ?_
  intro p e s m args below meth c Qc Qf X hW hS htab hlk hQf fin ls hl
  have hx := X.1
  have hb := X.2.1
  have hR : RmOK (rmL 7 2 12) 7 := ⟨rfl, rfl⟩
  have hcs : 0 ≤ (rmL 7 2 12).cells ∧ 0 ≤ (rmL 7 2 12).slots := ⟨Nat.zero_le _, Nat.zero_le _⟩
  have hl : lv_has ls 3 [(0, .ref (bs + 0)), (1, .int v), (2, .int w)] := hl
  obtain ⟨hY, hY1, hY12, hLn, hL4, hSn, hS12, hGn, hG5⟩ := id hi
  have hbq := br_pl hβ hq
  refine lv_aload_n hx hb (dg D_X11_effort (i := 0) rfl) rfl (lv_at hl 0 rfl) ?_
  refine lv_iload_n hx hb (dg D_X11_effort (i := 1) rfl) rfl (lv_at hl 1 rfl) ?_
  refine callXv X hW hS hR htab hlk hQf (c_X11_checkSpan (I := I) σ β v (by first | assumption | omega | decide | exact hP.1) (by first | assumption | omega | decide | exact hP.1) (by first | assumption | omega | decide | exact hP.1) (by first | assumption | omega | decide | exact hP.1) (by first | assumption | omega | decide | exact hP.1)) (fun E hE => ⟨hE.1, by simp [hE.2]⟩) (by decide) UVX11_checkSpan LK_X11_131 rfl (by decide) rfl rfl rfl (Nat.le_of_ble_eq_true rfl) hl (Nat.le_of_ble_eq_true rfl) (Nat.le_of_ble_eq_true rfl) (Nat.le_of_ble_eq_true rfl) (Nat.le_of_ble_eq_true rfl) (dg D_X11_effort (i := 2) rfl) (fun I2 L1 R1 H locs hq hW hS => ?_)
  have hcs : 0 + 1 ≤ (rmL 7 2 12).cells ∧ 0 + 6 ≤ (rmL 7 2 12).slots := ⟨Nat.le_of_ble_eq_true rfl, Nat.le_of_ble_eq_true rfl⟩
  obtain ⟨hr2, rfl, rfl, rfl⟩ := hq
  obtain ⟨jv, hjv, rfl⟩ := inB_of hr2 (by omega)
  refine lv_aload_n hx hb (dg D_X11_effort (i := 3) rfl) rfl (lv_at hl 0 rfl) ?_
  refine lv_iload_n hx hb (dg D_X11_effort (i := 4) rfl) rfl (lv_at hl 2 rfl) ?_
  refine callXv X hW hS hR htab hlk hQf (c_X11_checkYear (I := I) σ β w (by first | assumption | omega | decide | exact hP.1) (by first | assumption | omega | decide | exact hP.1) (by first | assumption | omega | decide | exact hP.1) (by first | assumption | omega | decide | exact hP.1) (by first | assumption | omega | decide | exact hP.1)) (fun E hE => ⟨hE.1, by simp [hE.2]⟩) (by decide) UVX11_checkYear LK_X11_134 rfl (by decide) rfl rfl rfl (Nat.le_of_ble_eq_true rfl) hl (Nat.le_of_ble_eq_true rfl) (Nat.le_of_ble_eq_true rfl) (Nat.le_of_ble_eq_true rfl) (Nat.le_of_ble_eq_true rfl) (dg D_X11_effort (i := 5) rfl) (fun I7 L1 R1 H locs hq hW hS => ?_)
  have hcs : 0 + 1 + 1 ≤ (rmL 7 2 12).cells ∧ 0 + 6 + 6 ≤ (rmL 7 2 12).slots := ⟨Nat.le_of_ble_eq_true rfl, Nat.le_of_ble_eq_true rfl⟩
  obtain ⟨hr7, rfl, rfl, rfl⟩ := hq
  obtain ⟨jw, hjw, rfl⟩ := inB_of hr7 (by omega)
  refine lv_aload_n hx hb (dg D_X11_effort (i := 6) rfl) rfl (lv_at hl 0 rfl) ?_
  refine r_getr (v := q) X hW FI_X11_71 rfl (by decide) rfl hR8 (dg D_X11_effort (i := 7) rfl) ?_
  refine lv_iload_n hx hb (dg D_X11_effort (i := 8) rfl) rfl (lv_at hl 1 rfl) ?_
  refine lv_iload_n hx hb (dg D_X11_effort (i := 9) rfl) rfl (lv_at hl 2 rfl) ?_
  refine callVi X hW hS hR (c_X6_spanEffort (I := I) σ β q jv jw (by first | assumption | omega | decide | exact hP.1) (by first | assumption | omega | decide | exact hP.1) (by first | assumption | omega | decide | exact hP.1) (by first | assumption | omega | decide | exact hP.1) (by first | assumption | omega | decide | exact hP.1) (by first | assumption | omega | decide | exact hP.1) (by first | assumption | omega | decide | exact hP.1) (by first | assumption | omega | decide | exact hP.1)) (by decide) UVX6_spanEffort LK_X11_187 (shP hq) (ncP0 hq) rfl rfl rfl (Nat.le_of_ble_eq_true rfl) hl hcs (dg D_X11_effort (i := 10) rfl) (fun r16 I16 L1 R1 H locs hq hW hS => ?_)
  obtain ⟨rfl, rfl, rfl, rfl⟩ := hq
  exact fin (dg D_X11_effort (i := 11) rfl) (Nat.le_of_ble_eq_true rfl) (Nat.le_of_ble_eq_true rfl) hW hS ⟨⟨by simp [hr2, hr7], by rw [tN_nI (show jv < 2 ^ 31 by omega), tN_nI (show jw < 2 ^ 31 by omega)]⟩, rfl, rfl, rfl⟩

set_option maxHeartbeats 4000000 in
set_option maxRecDepth 100000 in
theorem c_X11_capacity {l : Launch} {G : va_G} {bs : Nat} {cy : Nat → ClassId} {I : CI} {L : CL} {R : CR} (σ : Row) (β : Nat) (q : Nat) (v : Int32) (w : Int32) (hl0 : l.stackTraces = false) (hi : Inv σ) (hd : DR σ) (hβ : isBr β) (hB : BrAt I β σ) (hq : isPl q) (hP : PlAt I q σ) (hRb : R q 0 = β) (hR7 : R 0 7 = β) (hR8 : R 0 8 = q) : XTi l G bs cy MX11_capacity 7 [.ref (bs + 0), .int v, .int w] I L R (fun r I1 L1 R1 => ((inB v (nG σ) && inB w (Yn σ)) = true ∧ r = cap σ (tN v) (tN w)) ∧ I = I1 ∧ L = L1 ∧ R = R1) (fun E => E = IOE ∧ (inB v (nG σ) && inB w (Yn σ)) = false) 2 12 := by
  refine XTi.of (own := RX11) pn_RX11 rfl (Nat.le_of_ble_eq_true rfl) ?_
  intro p e s m args below meth c Qc Qf X hW hS htab hlk hQf fin ls hl
  have hx := X.1
  have hb := X.2.1
  have hR : RmOK (rmL 7 2 12) 7 := ⟨rfl, rfl⟩
  have hcs : 0 ≤ (rmL 7 2 12).cells ∧ 0 ≤ (rmL 7 2 12).slots := ⟨Nat.zero_le _, Nat.zero_le _⟩
  have hl : lv_has ls 3 [(0, .ref (bs + 0)), (1, .int v), (2, .int w)] := hl
  obtain ⟨hY, hY1, hY12, hLn, hL4, hSn, hS12, hGn, hG5⟩ := id hi
  have hbq := br_pl hβ hq
  refine lv_aload_n hx hb (dg D_X11_capacity (i := 0) rfl) rfl (lv_at hl 0 rfl) ?_
  refine lv_iload_n hx hb (dg D_X11_capacity (i := 1) rfl) rfl (lv_at hl 1 rfl) ?_
  refine callXv X hW hS hR htab hlk hQf (c_X11_checkGang (I := I) σ β v (by first | assumption | omega | decide | exact hP.1) (by first | assumption | omega | decide | exact hP.1) (by first | assumption | omega | decide | exact hP.1) (by first | assumption | omega | decide | exact hP.1) (by first | assumption | omega | decide | exact hP.1)) (fun E hE => ⟨hE.1, by simp [hE.2]⟩) (by decide) UVX11_checkGang LK_X11_190 rfl (by decide) rfl rfl rfl (Nat.le_of_ble_eq_true rfl) hl (Nat.le_of_ble_eq_true rfl) (Nat.le_of_ble_eq_true rfl) (Nat.le_of_ble_eq_true rfl) (Nat.le_of_ble_eq_true rfl) (dg D_X11_capacity (i := 2) rfl) (fun I2 L1 R1 H locs hq hW hS => ?_)
  have hcs : 0 + 1 ≤ (rmL 7 2 12).cells ∧ 0 + 6 ≤ (rmL 7 2 12).slots := ⟨Nat.le_of_ble_eq_true rfl, Nat.le_of_ble_eq_true rfl⟩
  obtain ⟨hr2, rfl, rfl, rfl⟩ := hq
  obtain ⟨jv, hjv, rfl⟩ := inB_of hr2 (by omega)
  refine lv_aload_n hx hb (dg D_X11_capacity (i := 3) rfl) rfl (lv_at hl 0 rfl) ?_
  refine lv_iload_n hx hb (dg D_X11_capacity (i := 4) rfl) rfl (lv_at hl 2 rfl) ?_
  refine callXv X hW hS hR htab hlk hQf (c_X11_checkYear (I := I) σ β w (by first | assumption | omega | decide | exact hP.1) (by first | assumption | omega | decide | exact hP.1) (by first | assumption | omega | decide | exact hP.1) (by first | assumption | omega | decide | exact hP.1) (by first | assumption | omega | decide | exact hP.1)) (fun E hE => ⟨hE.1, by simp [hE.2]⟩) (by decide) UVX11_checkYear LK_X11_134 rfl (by decide) rfl rfl rfl (Nat.le_of_ble_eq_true rfl) hl (Nat.le_of_ble_eq_true rfl) (Nat.le_of_ble_eq_true rfl) (Nat.le_of_ble_eq_true rfl) (Nat.le_of_ble_eq_true rfl) (dg D_X11_capacity (i := 5) rfl) (fun I7 L1 R1 H locs hq hW hS => ?_)
  have hcs : 0 + 1 + 1 ≤ (rmL 7 2 12).cells ∧ 0 + 6 + 6 ≤ (rmL 7 2 12).slots := ⟨Nat.le_of_ble_eq_true rfl, Nat.le_of_ble_eq_true rfl⟩
  obtain ⟨hr7, rfl, rfl, rfl⟩ := hq
  obtain ⟨jw, hjw, rfl⟩ := inB_of hr7 (by omega)
  refine lv_aload_n hx hb (dg D_X11_capacity (i := 6) rfl) rfl (lv_at hl 0 rfl) ?_
  refine r_getr (v := β) X hW FI_X11_67 rfl (by decide) rfl hR7 (dg D_X11_capacity (i := 7) rfl) ?_
  refine lv_iload_n hx hb (dg D_X11_capacity (i := 8) rfl) rfl (lv_at hl 1 rfl) ?_
  refine lv_iload_n hx hb (dg D_X11_capacity (i := 9) rfl) rfl (lv_at hl 2 rfl) ?_
  refine callVi X hW hS hR (c_X1_gangCapacity (I := I) σ β jv jw (by first | assumption | omega | decide | exact hP.1) (by first | assumption | omega | decide | exact hP.1) (by first | assumption | omega | decide | exact hP.1) (by first | assumption | omega | decide | exact hP.1) (by first | assumption | omega | decide | exact hP.1)) (by decide) UVX1_gangCapacity LK_X11_193 (shB hβ) (ncB0 hβ) rfl rfl rfl (Nat.le_of_ble_eq_true rfl) hl hcs (dg D_X11_capacity (i := 10) rfl) (fun r16 I16 L1 R1 H locs hq hW hS => ?_)
  obtain ⟨rfl, rfl, rfl, rfl⟩ := hq
  exact fin (dg D_X11_capacity (i := 11) rfl) (Nat.le_of_ble_eq_true rfl) (Nat.le_of_ble_eq_true rfl) hW hS ⟨⟨by simp [hr2, hr7], by rw [tN_nI (show jv < 2 ^ 31 by omega), tN_nI (show jw < 2 ^ 31 by omega)]⟩, rfl, rfl, rfl⟩

set_option maxHeartbeats 4000000 in
set_option maxRecDepth 100000 in
theorem c_X11_loadOf {l : Launch} {G : va_G} {bs : Nat} {cy : Nat → ClassId} {I : CI} {L : CL} {R : CR} (σ : Row) (β : Nat) (q : Nat) (v : Int32) (w : Int32) (hl0 : l.stackTraces = false) (hi : Inv σ) (hd : DR σ) (hβ : isBr β) (hB : BrAt I β σ) (hq : isPl q) (hP : PlAt I q σ) (hRb : R q 0 = β) (hR7 : R 0 7 = β) (hR8 : R 0 8 = q) : XTi l G bs cy MX11_loadOf 7 [.ref (bs + 0), .int v, .int w] I L R (fun r I1 L1 R1 => ((inB v (nG σ) && inB w (Yn σ)) = true ∧ r = lod σ v (tN w)) ∧ I = I1 ∧ L = L1 ∧ R = R1) (fun E => E = IOE ∧ (inB v (nG σ) && inB w (Yn σ)) = false) 2 12 := by
  refine XTi.of (own := RX11) pn_RX11 rfl (Nat.le_of_ble_eq_true rfl) ?_
  intro p e s m args below meth c Qc Qf X hW hS htab hlk hQf fin ls hl
  have hx := X.1
  have hb := X.2.1
  have hR : RmOK (rmL 7 2 12) 7 := ⟨rfl, rfl⟩
  have hcs : 0 ≤ (rmL 7 2 12).cells ∧ 0 ≤ (rmL 7 2 12).slots := ⟨Nat.zero_le _, Nat.zero_le _⟩
  have hl : lv_has ls 3 [(0, .ref (bs + 0)), (1, .int v), (2, .int w)] := hl
  obtain ⟨hY, hY1, hY12, hLn, hL4, hSn, hS12, hGn, hG5⟩ := id hi
  have hbq := br_pl hβ hq
  refine lv_aload_n hx hb (dg D_X11_loadOf (i := 0) rfl) rfl (lv_at hl 0 rfl) ?_
  refine lv_iload_n hx hb (dg D_X11_loadOf (i := 1) rfl) rfl (lv_at hl 1 rfl) ?_
  refine callXv X hW hS hR htab hlk hQf (c_X11_checkGang (I := I) σ β v (by first | assumption | omega | decide | exact hP.1) (by first | assumption | omega | decide | exact hP.1) (by first | assumption | omega | decide | exact hP.1) (by first | assumption | omega | decide | exact hP.1) (by first | assumption | omega | decide | exact hP.1)) (fun E hE => ⟨hE.1, by simp [hE.2]⟩) (by decide) UVX11_checkGang LK_X11_190 rfl (by decide) rfl rfl rfl (Nat.le_of_ble_eq_true rfl) hl (Nat.le_of_ble_eq_true rfl) (Nat.le_of_ble_eq_true rfl) (Nat.le_of_ble_eq_true rfl) (Nat.le_of_ble_eq_true rfl) (dg D_X11_loadOf (i := 2) rfl) (fun I2 L1 R1 H locs hq hW hS => ?_)
  have hcs : 0 + 1 ≤ (rmL 7 2 12).cells ∧ 0 + 6 ≤ (rmL 7 2 12).slots := ⟨Nat.le_of_ble_eq_true rfl, Nat.le_of_ble_eq_true rfl⟩
  obtain ⟨hr2, rfl, rfl, rfl⟩ := hq
  obtain ⟨jv, hjv, rfl⟩ := inB_of hr2 (by omega)
  refine lv_aload_n hx hb (dg D_X11_loadOf (i := 3) rfl) rfl (lv_at hl 0 rfl) ?_
  refine lv_iload_n hx hb (dg D_X11_loadOf (i := 4) rfl) rfl (lv_at hl 2 rfl) ?_
  refine callXv X hW hS hR htab hlk hQf (c_X11_checkYear (I := I) σ β w (by first | assumption | omega | decide | exact hP.1) (by first | assumption | omega | decide | exact hP.1) (by first | assumption | omega | decide | exact hP.1) (by first | assumption | omega | decide | exact hP.1) (by first | assumption | omega | decide | exact hP.1)) (fun E hE => ⟨hE.1, by simp [hE.2]⟩) (by decide) UVX11_checkYear LK_X11_134 rfl (by decide) rfl rfl rfl (Nat.le_of_ble_eq_true rfl) hl (Nat.le_of_ble_eq_true rfl) (Nat.le_of_ble_eq_true rfl) (Nat.le_of_ble_eq_true rfl) (Nat.le_of_ble_eq_true rfl) (dg D_X11_loadOf (i := 5) rfl) (fun I7 L1 R1 H locs hq hW hS => ?_)
  have hcs : 0 + 1 + 1 ≤ (rmL 7 2 12).cells ∧ 0 + 6 + 6 ≤ (rmL 7 2 12).slots := ⟨Nat.le_of_ble_eq_true rfl, Nat.le_of_ble_eq_true rfl⟩
  obtain ⟨hr7, rfl, rfl, rfl⟩ := hq
  obtain ⟨jw, hjw, rfl⟩ := inB_of hr7 (by omega)
  refine lv_aload_n hx hb (dg D_X11_loadOf (i := 6) rfl) rfl (lv_at hl 0 rfl) ?_
  refine r_getr (v := q) X hW FI_X11_71 rfl (by decide) rfl hR8 (dg D_X11_loadOf (i := 7) rfl) ?_
  refine lv_iload_n hx hb (dg D_X11_loadOf (i := 8) rfl) rfl (lv_at hl 1 rfl) ?_
  refine lv_iload_n hx hb (dg D_X11_loadOf (i := 9) rfl) rfl (lv_at hl 2 rfl) ?_
  refine callVi X hW hS hR (c_X6_gangLoad (I := I) σ β q (nI jv) jw (by first | assumption | omega | decide | exact hP.1) (by first | assumption | omega | decide | exact hP.1) (by first | assumption | omega | decide | exact hP.1) (by first | assumption | omega | decide | exact hP.1) (by first | assumption | omega | decide | exact hP.1) (by first | assumption | omega | decide | exact hP.1) (by first | assumption | omega | decide | exact hP.1)) (by decide) UVX6_gangLoad LK_X11_196 (shP hq) (ncP0 hq) rfl rfl rfl (Nat.le_of_ble_eq_true rfl) hl hcs (dg D_X11_loadOf (i := 10) rfl) (fun r16 I16 L1 R1 H locs hq hW hS => ?_)
  obtain ⟨rfl, rfl, rfl, rfl⟩ := hq
  exact fin (dg D_X11_loadOf (i := 11) rfl) (Nat.le_of_ble_eq_true rfl) (Nat.le_of_ble_eq_true rfl) hW hS ⟨⟨by simp [hr2, hr7], by rw [tN_nI (show jw < 2 ^ 31 by omega)]⟩, rfl, rfl, rfl⟩

set_option maxHeartbeats 4000000 in
set_option maxRecDepth 100000 in
theorem c_X11_paintings {l : Launch} {G : va_G} {bs : Nat} {cy : Nat → ClassId} {I : CI} {L : CL} {R : CR} (σ : Row) (β : Nat) (q : Nat) (hl0 : l.stackTraces = false) (hi : Inv σ) (hd : DR σ) (hβ : isBr β) (hB : BrAt I β σ) (hq : isPl q) (hP : PlAt I q σ) (hRb : R q 0 = β) (hR7 : R 0 7 = β) (hR8 : R 0 8 = q) : MTi l G bs cy MX11_paintings 2 [.ref (bs + 0)] I L R (fun r I1 L1 R1 => sumT (fun x => cnt16 (orT (setF (ptd σ x)) (Yn σ))) (nS σ) = r ∧ I = I1 ∧ L = L1 ∧ R = R1) := by
  refine MTi.of (own := RX11) pn_RX11 rfl (Nat.le_of_ble_eq_true rfl) ?_
  intro p e s m args below meth c Qf X hW hS fin ls hl
  have hx := X.1
  have hb := X.2.1
  have hR : RmOK (rmL 2 0 0) 2 := ⟨rfl, rfl⟩
  have hcs : 0 ≤ (rmL 2 0 0).cells ∧ 0 ≤ (rmL 2 0 0).slots := ⟨Nat.zero_le _, Nat.zero_le _⟩
  have hl : lv_has ls 1 [(0, .ref (bs + 0))] := hl
  obtain ⟨hY, hY1, hY12, hLn, hL4, hSn, hS12, hGn, hG5⟩ := id hi
  have hbq := br_pl hβ hq
  refine lv_aload_n hx hb (dg D_X11_paintings (i := 0) rfl) rfl (lv_at hl 0 rfl) ?_
  refine r_getr (v := q) X hW FI_X11_71 rfl (by decide) rfl hR8 (dg D_X11_paintings (i := 1) rfl) ?_
  refine callVi X hW hS hR (c_X6_countPaintings (I := I) σ q (by first | assumption | omega | decide | exact hP.1) (by first | assumption | omega | decide | exact hP.1)) (by decide) UVX6_countPaintings LK_X11_208 (shP hq) (ncP0 hq) rfl rfl rfl (Nat.le_of_ble_eq_true rfl) hl hcs (dg D_X11_paintings (i := 2) rfl) (fun r4 I4 L1 R1 H locs hq hW hS => ?_)
  obtain ⟨rfl, rfl, rfl, rfl⟩ := hq
  exact fin (dg D_X11_paintings (i := 3) rfl) hW hS ⟨pc_sum hd hi, rfl, rfl, rfl⟩

set_option maxHeartbeats 4000000 in
set_option maxRecDepth 100000 in
theorem c_X11_refusal {l : Launch} {G : va_G} {bs : Nat} {cy : Nat → ClassId} {I : CI} {L : CL} {R : CR} (σ : Row) (β : Nat) (q : Nat) (u : Int32) (v : Int32) (w : Int32) (hl0 : l.stackTraces = false) (hi : Inv σ) (hd : DR σ) (hβ : isBr β) (hB : BrAt I β σ) (hq : isPl q) (hP : PlAt I q σ) (hRb : R q 0 = β) (hR7 : R 0 7 = β) (hR8 : R 0 8 = q) : XTi l G bs cy MX11_refusal 7 [.ref (bs + 0), .int u, .int v, .int w] I L R (fun r I1 L1 R1 => ((inB u (Yn σ) && inB v (nS σ) && inB w (nG σ)) = true ∧ r = rfs σ (tN u) (tN v) (tN w)) ∧ I = I1 ∧ L = L1 ∧ R = R1) (fun E => E = IOE ∧ (inB u (Yn σ) && inB v (nS σ) && inB w (nG σ)) = false) 3 18 := by
  refine XTi.of (own := RX11) pn_RX11 rfl (Nat.le_of_ble_eq_true rfl) ?_
  intro p e s m args below meth c Qc Qf X hW hS htab hlk hQf fin ls hl
  have hx := X.1
  have hb := X.2.1
  have hR : RmOK (rmL 7 3 18) 7 := ⟨rfl, rfl⟩
  have hcs : 0 ≤ (rmL 7 3 18).cells ∧ 0 ≤ (rmL 7 3 18).slots := ⟨Nat.zero_le _, Nat.zero_le _⟩
  have hl : lv_has ls 4 [(0, .ref (bs + 0)), (1, .int u), (2, .int v), (3, .int w)] := hl
  obtain ⟨hY, hY1, hY12, hLn, hL4, hSn, hS12, hGn, hG5⟩ := id hi
  have hbq := br_pl hβ hq
  refine lv_aload_n hx hb (dg D_X11_refusal (i := 0) rfl) rfl (lv_at hl 0 rfl) ?_
  refine lv_iload_n hx hb (dg D_X11_refusal (i := 1) rfl) rfl (lv_at hl 1 rfl) ?_
  refine callXv X hW hS hR htab hlk hQf (c_X11_checkYear (I := I) σ β u (by first | assumption | omega | decide | exact hP.1) (by first | assumption | omega | decide | exact hP.1) (by first | assumption | omega | decide | exact hP.1) (by first | assumption | omega | decide | exact hP.1) (by first | assumption | omega | decide | exact hP.1)) (fun E hE => ⟨hE.1, by simp [hE.2]⟩) (by decide) UVX11_checkYear LK_X11_134 rfl (by decide) rfl rfl rfl (Nat.le_of_ble_eq_true rfl) hl (Nat.le_of_ble_eq_true rfl) (Nat.le_of_ble_eq_true rfl) (Nat.le_of_ble_eq_true rfl) (Nat.le_of_ble_eq_true rfl) (dg D_X11_refusal (i := 2) rfl) (fun I2 L1 R1 H locs hq hW hS => ?_)
  have hcs : 0 + 1 ≤ (rmL 7 3 18).cells ∧ 0 + 6 ≤ (rmL 7 3 18).slots := ⟨Nat.le_of_ble_eq_true rfl, Nat.le_of_ble_eq_true rfl⟩
  obtain ⟨hr2, rfl, rfl, rfl⟩ := hq
  obtain ⟨ju, hju, rfl⟩ := inB_of hr2 (by omega)
  refine lv_aload_n hx hb (dg D_X11_refusal (i := 3) rfl) rfl (lv_at hl 0 rfl) ?_
  refine lv_iload_n hx hb (dg D_X11_refusal (i := 4) rfl) rfl (lv_at hl 2 rfl) ?_
  refine callXv X hW hS hR htab hlk hQf (c_X11_checkSpan (I := I) σ β v (by first | assumption | omega | decide | exact hP.1) (by first | assumption | omega | decide | exact hP.1) (by first | assumption | omega | decide | exact hP.1) (by first | assumption | omega | decide | exact hP.1) (by first | assumption | omega | decide | exact hP.1)) (fun E hE => ⟨hE.1, by simp [hE.2]⟩) (by decide) UVX11_checkSpan LK_X11_131 rfl (by decide) rfl rfl rfl (Nat.le_of_ble_eq_true rfl) hl (Nat.le_of_ble_eq_true rfl) (Nat.le_of_ble_eq_true rfl) (Nat.le_of_ble_eq_true rfl) (Nat.le_of_ble_eq_true rfl) (dg D_X11_refusal (i := 5) rfl) (fun I7 L1 R1 H locs hq hW hS => ?_)
  have hcs : 0 + 1 + 1 ≤ (rmL 7 3 18).cells ∧ 0 + 6 + 6 ≤ (rmL 7 3 18).slots := ⟨Nat.le_of_ble_eq_true rfl, Nat.le_of_ble_eq_true rfl⟩
  obtain ⟨hr7, rfl, rfl, rfl⟩ := hq
  obtain ⟨jv, hjv, rfl⟩ := inB_of hr7 (by omega)
  refine lv_aload_n hx hb (dg D_X11_refusal (i := 6) rfl) rfl (lv_at hl 0 rfl) ?_
  refine lv_iload_n hx hb (dg D_X11_refusal (i := 7) rfl) rfl (lv_at hl 3 rfl) ?_
  refine callXv X hW hS hR htab hlk hQf (c_X11_checkGang (I := I) σ β w (by first | assumption | omega | decide | exact hP.1) (by first | assumption | omega | decide | exact hP.1) (by first | assumption | omega | decide | exact hP.1) (by first | assumption | omega | decide | exact hP.1) (by first | assumption | omega | decide | exact hP.1)) (fun E hE => ⟨hE.1, by simp [hE.2]⟩) (by decide) UVX11_checkGang LK_X11_190 rfl (by decide) rfl rfl rfl (Nat.le_of_ble_eq_true rfl) hl (Nat.le_of_ble_eq_true rfl) (Nat.le_of_ble_eq_true rfl) (Nat.le_of_ble_eq_true rfl) (Nat.le_of_ble_eq_true rfl) (dg D_X11_refusal (i := 8) rfl) (fun I12 L1 R1 H locs hq hW hS => ?_)
  have hcs : 0 + 1 + 1 + 1 ≤ (rmL 7 3 18).cells ∧ 0 + 6 + 6 + 6 ≤ (rmL 7 3 18).slots := ⟨Nat.le_of_ble_eq_true rfl, Nat.le_of_ble_eq_true rfl⟩
  obtain ⟨hr12, rfl, rfl, rfl⟩ := hq
  obtain ⟨jw, hjw, rfl⟩ := inB_of hr12 (by omega)
  refine lv_aload_n hx hb (dg D_X11_refusal (i := 9) rfl) rfl (lv_at hl 0 rfl) ?_
  refine r_getr (v := q) X hW FI_X11_71 rfl (by decide) rfl hR8 (dg D_X11_refusal (i := 10) rfl) ?_
  refine lv_iload_n hx hb (dg D_X11_refusal (i := 11) rfl) rfl (lv_at hl 1 rfl) ?_
  refine lv_iload_n hx hb (dg D_X11_refusal (i := 12) rfl) rfl (lv_at hl 2 rfl) ?_
  refine lv_iload_n hx hb (dg D_X11_refusal (i := 13) rfl) rfl (lv_at hl 3 rfl) ?_
  refine callVi X hW hS hR (c_X6_reasonAgainst (I := I) σ β q ju jv jw (by first | assumption | omega | decide | exact hP.1) (by first | assumption | omega | decide | exact hP.1) (by first | assumption | omega | decide | exact hP.1) (by first | assumption | omega | decide | exact hP.1) (by first | assumption | omega | decide | exact hP.1) (by first | assumption | omega | decide | exact hP.1) (by first | assumption | omega | decide | exact hP.1) (by first | assumption | omega | decide | exact hP.1) (by first | assumption | omega | decide | exact hP.1) (by first | assumption | omega | decide | exact hP.1)) (by decide) UVX6_reasonAgainst LK_X11_243 (shP hq) (ncP0 hq) rfl rfl rfl (Nat.le_of_ble_eq_true rfl) hl hcs (dg D_X11_refusal (i := 14) rfl) (fun r22 I22 L1 R1 H locs hq hW hS => ?_)
  obtain ⟨rfl, rfl, rfl, rfl⟩ := hq
  exact fin (dg D_X11_refusal (i := 15) rfl) (Nat.le_of_ble_eq_true rfl) (Nat.le_of_ble_eq_true rfl) hW hS ⟨⟨by simp [hr2, hr7, hr12], by rw [tN_nI (show ju < 2 ^ 31 by omega), tN_nI (show jv < 2 ^ 31 by omega), tN_nI (show jw < 2 ^ 31 by omega)]⟩, rfl, rfl, rfl⟩

