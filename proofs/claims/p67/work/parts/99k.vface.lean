set_option maxHeartbeats 4000000 in
set_option maxRecDepth 100000 in
theorem v_X11_checkYear {l : Launch} {G : va_G} {bs : Nat} {cy : Nat → ClassId} {I : CI} {L : CL} {R : CR} (σ : Row) (β : Nat) (v : Nat) (hi : Inv σ) (hβ : isBr β) (hB : BrAt I β σ) (hR7 : R 0 7 = β) (hv9 : v < Yn σ) : MTv l G bs cy MX11_checkYear 1 [.ref (bs + 0), .int (nI v)] I L R (fun I1 L1 R1 => I = I1 ∧ L = L1 ∧ R = R1) := by
  refine MTv.of (own := RX11) pn_RX11 rfl (Nat.le_of_ble_eq_true rfl) ?_
  intro p e s m args below meth c Qf X hW hS fin ls hl
  have hx := X.1
  have hb := X.2.1
  have hR : RmOK (rmL 1 0 0) 1 := ⟨rfl, rfl⟩
  have hcs : 0 ≤ (rmL 1 0 0).cells ∧ 0 ≤ (rmL 1 0 0).slots := ⟨Nat.zero_le _, Nat.zero_le _⟩
  have hl : lv_has ls 2 [(0, .ref (bs + 0)), (1, .int (nI v))] := hl
  obtain ⟨hY, hY1, hY12, hLn, hL4, hSn, hS12, hGn, hG5⟩ := id hi
  refine lv_iload_n hx hb (dg D_X11_checkYear (i := 0) rfl) rfl (lv_at hl 1 rfl) ?_
  refine n_if_lt (tgt := 15) hx hb (by omega) (dg D_X11_checkYear (i := 1) rfl) (by decide) (fun c1 => ?_) (fun c1 => ?_)
  · exact c1.elim
  · refine lv_iload_n hx hb (dg D_X11_checkYear (i := 2) rfl) rfl (lv_at hl 1 rfl) ?_
    refine lv_aload_n hx hb (dg D_X11_checkYear (i := 3) rfl) rfl (lv_at hl 0 rfl) ?_
    refine r_getr (v := β) X hW FI_X11_67 rfl (by decide) rfl hR7 (dg D_X11_checkYear (i := 4) rfl) ?_
    refine rn_geti (v := nI (Yn σ)) X hW FN_X11_168 (shB hβ) (ncB0 hβ) rfl (hB.c0 hi) (dg D_X11_checkYear (i := 5) rfl) ?_
    refine n_icmp_lt (tgt := 26) hx hb (by omega) (by omega) (dg D_X11_checkYear (i := 6) rfl) (by decide) (fun c12 => ?_) (fun c12 => ?_)
    · exact fin (dg D_X11_checkYear (i := 12) rfl) hW hS ⟨rfl, rfl, rfl⟩
    · exact absurd c12 (by omega)

set_option maxHeartbeats 4000000 in
set_option maxRecDepth 100000 in
theorem v_X11_checkSpan {l : Launch} {G : va_G} {bs : Nat} {cy : Nat → ClassId} {I : CI} {L : CL} {R : CR} (σ : Row) (β : Nat) (v : Nat) (hi : Inv σ) (hβ : isBr β) (hB : BrAt I β σ) (hR7 : R 0 7 = β) (hv9 : v < nS σ) : MTv l G bs cy MX11_checkSpan 1 [.ref (bs + 0), .int (nI v)] I L R (fun I1 L1 R1 => I = I1 ∧ L = L1 ∧ R = R1) := by
  refine MTv.of (own := RX11) pn_RX11 rfl (Nat.le_of_ble_eq_true rfl) ?_
  intro p e s m args below meth c Qf X hW hS fin ls hl
  have hx := X.1
  have hb := X.2.1
  have hR : RmOK (rmL 1 0 0) 1 := ⟨rfl, rfl⟩
  have hcs : 0 ≤ (rmL 1 0 0).cells ∧ 0 ≤ (rmL 1 0 0).slots := ⟨Nat.zero_le _, Nat.zero_le _⟩
  have hl : lv_has ls 2 [(0, .ref (bs + 0)), (1, .int (nI v))] := hl
  obtain ⟨hY, hY1, hY12, hLn, hL4, hSn, hS12, hGn, hG5⟩ := id hi
  refine lv_iload_n hx hb (dg D_X11_checkSpan (i := 0) rfl) rfl (lv_at hl 1 rfl) ?_
  refine n_if_lt (tgt := 15) hx hb (by omega) (dg D_X11_checkSpan (i := 1) rfl) (by decide) (fun c1 => ?_) (fun c1 => ?_)
  · exact c1.elim
  · refine lv_iload_n hx hb (dg D_X11_checkSpan (i := 2) rfl) rfl (lv_at hl 1 rfl) ?_
    refine lv_aload_n hx hb (dg D_X11_checkSpan (i := 3) rfl) rfl (lv_at hl 0 rfl) ?_
    refine r_getr (v := β) X hW FI_X11_67 rfl (by decide) rfl hR7 (dg D_X11_checkSpan (i := 4) rfl) ?_
    refine rn_geti (v := nI (nS σ)) X hW FN_X11_128 (shB hβ) (ncB0 hβ) rfl (hB.c4 hi) (dg D_X11_checkSpan (i := 5) rfl) ?_
    refine n_icmp_lt (tgt := 26) hx hb (by omega) (by omega) (dg D_X11_checkSpan (i := 6) rfl) (by decide) (fun c12 => ?_) (fun c12 => ?_)
    · exact fin (dg D_X11_checkSpan (i := 12) rfl) hW hS ⟨rfl, rfl, rfl⟩
    · exact absurd c12 (by omega)

set_option maxHeartbeats 4000000 in
set_option maxRecDepth 100000 in
theorem v_X11_checkGang {l : Launch} {G : va_G} {bs : Nat} {cy : Nat → ClassId} {I : CI} {L : CL} {R : CR} (σ : Row) (β : Nat) (v : Nat) (hi : Inv σ) (hβ : isBr β) (hB : BrAt I β σ) (hR7 : R 0 7 = β) (hv9 : v < nG σ) : MTv l G bs cy MX11_checkGang 1 [.ref (bs + 0), .int (nI v)] I L R (fun I1 L1 R1 => I = I1 ∧ L = L1 ∧ R = R1) := by
  refine MTv.of (own := RX11) pn_RX11 rfl (Nat.le_of_ble_eq_true rfl) ?_
  intro p e s m args below meth c Qf X hW hS fin ls hl
  have hx := X.1
  have hb := X.2.1
  have hR : RmOK (rmL 1 0 0) 1 := ⟨rfl, rfl⟩
  have hcs : 0 ≤ (rmL 1 0 0).cells ∧ 0 ≤ (rmL 1 0 0).slots := ⟨Nat.zero_le _, Nat.zero_le _⟩
  have hl : lv_has ls 2 [(0, .ref (bs + 0)), (1, .int (nI v))] := hl
  obtain ⟨hY, hY1, hY12, hLn, hL4, hSn, hS12, hGn, hG5⟩ := id hi
  refine lv_iload_n hx hb (dg D_X11_checkGang (i := 0) rfl) rfl (lv_at hl 1 rfl) ?_
  refine n_if_lt (tgt := 15) hx hb (by omega) (dg D_X11_checkGang (i := 1) rfl) (by decide) (fun c1 => ?_) (fun c1 => ?_)
  · exact c1.elim
  · refine lv_iload_n hx hb (dg D_X11_checkGang (i := 2) rfl) rfl (lv_at hl 1 rfl) ?_
    refine lv_aload_n hx hb (dg D_X11_checkGang (i := 3) rfl) rfl (lv_at hl 0 rfl) ?_
    refine r_getr (v := β) X hW FI_X11_67 rfl (by decide) rfl hR7 (dg D_X11_checkGang (i := 4) rfl) ?_
    refine rn_geti (v := nI (nG σ)) X hW FN_X11_226 (shB hβ) (ncB0 hβ) rfl (hB.c5 hi) (dg D_X11_checkGang (i := 5) rfl) ?_
    refine n_icmp_lt (tgt := 26) hx hb (by omega) (by omega) (dg D_X11_checkGang (i := 6) rfl) (by decide) (fun c12 => ?_) (fun c12 => ?_)
    · exact fin (dg D_X11_checkGang (i := 12) rfl) hW hS ⟨rfl, rfl, rfl⟩
    · exact absurd c12 (by omega)

set_option maxHeartbeats 4000000 in
set_option maxRecDepth 100000 in
theorem v_X11_rustBefore {l : Launch} {G : va_G} {bs : Nat} {cy : Nat → ClassId} {I : CI} {L : CL} {R : CR} (σ : Row) (β : Nat) (q : Nat) (v : Nat) (w : Nat) (hi : Inv σ) (hd : DR σ) (hβ : isBr β) (hB : BrAt I β σ) (hq : isPl q) (hP : PlAt I q σ) (hRb : R q 0 = β) (hR7 : R 0 7 = β) (hR8 : R 0 8 = q) (hv9 : v < nS σ) (hw9 : w < Yn σ) : MTi l G bs cy MX11_rustBefore 2 [.ref (bs + 0), .int (nI v), .int (nI w)] I L R (fun r I1 L1 R1 => (rgS σ v w).1 = r ∧ I = I1 ∧ L = L1 ∧ R = R1) := by
  refine MTi.of (own := RX11) pn_RX11 rfl (Nat.le_of_ble_eq_true rfl) ?_
  intro p e s m args below meth c Qf X hW hS fin ls hl
  have hx := X.1
  have hb := X.2.1
  have hR : RmOK (rmL 2 0 0) 2 := ⟨rfl, rfl⟩
  have hcs : 0 ≤ (rmL 2 0 0).cells ∧ 0 ≤ (rmL 2 0 0).slots := ⟨Nat.zero_le _, Nat.zero_le _⟩
  have hl : lv_has ls 3 [(0, .ref (bs + 0)), (1, .int (nI v)), (2, .int (nI w))] := hl
  obtain ⟨hY, hY1, hY12, hLn, hL4, hSn, hS12, hGn, hG5⟩ := id hi
  have hbq := br_pl hβ hq
  refine lv_aload_n hx hb (dg D_X11_rustBefore (i := 0) rfl) rfl (lv_at hl 0 rfl) ?_
  refine lv_iload_n hx hb (dg D_X11_rustBefore (i := 1) rfl) rfl (lv_at hl 1 rfl) ?_
  refine callVv X hW hS hR (v_X11_checkSpan (I := I) σ β v (by first | exact hi | assumption | omega | decide | exact hP.1) (by first | exact hβ | assumption | omega | decide | exact hP.1) (by first | exact hB | assumption | omega | decide | exact hP.1) (by first | exact hR7 | assumption | omega | decide | exact hP.1) (by first | exact hv9 | assumption | omega | decide | exact hP.1)) (by decide) UVX11_checkSpan LK_X11_131 rfl (by decide) rfl rfl rfl (Nat.le_of_ble_eq_true rfl) hl hcs (dg D_X11_rustBefore (i := 2) rfl) (fun I2 L1 R1 H locs hq hW hS => ?_)
  obtain ⟨rfl, rfl, rfl⟩ := hq
  refine lv_aload_n hx hb (dg D_X11_rustBefore (i := 3) rfl) rfl (lv_at hl 0 rfl) ?_
  refine lv_iload_n hx hb (dg D_X11_rustBefore (i := 4) rfl) rfl (lv_at hl 2 rfl) ?_
  refine callVv X hW hS hR (v_X11_checkYear (I := I) σ β w (by first | exact hi | assumption | omega | decide | exact hP.1) (by first | exact hβ | assumption | omega | decide | exact hP.1) (by first | exact hB | assumption | omega | decide | exact hP.1) (by first | exact hR7 | assumption | omega | decide | exact hP.1) (by first | exact hv9 | assumption | omega | decide | exact hP.1)) (by decide) UVX11_checkYear LK_X11_134 rfl (by decide) rfl rfl rfl (Nat.le_of_ble_eq_true rfl) hl hcs (dg D_X11_rustBefore (i := 5) rfl) (fun I7 L1 R1 H locs hq hW hS => ?_)
  obtain ⟨rfl, rfl, rfl⟩ := hq
  refine lv_aload_n hx hb (dg D_X11_rustBefore (i := 6) rfl) rfl (lv_at hl 0 rfl) ?_
  refine r_getr (v := q) X hW FI_X11_71 rfl (by decide) rfl hR8 (dg D_X11_rustBefore (i := 7) rfl) ?_
  refine lv_iload_n hx hb (dg D_X11_rustBefore (i := 8) rfl) rfl (lv_at hl 1 rfl) ?_
  refine lv_iload_n hx hb (dg D_X11_rustBefore (i := 9) rfl) rfl (lv_at hl 2 rfl) ?_
  refine callVi X hW hS hR (c_X6_rustAtStart (I := I) σ q v w (by first | exact hq | assumption | omega | decide | exact hP.1) (by first | exact hP | assumption | omega | decide | exact hP.1) (by first | exact hi | assumption | omega | decide | exact hP.1) (by first | exact hx5 | assumption | omega | decide | exact hP.1) (by first | exact hy5 | assumption | omega | decide | exact hP.1)) (by decide) UVX6_rustAtStart LK_X11_137 (shP hq) (ncP0 hq) rfl rfl rfl (Nat.le_of_ble_eq_true rfl) hl hcs (dg D_X11_rustBefore (i := 10) rfl) (fun r16 I16 L1 R1 H locs hq hW hS => ?_)
  obtain ⟨rfl, rfl, rfl, rfl⟩ := hq
  exact fin (dg D_X11_rustBefore (i := 11) rfl) hW hS ⟨rfl, rfl, rfl, rfl⟩

set_option maxHeartbeats 4000000 in
set_option maxRecDepth 100000 in
theorem v_X11_rustAfter {l : Launch} {G : va_G} {bs : Nat} {cy : Nat → ClassId} {I : CI} {L : CL} {R : CR} (σ : Row) (β : Nat) (q : Nat) (v : Nat) (w : Nat) (hi : Inv σ) (hd : DR σ) (hβ : isBr β) (hB : BrAt I β σ) (hq : isPl q) (hP : PlAt I q σ) (hRb : R q 0 = β) (hR7 : R 0 7 = β) (hR8 : R 0 8 = q) (hv9 : v < nS σ) (hw9 : w < Yn σ) : MTi l G bs cy MX11_rustAfter 2 [.ref (bs + 0), .int (nI v), .int (nI w)] I L R (fun r I1 L1 R1 => (rgS σ v (w + 1)).1 = r ∧ I = I1 ∧ L = L1 ∧ R = R1) := by
  refine MTi.of (own := RX11) pn_RX11 rfl (Nat.le_of_ble_eq_true rfl) ?_
  intro p e s m args below meth c Qf X hW hS fin ls hl
  have hx := X.1
  have hb := X.2.1
  have hR : RmOK (rmL 2 0 0) 2 := ⟨rfl, rfl⟩
  have hcs : 0 ≤ (rmL 2 0 0).cells ∧ 0 ≤ (rmL 2 0 0).slots := ⟨Nat.zero_le _, Nat.zero_le _⟩
  have hl : lv_has ls 3 [(0, .ref (bs + 0)), (1, .int (nI v)), (2, .int (nI w))] := hl
  obtain ⟨hY, hY1, hY12, hLn, hL4, hSn, hS12, hGn, hG5⟩ := id hi
  have hbq := br_pl hβ hq
  refine lv_aload_n hx hb (dg D_X11_rustAfter (i := 0) rfl) rfl (lv_at hl 0 rfl) ?_
  refine lv_iload_n hx hb (dg D_X11_rustAfter (i := 1) rfl) rfl (lv_at hl 1 rfl) ?_
  refine callVv X hW hS hR (v_X11_checkSpan (I := I) σ β v (by first | exact hi | assumption | omega | decide | exact hP.1) (by first | exact hβ | assumption | omega | decide | exact hP.1) (by first | exact hB | assumption | omega | decide | exact hP.1) (by first | exact hR7 | assumption | omega | decide | exact hP.1) (by first | exact hv9 | assumption | omega | decide | exact hP.1)) (by decide) UVX11_checkSpan LK_X11_131 rfl (by decide) rfl rfl rfl (Nat.le_of_ble_eq_true rfl) hl hcs (dg D_X11_rustAfter (i := 2) rfl) (fun I2 L1 R1 H locs hq hW hS => ?_)
  obtain ⟨rfl, rfl, rfl⟩ := hq
  refine lv_aload_n hx hb (dg D_X11_rustAfter (i := 3) rfl) rfl (lv_at hl 0 rfl) ?_
  refine lv_iload_n hx hb (dg D_X11_rustAfter (i := 4) rfl) rfl (lv_at hl 2 rfl) ?_
  refine callVv X hW hS hR (v_X11_checkYear (I := I) σ β w (by first | exact hi | assumption | omega | decide | exact hP.1) (by first | exact hβ | assumption | omega | decide | exact hP.1) (by first | exact hB | assumption | omega | decide | exact hP.1) (by first | exact hR7 | assumption | omega | decide | exact hP.1) (by first | exact hv9 | assumption | omega | decide | exact hP.1)) (by decide) UVX11_checkYear LK_X11_134 rfl (by decide) rfl rfl rfl (Nat.le_of_ble_eq_true rfl) hl hcs (dg D_X11_rustAfter (i := 5) rfl) (fun I7 L1 R1 H locs hq hW hS => ?_)
  obtain ⟨rfl, rfl, rfl⟩ := hq
  refine lv_aload_n hx hb (dg D_X11_rustAfter (i := 6) rfl) rfl (lv_at hl 0 rfl) ?_
  refine r_getr (v := q) X hW FI_X11_71 rfl (by decide) rfl hR8 (dg D_X11_rustAfter (i := 7) rfl) ?_
  refine lv_iload_n hx hb (dg D_X11_rustAfter (i := 8) rfl) rfl (lv_at hl 1 rfl) ?_
  refine lv_iload_n hx hb (dg D_X11_rustAfter (i := 9) rfl) rfl (lv_at hl 2 rfl) ?_
  refine callVi X hW hS hR (c_X6_rustAtEnd (I := I) σ q v w (by first | exact hq | assumption | omega | decide | exact hP.1) (by first | exact hP | assumption | omega | decide | exact hP.1) (by first | exact hi | assumption | omega | decide | exact hP.1) (by first | exact hx5 | assumption | omega | decide | exact hP.1) (by first | exact hy5 | assumption | omega | decide | exact hP.1)) (by decide) UVX6_rustAtEnd LK_X11_141 (shP hq) (ncP0 hq) rfl rfl rfl (Nat.le_of_ble_eq_true rfl) hl hcs (dg D_X11_rustAfter (i := 10) rfl) (fun r16 I16 L1 R1 H locs hq hW hS => ?_)
  obtain ⟨rfl, rfl, rfl, rfl⟩ := hq
  exact fin (dg D_X11_rustAfter (i := 11) rfl) hW hS ⟨rfl, rfl, rfl, rfl⟩

set_option maxHeartbeats 4000000 in
set_option maxRecDepth 100000 in
theorem v_X11_guardLeft {l : Launch} {G : va_G} {bs : Nat} {cy : Nat → ClassId} {I : CI} {L : CL} {R : CR} (σ : Row) (β : Nat) (q : Nat) (v : Nat) (w : Nat) (hi : Inv σ) (hd : DR σ) (hβ : isBr β) (hB : BrAt I β σ) (hq : isPl q) (hP : PlAt I q σ) (hRb : R q 0 = β) (hR7 : R 0 7 = β) (hR8 : R 0 8 = q) (hv9 : v < nS σ) (hw9 : w < Yn σ) : MTi l G bs cy MX11_guardLeft 2 [.ref (bs + 0), .int (nI v), .int (nI w)] I L R (fun r I1 L1 R1 => (rgS σ v w).2 = r ∧ I = I1 ∧ L = L1 ∧ R = R1) := by
  refine MTi.of (own := RX11) pn_RX11 rfl (Nat.le_of_ble_eq_true rfl) ?_
  intro p e s m args below meth c Qf X hW hS fin ls hl
  have hx := X.1
  have hb := X.2.1
  have hR : RmOK (rmL 2 0 0) 2 := ⟨rfl, rfl⟩
  have hcs : 0 ≤ (rmL 2 0 0).cells ∧ 0 ≤ (rmL 2 0 0).slots := ⟨Nat.zero_le _, Nat.zero_le _⟩
  have hl : lv_has ls 3 [(0, .ref (bs + 0)), (1, .int (nI v)), (2, .int (nI w))] := hl
  obtain ⟨hY, hY1, hY12, hLn, hL4, hSn, hS12, hGn, hG5⟩ := id hi
  have hbq := br_pl hβ hq
  refine lv_aload_n hx hb (dg D_X11_guardLeft (i := 0) rfl) rfl (lv_at hl 0 rfl) ?_
  refine lv_iload_n hx hb (dg D_X11_guardLeft (i := 1) rfl) rfl (lv_at hl 1 rfl) ?_
  refine callVv X hW hS hR (v_X11_checkSpan (I := I) σ β v (by first | exact hi | assumption | omega | decide | exact hP.1) (by first | exact hβ | assumption | omega | decide | exact hP.1) (by first | exact hB | assumption | omega | decide | exact hP.1) (by first | exact hR7 | assumption | omega | decide | exact hP.1) (by first | exact hv9 | assumption | omega | decide | exact hP.1)) (by decide) UVX11_checkSpan LK_X11_131 rfl (by decide) rfl rfl rfl (Nat.le_of_ble_eq_true rfl) hl hcs (dg D_X11_guardLeft (i := 2) rfl) (fun I2 L1 R1 H locs hq hW hS => ?_)
  obtain ⟨rfl, rfl, rfl⟩ := hq
  refine lv_aload_n hx hb (dg D_X11_guardLeft (i := 3) rfl) rfl (lv_at hl 0 rfl) ?_
  refine lv_iload_n hx hb (dg D_X11_guardLeft (i := 4) rfl) rfl (lv_at hl 2 rfl) ?_
  refine callVv X hW hS hR (v_X11_checkYear (I := I) σ β w (by first | exact hi | assumption | omega | decide | exact hP.1) (by first | exact hβ | assumption | omega | decide | exact hP.1) (by first | exact hB | assumption | omega | decide | exact hP.1) (by first | exact hR7 | assumption | omega | decide | exact hP.1) (by first | exact hv9 | assumption | omega | decide | exact hP.1)) (by decide) UVX11_checkYear LK_X11_134 rfl (by decide) rfl rfl rfl (Nat.le_of_ble_eq_true rfl) hl hcs (dg D_X11_guardLeft (i := 5) rfl) (fun I7 L1 R1 H locs hq hW hS => ?_)
  obtain ⟨rfl, rfl, rfl⟩ := hq
  refine lv_aload_n hx hb (dg D_X11_guardLeft (i := 6) rfl) rfl (lv_at hl 0 rfl) ?_
  refine r_getr (v := q) X hW FI_X11_71 rfl (by decide) rfl hR8 (dg D_X11_guardLeft (i := 7) rfl) ?_
  refine lv_iload_n hx hb (dg D_X11_guardLeft (i := 8) rfl) rfl (lv_at hl 1 rfl) ?_
  refine lv_iload_n hx hb (dg D_X11_guardLeft (i := 9) rfl) rfl (lv_at hl 2 rfl) ?_
  refine callVi X hW hS hR (c_X6_guardAtStart (I := I) σ q v w (by first | exact hq | assumption | omega | decide | exact hP.1) (by first | exact hP | assumption | omega | decide | exact hP.1) (by first | exact hi | assumption | omega | decide | exact hP.1) (by first | exact hx5 | assumption | omega | decide | exact hP.1) (by first | exact hy5 | assumption | omega | decide | exact hP.1)) (by decide) UVX6_guardAtStart LK_X11_144 (shP hq) (ncP0 hq) rfl rfl rfl (Nat.le_of_ble_eq_true rfl) hl hcs (dg D_X11_guardLeft (i := 10) rfl) (fun r16 I16 L1 R1 H locs hq hW hS => ?_)
  obtain ⟨rfl, rfl, rfl, rfl⟩ := hq
  exact fin (dg D_X11_guardLeft (i := 11) rfl) hW hS ⟨rfl, rfl, rfl, rfl⟩

set_option maxHeartbeats 4000000 in
set_option maxRecDepth 100000 in
theorem v_X11_pastYear {l : Launch} {G : va_G} {bs : Nat} {cy : Nat → ClassId} {I : CI} {L : CL} {R : CR} (σ : Row) (β : Nat) (q : Nat) (v : Nat) (hi : Inv σ) (hd : DR σ) (hβ : isBr β) (hB : BrAt I β σ) (hq : isPl q) (hP : PlAt I q σ) (hRb : R q 0 = β) (hR7 : R 0 7 = β) (hR8 : R 0 8 = q) (hv9 : v < nS σ) : MTi l G bs cy MX11_pastYear 3 [.ref (bs + 0), .int (nI v)] I L R (fun r I1 L1 R1 => fp σ v = r ∧ I = I1 ∧ L = L1 ∧ R = R1) := by
  refine MTi.of (own := RX11) pn_RX11 rfl (Nat.le_of_ble_eq_true rfl) ?_
  intro p e s m args below meth c Qf X hW hS fin ls hl
  have hx := X.1
  have hb := X.2.1
  have hR : RmOK (rmL 3 0 0) 3 := ⟨rfl, rfl⟩
  have hcs : 0 ≤ (rmL 3 0 0).cells ∧ 0 ≤ (rmL 3 0 0).slots := ⟨Nat.zero_le _, Nat.zero_le _⟩
  have hl : lv_has ls 2 [(0, .ref (bs + 0)), (1, .int (nI v))] := hl
  obtain ⟨hY, hY1, hY12, hLn, hL4, hSn, hS12, hGn, hG5⟩ := id hi
  have hbq := br_pl hβ hq
  refine lv_aload_n hx hb (dg D_X11_pastYear (i := 0) rfl) rfl (lv_at hl 0 rfl) ?_
  refine lv_iload_n hx hb (dg D_X11_pastYear (i := 1) rfl) rfl (lv_at hl 1 rfl) ?_
  refine callVv X hW hS hR (v_X11_checkSpan (I := I) σ β v (by first | exact hi | assumption | omega | decide | exact hP.1) (by first | exact hβ | assumption | omega | decide | exact hP.1) (by first | exact hB | assumption | omega | decide | exact hP.1) (by first | exact hR7 | assumption | omega | decide | exact hP.1) (by first | exact hv9 | assumption | omega | decide | exact hP.1)) (by decide) UVX11_checkSpan LK_X11_131 rfl (by decide) rfl rfl rfl (Nat.le_of_ble_eq_true rfl) hl hcs (dg D_X11_pastYear (i := 2) rfl) (fun I2 L1 R1 H locs hq hW hS => ?_)
  obtain ⟨rfl, rfl, rfl⟩ := hq
  refine lv_aload_n hx hb (dg D_X11_pastYear (i := 3) rfl) rfl (lv_at hl 0 rfl) ?_
  refine r_getr (v := q) X hW FI_X11_71 rfl (by decide) rfl hR8 (dg D_X11_pastYear (i := 4) rfl) ?_
  refine lv_iload_n hx hb (dg D_X11_pastYear (i := 5) rfl) rfl (lv_at hl 1 rfl) ?_
  refine callVi X hW hS hR (c_X6_firstPast (I := I) σ β q v (by first | exact hi | assumption | omega | decide | exact hP.1) (by first | exact hβ | assumption | omega | decide | exact hP.1) (by first | exact hB | assumption | omega | decide | exact hP.1) (by first | exact hq | assumption | omega | decide | exact hP.1) (by first | exact hP | assumption | omega | decide | exact hP.1) (by first | exact hRb | assumption | omega | decide | exact hP.1) (by first | exact hx5 | assumption | omega | decide | exact hP.1)) (by decide) UVX6_firstPast LK_X11_147 (shP hq) (ncP0 hq) rfl rfl rfl (Nat.le_of_ble_eq_true rfl) hl hcs (dg D_X11_pastYear (i := 6) rfl) (fun r10 I10 L1 R1 H locs hq hW hS => ?_)
  obtain ⟨rfl, rfl, rfl, rfl⟩ := hq
  exact fin (dg D_X11_pastYear (i := 7) rfl) hW hS ⟨rfl, rfl, rfl, rfl⟩

set_option maxHeartbeats 4000000 in
set_option maxRecDepth 100000 in
theorem v_X11_effort {l : Launch} {G : va_G} {bs : Nat} {cy : Nat → ClassId} {I : CI} {L : CL} {R : CR} (σ : Row) (β : Nat) (q : Nat) (v : Nat) (w : Nat) (hi : Inv σ) (hd : DR σ) (hβ : isBr β) (hB : BrAt I β σ) (hq : isPl q) (hP : PlAt I q σ) (hRb : R q 0 = β) (hR7 : R 0 7 = β) (hR8 : R 0 8 = q) (hv9 : v < nS σ) (hw9 : w < Yn σ) : MTi l G bs cy MX11_effort 2 [.ref (bs + 0), .int (nI v), .int (nI w)] I L R (fun r I1 L1 R1 => eff σ v w = r ∧ I = I1 ∧ L = L1 ∧ R = R1) := by
  refine MTi.of (own := RX11) pn_RX11 rfl (Nat.le_of_ble_eq_true rfl) ?_
  intro p e s m args below meth c Qf X hW hS fin ls hl
  have hx := X.1
  have hb := X.2.1
  have hR : RmOK (rmL 2 0 0) 2 := ⟨rfl, rfl⟩
  have hcs : 0 ≤ (rmL 2 0 0).cells ∧ 0 ≤ (rmL 2 0 0).slots := ⟨Nat.zero_le _, Nat.zero_le _⟩
  have hl : lv_has ls 3 [(0, .ref (bs + 0)), (1, .int (nI v)), (2, .int (nI w))] := hl
  obtain ⟨hY, hY1, hY12, hLn, hL4, hSn, hS12, hGn, hG5⟩ := id hi
  have hbq := br_pl hβ hq
  refine lv_aload_n hx hb (dg D_X11_effort (i := 0) rfl) rfl (lv_at hl 0 rfl) ?_
  refine lv_iload_n hx hb (dg D_X11_effort (i := 1) rfl) rfl (lv_at hl 1 rfl) ?_
  refine callVv X hW hS hR (v_X11_checkSpan (I := I) σ β v (by first | exact hi | assumption | omega | decide | exact hP.1) (by first | exact hβ | assumption | omega | decide | exact hP.1) (by first | exact hB | assumption | omega | decide | exact hP.1) (by first | exact hR7 | assumption | omega | decide | exact hP.1) (by first | exact hv9 | assumption | omega | decide | exact hP.1)) (by decide) UVX11_checkSpan LK_X11_131 rfl (by decide) rfl rfl rfl (Nat.le_of_ble_eq_true rfl) hl hcs (dg D_X11_effort (i := 2) rfl) (fun I2 L1 R1 H locs hq hW hS => ?_)
  obtain ⟨rfl, rfl, rfl⟩ := hq
  refine lv_aload_n hx hb (dg D_X11_effort (i := 3) rfl) rfl (lv_at hl 0 rfl) ?_
  refine lv_iload_n hx hb (dg D_X11_effort (i := 4) rfl) rfl (lv_at hl 2 rfl) ?_
  refine callVv X hW hS hR (v_X11_checkYear (I := I) σ β w (by first | exact hi | assumption | omega | decide | exact hP.1) (by first | exact hβ | assumption | omega | decide | exact hP.1) (by first | exact hB | assumption | omega | decide | exact hP.1) (by first | exact hR7 | assumption | omega | decide | exact hP.1) (by first | exact hv9 | assumption | omega | decide | exact hP.1)) (by decide) UVX11_checkYear LK_X11_134 rfl (by decide) rfl rfl rfl (Nat.le_of_ble_eq_true rfl) hl hcs (dg D_X11_effort (i := 5) rfl) (fun I7 L1 R1 H locs hq hW hS => ?_)
  obtain ⟨rfl, rfl, rfl⟩ := hq
  refine lv_aload_n hx hb (dg D_X11_effort (i := 6) rfl) rfl (lv_at hl 0 rfl) ?_
  refine r_getr (v := q) X hW FI_X11_71 rfl (by decide) rfl hR8 (dg D_X11_effort (i := 7) rfl) ?_
  refine lv_iload_n hx hb (dg D_X11_effort (i := 8) rfl) rfl (lv_at hl 1 rfl) ?_
  refine lv_iload_n hx hb (dg D_X11_effort (i := 9) rfl) rfl (lv_at hl 2 rfl) ?_
  refine callVi X hW hS hR (c_X6_spanEffort (I := I) σ β q v w (by first | exact hi | assumption | omega | decide | exact hP.1) (by first | exact hβ | assumption | omega | decide | exact hP.1) (by first | exact hB | assumption | omega | decide | exact hP.1) (by first | exact hq | assumption | omega | decide | exact hP.1) (by first | exact hP | assumption | omega | decide | exact hP.1) (by first | exact hRb | assumption | omega | decide | exact hP.1) (by first | exact hx5 | assumption | omega | decide | exact hP.1) (by first | exact hy5 | assumption | omega | decide | exact hP.1)) (by decide) UVX6_spanEffort LK_X11_187 (shP hq) (ncP0 hq) rfl rfl rfl (Nat.le_of_ble_eq_true rfl) hl hcs (dg D_X11_effort (i := 10) rfl) (fun r16 I16 L1 R1 H locs hq hW hS => ?_)
  obtain ⟨rfl, rfl, rfl, rfl⟩ := hq
  exact fin (dg D_X11_effort (i := 11) rfl) hW hS ⟨rfl, rfl, rfl, rfl⟩

set_option maxHeartbeats 4000000 in
set_option maxRecDepth 100000 in
theorem v_X11_capacity {l : Launch} {G : va_G} {bs : Nat} {cy : Nat → ClassId} {I : CI} {L : CL} {R : CR} (σ : Row) (β : Nat) (q : Nat) (v : Nat) (w : Nat) (hi : Inv σ) (hd : DR σ) (hβ : isBr β) (hB : BrAt I β σ) (hq : isPl q) (hP : PlAt I q σ) (hRb : R q 0 = β) (hR7 : R 0 7 = β) (hR8 : R 0 8 = q) (hv9 : v < nG σ) (hw9 : w < Yn σ) : MTi l G bs cy MX11_capacity 2 [.ref (bs + 0), .int (nI v), .int (nI w)] I L R (fun r I1 L1 R1 => cap σ v w = r ∧ I = I1 ∧ L = L1 ∧ R = R1) := by
  refine MTi.of (own := RX11) pn_RX11 rfl (Nat.le_of_ble_eq_true rfl) ?_
  intro p e s m args below meth c Qf X hW hS fin ls hl
  have hx := X.1
  have hb := X.2.1
  have hR : RmOK (rmL 2 0 0) 2 := ⟨rfl, rfl⟩
  have hcs : 0 ≤ (rmL 2 0 0).cells ∧ 0 ≤ (rmL 2 0 0).slots := ⟨Nat.zero_le _, Nat.zero_le _⟩
  have hl : lv_has ls 3 [(0, .ref (bs + 0)), (1, .int (nI v)), (2, .int (nI w))] := hl
  obtain ⟨hY, hY1, hY12, hLn, hL4, hSn, hS12, hGn, hG5⟩ := id hi
  have hbq := br_pl hβ hq
  refine lv_aload_n hx hb (dg D_X11_capacity (i := 0) rfl) rfl (lv_at hl 0 rfl) ?_
  refine lv_iload_n hx hb (dg D_X11_capacity (i := 1) rfl) rfl (lv_at hl 1 rfl) ?_
  refine callVv X hW hS hR (v_X11_checkGang (I := I) σ β v (by first | exact hi | assumption | omega | decide | exact hP.1) (by first | exact hβ | assumption | omega | decide | exact hP.1) (by first | exact hB | assumption | omega | decide | exact hP.1) (by first | exact hR7 | assumption | omega | decide | exact hP.1) (by first | exact hv9 | assumption | omega | decide | exact hP.1)) (by decide) UVX11_checkGang LK_X11_190 rfl (by decide) rfl rfl rfl (Nat.le_of_ble_eq_true rfl) hl hcs (dg D_X11_capacity (i := 2) rfl) (fun I2 L1 R1 H locs hq hW hS => ?_)
  obtain ⟨rfl, rfl, rfl⟩ := hq
  refine lv_aload_n hx hb (dg D_X11_capacity (i := 3) rfl) rfl (lv_at hl 0 rfl) ?_
  refine lv_iload_n hx hb (dg D_X11_capacity (i := 4) rfl) rfl (lv_at hl 2 rfl) ?_
  refine callVv X hW hS hR (v_X11_checkYear (I := I) σ β w (by first | exact hi | assumption | omega | decide | exact hP.1) (by first | exact hβ | assumption | omega | decide | exact hP.1) (by first | exact hB | assumption | omega | decide | exact hP.1) (by first | exact hR7 | assumption | omega | decide | exact hP.1) (by first | exact hv9 | assumption | omega | decide | exact hP.1)) (by decide) UVX11_checkYear LK_X11_134 rfl (by decide) rfl rfl rfl (Nat.le_of_ble_eq_true rfl) hl hcs (dg D_X11_capacity (i := 5) rfl) (fun I7 L1 R1 H locs hq hW hS => ?_)
  obtain ⟨rfl, rfl, rfl⟩ := hq
  refine lv_aload_n hx hb (dg D_X11_capacity (i := 6) rfl) rfl (lv_at hl 0 rfl) ?_
  refine r_getr (v := β) X hW FI_X11_67 rfl (by decide) rfl hR7 (dg D_X11_capacity (i := 7) rfl) ?_
  refine lv_iload_n hx hb (dg D_X11_capacity (i := 8) rfl) rfl (lv_at hl 1 rfl) ?_
  refine lv_iload_n hx hb (dg D_X11_capacity (i := 9) rfl) rfl (lv_at hl 2 rfl) ?_
  refine callVi X hW hS hR (c_X1_gangCapacity (I := I) σ β v w (by first | exact hβ | assumption | omega | decide | exact hP.1) (by first | exact hB | assumption | omega | decide | exact hP.1) (by first | exact hg5 | assumption | omega | decide | exact hP.1) (by first | exact hG5 | assumption | omega | decide | exact hP.1) (by first | exact hy5 | assumption | omega | decide | exact hP.1)) (by decide) UVX1_gangCapacity LK_X11_193 (shB hβ) (ncB0 hβ) rfl rfl rfl (Nat.le_of_ble_eq_true rfl) hl hcs (dg D_X11_capacity (i := 10) rfl) (fun r16 I16 L1 R1 H locs hq hW hS => ?_)
  obtain ⟨rfl, rfl, rfl, rfl⟩ := hq
  exact fin (dg D_X11_capacity (i := 11) rfl) hW hS ⟨rfl, rfl, rfl, rfl⟩

set_option maxHeartbeats 4000000 in
set_option maxRecDepth 100000 in
theorem v_X11_loadOf {l : Launch} {G : va_G} {bs : Nat} {cy : Nat → ClassId} {I : CI} {L : CL} {R : CR} (σ : Row) (β : Nat) (q : Nat) (v : Nat) (w : Nat) (hi : Inv σ) (hd : DR σ) (hβ : isBr β) (hB : BrAt I β σ) (hq : isPl q) (hP : PlAt I q σ) (hRb : R q 0 = β) (hR7 : R 0 7 = β) (hR8 : R 0 8 = q) (hv9 : v < nG σ) (hw9 : w < Yn σ) : MTi l G bs cy MX11_loadOf 3 [.ref (bs + 0), .int (nI v), .int (nI w)] I L R (fun r I1 L1 R1 => lod σ (nI v) w = r ∧ I = I1 ∧ L = L1 ∧ R = R1) := by
  refine MTi.of (own := RX11) pn_RX11 rfl (Nat.le_of_ble_eq_true rfl) ?_
  intro p e s m args below meth c Qf X hW hS fin ls hl
  have hx := X.1
  have hb := X.2.1
  have hR : RmOK (rmL 3 0 0) 3 := ⟨rfl, rfl⟩
  have hcs : 0 ≤ (rmL 3 0 0).cells ∧ 0 ≤ (rmL 3 0 0).slots := ⟨Nat.zero_le _, Nat.zero_le _⟩
  have hl : lv_has ls 3 [(0, .ref (bs + 0)), (1, .int (nI v)), (2, .int (nI w))] := hl
  obtain ⟨hY, hY1, hY12, hLn, hL4, hSn, hS12, hGn, hG5⟩ := id hi
  have hbq := br_pl hβ hq
  refine lv_aload_n hx hb (dg D_X11_loadOf (i := 0) rfl) rfl (lv_at hl 0 rfl) ?_
  refine lv_iload_n hx hb (dg D_X11_loadOf (i := 1) rfl) rfl (lv_at hl 1 rfl) ?_
  refine callVv X hW hS hR (v_X11_checkGang (I := I) σ β v (by first | exact hi | assumption | omega | decide | exact hP.1) (by first | exact hβ | assumption | omega | decide | exact hP.1) (by first | exact hB | assumption | omega | decide | exact hP.1) (by first | exact hR7 | assumption | omega | decide | exact hP.1) (by first | exact hv9 | assumption | omega | decide | exact hP.1)) (by decide) UVX11_checkGang LK_X11_190 rfl (by decide) rfl rfl rfl (Nat.le_of_ble_eq_true rfl) hl hcs (dg D_X11_loadOf (i := 2) rfl) (fun I2 L1 R1 H locs hq hW hS => ?_)
  obtain ⟨rfl, rfl, rfl⟩ := hq
  refine lv_aload_n hx hb (dg D_X11_loadOf (i := 3) rfl) rfl (lv_at hl 0 rfl) ?_
  refine lv_iload_n hx hb (dg D_X11_loadOf (i := 4) rfl) rfl (lv_at hl 2 rfl) ?_
  refine callVv X hW hS hR (v_X11_checkYear (I := I) σ β w (by first | exact hi | assumption | omega | decide | exact hP.1) (by first | exact hβ | assumption | omega | decide | exact hP.1) (by first | exact hB | assumption | omega | decide | exact hP.1) (by first | exact hR7 | assumption | omega | decide | exact hP.1) (by first | exact hv9 | assumption | omega | decide | exact hP.1)) (by decide) UVX11_checkYear LK_X11_134 rfl (by decide) rfl rfl rfl (Nat.le_of_ble_eq_true rfl) hl hcs (dg D_X11_loadOf (i := 5) rfl) (fun I7 L1 R1 H locs hq hW hS => ?_)
  obtain ⟨rfl, rfl, rfl⟩ := hq
  refine lv_aload_n hx hb (dg D_X11_loadOf (i := 6) rfl) rfl (lv_at hl 0 rfl) ?_
  refine r_getr (v := q) X hW FI_X11_71 rfl (by decide) rfl hR8 (dg D_X11_loadOf (i := 7) rfl) ?_
  refine lv_iload_n hx hb (dg D_X11_loadOf (i := 8) rfl) rfl (lv_at hl 1 rfl) ?_
  refine lv_iload_n hx hb (dg D_X11_loadOf (i := 9) rfl) rfl (lv_at hl 2 rfl) ?_
  refine callVi X hW hS hR (c_X6_gangLoad (I := I) σ β q (nI v) w (by first | exact hi | assumption | omega | decide | exact hP.1) (by first | exact hβ | assumption | omega | decide | exact hP.1) (by first | exact hB | assumption | omega | decide | exact hP.1) (by first | exact hq | assumption | omega | decide | exact hP.1) (by first | exact hP | assumption | omega | decide | exact hP.1) (by first | exact hRb | assumption | omega | decide | exact hP.1) (by first | exact hy5 | assumption | omega | decide | exact hP.1)) (by decide) UVX6_gangLoad LK_X11_196 (shP hq) (ncP0 hq) rfl rfl rfl (Nat.le_of_ble_eq_true rfl) hl hcs (dg D_X11_loadOf (i := 10) rfl) (fun r16 I16 L1 R1 H locs hq hW hS => ?_)
  obtain ⟨rfl, rfl, rfl, rfl⟩ := hq
  exact fin (dg D_X11_loadOf (i := 11) rfl) hW hS ⟨rfl, rfl, rfl, rfl⟩

set_option maxHeartbeats 4000000 in
set_option maxRecDepth 100000 in
theorem v_X11_refusal {l : Launch} {G : va_G} {bs : Nat} {cy : Nat → ClassId} {I : CI} {L : CL} {R : CR} (σ : Row) (β : Nat) (q : Nat) (u : Nat) (v : Nat) (w : Nat) (hi : Inv σ) (hd : DR σ) (hβ : isBr β) (hB : BrAt I β σ) (hq : isPl q) (hP : PlAt I q σ) (hRb : R q 0 = β) (hR7 : R 0 7 = β) (hR8 : R 0 8 = q) (hu9 : u < Yn σ) (hv9 : v < nS σ) (hw9 : w < nG σ) : MTi l G bs cy MX11_refusal 4 [.ref (bs + 0), .int (nI u), .int (nI v), .int (nI w)] I L R (fun r I1 L1 R1 => rfs σ u v w = r ∧ I = I1 ∧ L = L1 ∧ R = R1) := by
  refine MTi.of (own := RX11) pn_RX11 rfl (Nat.le_of_ble_eq_true rfl) ?_
  intro p e s m args below meth c Qf X hW hS fin ls hl
  have hx := X.1
  have hb := X.2.1
  have hR : RmOK (rmL 4 0 0) 4 := ⟨rfl, rfl⟩
  have hcs : 0 ≤ (rmL 4 0 0).cells ∧ 0 ≤ (rmL 4 0 0).slots := ⟨Nat.zero_le _, Nat.zero_le _⟩
  have hl : lv_has ls 4 [(0, .ref (bs + 0)), (1, .int (nI u)), (2, .int (nI v)), (3, .int (nI w))] := hl
  obtain ⟨hY, hY1, hY12, hLn, hL4, hSn, hS12, hGn, hG5⟩ := id hi
  have hbq := br_pl hβ hq
  refine lv_aload_n hx hb (dg D_X11_refusal (i := 0) rfl) rfl (lv_at hl 0 rfl) ?_
  refine lv_iload_n hx hb (dg D_X11_refusal (i := 1) rfl) rfl (lv_at hl 1 rfl) ?_
  refine callVv X hW hS hR (v_X11_checkYear (I := I) σ β u (by first | exact hi | assumption | omega | decide | exact hP.1) (by first | exact hβ | assumption | omega | decide | exact hP.1) (by first | exact hB | assumption | omega | decide | exact hP.1) (by first | exact hR7 | assumption | omega | decide | exact hP.1) (by first | exact hv9 | assumption | omega | decide | exact hP.1)) (by decide) UVX11_checkYear LK_X11_134 rfl (by decide) rfl rfl rfl (Nat.le_of_ble_eq_true rfl) hl hcs (dg D_X11_refusal (i := 2) rfl) (fun I2 L1 R1 H locs hq hW hS => ?_)
  obtain ⟨rfl, rfl, rfl⟩ := hq
  refine lv_aload_n hx hb (dg D_X11_refusal (i := 3) rfl) rfl (lv_at hl 0 rfl) ?_
  refine lv_iload_n hx hb (dg D_X11_refusal (i := 4) rfl) rfl (lv_at hl 2 rfl) ?_
  refine callVv X hW hS hR (v_X11_checkSpan (I := I) σ β v (by first | exact hi | assumption | omega | decide | exact hP.1) (by first | exact hβ | assumption | omega | decide | exact hP.1) (by first | exact hB | assumption | omega | decide | exact hP.1) (by first | exact hR7 | assumption | omega | decide | exact hP.1) (by first | exact hv9 | assumption | omega | decide | exact hP.1)) (by decide) UVX11_checkSpan LK_X11_131 rfl (by decide) rfl rfl rfl (Nat.le_of_ble_eq_true rfl) hl hcs (dg D_X11_refusal (i := 5) rfl) (fun I7 L1 R1 H locs hq hW hS => ?_)
  obtain ⟨rfl, rfl, rfl⟩ := hq
  refine lv_aload_n hx hb (dg D_X11_refusal (i := 6) rfl) rfl (lv_at hl 0 rfl) ?_
  refine lv_iload_n hx hb (dg D_X11_refusal (i := 7) rfl) rfl (lv_at hl 3 rfl) ?_
  refine callVv X hW hS hR (v_X11_checkGang (I := I) σ β w (by first | exact hi | assumption | omega | decide | exact hP.1) (by first | exact hβ | assumption | omega | decide | exact hP.1) (by first | exact hB | assumption | omega | decide | exact hP.1) (by first | exact hR7 | assumption | omega | decide | exact hP.1) (by first | exact hv9 | assumption | omega | decide | exact hP.1)) (by decide) UVX11_checkGang LK_X11_190 rfl (by decide) rfl rfl rfl (Nat.le_of_ble_eq_true rfl) hl hcs (dg D_X11_refusal (i := 8) rfl) (fun I12 L1 R1 H locs hq hW hS => ?_)
  obtain ⟨rfl, rfl, rfl⟩ := hq
  refine lv_aload_n hx hb (dg D_X11_refusal (i := 9) rfl) rfl (lv_at hl 0 rfl) ?_
  refine r_getr (v := q) X hW FI_X11_71 rfl (by decide) rfl hR8 (dg D_X11_refusal (i := 10) rfl) ?_
  refine lv_iload_n hx hb (dg D_X11_refusal (i := 11) rfl) rfl (lv_at hl 1 rfl) ?_
  refine lv_iload_n hx hb (dg D_X11_refusal (i := 12) rfl) rfl (lv_at hl 2 rfl) ?_
  refine lv_iload_n hx hb (dg D_X11_refusal (i := 13) rfl) rfl (lv_at hl 3 rfl) ?_
  refine callVi X hW hS hR (c_X6_reasonAgainst (I := I) σ β q u v w (by first | exact hi | assumption | omega | decide | exact hP.1) (by first | exact hβ | assumption | omega | decide | exact hP.1) (by first | exact hB | assumption | omega | decide | exact hP.1) (by first | exact hq | assumption | omega | decide | exact hP.1) (by first | exact hP | assumption | omega | decide | exact hP.1) (by first | exact hRb | assumption | omega | decide | exact hP.1) (by first | exact hy5 | assumption | omega | decide | exact hP.1) (by first | exact hx5 | assumption | omega | decide | exact hP.1) (by first | exact hg5 | assumption | omega | decide | exact hP.1) (by first | exact hd | assumption | omega | decide | exact hP.1)) (by decide) UVX6_reasonAgainst LK_X11_243 (shP hq) (ncP0 hq) rfl rfl rfl (Nat.le_of_ble_eq_true rfl) hl hcs (dg D_X11_refusal (i := 14) rfl) (fun r22 I22 L1 R1 H locs hq hW hS => ?_)
  obtain ⟨rfl, rfl, rfl, rfl⟩ := hq
  exact fin (dg D_X11_refusal (i := 15) rfl) hW hS ⟨rfl, rfl, rfl, rfl⟩

set_option maxHeartbeats 4000000 in
set_option maxRecDepth 100000 in
theorem v_X11_paint {l : Launch} {G : va_G} {bs : Nat} {cy : Nat → ClassId} {I : CI} {L : CL} {R : CR} (σ : Row) (β : Nat) (q : Nat) (k : Nat) (U : Nat → Row) (nw : Nat) (u : Nat) (v : Nat) (w : Nat) (hi : Inv σ) (hd : DR σ) (hβ : isBr β) (hB : BrAt I β σ) (hq : isPl q) (hP : PlAt I q σ) (hRb : R q 0 = β) (hR7 : R 0 7 = β) (hR8 : R 0 8 = q) (hH : HisN I k U nw) (hu9 : u < Yn σ) (hv9 : v < nS σ) (hw9 : w < nG σ) : MTi l G bs cy MX11_paint 4 [.ref (bs + 0), .int (nI u), .int (nI v), .int (nI w)] I L R (fun r I1 L1 R1 => paR σ (nI u) (nI v) (nI w) = r ∧ Fr (SEd β q) I I1 ∧ EdC I1 β q (paO σ (nI u) (nI v) (nI w)) σ k U nw ∧ L = L1 ∧ R = R1) := by
  refine MTi.of (own := RX11) pn_RX11 rfl (Nat.le_of_ble_eq_true rfl) ?_
  intro p e s m args below meth c Qf X hW hS fin ls hl
  have hx := X.1
  have hb := X.2.1
  have hR : RmOK (rmL 4 0 0) 4 := ⟨rfl, rfl⟩
  have hcs : 0 ≤ (rmL 4 0 0).cells ∧ 0 ≤ (rmL 4 0 0).slots := ⟨Nat.zero_le _, Nat.zero_le _⟩
  have hl : lv_has ls 4 [(0, .ref (bs + 0)), (1, .int (nI u)), (2, .int (nI v)), (3, .int (nI w))] := hl
  have hF : Fr (SEd β q) I I := Fr.rf
  obtain ⟨hY, hY1, hY12, hLn, hL4, hSn, hS12, hGn, hG5⟩ := id hi
  have hbq := br_pl hβ hq
  have hr2 : inB (nI u) (Yn σ) = true := inB_ok (fun z => nI_pos (by omega) z) (nI_lt hu9 (by omega)) (by omega)
  have hr7 : inB (nI v) (nS σ) = true := inB_ok (fun z => nI_pos (by omega) z) (nI_lt hv9 (by omega)) (by omega)
  have hr12 : inB (nI w) (nG σ) = true := inB_ok (fun z => nI_pos (by omega) z) (nI_lt hw9 (by omega)) (by omega)
  have tu := tN_nI (show u < 2 ^ 31 by omega)
  have tv := tN_nI (show v < 2 ^ 31 by omega)
  have tw := tN_nI (show w < 2 ^ 31 by omega)
  refine lv_aload_n hx hb (dg D_X11_paint (i := 0) rfl) rfl (lv_at hl 0 rfl) ?_
  refine lv_iload_n hx hb (dg D_X11_paint (i := 1) rfl) rfl (lv_at hl 1 rfl) ?_
  refine callVv X hW hS hR (v_X11_checkYear (I := I) σ β u (by first | exact hi | assumption | omega | decide | exact hP.1) (by first | exact hβ | assumption | omega | decide | exact hP.1) (by first | exact hB | assumption | omega | decide | exact hP.1) (by first | exact hR7 | assumption | omega | decide | exact hP.1) (by first | exact hv9 | assumption | omega | decide | exact hP.1)) (by decide) UVX11_checkYear LK_X11_134 rfl (by decide) rfl rfl rfl (Nat.le_of_ble_eq_true rfl) hl hcs (dg D_X11_paint (i := 2) rfl) (fun I2 L1 R1 H locs hq hW hS => ?_)
  obtain ⟨rfl, rfl, rfl⟩ := hq
  refine lv_aload_n hx hb (dg D_X11_paint (i := 3) rfl) rfl (lv_at hl 0 rfl) ?_
  refine lv_iload_n hx hb (dg D_X11_paint (i := 4) rfl) rfl (lv_at hl 2 rfl) ?_
  refine callVv X hW hS hR (v_X11_checkSpan (I := I) σ β v (by first | exact hi | assumption | omega | decide | exact hP.1) (by first | exact hβ | assumption | omega | decide | exact hP.1) (by first | exact hB | assumption | omega | decide | exact hP.1) (by first | exact hR7 | assumption | omega | decide | exact hP.1) (by first | exact hv9 | assumption | omega | decide | exact hP.1)) (by decide) UVX11_checkSpan LK_X11_131 rfl (by decide) rfl rfl rfl (Nat.le_of_ble_eq_true rfl) hl hcs (dg D_X11_paint (i := 5) rfl) (fun I7 L1 R1 H locs hq hW hS => ?_)
  obtain ⟨rfl, rfl, rfl⟩ := hq
  refine lv_aload_n hx hb (dg D_X11_paint (i := 6) rfl) rfl (lv_at hl 0 rfl) ?_
  refine lv_iload_n hx hb (dg D_X11_paint (i := 7) rfl) rfl (lv_at hl 3 rfl) ?_
  refine callVv X hW hS hR (v_X11_checkGang (I := I) σ β w (by first | exact hi | assumption | omega | decide | exact hP.1) (by first | exact hβ | assumption | omega | decide | exact hP.1) (by first | exact hB | assumption | omega | decide | exact hP.1) (by first | exact hR7 | assumption | omega | decide | exact hP.1) (by first | exact hv9 | assumption | omega | decide | exact hP.1)) (by decide) UVX11_checkGang LK_X11_190 rfl (by decide) rfl rfl rfl (Nat.le_of_ble_eq_true rfl) hl hcs (dg D_X11_paint (i := 8) rfl) (fun I12 L1 R1 H locs hq hW hS => ?_)
  obtain ⟨rfl, rfl, rfl⟩ := hq
  refine lv_aload_n hx hb (dg D_X11_paint (i := 9) rfl) rfl (lv_at hl 0 rfl) ?_
  refine r_getr (v := q) X hW FI_X11_71 rfl (by decide) rfl hR8 (dg D_X11_paint (i := 10) rfl) ?_
  refine lv_iload_n hx hb (dg D_X11_paint (i := 11) rfl) rfl (lv_at hl 1 rfl) ?_
  refine lv_iload_n hx hb (dg D_X11_paint (i := 12) rfl) rfl (lv_at hl 2 rfl) ?_
  refine lv_iload_n hx hb (dg D_X11_paint (i := 13) rfl) rfl (lv_at hl 3 rfl) ?_
  refine callVi X hW hS hR (c_X6_reasonAgainst (I := I) σ β q u v w (by first | exact hi | assumption | omega | decide | exact hP.1) (by first | exact hβ | assumption | omega | decide | exact hP.1) (by first | exact hB | assumption | omega | decide | exact hP.1) (by first | exact hq | assumption | omega | decide | exact hP.1) (by first | exact hP | assumption | omega | decide | exact hP.1) (by first | exact hRb | assumption | omega | decide | exact hP.1) (by first | exact hy5 | assumption | omega | decide | exact hP.1) (by first | exact hx5 | assumption | omega | decide | exact hP.1) (by first | exact hg5 | assumption | omega | decide | exact hP.1) (by first | exact hd | assumption | omega | decide | exact hP.1)) (by decide) UVX6_reasonAgainst LK_X11_243 (shP hq) (ncP0 hq) rfl rfl rfl (Nat.le_of_ble_eq_true rfl) hl hcs (dg D_X11_paint (i := 14) rfl) (fun r22 I22 L1 R1 H locs hq hW hS => ?_)
  obtain ⟨rfl, rfl, rfl, rfl⟩ := hq
  refine lv_if_eq (tgt := 31) hx hb (dg D_X11_paint (i := 15) rfl) (by decide) (fun c25 => ?_) (fun c25 => ?_)
  · refine lv_aload_n hx hb (dg D_X11_paint (i := 18) rfl) rfl (lv_at hl 0 rfl) ?_
    refine callVv X hW hS hR (c_X11_remember (I := I) σ β q k U nw (by first | exact hi | assumption | omega | decide | exact hP.1) (by first | exact hβ | assumption | omega | decide | exact hP.1) (by first | exact hB | assumption | omega | decide | exact hP.1) (by first | exact hq | assumption | omega | decide | exact hP.1) (by first | exact hP | assumption | omega | decide | exact hP.1) (by first | exact hR7 | assumption | omega | decide | exact hP.1) (by first | exact hR8 | assumption | omega | decide | exact hP.1) (by first | exact hH | assumption | omega | decide | exact hP.1)) (by decide) UVX11_remember LK_X11_254 rfl (by decide) rfl rfl rfl (Nat.le_of_ble_eq_true rfl) hl hcs (dg D_X11_paint (i := 19) rfl) (fun I32 L1 R1 H locs hq hW hS => ?_)
    obtain ⟨hT32, hp32_0, rfl, rfl⟩ := hq
    have hF : Fr (SEd β q) I I32 := Fr.tr hF hT32 (by intro a j h; simp only [SHk, SEd, Bool.or_eq_true, Bool.and_eq_true, beq_iff_eq, decide_eq_true_eq] at h ⊢; omega)
    have hB : BrAt I32 β σ := BrAt.fr hB hT32 (fun a j h1 h2 => Bool.eq_false_iff.mpr (fun h => by simp only [SHk, Bool.or_eq_true, Bool.and_eq_true, beq_iff_eq, decide_eq_true_eq] at h; omega))
    have hP : PlAt I32 q σ := PlAt.fr hP hT32 (fun a j h1 h2 => Bool.eq_false_iff.mpr (fun h => by simp only [SHk, Bool.or_eq_true, Bool.and_eq_true, beq_iff_eq, decide_eq_true_eq] at h; omega))
    have hH : HisN I32 (min 16 (k + 1)) (pushU σ U) ((nw + 1) % 16) := hp32_0
    refine lv_aload_n hx hb (dg D_X11_paint (i := 20) rfl) rfl (lv_at hl 0 rfl) ?_
    refine r_getr (v := q) X hW FI_X11_71 rfl (by decide) rfl hR8 (dg D_X11_paint (i := 21) rfl) ?_
    refine lv_iload_n hx hb (dg D_X11_paint (i := 22) rfl) rfl (lv_at hl 1 rfl) ?_
    refine lv_iload_n hx hb (dg D_X11_paint (i := 23) rfl) rfl (lv_at hl 2 rfl) ?_
    refine lv_iload_n hx hb (dg D_X11_paint (i := 24) rfl) rfl (lv_at hl 3 rfl) ?_
    refine callVv X hW hS hR (cP_X6_put (I := I32) σ β q u v (nI w) (by first | exact hi | assumption | omega | decide | exact hP.1) (by first | exact hβ | assumption | omega | decide | exact hP.1) (by first | exact hB | assumption | omega | decide | exact hP.1) (by first | exact hq | assumption | omega | decide | exact hP.1) (by first | exact hGa | assumption | omega | decide | exact hP.1) (by first | exact hRb | assumption | omega | decide | exact hP.1) (by first | exact hx5 | assumption | omega | decide | exact hP.1) (by first | exact hy5 | assumption | omega | decide | exact hP.1) (by first | exact hP | assumption | omega | decide | exact hP.1)) (by decide) UVX6_put LK_X11_257 (shP hq) (ncP0 hq) rfl rfl rfl (Nat.le_of_ble_eq_true rfl) hl hcs (dg D_X11_paint (i := 25) rfl) (fun I42 L1 R1 H locs hq hW hS => ?_)
    obtain ⟨hT42, hp42_0, rfl, rfl⟩ := hq
    have hF : Fr (SEd β q) I I42 := Fr.tr hF hT42 (by intro a j h; simp only [SPu, SEd, Bool.or_eq_true, Bool.and_eq_true, beq_iff_eq, decide_eq_true_eq] at h ⊢; omega)
    have hB : BrAt I42 β σ := BrAt.fr hB hT42 (fun a j h1 h2 => Bool.eq_false_iff.mpr (fun h => by simp only [SPu, Bool.or_eq_true, Bool.and_eq_true, beq_iff_eq, decide_eq_true_eq] at h; omega))
    have hP : PlAt I42 q (setP σ v u (nI w)) := hp42_0
    have hH : HisN I42 (min 16 (k + 1)) (pushU σ U) ((nw + 1) % 16) := HisN.frI hH hT42 (fun a j h1 h2 => Bool.eq_false_iff.mpr (fun h => by simp only [SPu, Bool.or_eq_true, Bool.and_eq_true, beq_iff_eq, decide_eq_true_eq] at h; omega))
    refine lv_aload_n hx hb (dg D_X11_paint (i := 26) rfl) rfl (lv_at hl 0 rfl) ?_
    refine r_getr (v := q) X hW FI_X11_71 rfl (by decide) rfl hR8 (dg D_X11_paint (i := 27) rfl) ?_
    refine callVi X hW hS hR (c_X6_countPast (I := I42) (setP σ v u (nI w)) β q (Inv_setP hi) (by first | exact hβ | assumption | omega | decide | exact hP.1) (BrAt_Sm hB Sm_setP hi) (by first | exact hq | assumption | omega | decide | exact hP.1) (by first | exact hP | assumption | omega | decide | exact hP.1) (by first | exact hRb | assumption | omega | decide | exact hP.1)) (by decide) UVX6_countPast LK_X11_151 (shP hq) (ncP0 hq) rfl rfl rfl (Nat.le_of_ble_eq_true rfl) hl hcs (dg D_X11_paint (i := 28) rfl) (fun r49 I49 L1 R1 H locs hq hW hS => ?_)
    obtain ⟨rfl, rfl, rfl, rfl⟩ := hq
    exact fin (dg D_X11_paint (i := 29) rfl) hW hS ⟨by unfold paR; rw [tu, tv, tw, if_pos c25], hF, EdC.ok (by unfold paO; rw [tu, tv, tw]; exact if_pos (And.intro (by simp [hr2, hr7, hr12]) c25)) (BrAt_Sm hB Sm_setP hi) hP hH, rfl, rfl⟩
  · refine r_ldc X CK_X11_253 (dg D_X11_paint (i := 16) rfl) ?_
    exact fin (dg D_X11_paint (i := 17) rfl) hW hS ⟨by unfold paR; rw [tu, tv, tw, if_neg c25], hF, EdC.no (by unfold paO; rw [tu, tv, tw]; exact if_neg (nAr c25)) hB hP hH, rfl, rfl⟩

set_option maxHeartbeats 1000000 in
set_option maxRecDepth 100000 in
theorem v_X11_load {l : Launch} {G : va_G} {bs : Nat} {cy : Nat → ClassId} {I : CI} {L : CL} {R : CR} (b : Nat → Int32) (ρ : Row) (m9 : Nat) (β : Nat) (γ : Nat) (q : Nat) (u : Nat) (jv : Nat) (hTx : TxAt I m9 b) (hT : TB b m9) (hm9 : m9 ≤ 900) (hγ : isBr γ) (hu : isPl u) (hR7 : R 0 7 = β) (hR8 : R 0 8 = q) (hR9 : R 0 9 = γ) (hR10 : R 0 10 = u) (hjv : jv < m9 + 1) : MTi l G bs cy MX11_load 7 [.ref (bs + 0), .int (nI jv)] I L R (fun r I1 L1 R1 => (r = if okP (prs b jv ρ) = true then nI (nS (rOf (prs b jv ρ))) else -1000006) ∧ Fr (SLo γ u) I I1 ∧ I1 0 11 = eKd (prs b jv ρ) ∧ I1 0 12 = ePo (prs b jv ρ) ∧ TxAt I1 0 b ∧ (okP (prs b jv ρ) = true → BrAt I1 γ (rOf (prs b jv ρ)) ∧ PlAt I1 u (rOf (prs b jv ρ)) ∧ I1 9 2 = nI 0 ∧ I1 9 1 = I 9 1 ∧ R1 = u2R (u2R (u2R (u2R (u2R (u2R (u2R R 61 2 γ) 61 3 u) u 0 γ) 0 8 u) 0 10 q) 0 7 γ) 0 9 β) ∧ (okP (prs b jv ρ) = false → (∀ a j, SLe γ u a j = false → I1 a j = I a j) ∧ R1 = u2R (u2R (u2R R 61 2 γ) 61 3 u) u 0 γ) ∧ FL SLq L L1) := by
  refine MTi.of (own := RX11) pn_RX11 rfl (Nat.le_of_ble_eq_true rfl) ?_
  intro p e s m args below meth c Qf X hW hS fin ls hl
  have hx := X.1
  have hb := X.2.1
  have hR : RmOK (rmL 7 0 0) 7 := ⟨rfl, rfl⟩
  have hcs : 0 ≤ (rmL 7 0 0).cells ∧ 0 ≤ (rmL 7 0 0).slots := ⟨Nat.zero_le _, Nat.zero_le _⟩
  have hl : lv_has ls 4 [(0, .ref (bs + 0)), (1, .int (nI jv))] := hl
  have hF : Fr (SLo γ u) I I := Fr.rf
  have hFL : FL SLq L L := FL.rf
  have hbu := br_pl hγ hu
  have hu4 : 53 ≤ u ∧ u ≤ 57 := by rcases hu with rfl | rfl <;> omega
  refine lv_iload_n hx hb (dg D_X11_load (i := 0) rfl) rfl (lv_at hl 1 rfl) ?_
  refine n_if_lt (tgt := 15) hx hb (by omega) (dg D_X11_load (i := 1) rfl) (by decide) (fun c1 => ?_) (fun c1 => ?_)
  · exact c1.elim
  · refine lv_iload_n hx hb (dg D_X11_load (i := 2) rfl) rfl (lv_at hl 1 rfl) ?_
    refine lv_aload_n hx hb (dg D_X11_load (i := 3) rfl) rfl (lv_at hl 0 rfl) ?_
    refine r_getc (t := 29) X hW FI_X11_63 rfl (by decide) rfl (dg D_X11_load (i := 4) rfl) ?_
    refine callVi X hW hS hR (c_X9_size (I := I) m9 b (by first | exact hT | assumption | omega | decide | exact hP.1)) (by decide) UVX9_size LK_X11_99 rfl (by decide) rfl rfl rfl (Nat.le_of_ble_eq_true rfl) hl hcs (dg D_X11_load (i := 5) rfl) (fun r9 I9 L1 R1 H locs hq hW hS => ?_)
    obtain ⟨rfl, rfl, rfl, rfl⟩ := hq
    refine n_icmp_le (tgt := 25) hx hb (by omega) (by omega) (dg D_X11_load (i := 6) rfl) (by decide) (fun c12 => ?_) (fun c12 => ?_)
    · refine lv_aload_n hx hb (dg D_X11_load (i := 12) rfl) rfl (lv_at hl 0 rfl) ?_
      refine r_getc (t := 61) X hW FI_X11_86 rfl (by decide) rfl (dg D_X11_load (i := 13) rfl) ?_
      refine lv_iload_n hx hb (dg D_X11_load (i := 14) rfl) rfl (lv_at hl 1 rfl) ?_
      refine lv_aload_n hx hb (dg D_X11_load (i := 15) rfl) rfl (lv_at hl 0 rfl) ?_
      refine r_getr (v := γ) X hW FI_X11_75 rfl (by decide) rfl (by (repeat (rw [u2R_off (by omega)])); exact hR9) (dg D_X11_load (i := 16) rfl) ?_
      refine lv_aload_n hx hb (dg D_X11_load (i := 17) rfl) rfl (lv_at hl 0 rfl) ?_
      refine r_getr (v := u) X hW FI_X11_78 rfl (by decide) rfl (by (repeat (rw [u2R_off (by omega)])); exact hR10) (dg D_X11_load (i := 18) rfl) ?_
      refine callVi X hW hS hR (c_X5_read (I := I) b jv ρ m9 γ u (fun z hz => hTx.2 z (by omega)) (fun i hi => hT i (by omega)) (by omega) (hTx.1) (hm9) (by omega) (hγ) (hu)) (by decide) UVX5_read LK_X11_110 rfl (by decide) rfl rfl rfl (Nat.le_of_ble_eq_true rfl) hl hcs (dg D_X11_load (i := 19) rfl) (fun r38 I38 Lc38 R1 H locs hq hW hS => ?_)
      obtain ⟨rfl, hT38, hp38_0, hp38_1, hp38_2, hL38, rfl⟩ := hq
      have hF : Fr (SLo γ u) I I38 := Fr.tr hF hT38 (fun _ _ h => SLo_s h)
      have hFL : FL SLq L Lc38 := FL.tr hFL hL38 (fun _ _ h => h)
      have hBP := hp38_2
      have hki := hp38_0
      have hpo := hp38_1
      refine lv_istore_n (lv' := [(2, .int (bI (okP (prs b jv ρ)))), (0, .ref (bs + 0)), (1, .int (nI jv))]) hx hb (dg D_X11_load (i := 20) rfl) rfl hl (by decide) rfl (fun ls hl => ?_)
      refine lv_aload_n hx hb (dg D_X11_load (i := 21) rfl) rfl (lv_at hl 1 rfl) ?_
      refine lv_aload_n hx hb (dg D_X11_load (i := 22) rfl) rfl (lv_at hl 1 rfl) ?_
      refine r_getc (t := 61) X hW FI_X11_86 rfl (by decide) rfl (dg D_X11_load (i := 23) rfl) ?_
      refine callVi X hW hS hR (c_X5_failureKind (I := I38) (eKd (prs b jv ρ)) (hki)) (by decide) UVX5_failureKind LK_X11_114 rfl (by decide) rfl rfl rfl (Nat.le_of_ble_eq_true rfl) hl hcs (dg D_X11_load (i := 24) rfl) (fun r47 I47 L1 R1 H locs hq hW hS => ?_)
      obtain ⟨rfl, rfl, rfl, rfl⟩ := hq
      refine r_puti (v := (eKd (prs b jv ρ))) (ty := .int) X hW hS FI_X11_44 rfl (by decide) rfl rfl (by decide +kernel) rfl rfl (dg D_X11_load (i := 25) rfl) (fun H locs hW hS => ?_)
      have hF : Fr (SLo γ u) I (u2 I38 0 11 ((eKd (prs b jv ρ)))) := Fr.put hF (SLo_0 (Or.inl rfl))
      have hBP : okP (prs b jv ρ) = true → BrAt (u2 I38 0 11 ((eKd (prs b jv ρ)))) γ (rOf (prs b jv ρ)) ∧ PlAt (u2 I38 0 11 ((eKd (prs b jv ρ)))) u (rOf (prs b jv ρ)) := fun z => ⟨BrAt.pu (hBP z).1 (by omega), PlAt.pu (hBP z).2 (by omega)⟩
      obtain ⟨J50, eJ50⟩ : ∃ J, J = u2 I38 0 11 ((eKd (prs b jv ρ))) := ⟨_, rfl⟩
      rw [← eJ50] at hW hF hBP
      have hki : J50 61 4 = eKd (prs b jv ρ) := by rw [eJ50, u2_off (Or.inl (by decide))]; exact hki
      have hpo : J50 61 5 = ePo (prs b jv ρ) := by rw [eJ50, u2_off (Or.inl (by decide))]; exact hpo
      have hek : J50 0 11 = (eKd (prs b jv ρ)) := by rw [eJ50]; exact u2_at
      refine lv_aload_n hx hb (dg D_X11_load (i := 26) rfl) rfl (lv_at hl 1 rfl) ?_
      refine lv_aload_n hx hb (dg D_X11_load (i := 27) rfl) rfl (lv_at hl 1 rfl) ?_
      refine r_getc (t := 61) X hW FI_X11_86 rfl (by decide) rfl (dg D_X11_load (i := 28) rfl) ?_
      refine callVi X hW hS hR (c_X5_failurePosition (I := J50) (ePo (prs b jv ρ)) (hpo)) (by decide) UVX5_failurePosition LK_X11_117 rfl (by decide) rfl rfl rfl (Nat.le_of_ble_eq_true rfl) hl hcs (dg D_X11_load (i := 29) rfl) (fun r58 I58 L1 R1 H locs hq hW hS => ?_)
      obtain ⟨rfl, rfl, rfl, rfl⟩ := hq
      refine r_puti (v := (ePo (prs b jv ρ))) (ty := .int) X hW hS FI_X11_49 rfl (by decide) rfl rfl (by decide +kernel) rfl rfl (dg D_X11_load (i := 30) rfl) (fun H locs hW hS => ?_)
      have hF : Fr (SLo γ u) I (u2 J50 0 12 ((ePo (prs b jv ρ)))) := Fr.put hF (SLo_0 (Or.inr rfl))
      have hBP : okP (prs b jv ρ) = true → BrAt (u2 J50 0 12 ((ePo (prs b jv ρ)))) γ (rOf (prs b jv ρ)) ∧ PlAt (u2 J50 0 12 ((ePo (prs b jv ρ)))) u (rOf (prs b jv ρ)) := fun z => ⟨BrAt.pu (hBP z).1 (by omega), PlAt.pu (hBP z).2 (by omega)⟩
      obtain ⟨J61, eJ61⟩ : ∃ J, J = u2 J50 0 12 ((ePo (prs b jv ρ))) := ⟨_, rfl⟩
      rw [← eJ61] at hW hF hBP
      have hki : J61 61 4 = eKd (prs b jv ρ) := by rw [eJ61, u2_off (Or.inl (by decide))]; exact hki
      have hpo : J61 61 5 = ePo (prs b jv ρ) := by rw [eJ61, u2_off (Or.inl (by decide))]; exact hpo
      have hek : J61 0 11 = (eKd (prs b jv ρ)) := by rw [eJ61, u2_off (Or.inr (by decide))]; exact hek
      have hep : J61 0 12 = (ePo (prs b jv ρ)) := by rw [eJ61]; exact u2_at
      refine lv_aload_n hx hb (dg D_X11_load (i := 31) rfl) rfl (lv_at hl 1 rfl) ?_
      refine r_getc (t := 29) X hW FI_X11_63 rfl (by decide) rfl (dg D_X11_load (i := 32) rfl) ?_
      refine callVv X hW hS hR (c_X9_clear (I := J61) b) (by decide) UVX9_clear LK_X11_120 rfl (by decide) rfl rfl rfl (Nat.le_of_ble_eq_true rfl) hl hcs (dg D_X11_load (i := 33) rfl) (fun I68 L1 R1 H locs hq hW hS => ?_)
      obtain ⟨hT68, hp68_0, rfl, rfl⟩ := hq
      have hF : Fr (SLo γ u) I I68 := Fr.tr hF hT68 (fun _ _ h => SLo_t h)
      have hBP : okP (prs b jv ρ) = true → BrAt I68 γ (rOf (prs b jv ρ)) ∧ PlAt I68 u (rOf (prs b jv ρ)) := fun z => ⟨BrAt.fr (hBP z).1 hT68 (fun a j h1 h2 => Bool.eq_false_iff.mpr (fun h => by simp only [STx, Bool.or_eq_true, Bool.and_eq_true, beq_iff_eq, decide_eq_true_eq] at h; omega)), PlAt.fr (hBP z).2 hT68 (fun a j h1 h2 => Bool.eq_false_iff.mpr (fun h => by simp only [STx, Bool.or_eq_true, Bool.and_eq_true, beq_iff_eq, decide_eq_true_eq] at h; omega))⟩
      have hki : I68 61 4 = eKd (prs b jv ρ) := (hT68 61 4 rfl).trans hki
      have hpo : I68 61 5 = ePo (prs b jv ρ) := (hT68 61 5 rfl).trans hpo
      have hek : I68 0 11 = (eKd (prs b jv ρ)) := (hT68 0 11 rfl).trans hek
      have hep : I68 0 12 = (ePo (prs b jv ρ)) := (hT68 0 12 rfl).trans hep
      have hTx0 := hp68_0
      refine lv_iload_n hx hb (dg D_X11_load (i := 34) rfl) rfl (lv_at hl 0 rfl) ?_
      refine z_if_ne (tgt := 78) hx hb (dg D_X11_load (i := 35) rfl) (by decide) (fun c72 => ?_) (fun c72 => ?_)
      · obtain ⟨hBγ, hPu⟩ := hBP c72
        refine lv_aload_n hx hb (dg D_X11_load (i := 38) rfl) rfl (lv_at hl 1 rfl) ?_
        refine callVv X hW hS hR (c_X11_takeDraft (I := I68) q u (by (repeat (rw [u2R_off (by omega)])); exact hR8) (by (repeat (rw [u2R_off (by omega)])); exact hR10)) (by decide) UVX11_takeDraft LK_X11_124 rfl (by decide) rfl rfl rfl (Nat.le_of_ble_eq_true rfl) hl hcs (dg D_X11_load (i := 39) rfl) (fun I79 L1 R1 H locs hq hW hS => ?_)
        obtain ⟨rfl, rfl, rfl⟩ := hq
        refine lv_aload_n hx hb (dg D_X11_load (i := 40) rfl) rfl (lv_at hl 1 rfl) ?_
        refine r_getr (v := β) X hW FI_X11_67 rfl (by decide) rfl (by (repeat (rw [u2R_off (by omega)])); exact hR7) (dg D_X11_load (i := 41) rfl) ?_
        refine lv_astore_n (lv' := [(3, .ref (bs + β)), (2, .int (bI (okP (prs b jv ρ)))), (0, .ref (bs + 0)), (1, .int (nI jv))]) hx hb (dg D_X11_load (i := 42) rfl) rfl hl (by decide) rfl (fun ls hl => ?_)
        refine lv_aload_n hx hb (dg D_X11_load (i := 43) rfl) rfl (lv_at hl 2 rfl) ?_
        refine lv_aload_n hx hb (dg D_X11_load (i := 44) rfl) rfl (lv_at hl 2 rfl) ?_
        refine r_getr (v := γ) X hW FI_X11_75 rfl (by decide) rfl (by (repeat (rw [u2R_off (by omega)])); exact hR9) (dg D_X11_load (i := 45) rfl) ?_
        refine r_putr (v := γ) (C := "SpanPainter$Bridge") X hW hS FI_X11_67 rfl (by decide) rfl rfl (by decide +kernel) (dg D_X11_load (i := 46) rfl) (fun H locs hW hS => ?_)
        refine lv_aload_n hx hb (dg D_X11_load (i := 47) rfl) rfl (lv_at hl 2 rfl) ?_
        refine lv_aload_n hx hb (dg D_X11_load (i := 48) rfl) rfl (lv_at hl 0 rfl) ?_
        refine r_putr (v := β) (C := "SpanPainter$Bridge") X hW hS FI_X11_75 rfl (by decide) rfl rfl (by decide +kernel) (dg D_X11_load (i := 49) rfl) (fun H locs hW hS => ?_)
        refine lv_aload_n hx hb (dg D_X11_load (i := 50) rfl) rfl (lv_at hl 2 rfl) ?_
        refine r_getc (t := 9) X hW FI_X11_33 rfl (by decide) rfl (dg D_X11_load (i := 51) rfl) ?_
        refine callVv X hW hS hR (c_X2_clear (I := I68) ) (by decide) UVX2_clear LK_X11_127 rfl (by decide) rfl rfl rfl (Nat.le_of_ble_eq_true rfl) hl hcs (dg D_X11_load (i := 52) rfl) (fun I104 L1 R1 H locs hq hW hS => ?_)
        obtain ⟨hT104, hp104_0, hp104_1, rfl, rfl⟩ := hq
        have hF : Fr (SLo γ u) I I104 := Fr.tr hF hT104 (fun _ _ h => SLo_h h)
        have hTx0 : TxAt I104 0 b := TxAt.frI hTx0 hT104 (fun a j h1 h2 => Bool.eq_false_iff.mpr (fun h => by simp only [SHk, Bool.or_eq_true, Bool.and_eq_true, beq_iff_eq, decide_eq_true_eq] at h; omega))
        have hBγ : BrAt I104 γ (rOf (prs b jv ρ)) := BrAt.fr hBγ hT104 (fun a j h1 h2 => Bool.eq_false_iff.mpr (fun h => by simp only [SHk, Bool.or_eq_true, Bool.and_eq_true, beq_iff_eq, decide_eq_true_eq] at h; omega))
        have hPu : PlAt I104 u (rOf (prs b jv ρ)) := PlAt.fr hPu hT104 (fun a j h1 h2 => Bool.eq_false_iff.mpr (fun h => by simp only [SHk, Bool.or_eq_true, Bool.and_eq_true, beq_iff_eq, decide_eq_true_eq] at h; omega))
        have hki : I104 61 4 = eKd (prs b jv ρ) := (hT104 61 4 rfl).trans hki
        have hpo : I104 61 5 = ePo (prs b jv ρ) := (hT104 61 5 rfl).trans hpo
        have hek : I104 0 11 = (eKd (prs b jv ρ)) := (hT104 0 11 rfl).trans hek
        have hep : I104 0 12 = (ePo (prs b jv ρ)) := (hT104 0 12 rfl).trans hep
        have h92 := hp104_0
        have h91 : I104 9 1 = I 9 1 := by rw [hp104_1, hT68 _ _ rfl, eJ61, u2_off (Or.inl (by decide)), eJ50, u2_off (Or.inl (by decide))]; exact hT38 _ _ (Bool.eq_false_iff.mpr (fun h => by simp only [SRD, Bool.or_eq_true, decide_eq_true_eq] at h; omega))
        refine lv_aload_n hx hb (dg D_X11_load (i := 53) rfl) rfl (lv_at hl 2 rfl) ?_
        refine r_getr (v := γ) X hW FI_X11_67 rfl (by decide) rfl (by rw [u2R_off (Or.inr (by decide)), u2R_at]) (dg D_X11_load (i := 54) rfl) ?_
        refine rn_geti (v := nI (nS (rOf (prs b jv ρ)))) X hW FN_X11_128 (shB hγ) (ncB0 hγ) rfl (hBγ.c4 (prs_ok c72).1) (dg D_X11_load (i := 55) rfl) ?_
        exact fin (dg D_X11_load (i := 56) rfl) hW hS ⟨by rw [if_pos c72], hF, hek, hep, hTx0, fun _ => ⟨hBγ, hPu, h92, h91, rfl⟩, (fun z => by cases (c72.symm.trans z)), hFL⟩
      · refine r_ldc X CK_X11_123 (dg D_X11_load (i := 36) rfl) ?_
        exact fin (dg D_X11_load (i := 37) rfl) hW hS ⟨by rw [if_neg (by rw [c72]; decide)], hF, hek, hep, hTx0, (fun z => by cases (c72.symm.trans z)), fun z => ⟨fun a j h => by obtain ⟨h1, h2, h3, h4⟩ := SLe_of h; exact (hT68 a j h4).trans (by rw [eJ61, u2_off h3, eJ50, u2_off h2]; exact hT38 a j h1), rfl⟩, hFL⟩
    · exact absurd c12 (by omega)

