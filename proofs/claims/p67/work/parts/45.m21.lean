set_option maxHeartbeats 4000000 in
set_option maxRecDepth 100000 in
theorem c_X6_painter {l : Launch} {G : va_G} {bs : Nat} {cy : Nat → ClassId} {I : CI} {L : CL} {R : CR} (σ : Row) (q : Nat) (y : Nat) (x : Nat) (hq : isPl q) (hGa : GaAt I q σ) (hy5 : y < 12) (hx5 : x < 12) : MTi l G bs cy MX6_painter 1 [.ref (bs + q), .int (nI y), .int (nI x)] I L R (fun r I1 L1 R1 => pnt σ x y = r ∧ I = I1 ∧ L = L1 ∧ R = R1) := by
  refine MTi.of (own := RX6) pn_RX6 rfl (Nat.le_of_ble_eq_true rfl) ?_
  intro p e s m args below meth c Qf X hW hS fin ls hl
  have hx := X.1
  have hb := X.2.1
  have hR : RmOK (rmL 1 0 0) 1 := ⟨rfl, rfl⟩
  have hcs : 0 ≤ (rmL 1 0 0).cells ∧ 0 ≤ (rmL 1 0 0).slots := ⟨Nat.zero_le _, Nat.zero_le _⟩
  have hl : lv_has ls 3 [(0, .ref (bs + q)), (1, .int (nI y)), (2, .int (nI x))] := hl
  refine lv_aload_n hx hb (dg D_X6_painter (i := 0) rfl) rfl (lv_at hl 0 rfl) ?_
  refine r_getc (t := q + 1) X hW FI_X6_11 (shP hq) (ncP0 hq) rfl (dg D_X6_painter (i := 1) rfl) ?_
  refine lv_iload_n hx hb (dg D_X6_painter (i := 2) rfl) rfl (lv_at hl 1 rfl) ?_
  refine lv_bipush (v := nI 12) hx hb (dg D_X6_painter (i := 3) rfl) (by decide) ?_
  refine n_imul hx hb (dg D_X6_painter (i := 4) rfl) ?_
  refine lv_iload_n hx hb (dg D_X6_painter (i := 5) rfl) rfl (lv_at hl 2 rfl) ?_
  refine n_iadd hx hb (dg D_X6_painter (i := 6) rfl) ?_
  refine r_ald (j := (y * 12) + x) (v := pnt σ x y) X hW (shP1 hq) (ncP hq (by decide)) rfl (by omega) (by omega) (hGa _ _ (by omega) (by omega)) (dg D_X6_painter (i := 7) rfl) ?_
  exact fin (dg D_X6_painter (i := 8) rfl) hW hS ⟨rfl, rfl, rfl, rfl⟩

set_option maxHeartbeats 4000000 in
set_option maxRecDepth 100000 in
theorem c_X6_isPainted {l : Launch} {G : va_G} {bs : Nat} {cy : Nat → ClassId} {I : CI} {L : CL} {R : CR} (σ : Row) (q : Nat) (y : Nat) (x : Nat) (hq : isPl q) (hGa : GaAt I q σ) (hy5 : y < 12) (hx5 : x < 12) : MTi l G bs cy MX6_isPainted 1 [.ref (bs + q), .int (nI y), .int (nI x)] I L R (fun r I1 L1 R1 => bI (ptd σ x y) = r ∧ I = I1 ∧ L = L1 ∧ R = R1) := by
  refine MTz.of (own := RX6) pn_RX6 rfl (Nat.le_of_ble_eq_true rfl) ?_
  intro p e s m args below meth c Qf X hW hS fin ls hl
  have hx := X.1
  have hb := X.2.1
  have hR : RmOK (rmL 1 0 0) 1 := ⟨rfl, rfl⟩
  have hcs : 0 ≤ (rmL 1 0 0).cells ∧ 0 ≤ (rmL 1 0 0).slots := ⟨Nat.zero_le _, Nat.zero_le _⟩
  have hl : lv_has ls 3 [(0, .ref (bs + q)), (1, .int (nI y)), (2, .int (nI x))] := hl
  refine lv_aload_n hx hb (dg D_X6_isPainted (i := 0) rfl) rfl (lv_at hl 0 rfl) ?_
  refine r_getc (t := q + 1) X hW FI_X6_11 (shP hq) (ncP0 hq) rfl (dg D_X6_isPainted (i := 1) rfl) ?_
  refine lv_iload_n hx hb (dg D_X6_isPainted (i := 2) rfl) rfl (lv_at hl 1 rfl) ?_
  refine lv_bipush (v := nI 12) hx hb (dg D_X6_isPainted (i := 3) rfl) (by decide) ?_
  refine n_imul hx hb (dg D_X6_isPainted (i := 4) rfl) ?_
  refine lv_iload_n hx hb (dg D_X6_isPainted (i := 5) rfl) rfl (lv_at hl 2 rfl) ?_
  refine n_iadd hx hb (dg D_X6_isPainted (i := 6) rfl) ?_
  refine r_ald (j := (y * 12) + x) (v := pnt σ x y) X hW (shP1 hq) (ncP hq (by decide)) rfl (by omega) (by omega) (hGa _ _ (by omega) (by omega)) (dg D_X6_isPainted (i := 7) rfl) ?_
  refine lv_iconst (v := -1) hx hb (dg D_X6_isPainted (i := 8) rfl) (by decide) ?_
  refine lv_icmp_eq (tgt := 19) hx hb (dg D_X6_isPainted (i := 9) rfl) (by decide) (fun c12 => ?_) (fun c12 => ?_)
  · refine n_iconst (a := 0) hx hb (dg D_X6_isPainted (i := 12) rfl) rfl ?_
    exact fin (dg D_X6_isPainted (i := 13) rfl) hW hS (show _ = bI false from rfl) ⟨(congrArg bI (decide_eq_false (fun z => z c12))), rfl, rfl, rfl⟩
  · refine n_iconst (a := 1) hx hb (dg D_X6_isPainted (i := 10) rfl) rfl ?_
    refine lv_goto (tgt := 20) hx hb (dg D_X6_isPainted (i := 11) rfl) (by decide) ?_
    exact fin (dg D_X6_isPainted (i := 13) rfl) hW hS (show _ = bI true from rfl) ⟨(congrArg bI (decide_eq_true c12)), rfl, rfl, rfl⟩

set_option maxHeartbeats 4000000 in
set_option maxRecDepth 100000 in
theorem c_X6_rustAtStart {l : Launch} {G : va_G} {bs : Nat} {cy : Nat → ClassId} {I : CI} {L : CL} {R : CR} (σ : Row) (q : Nat) (x : Nat) (y : Nat) (hq : isPl q) (hP : PlAt I q σ) (hi : Inv σ) (hx5 : x < nS σ) (hy5 : y < Yn σ) : MTi l G bs cy MX6_rustAtStart 1 [.ref (bs + q), .int (nI x), .int (nI y)] I L R (fun r I1 L1 R1 => (rgS σ x y).1 = r ∧ I = I1 ∧ L = L1 ∧ R = R1) := by
  refine MTi.of (own := RX6) pn_RX6 rfl (Nat.le_of_ble_eq_true rfl) ?_
  intro p e s m args below meth c Qf X hW hS fin ls hl
  have hx := X.1
  have hb := X.2.1
  have hR : RmOK (rmL 1 0 0) 1 := ⟨rfl, rfl⟩
  have hcs : 0 ≤ (rmL 1 0 0).cells ∧ 0 ≤ (rmL 1 0 0).slots := ⟨Nat.zero_le _, Nat.zero_le _⟩
  have hl : lv_has ls 3 [(0, .ref (bs + q)), (1, .int (nI x)), (2, .int (nI y))] := hl
  obtain ⟨hY, hY1, hY12, hLn, hL4, hSn, hS12, hGn, hG5⟩ := id hi
  refine lv_aload_n hx hb (dg D_X6_rustAtStart (i := 0) rfl) rfl (lv_at hl 0 rfl) ?_
  refine r_getc (t := q + 2) X hW FI_X6_15 (shP hq) (ncP0 hq) rfl (dg D_X6_rustAtStart (i := 1) rfl) ?_
  refine lv_iload_n hx hb (dg D_X6_rustAtStart (i := 2) rfl) rfl (lv_at hl 1 rfl) ?_
  refine lv_bipush (v := nI 13) hx hb (dg D_X6_rustAtStart (i := 3) rfl) (by decide) ?_
  refine n_imul hx hb (dg D_X6_rustAtStart (i := 4) rfl) ?_
  refine lv_iload_n hx hb (dg D_X6_rustAtStart (i := 5) rfl) rfl (lv_at hl 2 rfl) ?_
  refine n_iadd hx hb (dg D_X6_rustAtStart (i := 6) rfl) ?_
  refine r_ald (j := (x * 13) + y) (v := (rgS σ x y).1) X hW (shP2 hq) (ncP hq (by decide)) rfl (by omega) (by omega) (hP.2.1 x y (by omega) (by omega)) (dg D_X6_rustAtStart (i := 7) rfl) ?_
  exact fin (dg D_X6_rustAtStart (i := 8) rfl) hW hS ⟨rfl, rfl, rfl, rfl⟩

set_option maxHeartbeats 4000000 in
set_option maxRecDepth 100000 in
theorem c_X6_rustAtEnd {l : Launch} {G : va_G} {bs : Nat} {cy : Nat → ClassId} {I : CI} {L : CL} {R : CR} (σ : Row) (q : Nat) (x : Nat) (y : Nat) (hq : isPl q) (hP : PlAt I q σ) (hi : Inv σ) (hx5 : x < nS σ) (hy5 : y < Yn σ) : MTi l G bs cy MX6_rustAtEnd 1 [.ref (bs + q), .int (nI x), .int (nI y)] I L R (fun r I1 L1 R1 => (rgS σ x (y + 1)).1 = r ∧ I = I1 ∧ L = L1 ∧ R = R1) := by
  refine MTi.of (own := RX6) pn_RX6 rfl (Nat.le_of_ble_eq_true rfl) ?_
  intro p e s m args below meth c Qf X hW hS fin ls hl
  have hx := X.1
  have hb := X.2.1
  have hR : RmOK (rmL 1 0 0) 1 := ⟨rfl, rfl⟩
  have hcs : 0 ≤ (rmL 1 0 0).cells ∧ 0 ≤ (rmL 1 0 0).slots := ⟨Nat.zero_le _, Nat.zero_le _⟩
  have hl : lv_has ls 3 [(0, .ref (bs + q)), (1, .int (nI x)), (2, .int (nI y))] := hl
  obtain ⟨hY, hY1, hY12, hLn, hL4, hSn, hS12, hGn, hG5⟩ := id hi
  refine lv_aload_n hx hb (dg D_X6_rustAtEnd (i := 0) rfl) rfl (lv_at hl 0 rfl) ?_
  refine r_getc (t := q + 2) X hW FI_X6_15 (shP hq) (ncP0 hq) rfl (dg D_X6_rustAtEnd (i := 1) rfl) ?_
  refine lv_iload_n hx hb (dg D_X6_rustAtEnd (i := 2) rfl) rfl (lv_at hl 1 rfl) ?_
  refine lv_bipush (v := nI 13) hx hb (dg D_X6_rustAtEnd (i := 3) rfl) (by decide) ?_
  refine n_imul hx hb (dg D_X6_rustAtEnd (i := 4) rfl) ?_
  refine lv_iload_n hx hb (dg D_X6_rustAtEnd (i := 5) rfl) rfl (lv_at hl 2 rfl) ?_
  refine n_iadd hx hb (dg D_X6_rustAtEnd (i := 6) rfl) ?_
  refine n_iconst (a := 1) hx hb (dg D_X6_rustAtEnd (i := 7) rfl) rfl ?_
  refine n_iadd hx hb (dg D_X6_rustAtEnd (i := 8) rfl) ?_
  refine r_ald (j := ((x * 13) + y) + 1) (v := (rgS σ x (y + 1)).1) X hW (shP2 hq) (ncP hq (by decide)) rfl (by omega) (by omega) (hP.2.1 x (y + 1) (by omega) (by omega)) (dg D_X6_rustAtEnd (i := 9) rfl) ?_
  exact fin (dg D_X6_rustAtEnd (i := 10) rfl) hW hS ⟨rfl, rfl, rfl, rfl⟩

set_option maxHeartbeats 4000000 in
set_option maxRecDepth 100000 in
theorem c_X6_guardAtStart {l : Launch} {G : va_G} {bs : Nat} {cy : Nat → ClassId} {I : CI} {L : CL} {R : CR} (σ : Row) (q : Nat) (x : Nat) (y : Nat) (hq : isPl q) (hP : PlAt I q σ) (hi : Inv σ) (hx5 : x < nS σ) (hy5 : y < Yn σ) : MTi l G bs cy MX6_guardAtStart 1 [.ref (bs + q), .int (nI x), .int (nI y)] I L R (fun r I1 L1 R1 => (rgS σ x y).2 = r ∧ I = I1 ∧ L = L1 ∧ R = R1) := by
  refine MTi.of (own := RX6) pn_RX6 rfl (Nat.le_of_ble_eq_true rfl) ?_
  intro p e s m args below meth c Qf X hW hS fin ls hl
  have hx := X.1
  have hb := X.2.1
  have hR : RmOK (rmL 1 0 0) 1 := ⟨rfl, rfl⟩
  have hcs : 0 ≤ (rmL 1 0 0).cells ∧ 0 ≤ (rmL 1 0 0).slots := ⟨Nat.zero_le _, Nat.zero_le _⟩
  have hl : lv_has ls 3 [(0, .ref (bs + q)), (1, .int (nI x)), (2, .int (nI y))] := hl
  obtain ⟨hY, hY1, hY12, hLn, hL4, hSn, hS12, hGn, hG5⟩ := id hi
  refine lv_aload_n hx hb (dg D_X6_guardAtStart (i := 0) rfl) rfl (lv_at hl 0 rfl) ?_
  refine r_getc (t := q + 3) X hW FI_X6_18 (shP hq) (ncP0 hq) rfl (dg D_X6_guardAtStart (i := 1) rfl) ?_
  refine lv_iload_n hx hb (dg D_X6_guardAtStart (i := 2) rfl) rfl (lv_at hl 1 rfl) ?_
  refine lv_bipush (v := nI 13) hx hb (dg D_X6_guardAtStart (i := 3) rfl) (by decide) ?_
  refine n_imul hx hb (dg D_X6_guardAtStart (i := 4) rfl) ?_
  refine lv_iload_n hx hb (dg D_X6_guardAtStart (i := 5) rfl) rfl (lv_at hl 2 rfl) ?_
  refine n_iadd hx hb (dg D_X6_guardAtStart (i := 6) rfl) ?_
  refine r_ald (j := (x * 13) + y) (v := (rgS σ x y).2) X hW (shP3 hq) (ncP hq (by decide)) rfl (by omega) (by omega) (hP.2.2 x y (by omega) (by omega)) (dg D_X6_guardAtStart (i := 7) rfl) ?_
  exact fin (dg D_X6_guardAtStart (i := 8) rfl) hW hS ⟨rfl, rfl, rfl, rfl⟩

