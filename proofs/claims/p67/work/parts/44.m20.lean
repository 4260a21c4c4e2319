set_option maxHeartbeats 4000000 in
set_option maxRecDepth 100000 in
theorem c_X1_isClosed {l : Launch} {G : va_G} {bs : Nat} {cy : Nat → ClassId} {I : CI} {L : CL} {R : CR} (σ : Row) (β : Nat) (l9 : Nat) (y : Nat) (hβ : isBr β) (hB : BrAt I β σ) (hl9 : l9 < 32) (hy5 : y < 12) : MTi l G bs cy MX1_isClosed 1 [.ref (bs + β), .int (nI l9), .int (nI y)] I L R (fun r I1 L1 R1 => bI (bitB (σ (92 + y)) l9) = r ∧ I = I1 ∧ L = L1 ∧ R = R1) := by
  refine MTz.of (own := RX1) pn_RX1 rfl (Nat.le_of_ble_eq_true rfl) ?_
  intro p e s m args below meth c Qf X hW hS fin ls hl
  have hx := X.1
  have hb := X.2.1
  have hR : RmOK (rmL 1 0 0) 1 := ⟨rfl, rfl⟩
  have hcs : 0 ≤ (rmL 1 0 0).cells ∧ 0 ≤ (rmL 1 0 0).slots := ⟨Nat.zero_le _, Nat.zero_le _⟩
  have hl : lv_has ls 3 [(0, .ref (bs + β)), (1, .int (nI l9)), (2, .int (nI y))] := hl
  refine lv_aload_n hx hb (dg D_X1_isClosed (i := 0) rfl) rfl (lv_at hl 0 rfl) ?_
  refine r_getc (t := β + 10) X hW FI_X1_39 (shB hβ) (ncB0 hβ) rfl (dg D_X1_isClosed (i := 1) rfl) ?_
  refine lv_iload_n hx hb (dg D_X1_isClosed (i := 2) rfl) rfl (lv_at hl 2 rfl) ?_
  refine r_ald (j := y) (v := σ (92 + y)) X hW (shB10 hβ) (ncB hβ (by decide)) rfl (by omega) (by omega) (hB.cl (by omega)) (dg D_X1_isClosed (i := 3) rfl) ?_
  refine lv_iload_n hx hb (dg D_X1_isClosed (i := 4) rfl) rfl (lv_at hl 1 rfl) ?_
  refine lv_ishr hx hb (dg D_X1_isClosed (i := 5) rfl) ?_
  refine n_iconst (a := 1) hx hb (dg D_X1_isClosed (i := 6) rfl) rfl ?_
  refine lv_iand hx hb (dg D_X1_isClosed (i := 7) rfl) ?_
  refine lv_if_eq (tgt := 17) hx hb (dg D_X1_isClosed (i := 8) rfl) (by decide) (fun c10 => ?_) (fun c10 => ?_)
  · refine n_iconst (a := 0) hx hb (dg D_X1_isClosed (i := 11) rfl) rfl ?_
    exact fin (dg D_X1_isClosed (i := 12) rfl) hW hS (show _ = bI false from rfl) ⟨by rw [(bit_eq0 hl9).mp c10], rfl, rfl, rfl⟩
  · refine n_iconst (a := 1) hx hb (dg D_X1_isClosed (i := 9) rfl) rfl ?_
    refine lv_goto (tgt := 18) hx hb (dg D_X1_isClosed (i := 10) rfl) (by decide) ?_
    exact fin (dg D_X1_isClosed (i := 12) rfl) hW hS (show _ = bI true from rfl) ⟨by rw [(Bool.eq_false_or_eq_true _).resolve_right (fun z => c10 ((bit_eq0 hl9).mpr z))], rfl, rfl, rfl⟩

set_option maxHeartbeats 4000000 in
set_option maxRecDepth 100000 in
theorem c_X1_gangCapacity {l : Launch} {G : va_G} {bs : Nat} {cy : Nat → ClassId} {I : CI} {L : CL} {R : CR} (σ : Row) (β : Nat) (g : Nat) (y : Nat) (hβ : isBr β) (hB : BrAt I β σ) (hg5 : g < nG σ) (hG5 : nG σ ≤ 5) (hy5 : y < 12) : MTi l G bs cy MX1_gangCapacity 1 [.ref (bs + β), .int (nI g), .int (nI y)] I L R (fun r I1 L1 R1 => cap σ g y = r ∧ I = I1 ∧ L = L1 ∧ R = R1) := by
  refine MTi.of (own := RX1) pn_RX1 rfl (Nat.le_of_ble_eq_true rfl) ?_
  intro p e s m args below meth c Qf X hW hS fin ls hl
  have hx := X.1
  have hb := X.2.1
  have hR : RmOK (rmL 1 0 0) 1 := ⟨rfl, rfl⟩
  have hcs : 0 ≤ (rmL 1 0 0).cells ∧ 0 ≤ (rmL 1 0 0).slots := ⟨Nat.zero_le _, Nat.zero_le _⟩
  have hl : lv_has ls 3 [(0, .ref (bs + β)), (1, .int (nI g)), (2, .int (nI y))] := hl
  refine lv_aload_n hx hb (dg D_X1_gangCapacity (i := 0) rfl) rfl (lv_at hl 0 rfl) ?_
  refine r_getc (t := β + 7) X hW FI_X1_30 (shB hβ) (ncB0 hβ) rfl (dg D_X1_gangCapacity (i := 1) rfl) ?_
  refine lv_iload_n hx hb (dg D_X1_gangCapacity (i := 2) rfl) rfl (lv_at hl 1 rfl) ?_
  refine r_ald (j := g) (v := σ (70 + 2 * g + 0)) X hW (shB7 hβ) (ncB hβ (by decide)) rfl (by omega) (by omega) (hB.sp (by omega)) (dg D_X1_gangCapacity (i := 3) rfl) ?_
  refine lv_aload_n hx hb (dg D_X1_gangCapacity (i := 4) rfl) rfl (lv_at hl 0 rfl) ?_
  refine r_getc (t := β + 9) X hW FI_X1_36 (shB hβ) (ncB0 hβ) rfl (dg D_X1_gangCapacity (i := 5) rfl) ?_
  refine lv_iload_n hx hb (dg D_X1_gangCapacity (i := 6) rfl) rfl (lv_at hl 2 rfl) ?_
  refine r_ald (j := y) (v := σ (80 + y)) X hW (shB9 hβ) (ncB hβ (by decide)) rfl (by omega) (by omega) (hB.da (by omega)) (dg D_X1_gangCapacity (i := 7) rfl) ?_
  refine lv_imul hx hb (dg D_X1_gangCapacity (i := 8) rfl) ?_
  exact fin (dg D_X1_gangCapacity (i := 9) rfl) hW hS ⟨rfl, rfl, rfl, rfl⟩

