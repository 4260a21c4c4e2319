set_option maxHeartbeats 4000000 in
set_option maxRecDepth 100000 in
theorem c_X1_isClosed {l : Launch} {G : va_G} {bs : Nat} {cy : Nat → ClassId} {I : CI} {L : CL} {R : CR} (σ : Row) (β : Nat) (l9 : Nat) (y : Nat) (hβ : isBr β) (hB : BrAt I β σ) (hl9 : l9 < 32) (hy5 : y < 12) : MTi l G bs cy MX1_isClosed 1 [.ref (bs + β), .int (nI l9), .int (nI y)] I L R (fun r I1 L1 R1 => bI (bitB (σ (92 + y)) l9) = r ∧ I = I1 ∧ L = L1 ∧ R = R1) := by
  refine MTz.of (own := RX1) pn_RX1 rfl (Nat.le_of_ble_eq_true rfl) ?_
  intro p e s m args below meth c Qf X hW hS fin ls hl
  have hx := X.1
  have hb := X.2.1
  have hR : RmOK (rmL 1 0 0) 1 := ⟨rfl, rfl⟩
  have hcs : 0 ≤ (rmL 1 0 0).cells ∧ 0 ≤ (rmL 1 0 0).slots := ⟨Nat.zero_le _, Nat.zero_le _⟩
  have hl : lv_has ls 3 [(0, .ref (bs + β)), (1, .int (nI l9)), (2, .int (nI y))] := hl
  refine lv_aload_n hx hb (dg D_X1_isClosed (i := 0) rfl) rfl (lv_at hl 0 rfl) ?_
  refine r_getc (t := β + 10) X hW FI_X1_39 (shB hβ) (ncB0 hβ) rfl (dg D_X1_isClosed (i := 1) rfl) ?_
  refine lv_iload_n hx hb (dg D_X1_isClosed (i := 2) rfl) rfl (lv_at hl 2 rfl) ?_
  refine r_ald (j := y) (v := σ (92 + y)) X hW (shB10 hβ) (ncB hβ (by decide)) rfl (by omega) (by omega) (hB.cl (by omega)) (dg D_X1_isClosed (i := 3) rfl) ?_
  refine lv_iload_n hx hb (dg D_X1_isClosed (i := 4) rfl) rfl (lv_at hl 1 rfl) ?_
  refine lv_ishr hx hb (dg D_X1_isClosed (i := 5) rfl) ?_
  refine n_iconst (a := 1) hx hb (dg D_X1_isClosed (i := 6) rfl) rfl ?_
  refine lv_iand hx hb (dg D_X1_isClosed (i := 7) rfl) ?_
  refine lv_if_eq (tgt := 17) hx hb (dg D_X1_isClosed (i := 8) rfl) (by decide) (fun c10 => ?_) (fun c10 => ?_)
  · refine n_iconst (a := 0) hx hb (dg D_X1_isClosed (i := 11) rfl) rfl ?_
    exact fin (dg D_X1_isClosed (i := 12) rfl) hW hS (show _ = bI false from rfl) ⟨by rw [(bit_eq0 hl9).mp c10], rfl, rfl, rfl⟩
  · refine n_iconst (a := 1) hx hb (dg D_X1_isClosed (i := 9) rfl) rfl ?_
    refine lv_goto (tgt := 18) hx hb (dg D_X1_isClosed (i := 10) rfl) (by decide) ?_
    exact fin (dg D_X1_isClosed (i := 12) rfl) hW hS (show _ = bI true from rfl) ⟨by rw [(Bool.eq_false_or_eq_true _).resolve_right (fun z => c10 ((bit_eq0 hl9).mpr z))], rfl, rfl, rfl⟩

set_option maxHeartbeats 4000000 in
set_option maxRecDepth 100000 in
theorem c_X1_gangCapacity {l : Launch} {G : va_G} {bs : Nat} {cy : Nat → ClassId} {I : CI} {L : CL} {R : CR} (σ : Row) (β : Nat) (g : Nat) (y : Nat) (hβ : isBr β) (hB : BrAt I β σ) (hg5 : g < nG σ) (hG5 : nG σ ≤ 5) (hy5 : y < 12) : MTi l G bs cy MX1_gangCapacity 1 [.ref (bs + β), .int (nI g), .int (nI y)] I L R (fun r I1 L1 R1 => cap σ g y = r ∧ I = I1 ∧ L = L1 ∧ R = R1) := by
  refine MTi.of (own := RX1) pn_RX1 rfl (Nat.le_of_ble_eq_true rfl) ?_
  intro p e s m args below meth c Qf X hW hS fin ls hl
  have hx := X.1
  have hb := X.2.1
  have hR : RmOK (rmL 1 0 0) 1 := ⟨rfl, rfl⟩
  have hcs : 0 ≤ (rmL 1 0 0).cells ∧ 0 ≤ (rmL 1 0 0).slots := ⟨Nat.zero_le _, Nat.zero_le _⟩
  have hl : lv_has ls 3 [(0, .ref (bs + β)), (1, .int (nI g)), (2, .int (nI y))] := hl
  refine lv_aload_n hx hb (dg D_X1_gangCapacity (i := 0) rfl) rfl (lv_at hl 0 rfl) ?_
  refine r_getc (t := β + 7) X hW FI_X1_30 (shB hβ) (ncB0 hβ) rfl (dg D_X1_gangCapacity (i := 1) rfl) ?_
  refine lv_iload_n hx hb (dg D_X1_gangCapacity (i := 2) rfl) rfl (lv_at hl 1 rfl) ?_
  refine r_ald (j := g) (v := σ (70 + 2 * g + 0)) X hW (shB7 hβ) (ncB hβ (by decide)) rfl (by omega) (by omega) (hB.sp (by omega)) (dg D_X1_gangCapacity (i := 3) rfl) ?_
  refine lv_aload_n hx hb (dg D_X1_gangCapacity (i := 4) rfl) rfl (lv_at hl 0 rfl) ?_
  refine r_getc (t := β + 9) X hW FI_X1_36 (shB hβ) (ncB0 hβ) rfl (dg D_X1_gangCapacity (i := 5) rfl) ?_
  refine lv_iload_n hx hb (dg D_X1_gangCapacity (i := 6) rfl) rfl (lv_at hl 2 rfl) ?_
  refine r_ald (j := y) (v := σ (80 + y)) X hW (shB9 hβ) (ncB hβ (by decide)) rfl (by omega) (by omega) (hB.da (by omega)) (dg D_X1_gangCapacity (i := 7) rfl) ?_
  refine lv_imul hx hb (dg D_X1_gangCapacity (i := 8) rfl) ?_
  exact fin (dg D_X1_gangCapacity (i := 9) rfl) hW hS ⟨rfl, rfl, rfl, rfl⟩

set_option maxHeartbeats 4000000 in
set_option maxRecDepth 100000 in
theorem c_X1_daysOf {l : Launch} {G : va_G} {bs : Nat} {cy : Nat → ClassId} {I : CI} {L : CL} {R : CR} (σ : Row) (β : Nat) (g : Nat) (e9 : Int32) (hβ : isBr β) (hB : BrAt I β σ) (hd : DR σ) (hg5 : g < nG σ) (hG5 : nG σ ≤ 5) : MTi l G bs cy MX1_daysOf 1 [.ref (bs + β), .int (nI g), .int e9] I L R (fun r I1 L1 R1 => (e9 + σ (70 + 2 * g + 0) - nI 1) / σ (70 + 2 * g + 0) = r ∧ I = I1 ∧ L = L1 ∧ R = R1) := by
  refine MTi.of (own := RX1) pn_RX1 rfl (Nat.le_of_ble_eq_true rfl) ?_
  intro p e s m args below meth c Qf X hW hS fin ls hl
  have hx := X.1
  have hb := X.2.1
  have hR : RmOK (rmL 1 0 0) 1 := ⟨rfl, rfl⟩
  have hcs : 0 ≤ (rmL 1 0 0).cells ∧ 0 ≤ (rmL 1 0 0).slots := ⟨Nat.zero_le _, Nat.zero_le _⟩
  have hl : lv_has ls 4 [(0, .ref (bs + β)), (1, .int (nI g)), (2, .int e9)] := hl
  obtain ⟨s0, hs1, hs50, hs0⟩ := hd.1 g hg5
  refine lv_aload_n hx hb (dg D_X1_daysOf (i := 0) rfl) rfl (lv_at hl 0 rfl) ?_
  refine r_getc (t := β + 7) X hW FI_X1_30 (shB hβ) (ncB0 hβ) rfl (dg D_X1_daysOf (i := 1) rfl) ?_
  refine lv_iload_n hx hb (dg D_X1_daysOf (i := 2) rfl) rfl (lv_at hl 1 rfl) ?_
  refine r_ald (j := g) (v := σ (70 + 2 * g + 0)) X hW (shB7 hβ) (ncB hβ (by decide)) rfl (by omega) (by omega) (hB.sp (by omega)) (dg D_X1_daysOf (i := 3) rfl) ?_
  refine lv_istore_n (lv' := [(3, .int (σ (70 + 2 * g + 0))), (0, .ref (bs + β)), (1, .int (nI g)), (2, .int e9)]) hx hb (dg D_X1_daysOf (i := 4) rfl) rfl hl (by decide) rfl (fun ls hl => ?_)
  refine lv_iload_n hx hb (dg D_X1_daysOf (i := 5) rfl) rfl (lv_at hl 0 rfl) ?_
  refine lv_if_gt (tgt := 15) hx hb (dg D_X1_daysOf (i := 6) rfl) (by decide) (fun c8 => ?_) (fun c8 => ?_)
  · refine lv_iload_n hx hb (dg D_X1_daysOf (i := 9) rfl) rfl (lv_at hl 3 rfl) ?_
    refine lv_iload_n hx hb (dg D_X1_daysOf (i := 10) rfl) rfl (lv_at hl 0 rfl) ?_
    refine lv_iadd hx hb (dg D_X1_daysOf (i := 11) rfl) ?_
    refine n_iconst (a := 1) hx hb (dg D_X1_daysOf (i := 12) rfl) rfl ?_
    refine lv_isub hx hb (dg D_X1_daysOf (i := 13) rfl) ?_
    refine lv_iload_n hx hb (dg D_X1_daysOf (i := 14) rfl) rfl (lv_at hl 0 rfl) ?_
    refine lv_idiv hx hb (dg D_X1_daysOf (i := 15) rfl) (by rw [hs0]; exact nI_ne0 (by omega) (by omega)) ?_
    exact fin (dg D_X1_daysOf (i := 16) rfl) hW hS ⟨rfl, rfl, rfl, rfl⟩
  · exact absurd (by rw [hs0]; exact (nI_ltI (a := 0) (by decide) (by omega)).mpr (by omega)) c8

set_option maxHeartbeats 4000000 in
set_option maxRecDepth 100000 in
theorem c_X1_firstPastBare {l : Launch} {G : va_G} {bs : Nat} {cy : Nat → ClassId} {I : CI} {L : CL} {R : CR} (σ : Row) (β : Nat) (x : Nat) (rt : Int32) (hi : Inv σ) (hβ : isBr β) (hB : BrAt I β σ) (hx5 : x < nS σ) : MTi l G bs cy MX1_firstPastBare 1 [.ref (bs + β), .int (nI x), .int rt] I L R (fun r I1 L1 R1 => fpR σ x rt = r ∧ I = I1 ∧ L = L1 ∧ R = R1) := by
  refine MTi.of (own := RX1) pn_RX1 rfl (Nat.le_of_ble_eq_true rfl) ?_
  intro p e s m args below meth c Qf X hW hS fin ls hl
  have hx := X.1
  have hb := X.2.1
  have hR : RmOK (rmL 1 0 0) 1 := ⟨rfl, rfl⟩
  have hcs : 0 ≤ (rmL 1 0 0).cells ∧ 0 ≤ (rmL 1 0 0).slots := ⟨Nat.zero_le _, Nat.zero_le _⟩
  have hl : lv_has ls 5 [(0, .ref (bs + β)), (1, .int (nI x)), (2, .int rt)] := hl
  obtain ⟨hY, hY1, hY12, hLn, hL4, hSn, hS12, hGn, hG5⟩ := id hi
  refine lv_aload_n hx hb (dg D_X1_firstPastBare (i := 0) rfl) rfl (lv_at hl 0 rfl) ?_
  refine r_getc (t := β + 4) X hW FI_X1_21 (shB hβ) (ncB0 hβ) rfl (dg D_X1_firstPastBare (i := 1) rfl) ?_
  refine lv_iload_n hx hb (dg D_X1_firstPastBare (i := 2) rfl) rfl (lv_at hl 1 rfl) ?_
  refine r_ald (j := x) (v := σ (10 + 5 * x + 2)) X hW (shB4 hβ) (ncB hβ (by decide)) rfl (by omega) (by omega) (hB.ru (by omega)) (dg D_X1_firstPastBare (i := 3) rfl) ?_
  refine lv_istore_n (lv' := [(3, .int (σ (10 + 5 * x + 2))), (0, .ref (bs + β)), (1, .int (nI x)), (2, .int rt)]) hx hb (dg D_X1_firstPastBare (i := 4) rfl) rfl hl (by decide) rfl (fun ls hl => ?_)
  refine n_iconst (a := 0) hx hb (dg D_X1_firstPastBare (i := 5) rfl) rfl ?_
  refine lv_istore (lv' := [(4, .int (nI 0)), (3, .int (σ (10 + 5 * x + 2))), (0, .ref (bs + β)), (1, .int (nI x)), (2, .int rt)]) hx hb (dg D_X1_firstPastBare (i := 6) rfl) hl (by decide) rfl (fun ls hl => ?_)
  have loop10 := up_ind (P := fun y => ∀ (H : Heap) (locs : List Loc) (ls : Array Slot) (v3 : Int32) (v4 : Int32), v3 = (rg (σ (10 + 5 * x + 2)) rt (σ 2) (fun _ => false) y).1 → v4 = nI y → (∀ z, z < y → (fun z => decide (σ (10 + 5 * x + 4) < (rg (σ (10 + 5 * x + 2)) rt (σ 2) (fun _ => false) (z + 1)).1)) z = false) → Wd G bs cy I L R H → va_S (Aq bs) s.heap H locs → lv_has ls 5 [(0, .ref (bs + β)), (1, .int (nI x)), (2, .int rt), (3, .int v3), (4, .int v4)] → W p l e (rmL 1 0 0) s m args below meth c H locs 0 0 Qf (F0 m 10 ls [])) (Yn σ) (fun y hx10 ih10 => by
      intro H locs ls v3 v4 q3 q4 hn hW hS hl
      subst q3
      subst q4
      refine lv_iload hx hb (dg D_X1_firstPastBare (i := 7) rfl) (lv_at hl 4 rfl) ?_
      refine lv_aload_n hx hb (dg D_X1_firstPastBare (i := 8) rfl) rfl (lv_at hl 0 rfl) ?_
      refine r_geti (v := nI (Yn σ)) X hW FI_X1_45 (shB hβ) (ncB0 hβ) rfl (hB.c0 hi) (dg D_X1_firstPastBare (i := 9) rfl) ?_
      refine n_icmp_ge (tgt := 47) hx hb (by omega) (by omega) (dg D_X1_firstPastBare (i := 10) rfl) (by decide) (fun c16 => ?_) (fun c16 => ?_)
      · refine r_ldc X CK_X1_82 (dg D_X1_firstPastBare (i := 27) rfl) ?_
        exact fin (dg D_X1_firstPastBare (i := 28) rfl) hW hS ⟨fstI_none (p := fun z => decide (σ (10 + 5 * x + 4) < (rg (σ (10 + 5 * x + 2)) rt (σ 2) (fun _ => false) (z + 1)).1)) (fun z hz => hn z (by omega)), rfl, rfl, rfl⟩
      · refine lv_bipush (v := nI 100) hx hb (dg D_X1_firstPastBare (i := 11) rfl) (by decide) ?_
        refine lv_iload_n hx hb (dg D_X1_firstPastBare (i := 12) rfl) rfl (lv_at hl 3 rfl) ?_
        refine lv_iload_n hx hb (dg D_X1_firstPastBare (i := 13) rfl) rfl (lv_at hl 2 rfl) ?_
        refine lv_iadd hx hb (dg D_X1_firstPastBare (i := 14) rfl) ?_
        refine r_min (v := mn (nI 100) ((rg (σ (10 + 5 * x + 2)) rt (σ 2) (fun _ => false) y).1 + rt)) X hR (by decide) LK_X1_76 (Nat.le_of_ble_eq_true rfl) hl hcs rfl (dg D_X1_firstPastBare (i := 15) rfl) ?_
        refine lv_istore_n (lv' := [(3, .int (mn (nI 100) ((rg (σ (10 + 5 * x + 2)) rt (σ 2) (fun _ => false) y).1 + rt))), (0, .ref (bs + β)), (1, .int (nI x)), (2, .int rt), (4, .int (nI y))]) hx hb (dg D_X1_firstPastBare (i := 16) rfl) rfl hl (by decide) rfl (fun ls hl => ?_)
        refine lv_iload_n hx hb (dg D_X1_firstPastBare (i := 17) rfl) rfl (lv_at hl 0 rfl) ?_
        refine lv_aload_n hx hb (dg D_X1_firstPastBare (i := 18) rfl) rfl (lv_at hl 1 rfl) ?_
        refine r_getc (t := β + 6) X hW FI_X1_27 (shB hβ) (ncB0 hβ) rfl (dg D_X1_firstPastBare (i := 19) rfl) ?_
        refine lv_iload_n hx hb (dg D_X1_firstPastBare (i := 20) rfl) rfl (lv_at hl 2 rfl) ?_
        refine r_ald (j := x) (v := σ (10 + 5 * x + 4)) X hW (shB6 hβ) (ncB hβ (by decide)) rfl (by omega) (by omega) (hB.li (by omega)) (dg D_X1_firstPastBare (i := 21) rfl) ?_
        refine lv_icmp_le (tgt := 41) hx hb (dg D_X1_firstPastBare (i := 22) rfl) (by decide) (fun c35 => ?_) (fun c35 => ?_)
        · refine lv_iinc (v := nI (y + 1)) (lv' := [(4, .int (nI (y + 1))), (3, .int (mn (nI 100) ((rg (σ (10 + 5 * x + 2)) rt (σ 2) (fun _ => false) y).1 + rt))), (0, .ref (bs + β)), (1, .int (nI x)), (2, .int rt)]) hx hb (dg D_X1_firstPastBare (i := 25) rfl) hl (k := 4) rfl (nI_add _ _) (by decide) rfl (fun ls hl => ?_)
          refine lv_goto (tgt := 10) hx hb (dg D_X1_firstPastBare (i := 26) rfl) (by decide) ?_
          exact ih10 (by omega) _ _ _ _ _ (rgF_s.symm) (congrArg nI (by omega)) (all_lt_succ (p := fun z => decide (σ (10 + 5 * x + 4) < (rg (σ (10 + 5 * x + 2)) rt (σ 2) (fun _ => false) (z + 1)).1)) hn (decide_eq_false (by rw [rgF_s]; exact Int32.not_lt.mpr c35))) hW hS (lv_sub hl [2, 3, 4, 1, 0] rfl)
        · refine lv_iload hx hb (dg D_X1_firstPastBare (i := 23) rfl) (lv_at hl 4 rfl) ?_
          exact fin (dg D_X1_firstPastBare (i := 24) rfl) hW hS ⟨fstI_hit (p := fun z => decide (σ (10 + 5 * x + 4) < (rg (σ (10 + 5 * x + 2)) rt (σ 2) (fun _ => false) (z + 1)).1)) (by omega) (decide_eq_true (by rw [rgF_s]; exact Int32.not_le.mp c35)) hn, rfl, rfl, rfl⟩)
  exact loop10 0 (Nat.zero_le _) _ _ _ _ _ (rfl) (congrArg nI (by omega)) (fun z hz => absurd hz (Nat.not_lt_zero z)) hW hS (lv_sub hl [2, 3, 4, 1, 0] rfl)

set_option maxHeartbeats 4000000 in
set_option maxRecDepth 100000 in
theorem c_X1_latestCoat {l : Launch} {G : va_G} {bs : Nat} {cy : Nat → ClassId} {I : CI} {L : CL} {R : CR} (σ : Row) (β : Nat) (x : Nat) (v : Int32) (hi : Inv σ) (hβ : isBr β) (hB : BrAt I β σ) (hd : DR σ) (hx5 : x < nS σ) : MTi l G bs cy MX1_latestCoat 1 [.ref (bs + β), .int (nI x), .int v] I L R (fun r I1 L1 R1 => lpY σ x v = r ∧ I = I1 ∧ L = L1 ∧ R = R1) := by
  refine MTi.of (own := RX1) pn_RX1 rfl (Nat.le_of_ble_eq_true rfl) ?_
  intro p e s m args below meth c Qf X hW hS fin ls hl
  have hx := X.1
  have hb := X.2.1
  have hR : RmOK (rmL 1 0 0) 1 := ⟨rfl, rfl⟩
  have hcs : 0 ≤ (rmL 1 0 0).cells ∧ 0 ≤ (rmL 1 0 0).slots := ⟨Nat.zero_le _, Nat.zero_le _⟩
  have hl : lv_has ls 8 [(0, .ref (bs + β)), (1, .int (nI x)), (2, .int v)] := hl
  obtain ⟨hY, hY1, hY12, hLn, hL4, hSn, hS12, hGn, hG5⟩ := id hi
  obtain ⟨za1, za2, zr, zt1, zt, zm1, zm, e1, e2, e3, e4, zg, e5⟩ := z_all hd hx5
  refine lv_aload_n hx hb (dg D_X1_latestCoat (i := 0) rfl) rfl (lv_at hl 0 rfl) ?_
  refine r_getc (t := β + 4) X hW FI_X1_21 (shB hβ) (ncB0 hβ) rfl (dg D_X1_latestCoat (i := 1) rfl) ?_
  refine lv_iload_n hx hb (dg D_X1_latestCoat (i := 2) rfl) rfl (lv_at hl 1 rfl) ?_
  refine r_ald (j := x) (v := nI (zR σ x)) X hW (shB4 hβ) (ncB hβ (by decide)) rfl (by omega) (by omega) ((hB.ru hx5).trans e2) (dg D_X1_latestCoat (i := 3) rfl) ?_
  refine lv_istore_n (lv' := [(3, .int (nI (zR σ x))), (0, .ref (bs + β)), (1, .int (nI x)), (2, .int v)]) hx hb (dg D_X1_latestCoat (i := 4) rfl) rfl hl (by decide) rfl (fun ls hl => ?_)
  refine n_iconst (a := 0) hx hb (dg D_X1_latestCoat (i := 5) rfl) rfl ?_
  refine lv_istore (lv' := [(4, .int (nI 0)), (3, .int (nI (zR σ x))), (0, .ref (bs + β)), (1, .int (nI x)), (2, .int v)]) hx hb (dg D_X1_latestCoat (i := 6) rfl) hl (by decide) rfl (fun ls hl => ?_)
  refine n_iconst (a := 0) hx hb (dg D_X1_latestCoat (i := 7) rfl) rfl ?_
  refine lv_istore (lv' := [(5, .int (nI 0)), (4, .int (nI 0)), (3, .int (nI (zR σ x))), (0, .ref (bs + β)), (1, .int (nI x)), (2, .int v)]) hx hb (dg D_X1_latestCoat (i := 8) rfl) hl (by decide) rfl (fun ls hl => ?_)
  refine n_iconst (a := 0) hx hb (dg D_X1_latestCoat (i := 9) rfl) rfl ?_
  refine lv_istore (lv' := [(6, .int (nI 0)), (5, .int (nI 0)), (4, .int (nI 0)), (3, .int (nI (zR σ x))), (0, .ref (bs + β)), (1, .int (nI x)), (2, .int v)]) hx hb (dg D_X1_latestCoat (i := 10) rfl) hl (by decide) rfl (fun ls hl => ?_)
  have loop16 := up_ind (P := fun y => ∀ (H : Heap) (locs : List Loc) (ls : Array Slot) (v3 : Int32) (v4 : Int32) (v5 : Int32) (v6 : Int32), v3 = nI ((gqN σ x y).1) → v4 = nI ((gqN σ x y).2) → v5 = nI (cntB (gzB σ x) y) → v6 = nI y → (∀ z, z < y → (fun z => gzB σ x z && decide (nI (cntB (gzB σ x) z) = v)) z = false) → Wd G bs cy I L R H → va_S (Aq bs) s.heap H locs → lv_has ls 8 [(0, .ref (bs + β)), (1, .int (nI x)), (2, .int v), (3, .int v3), (4, .int v4), (5, .int v5), (6, .int v6)] → W p l e (rmL 1 0 0) s m args below meth c H locs 0 0 Qf (F0 m 16 ls [])) (Yn σ) (fun y hx16 ih16 => by
      intro H locs ls v3 v4 v5 v6 q3 q4 q5 q6 hn hW hS hl
      subst q3
      subst q4
      subst q5
      subst q6
      have hgl := gqN_le hd (y := y) hx5
      have hcl := cntB_le (gzB σ x) y
      refine lv_iload hx hb (dg D_X1_latestCoat (i := 11) rfl) (lv_at hl 6 rfl) ?_
      refine lv_aload_n hx hb (dg D_X1_latestCoat (i := 12) rfl) rfl (lv_at hl 0 rfl) ?_
      refine r_geti (v := nI (Yn σ)) X hW FI_X1_45 (shB hβ) (ncB0 hβ) rfl (hB.c0 hi) (dg D_X1_latestCoat (i := 13) rfl) ?_
      refine n_icmp_ge (tgt := 102) hx hb (by omega) (by omega) (dg D_X1_latestCoat (i := 14) rfl) (by decide) (fun c22 => ?_) (fun c22 => ?_)
      · refine r_ldc X CK_X1_82 (dg D_X1_latestCoat (i := 56) rfl) ?_
        exact fin (dg D_X1_latestCoat (i := 57) rfl) hW hS ⟨fstI_none (p := fun z => gzB σ x z && decide (nI (cntB (gzB σ x) z) = v)) (fun z hz => hn z (by omega)), rfl, rfl, rfl⟩
      · refine lv_iload hx hb (dg D_X1_latestCoat (i := 15) rfl) (lv_at hl 4 rfl) ?_
        refine n_if_le (tgt := 34) hx hb (by omega) (dg D_X1_latestCoat (i := 16) rfl) (by decide) (fun c27 => ?_) (fun c27 => ?_)
        · refine lv_bipush (v := nI 100) hx hb (dg D_X1_latestCoat (i := 19) rfl) (by decide) ?_
          refine lv_iload_n hx hb (dg D_X1_latestCoat (i := 20) rfl) rfl (lv_at hl 3 rfl) ?_
          refine lv_aload_n hx hb (dg D_X1_latestCoat (i := 21) rfl) rfl (lv_at hl 0 rfl) ?_
          refine r_getc (t := β + 5) X hW FI_X1_24 (shB hβ) (ncB0 hβ) rfl (dg D_X1_latestCoat (i := 22) rfl) ?_
          refine lv_iload_n hx hb (dg D_X1_latestCoat (i := 23) rfl) rfl (lv_at hl 1 rfl) ?_
          refine r_ald (j := x) (v := nI (zT σ x)) X hW (shB5 hβ) (ncB hβ (by decide)) rfl (by omega) (by omega) ((hB.ra hx5).trans e3) (dg D_X1_latestCoat (i := 24) rfl) ?_
          refine n_iadd hx hb (dg D_X1_latestCoat (i := 25) rfl) ?_
          refine r_min (v := nI (min 100 ((gqN σ x y).1 + zT σ x))) X hR (by decide) LK_X1_76 (Nat.le_of_ble_eq_true rfl) hl hcs (mn_N (a := 100) (b := (gqN σ x y).1 + zT σ x) (by omega) (by omega)) (dg D_X1_latestCoat (i := 26) rfl) ?_
          have hg : gwN (zT σ x) (gqN σ x y) = min 100 ((gqN σ x y).1 + zT σ x) := if_pos (by omega)
          refine lv_istore (lv' := [(7, .int (nI (min 100 ((gqN σ x y).1 + zT σ x)))), (0, .ref (bs + β)), (1, .int (nI x)), (2, .int v), (3, .int (nI ((gqN σ x y).1))), (4, .int (nI ((gqN σ x y).2))), (5, .int (nI (cntB (gzB σ x) y))), (6, .int (nI y))]) hx hb (dg D_X1_latestCoat (i := 27) rfl) hl (by decide) rfl (fun ls hl => ?_)
          refine lv_iload hx hb (dg D_X1_latestCoat (i := 28) rfl) (lv_at hl 0 rfl) ?_
          refine lv_aload_n hx hb (dg D_X1_latestCoat (i := 29) rfl) rfl (lv_at hl 1 rfl) ?_
          refine r_getc (t := β + 6) X hW FI_X1_27 (shB hβ) (ncB0 hβ) rfl (dg D_X1_latestCoat (i := 30) rfl) ?_
          refine lv_iload_n hx hb (dg D_X1_latestCoat (i := 31) rfl) rfl (lv_at hl 2 rfl) ?_
          refine r_ald (j := x) (v := nI (zM σ x)) X hW (shB6 hβ) (ncB hβ (by decide)) rfl (by omega) (by omega) ((hB.li hx5).trans e4) (dg D_X1_latestCoat (i := 32) rfl) ?_
          refine n_icmp_le (tgt := 83) hx hb (by omega) (by omega) (dg D_X1_latestCoat (i := 33) rfl) (by decide) (fun c57 => ?_) (fun c57 => ?_)
          · have hp : gzB σ x y = false := decide_eq_false (by show ¬ zM σ x < gwN (zT σ x) (gqN σ x y); omega)
            refine lv_iload hx hb (dg D_X1_latestCoat (i := 46) rfl) (lv_at hl 0 rfl) ?_
            refine lv_istore_n (lv' := [(3, .int (nI (min 100 ((gqN σ x y).1 + zT σ x)))), (7, .int (nI (min 100 ((gqN σ x y).1 + zT σ x)))), (0, .ref (bs + β)), (1, .int (nI x)), (2, .int v), (4, .int (nI ((gqN σ x y).2))), (5, .int (nI (cntB (gzB σ x) y))), (6, .int (nI y))]) hx hb (dg D_X1_latestCoat (i := 47) rfl) rfl hl (by decide) rfl (fun ls hl => ?_)
            refine n_iconst (a := 0) hx hb (dg D_X1_latestCoat (i := 48) rfl) rfl ?_
            refine lv_iload hx hb (dg D_X1_latestCoat (i := 49) rfl) (lv_at hl 5 rfl) ?_
            refine n_iconst (a := 1) hx hb (dg D_X1_latestCoat (i := 50) rfl) rfl ?_
            refine lv_isub hx hb (dg D_X1_latestCoat (i := 51) rfl) ?_
            rw [show (nI ((gqN σ x y).2)) - (nI 1) = nI (gqN σ x y).2 - nI 1 from rfl]
            refine r_max (v := nI ((gqN σ x y).2 - 1)) X hR (by decide) LK_X1_83 (Nat.le_of_ble_eq_true rfl) hl hcs (mx_dec (gqN σ x y).2 (by omega)) (dg D_X1_latestCoat (i := 52) rfl) ?_
            refine lv_istore (lv' := [(4, .int (nI ((gqN σ x y).2 - 1))), (3, .int (nI (min 100 ((gqN σ x y).1 + zT σ x)))), (7, .int (nI (min 100 ((gqN σ x y).1 + zT σ x)))), (0, .ref (bs + β)), (1, .int (nI x)), (2, .int v), (5, .int (nI (cntB (gzB σ x) y))), (6, .int (nI y))]) hx hb (dg D_X1_latestCoat (i := 53) rfl) hl (by decide) rfl (fun ls hl => ?_)
            refine lv_iinc (v := nI (y + 1)) (lv' := [(6, .int (nI (y + 1))), (4, .int (nI ((gqN σ x y).2 - 1))), (3, .int (nI (min 100 ((gqN σ x y).1 + zT σ x)))), (7, .int (nI (min 100 ((gqN σ x y).1 + zT σ x)))), (0, .ref (bs + β)), (1, .int (nI x)), (2, .int v), (5, .int (nI (cntB (gzB σ x) y)))]) hx hb (dg D_X1_latestCoat (i := 54) rfl) hl (k := 7) rfl (nI_add _ _) (by decide) rfl (fun ls hl => ?_)
            refine lv_goto (tgt := 16) hx hb (dg D_X1_latestCoat (i := 55) rfl) (by decide) ?_
            have hgs := gqN_n hp
            exact ih16 (by omega) _ _ _ _ _ _ _ (congrArg nI (by rw [hgs, hg])) (congrArg nI (by rw [hgs])) (congrArg nI (by show _ = cntB (gzB σ x) y + _; rw [hp]; rfl)) (congrArg nI (by omega)) (all_lt_succ (p := fun z => gzB σ x z && decide (nI (cntB (gzB σ x) z) = v)) hn (by show (gzB σ x y && _) = false; rw [hp]; rfl)) hW hS (lv_sub hl [4, 5, 6, 2, 1, 7, 0] rfl)
          · have hp : gzB σ x y = true := decide_eq_true (by show zM σ x < gwN (zT σ x) (gqN σ x y); omega)
            refine lv_iload hx hb (dg D_X1_latestCoat (i := 34) rfl) (lv_at hl 6 rfl) ?_
            refine lv_iload_n hx hb (dg D_X1_latestCoat (i := 35) rfl) rfl (lv_at hl 3 rfl) ?_
            refine lv_icmp_ne (tgt := 69) hx hb (dg D_X1_latestCoat (i := 36) rfl) (by decide) (fun c63 => ?_) (fun c63 => ?_)
            · refine lv_iinc (v := nI (cntB (gzB σ x) y + 1)) (lv' := [(5, .int (nI (cntB (gzB σ x) y + 1))), (7, .int (nI (min 100 ((gqN σ x y).1 + zT σ x)))), (0, .ref (bs + β)), (1, .int (nI x)), (2, .int v), (3, .int (nI ((gqN σ x y).1))), (4, .int (nI ((gqN σ x y).2))), (6, .int (nI y))]) hx hb (dg D_X1_latestCoat (i := 39) rfl) hl (k := 6) rfl (nI_add _ _) (by decide) rfl (fun ls hl => ?_)
              refine n_iconst (a := 0) hx hb (dg D_X1_latestCoat (i := 40) rfl) rfl ?_
              refine lv_istore_n (lv' := [(3, .int (nI 0)), (5, .int (nI (cntB (gzB σ x) y + 1))), (7, .int (nI (min 100 ((gqN σ x y).1 + zT σ x)))), (0, .ref (bs + β)), (1, .int (nI x)), (2, .int v), (4, .int (nI ((gqN σ x y).2))), (6, .int (nI y))]) hx hb (dg D_X1_latestCoat (i := 41) rfl) rfl hl (by decide) rfl (fun ls hl => ?_)
              refine lv_aload_n hx hb (dg D_X1_latestCoat (i := 42) rfl) rfl (lv_at hl 3 rfl) ?_
              refine r_geti (v := nI (zG σ)) X hW FI_X1_52 (shB hβ) (ncB0 hβ) rfl (hB.c2.trans e5) (dg D_X1_latestCoat (i := 43) rfl) ?_
              refine lv_istore (lv' := [(4, .int (nI (zG σ))), (3, .int (nI 0)), (5, .int (nI (cntB (gzB σ x) y + 1))), (7, .int (nI (min 100 ((gqN σ x y).1 + zT σ x)))), (0, .ref (bs + β)), (1, .int (nI x)), (2, .int v), (6, .int (nI y))]) hx hb (dg D_X1_latestCoat (i := 44) rfl) hl (by decide) rfl (fun ls hl => ?_)
              refine lv_goto (tgt := 96) hx hb (dg D_X1_latestCoat (i := 45) rfl) (by decide) ?_
              refine lv_iinc (v := nI (y + 1)) (lv' := [(6, .int (nI (y + 1))), (4, .int (nI (zG σ))), (3, .int (nI 0)), (5, .int (nI (cntB (gzB σ x) y + 1))), (7, .int (nI (min 100 ((gqN σ x y).1 + zT σ x)))), (0, .ref (bs + β)), (1, .int (nI x)), (2, .int v)]) hx hb (dg D_X1_latestCoat (i := 54) rfl) hl (k := 7) rfl (nI_add _ _) (by decide) rfl (fun ls hl => ?_)
              refine lv_goto (tgt := 16) hx hb (dg D_X1_latestCoat (i := 55) rfl) (by decide) ?_
              have hgs := gqN_p hp
              exact ih16 (by omega) _ _ _ _ _ _ _ (congrArg nI (by rw [hgs])) (congrArg nI (by rw [hgs])) (congrArg nI (by show _ = cntB (gzB σ x) y + _; rw [hp]; rfl)) (congrArg nI (by omega)) (all_lt_succ (p := fun z => gzB σ x z && decide (nI (cntB (gzB σ x) z) = v)) hn (by show (gzB σ x y && _) = false; rw [hp, decide_eq_false c63]; rfl)) hW hS (lv_sub hl [5, 6, 7, 2, 1, 3, 0] rfl)
            · refine lv_iload hx hb (dg D_X1_latestCoat (i := 37) rfl) (lv_at hl 7 rfl) ?_
              exact fin (dg D_X1_latestCoat (i := 38) rfl) hW hS ⟨fstI_hit (p := fun z => gzB σ x z && decide (nI (cntB (gzB σ x) z) = v)) (by omega) (by show (gzB σ x y && _) = true; rw [hp, decide_eq_true c63]; rfl) hn, rfl, rfl, rfl⟩
        · refine lv_iload_n hx hb (dg D_X1_latestCoat (i := 17) rfl) rfl (lv_at hl 3 rfl) ?_
          refine lv_goto (tgt := 47) hx hb (dg D_X1_latestCoat (i := 18) rfl) (by decide) ?_
          have hg : gwN (zT σ x) (gqN σ x y) = (gqN σ x y).1 := if_neg (by omega)
          refine lv_istore (lv' := [(7, .int (nI ((gqN σ x y).1))), (0, .ref (bs + β)), (1, .int (nI x)), (2, .int v), (3, .int (nI ((gqN σ x y).1))), (4, .int (nI ((gqN σ x y).2))), (5, .int (nI (cntB (gzB σ x) y))), (6, .int (nI y))]) hx hb (dg D_X1_latestCoat (i := 27) rfl) hl (by decide) rfl (fun ls hl => ?_)
          refine lv_iload hx hb (dg D_X1_latestCoat (i := 28) rfl) (lv_at hl 0 rfl) ?_
          refine lv_aload_n hx hb (dg D_X1_latestCoat (i := 29) rfl) rfl (lv_at hl 1 rfl) ?_
          refine r_getc (t := β + 6) X hW FI_X1_27 (shB hβ) (ncB0 hβ) rfl (dg D_X1_latestCoat (i := 30) rfl) ?_
          refine lv_iload_n hx hb (dg D_X1_latestCoat (i := 31) rfl) rfl (lv_at hl 2 rfl) ?_
          refine r_ald (j := x) (v := nI (zM σ x)) X hW (shB6 hβ) (ncB hβ (by decide)) rfl (by omega) (by omega) ((hB.li hx5).trans e4) (dg D_X1_latestCoat (i := 32) rfl) ?_
          refine n_icmp_le (tgt := 83) hx hb (by omega) (by omega) (dg D_X1_latestCoat (i := 33) rfl) (by decide) (fun c57 => ?_) (fun c57 => ?_)
          · have hp : gzB σ x y = false := decide_eq_false (by show ¬ zM σ x < gwN (zT σ x) (gqN σ x y); omega)
            refine lv_iload hx hb (dg D_X1_latestCoat (i := 46) rfl) (lv_at hl 0 rfl) ?_
            refine lv_istore_n (lv' := [(3, .int (nI ((gqN σ x y).1))), (7, .int (nI ((gqN σ x y).1))), (0, .ref (bs + β)), (1, .int (nI x)), (2, .int v), (4, .int (nI ((gqN σ x y).2))), (5, .int (nI (cntB (gzB σ x) y))), (6, .int (nI y))]) hx hb (dg D_X1_latestCoat (i := 47) rfl) rfl hl (by decide) rfl (fun ls hl => ?_)
            refine n_iconst (a := 0) hx hb (dg D_X1_latestCoat (i := 48) rfl) rfl ?_
            refine lv_iload hx hb (dg D_X1_latestCoat (i := 49) rfl) (lv_at hl 5 rfl) ?_
            refine n_iconst (a := 1) hx hb (dg D_X1_latestCoat (i := 50) rfl) rfl ?_
            refine lv_isub hx hb (dg D_X1_latestCoat (i := 51) rfl) ?_
            rw [show (nI ((gqN σ x y).2)) - (nI 1) = nI (gqN σ x y).2 - nI 1 from rfl]
            refine r_max (v := nI ((gqN σ x y).2 - 1)) X hR (by decide) LK_X1_83 (Nat.le_of_ble_eq_true rfl) hl hcs (mx_dec (gqN σ x y).2 (by omega)) (dg D_X1_latestCoat (i := 52) rfl) ?_
            refine lv_istore (lv' := [(4, .int (nI ((gqN σ x y).2 - 1))), (3, .int (nI ((gqN σ x y).1))), (7, .int (nI ((gqN σ x y).1))), (0, .ref (bs + β)), (1, .int (nI x)), (2, .int v), (5, .int (nI (cntB (gzB σ x) y))), (6, .int (nI y))]) hx hb (dg D_X1_latestCoat (i := 53) rfl) hl (by decide) rfl (fun ls hl => ?_)
            refine lv_iinc (v := nI (y + 1)) (lv' := [(6, .int (nI (y + 1))), (4, .int (nI ((gqN σ x y).2 - 1))), (3, .int (nI ((gqN σ x y).1))), (7, .int (nI ((gqN σ x y).1))), (0, .ref (bs + β)), (1, .int (nI x)), (2, .int v), (5, .int (nI (cntB (gzB σ x) y)))]) hx hb (dg D_X1_latestCoat (i := 54) rfl) hl (k := 7) rfl (nI_add _ _) (by decide) rfl (fun ls hl => ?_)
            refine lv_goto (tgt := 16) hx hb (dg D_X1_latestCoat (i := 55) rfl) (by decide) ?_
            have hgs := gqN_n hp
            exact ih16 (by omega) _ _ _ _ _ _ _ (congrArg nI (by rw [hgs, hg])) (congrArg nI (by rw [hgs])) (congrArg nI (by show _ = cntB (gzB σ x) y + _; rw [hp]; rfl)) (congrArg nI (by omega)) (all_lt_succ (p := fun z => gzB σ x z && decide (nI (cntB (gzB σ x) z) = v)) hn (by show (gzB σ x y && _) = false; rw [hp]; rfl)) hW hS (lv_sub hl [4, 5, 6, 2, 1, 7, 0] rfl)
          · have hp : gzB σ x y = true := decide_eq_true (by show zM σ x < gwN (zT σ x) (gqN σ x y); omega)
            refine lv_iload hx hb (dg D_X1_latestCoat (i := 34) rfl) (lv_at hl 6 rfl) ?_
            refine lv_iload_n hx hb (dg D_X1_latestCoat (i := 35) rfl) rfl (lv_at hl 3 rfl) ?_
            refine lv_icmp_ne (tgt := 69) hx hb (dg D_X1_latestCoat (i := 36) rfl) (by decide) (fun c63 => ?_) (fun c63 => ?_)
            · refine lv_iinc (v := nI (cntB (gzB σ x) y + 1)) (lv' := [(5, .int (nI (cntB (gzB σ x) y + 1))), (7, .int (nI ((gqN σ x y).1))), (0, .ref (bs + β)), (1, .int (nI x)), (2, .int v), (3, .int (nI ((gqN σ x y).1))), (4, .int (nI ((gqN σ x y).2))), (6, .int (nI y))]) hx hb (dg D_X1_latestCoat (i := 39) rfl) hl (k := 6) rfl (nI_add _ _) (by decide) rfl (fun ls hl => ?_)
              refine n_iconst (a := 0) hx hb (dg D_X1_latestCoat (i := 40) rfl) rfl ?_
              refine lv_istore_n (lv' := [(3, .int (nI 0)), (5, .int (nI (cntB (gzB σ x) y + 1))), (7, .int (nI ((gqN σ x y).1))), (0, .ref (bs + β)), (1, .int (nI x)), (2, .int v), (4, .int (nI ((gqN σ x y).2))), (6, .int (nI y))]) hx hb (dg D_X1_latestCoat (i := 41) rfl) rfl hl (by decide) rfl (fun ls hl => ?_)
              refine lv_aload_n hx hb (dg D_X1_latestCoat (i := 42) rfl) rfl (lv_at hl 3 rfl) ?_
              refine r_geti (v := nI (zG σ)) X hW FI_X1_52 (shB hβ) (ncB0 hβ) rfl (hB.c2.trans e5) (dg D_X1_latestCoat (i := 43) rfl) ?_
              refine lv_istore (lv' := [(4, .int (nI (zG σ))), (3, .int (nI 0)), (5, .int (nI (cntB (gzB σ x) y + 1))), (7, .int (nI ((gqN σ x y).1))), (0, .ref (bs + β)), (1, .int (nI x)), (2, .int v), (6, .int (nI y))]) hx hb (dg D_X1_latestCoat (i := 44) rfl) hl (by decide) rfl (fun ls hl => ?_)
              refine lv_goto (tgt := 96) hx hb (dg D_X1_latestCoat (i := 45) rfl) (by decide) ?_
              refine lv_iinc (v := nI (y + 1)) (lv' := [(6, .int (nI (y + 1))), (4, .int (nI (zG σ))), (3, .int (nI 0)), (5, .int (nI (cntB (gzB σ x) y + 1))), (7, .int (nI ((gqN σ x y).1))), (0, .ref (bs + β)), (1, .int (nI x)), (2, .int v)]) hx hb (dg D_X1_latestCoat (i := 54) rfl) hl (k := 7) rfl (nI_add _ _) (by decide) rfl (fun ls hl => ?_)
              refine lv_goto (tgt := 16) hx hb (dg D_X1_latestCoat (i := 55) rfl) (by decide) ?_
              have hgs := gqN_p hp
              exact ih16 (by omega) _ _ _ _ _ _ _ (congrArg nI (by rw [hgs])) (congrArg nI (by rw [hgs])) (congrArg nI (by show _ = cntB (gzB σ x) y + _; rw [hp]; rfl)) (congrArg nI (by omega)) (all_lt_succ (p := fun z => gzB σ x z && decide (nI (cntB (gzB σ x) z) = v)) hn (by show (gzB σ x y && _) = false; rw [hp, decide_eq_false c63]; rfl)) hW hS (lv_sub hl [5, 6, 7, 2, 1, 3, 0] rfl)
            · refine lv_iload hx hb (dg D_X1_latestCoat (i := 37) rfl) (lv_at hl 7 rfl) ?_
              exact fin (dg D_X1_latestCoat (i := 38) rfl) hW hS ⟨fstI_hit (p := fun z => gzB σ x z && decide (nI (cntB (gzB σ x) z) = v)) (by omega) (by show (gzB σ x y && _) = true; rw [hp, decide_eq_true c63]; rfl) hn, rfl, rfl, rfl⟩)
  exact loop16 0 (Nat.zero_le _) _ _ _ _ _ _ _ (rfl) (rfl) (rfl) (congrArg nI (by omega)) (fun z hz => absurd hz (Nat.not_lt_zero z)) hW hS (lv_sub hl [4, 5, 6, 3, 2, 1, 0] rfl)

