set_option maxHeartbeats 4000000 in
set_option maxRecDepth 100000 in
theorem c_X6_isPast {l : Launch} {G : va_G} {bs : Nat} {cy : Nat → ClassId} {I : CI} {L : CL} {R : CR} (σ : Row) (β : Nat) (q : Nat) (x : Nat) (y : Nat) (hi : Inv σ) (hβ : isBr β) (hB : BrAt I β σ) (hq : isPl q) (hP : PlAt I q σ) (hRb : R q 0 = β) (hx5 : x < nS σ) (hy5 : y < Yn σ) : MTi l G bs cy MX6_isPast 1 [.ref (bs + q), .int (nI x), .int (nI y)] I L R (fun r I1 L1 R1 => bI (decide (σ (10 + 5 * x + 4) < (rgS σ x (y + 1)).1)) = r ∧ I = I1 ∧ L = L1 ∧ R = R1) := by
  refine MTz.of (own := RX6) pn_RX6 rfl (Nat.le_of_ble_eq_true rfl) ?_
  intro p e s m args below meth c Qf X hW hS fin ls hl
  have hx := X.1
  have hb := X.2.1
  have hR : RmOK (rmL 1 0 0) 1 := ⟨rfl, rfl⟩
  have hcs : 0 ≤ (rmL 1 0 0).cells ∧ 0 ≤ (rmL 1 0 0).slots := ⟨Nat.zero_le _, Nat.zero_le _⟩
  have hl : lv_has ls 3 [(0, .ref (bs + q)), (1, .int (nI x)), (2, .int (nI y))] := hl
  obtain ⟨hY, hY1, hY12, hLn, hL4, hSn, hS12, hGn, hG5⟩ := id hi
  refine lv_aload_n hx hb (dg D_X6_isPast (i := 0) rfl) rfl (lv_at hl 0 rfl) ?_
  refine r_getc (t := q + 2) X hW FI_X6_15 (shP hq) (ncP0 hq) rfl (dg D_X6_isPast (i := 1) rfl) ?_
  refine lv_iload_n hx hb (dg D_X6_isPast (i := 2) rfl) rfl (lv_at hl 1 rfl) ?_
  refine lv_bipush (v := nI 13) hx hb (dg D_X6_isPast (i := 3) rfl) (by decide) ?_
  refine n_imul hx hb (dg D_X6_isPast (i := 4) rfl) ?_
  refine lv_iload_n hx hb (dg D_X6_isPast (i := 5) rfl) rfl (lv_at hl 2 rfl) ?_
  refine n_iadd hx hb (dg D_X6_isPast (i := 6) rfl) ?_
  refine n_iconst (a := 1) hx hb (dg D_X6_isPast (i := 7) rfl) rfl ?_
  refine n_iadd hx hb (dg D_X6_isPast (i := 8) rfl) ?_
  refine r_ald (j := ((x * 13) + y) + 1) (v := (rgS σ x (y + 1)).1) X hW (shP2 hq) (ncP hq (by decide)) rfl (by omega) (by omega) (hP.2.1 x (y + 1) (by omega) (by omega)) (dg D_X6_isPast (i := 9) rfl) ?_
  refine lv_aload_n hx hb (dg D_X6_isPast (i := 10) rfl) rfl (lv_at hl 0 rfl) ?_
  refine r_getr (v := β) X hW FI_X6_21 (shP hq) (ncP0 hq) rfl hRb (dg D_X6_isPast (i := 11) rfl) ?_
  refine rn_getc (t := β + 6) X hW FN_X6_72 (shB hβ) (ncB0 hβ) rfl (dg D_X6_isPast (i := 12) rfl) ?_
  refine lv_iload_n hx hb (dg D_X6_isPast (i := 13) rfl) rfl (lv_at hl 1 rfl) ?_
  refine r_ald (j := x) (v := σ (10 + 5 * x + 4)) X hW (shB6 hβ) (ncB hβ (by decide)) rfl (by omega) (by omega) (hB.li (by omega)) (dg D_X6_isPast (i := 14) rfl) ?_
  refine lv_icmp_le (tgt := 29) hx hb (dg D_X6_isPast (i := 15) rfl) (by decide) (fun c22 => ?_) (fun c22 => ?_)
  · refine n_iconst (a := 0) hx hb (dg D_X6_isPast (i := 18) rfl) rfl ?_
    exact fin (dg D_X6_isPast (i := 19) rfl) hW hS (show _ = bI false from rfl) ⟨congrArg bI (decide_eq_false (Int32.not_lt.mpr c22)), rfl, rfl, rfl⟩
  · refine n_iconst (a := 1) hx hb (dg D_X6_isPast (i := 16) rfl) rfl ?_
    refine lv_goto (tgt := 30) hx hb (dg D_X6_isPast (i := 17) rfl) (by decide) ?_
    exact fin (dg D_X6_isPast (i := 19) rfl) hW hS (show _ = bI true from rfl) ⟨congrArg bI (decide_eq_true (Int32.not_le.mp c22)), rfl, rfl, rfl⟩

set_option maxHeartbeats 4000000 in
set_option maxRecDepth 100000 in
theorem c_X6_firstPast {l : Launch} {G : va_G} {bs : Nat} {cy : Nat → ClassId} {I : CI} {L : CL} {R : CR} (σ : Row) (β : Nat) (q : Nat) (x : Nat) (hi : Inv σ) (hβ : isBr β) (hB : BrAt I β σ) (hq : isPl q) (hP : PlAt I q σ) (hRb : R q 0 = β) (hx5 : x < nS σ) : MTi l G bs cy MX6_firstPast 2 [.ref (bs + q), .int (nI x)] I L R (fun r I1 L1 R1 => fp σ x = r ∧ I = I1 ∧ L = L1 ∧ R = R1) := by
  refine MTi.of (own := RX6) pn_RX6 rfl (Nat.le_of_ble_eq_true rfl) ?_
  intro p e s m args below meth c Qf X hW hS fin ls hl
  have hx := X.1
  have hb := X.2.1
  have hR : RmOK (rmL 2 0 0) 2 := ⟨rfl, rfl⟩
  have hcs : 0 ≤ (rmL 2 0 0).cells ∧ 0 ≤ (rmL 2 0 0).slots := ⟨Nat.zero_le _, Nat.zero_le _⟩
  have hl : lv_has ls 3 [(0, .ref (bs + q)), (1, .int (nI x))] := hl
  obtain ⟨hY, hY1, hY12, hLn, hL4, hSn, hS12, hGn, hG5⟩ := id hi
  refine n_iconst (a := 0) hx hb (dg D_X6_firstPast (i := 0) rfl) rfl ?_
  refine lv_istore_n (lv' := [(2, .int (nI 0)), (0, .ref (bs + q)), (1, .int (nI x))]) hx hb (dg D_X6_firstPast (i := 1) rfl) rfl hl (by decide) rfl (fun ls hl => ?_)
  have loop2 := up_ind (P := fun y => ∀ (H : Heap) (locs : List Loc) (ls : Array Slot) (v2 : Int32), v2 = nI y → (∀ z, z < y → decide (σ (10 + 5 * x + 4) < (rgS σ x (z + 1)).1) = false) → Wd G bs cy I L R H → va_S (Aq bs) s.heap H locs → lv_has ls 3 [(0, .ref (bs + q)), (1, .int (nI x)), (2, .int v2)] → W p l e (rmL 2 0 0) s m args below meth c H locs 0 0 Qf (F0 m 2 ls [])) (Yn σ) (fun y hx2 ih2 => by
      intro H locs ls v2 q2 hn hW hS hl
      subst q2
      refine lv_iload_n hx hb (dg D_X6_firstPast (i := 2) rfl) rfl (lv_at hl 2 rfl) ?_
      refine lv_aload_n hx hb (dg D_X6_firstPast (i := 3) rfl) rfl (lv_at hl 0 rfl) ?_
      refine r_getr (v := β) X hW FI_X6_21 (shP hq) (ncP0 hq) rfl hRb (dg D_X6_firstPast (i := 4) rfl) ?_
      refine rn_geti (v := nI (Yn σ)) X hW FN_X6_53 (shB hβ) (ncB0 hβ) rfl (hB.c0 hi) (dg D_X6_firstPast (i := 5) rfl) ?_
      refine n_icmp_ge (tgt := 30) hx hb (by omega) (by omega) (dg D_X6_firstPast (i := 6) rfl) (by decide) (fun c10 => ?_) (fun c10 => ?_)
      · refine r_ldc X CK_X6_78 (dg D_X6_firstPast (i := 16) rfl) ?_
        exact fin (dg D_X6_firstPast (i := 17) rfl) hW hS ⟨fstI_none (p := fun z => decide (σ (10 + 5 * x + 4) < (rgS σ x (z + 1)).1)) (fun z hz => hn z (by omega)), rfl, rfl, rfl⟩
      · refine lv_aload_n hx hb (dg D_X6_firstPast (i := 7) rfl) rfl (lv_at hl 0 rfl) ?_
        refine lv_iload_n hx hb (dg D_X6_firstPast (i := 8) rfl) rfl (lv_at hl 1 rfl) ?_
        refine lv_iload_n hx hb (dg D_X6_firstPast (i := 9) rfl) rfl (lv_at hl 2 rfl) ?_
        refine callVi X hW hS hR (c_X6_isPast (I := I) σ β q x y (by first | assumption | omega | decide | exact hP.1) (by first | assumption | omega | decide | exact hP.1) (by first | assumption | omega | decide | exact hP.1) (by first | assumption | omega | decide | exact hP.1) (by first | assumption | omega | decide | exact hP.1) (by first | assumption | omega | decide | exact hP.1) (by first | assumption | omega | decide | exact hP.1) (by first | assumption | omega | decide | exact hP.1)) (by decide) UVX6_isPast LK_X6_75 (shP hq) (ncP0 hq) rfl rfl rfl (Nat.le_of_ble_eq_true rfl) hl hcs (dg D_X6_firstPast (i := 10) rfl) (fun r16 I16 L1 R1 H locs hq hW hS => ?_)
        obtain ⟨rfl, rfl, rfl, rfl⟩ := hq
        refine z_if_eq (tgt := 24) hx hb (dg D_X6_firstPast (i := 11) rfl) (by decide) (fun c19 => ?_) (fun c19 => ?_)
        · refine lv_iinc (v := nI (y + 1)) (lv' := [(2, .int (nI (y + 1))), (0, .ref (bs + q)), (1, .int (nI x))]) hx hb (dg D_X6_firstPast (i := 14) rfl) hl (k := 2) rfl (nI_add _ _) (by decide) rfl (fun ls hl => ?_)
          refine lv_goto (tgt := 2) hx hb (dg D_X6_firstPast (i := 15) rfl) (by decide) ?_
          exact ih2 (by omega) _ _ _ _ (congrArg nI (by omega)) (all_lt_succ (p := fun z => decide (σ (10 + 5 * x + 4) < (rgS σ x (z + 1)).1)) hn c19) hW hS (lv_sub hl [1, 2, 0] rfl)
        · refine lv_iload_n hx hb (dg D_X6_firstPast (i := 12) rfl) rfl (lv_at hl 2 rfl) ?_
          exact fin (dg D_X6_firstPast (i := 13) rfl) hW hS ⟨fstI_hit (p := fun z => decide (σ (10 + 5 * x + 4) < (rgS σ x (z + 1)).1)) (by omega) c19 hn, rfl, rfl, rfl⟩)
  exact loop2 0 (Nat.zero_le _) _ _ _ _ (congrArg nI (by omega)) (fun z hz => absurd hz (Nat.not_lt_zero z)) hW hS (lv_sub hl [1, 2, 0] rfl)

set_option maxHeartbeats 4000000 in
set_option maxRecDepth 100000 in
theorem c_X6_countPast {l : Launch} {G : va_G} {bs : Nat} {cy : Nat → ClassId} {I : CI} {L : CL} {R : CR} (σ : Row) (β : Nat) (q : Nat) (hi : Inv σ) (hβ : isBr β) (hB : BrAt I β σ) (hq : isPl q) (hP : PlAt I q σ) (hRb : R q 0 = β) : MTi l G bs cy MX6_countPast 3 [.ref (bs + q)] I L R (fun r I1 L1 R1 => cntP σ = r ∧ I = I1 ∧ L = L1 ∧ R = R1) := by
  refine MTi.of (own := RX6) pn_RX6 rfl (Nat.le_of_ble_eq_true rfl) ?_
  intro p e s m args below meth c Qf X hW hS fin ls hl
  have hx := X.1
  have hb := X.2.1
  have hR : RmOK (rmL 3 0 0) 3 := ⟨rfl, rfl⟩
  have hcs : 0 ≤ (rmL 3 0 0).cells ∧ 0 ≤ (rmL 3 0 0).slots := ⟨Nat.zero_le _, Nat.zero_le _⟩
  have hl : lv_has ls 3 [(0, .ref (bs + q))] := hl
  obtain ⟨hY, hY1, hY12, hLn, hL4, hSn, hS12, hGn, hG5⟩ := id hi
  refine n_iconst (a := 0) hx hb (dg D_X6_countPast (i := 0) rfl) rfl ?_
  refine lv_istore_n (lv' := [(1, .int (nI 0)), (0, .ref (bs + q))]) hx hb (dg D_X6_countPast (i := 1) rfl) rfl hl (by decide) rfl (fun ls hl => ?_)
  refine n_iconst (a := 0) hx hb (dg D_X6_countPast (i := 2) rfl) rfl ?_
  refine lv_istore_n (lv' := [(2, .int (nI 0)), (1, .int (nI 0)), (0, .ref (bs + q))]) hx hb (dg D_X6_countPast (i := 3) rfl) rfl hl (by decide) rfl (fun ls hl => ?_)
  have loop4 := up_ind (P := fun x => ∀ (H : Heap) (locs : List Loc) (ls : Array Slot) (v1 : Int32) (v2 : Int32), v1 = sumT (fun x => if fp σ x = NOTF then nI 0 else nI 1) x → v2 = nI x → Wd G bs cy I L R H → va_S (Aq bs) s.heap H locs → lv_has ls 3 [(0, .ref (bs + q)), (1, .int v1), (2, .int v2)] → W p l e (rmL 3 0 0) s m args below meth c H locs 0 0 Qf (F0 m 4 ls [])) (nS σ) (fun x hx4 ih4 => by
      intro H locs ls v1 v2 q1 q2 hW hS hl
      subst q1
      subst q2
      refine lv_iload_n hx hb (dg D_X6_countPast (i := 4) rfl) rfl (lv_at hl 2 rfl) ?_
      refine lv_aload_n hx hb (dg D_X6_countPast (i := 5) rfl) rfl (lv_at hl 0 rfl) ?_
      refine r_getr (v := β) X hW FI_X6_21 (shP hq) (ncP0 hq) rfl hRb (dg D_X6_countPast (i := 6) rfl) ?_
      refine rn_geti (v := nI (nS σ)) X hW FN_X6_46 (shB hβ) (ncB0 hβ) rfl (hB.c4 hi) (dg D_X6_countPast (i := 7) rfl) ?_
      refine n_icmp_ge (tgt := 34) hx hb (by omega) (by omega) (dg D_X6_countPast (i := 8) rfl) (by decide) (fun c12 => ?_) (fun c12 => ?_)
      · refine lv_iload_n hx hb (dg D_X6_countPast (i := 17) rfl) rfl (lv_at hl 1 rfl) ?_
        exact fin (dg D_X6_countPast (i := 18) rfl) hW hS ⟨by rw [show x = nS σ by omega]; rfl, rfl, rfl, rfl⟩
      · refine lv_aload_n hx hb (dg D_X6_countPast (i := 9) rfl) rfl (lv_at hl 0 rfl) ?_
        refine lv_iload_n hx hb (dg D_X6_countPast (i := 10) rfl) rfl (lv_at hl 2 rfl) ?_
        refine callVi X hW hS hR (c_X6_firstPast (I := I) σ β q x (by first | assumption | omega | decide | exact hP.1) (by first | assumption | omega | decide | exact hP.1) (by first | assumption | omega | decide | exact hP.1) (by first | assumption | omega | decide | exact hP.1) (by first | assumption | omega | decide | exact hP.1) (by first | assumption | omega | decide | exact hP.1) (by first | assumption | omega | decide | exact hP.1)) (by decide) UVX6_firstPast LK_X6_79 (shP hq) (ncP0 hq) rfl rfl rfl (Nat.le_of_ble_eq_true rfl) hl hcs (dg D_X6_countPast (i := 11) rfl) (fun r17 I17 L1 R1 H locs hq hW hS => ?_)
        obtain ⟨rfl, rfl, rfl, rfl⟩ := hq
        refine r_ldc X CK_X6_78 (dg D_X6_countPast (i := 12) rfl) ?_
        refine lv_icmp_eq (tgt := 28) hx hb (dg D_X6_countPast (i := 13) rfl) (by decide) (fun c22 => ?_) (fun c22 => ?_)
        · refine lv_iinc (v := nI (x + 1)) (lv' := [(2, .int (nI (x + 1))), (0, .ref (bs + q)), (1, .int (sumT (fun x => if fp σ x = NOTF then nI 0 else nI 1) x))]) hx hb (dg D_X6_countPast (i := 15) rfl) hl (k := 2) rfl (nI_add _ _) (by decide) rfl (fun ls hl => ?_)
          refine lv_goto (tgt := 4) hx hb (dg D_X6_countPast (i := 16) rfl) (by decide) ?_
          exact ih4 (by omega) _ _ _ _ _ (by show _ = _ + (if fp σ x = NOTF then nI 0 else nI 1); rw [if_pos c22]; exact (Int32.add_zero _).symm) (congrArg nI (by omega)) hW hS (lv_sub hl [1, 2, 0] rfl)
        · refine lv_iinc (v := (sumT (fun x => if fp σ x = NOTF then nI 0 else nI 1) x) + nI 1) (lv' := [(1, .int ((sumT (fun x => if fp σ x = NOTF then nI 0 else nI 1) x) + nI 1)), (0, .ref (bs + q)), (2, .int (nI x))]) hx hb (dg D_X6_countPast (i := 14) rfl) hl (k := 1) rfl rfl (by decide) rfl (fun ls hl => ?_)
          refine lv_iinc (v := nI (x + 1)) (lv' := [(2, .int (nI (x + 1))), (1, .int ((sumT (fun x => if fp σ x = NOTF then nI 0 else nI 1) x) + nI 1)), (0, .ref (bs + q))]) hx hb (dg D_X6_countPast (i := 15) rfl) hl (k := 2) rfl (nI_add _ _) (by decide) rfl (fun ls hl => ?_)
          refine lv_goto (tgt := 4) hx hb (dg D_X6_countPast (i := 16) rfl) (by decide) ?_
          exact ih4 (by omega) _ _ _ _ _ (by show _ = _ + (if fp σ x = NOTF then nI 0 else nI 1); rw [if_neg c22]) (congrArg nI (by omega)) hW hS (lv_sub hl [2, 1, 0] rfl))
  exact loop4 0 (Nat.zero_le _) _ _ _ _ _ (rfl) (congrArg nI (by omega)) hW hS (lv_sub hl [2, 1, 0] rfl)

set_option maxHeartbeats 4000000 in
set_option maxRecDepth 100000 in
theorem c_X6_spanEffort {l : Launch} {G : va_G} {bs : Nat} {cy : Nat → ClassId} {I : CI} {L : CL} {R : CR} (σ : Row) (β : Nat) (q : Nat) (x : Nat) (y : Nat) (hi : Inv σ) (hβ : isBr β) (hB : BrAt I β σ) (hq : isPl q) (hP : PlAt I q σ) (hRb : R q 0 = β) (hx5 : x < nS σ) (hy5 : y < Yn σ) : MTi l G bs cy MX6_spanEffort 1 [.ref (bs + q), .int (nI x), .int (nI y)] I L R (fun r I1 L1 R1 => eff σ x y = r ∧ I = I1 ∧ L = L1 ∧ R = R1) := by
  refine MTi.of (own := RX6) pn_RX6 rfl (Nat.le_of_ble_eq_true rfl) ?_
  intro p e s m args below meth c Qf X hW hS fin ls hl
  have hx := X.1
  have hb := X.2.1
  have hR : RmOK (rmL 1 0 0) 1 := ⟨rfl, rfl⟩
  have hcs : 0 ≤ (rmL 1 0 0).cells ∧ 0 ≤ (rmL 1 0 0).slots := ⟨Nat.zero_le _, Nat.zero_le _⟩
  have hl : lv_has ls 3 [(0, .ref (bs + q)), (1, .int (nI x)), (2, .int (nI y))] := hl
  obtain ⟨hY, hY1, hY12, hLn, hL4, hSn, hS12, hGn, hG5⟩ := id hi
  refine lv_aload_n hx hb (dg D_X6_spanEffort (i := 0) rfl) rfl (lv_at hl 0 rfl) ?_
  refine r_getr (v := β) X hW FI_X6_21 (shP hq) (ncP0 hq) rfl hRb (dg D_X6_spanEffort (i := 1) rfl) ?_
  refine rn_getc (t := β + 3) X hW FN_X6_83 (shB hβ) (ncB0 hβ) rfl (dg D_X6_spanEffort (i := 2) rfl) ?_
  refine lv_iload_n hx hb (dg D_X6_spanEffort (i := 3) rfl) rfl (lv_at hl 1 rfl) ?_
  refine r_ald (j := x) (v := σ (10 + 5 * x + 1)) X hW (shB3 hβ) (ncB hβ (by decide)) rfl (by omega) (by omega) (hB.ar (by omega)) (dg D_X6_spanEffort (i := 4) rfl) ?_
  refine lv_bipush (v := nI 100) hx hb (dg D_X6_spanEffort (i := 5) rfl) (by decide) ?_
  refine lv_aload_n hx hb (dg D_X6_spanEffort (i := 6) rfl) rfl (lv_at hl 0 rfl) ?_
  refine r_getc (t := q + 2) X hW FI_X6_15 (shP hq) (ncP0 hq) rfl (dg D_X6_spanEffort (i := 7) rfl) ?_
  refine lv_iload_n hx hb (dg D_X6_spanEffort (i := 8) rfl) rfl (lv_at hl 1 rfl) ?_
  refine lv_bipush (v := nI 13) hx hb (dg D_X6_spanEffort (i := 9) rfl) (by decide) ?_
  refine n_imul hx hb (dg D_X6_spanEffort (i := 10) rfl) ?_
  refine lv_iload_n hx hb (dg D_X6_spanEffort (i := 11) rfl) rfl (lv_at hl 2 rfl) ?_
  refine n_iadd hx hb (dg D_X6_spanEffort (i := 12) rfl) ?_
  refine r_ald (j := (x * 13) + y) (v := (rgS σ x y).1) X hW (shP2 hq) (ncP hq (by decide)) rfl (by omega) (by omega) (hP.2.1 x y (by omega) (by omega)) (dg D_X6_spanEffort (i := 13) rfl) ?_
  refine lv_iadd hx hb (dg D_X6_spanEffort (i := 14) rfl) ?_
  refine lv_imul hx hb (dg D_X6_spanEffort (i := 15) rfl) ?_
  refine lv_bipush (v := nI 100) hx hb (dg D_X6_spanEffort (i := 16) rfl) (by decide) ?_
  refine lv_idiv hx hb (dg D_X6_spanEffort (i := 17) rfl) (by decide) ?_
  exact fin (dg D_X6_spanEffort (i := 18) rfl) hW hS ⟨rfl, rfl, rfl, rfl⟩

set_option maxHeartbeats 4000000 in
set_option maxRecDepth 100000 in
theorem c_X6_gangLoad {l : Launch} {G : va_G} {bs : Nat} {cy : Nat → ClassId} {I : CI} {L : CL} {R : CR} (σ : Row) (β : Nat) (q : Nat) (g : Int32) (y : Nat) (hi : Inv σ) (hβ : isBr β) (hB : BrAt I β σ) (hq : isPl q) (hP : PlAt I q σ) (hRb : R q 0 = β) (hy5 : y < Yn σ) : MTi l G bs cy MX6_gangLoad 2 [.ref (bs + q), .int g, .int (nI y)] I L R (fun r I1 L1 R1 => lod σ g y = r ∧ I = I1 ∧ L = L1 ∧ R = R1) := by
  refine MTi.of (own := RX6) pn_RX6 rfl (Nat.le_of_ble_eq_true rfl) ?_
  intro p e s m args below meth c Qf X hW hS fin ls hl
  have hx := X.1
  have hb := X.2.1
  have hR : RmOK (rmL 2 0 0) 2 := ⟨rfl, rfl⟩
  have hcs : 0 ≤ (rmL 2 0 0).cells ∧ 0 ≤ (rmL 2 0 0).slots := ⟨Nat.zero_le _, Nat.zero_le _⟩
  have hl : lv_has ls 5 [(0, .ref (bs + q)), (1, .int g), (2, .int (nI y))] := hl
  obtain ⟨hY, hY1, hY12, hLn, hL4, hSn, hS12, hGn, hG5⟩ := id hi
  refine n_iconst (a := 0) hx hb (dg D_X6_gangLoad (i := 0) rfl) rfl ?_
  refine lv_istore_n (lv' := [(3, .int (nI 0)), (0, .ref (bs + q)), (1, .int g), (2, .int (nI y))]) hx hb (dg D_X6_gangLoad (i := 1) rfl) rfl hl (by decide) rfl (fun ls hl => ?_)
  refine n_iconst (a := 0) hx hb (dg D_X6_gangLoad (i := 2) rfl) rfl ?_
  refine lv_istore (lv' := [(4, .int (nI 0)), (3, .int (nI 0)), (0, .ref (bs + q)), (1, .int g), (2, .int (nI y))]) hx hb (dg D_X6_gangLoad (i := 3) rfl) hl (by decide) rfl (fun ls hl => ?_)
  have loop5 := up_ind (P := fun x => ∀ (H : Heap) (locs : List Loc) (ls : Array Slot) (v3 : Int32) (v4 : Int32), v3 = sumT (fun x => if pnt σ x y = g then eff σ x y else nI 0) x → v4 = nI x → Wd G bs cy I L R H → va_S (Aq bs) s.heap H locs → lv_has ls 5 [(0, .ref (bs + q)), (1, .int g), (2, .int (nI y)), (3, .int v3), (4, .int v4)] → W p l e (rmL 2 0 0) s m args below meth c H locs 0 0 Qf (F0 m 5 ls [])) (nS σ) (fun x hx5 ih5 => by
      intro H locs ls v3 v4 q3 q4 hW hS hl
      subst q3
      subst q4
      refine lv_iload hx hb (dg D_X6_gangLoad (i := 4) rfl) (lv_at hl 4 rfl) ?_
      refine lv_aload_n hx hb (dg D_X6_gangLoad (i := 5) rfl) rfl (lv_at hl 0 rfl) ?_
      refine r_getr (v := β) X hW FI_X6_21 (shP hq) (ncP0 hq) rfl hRb (dg D_X6_gangLoad (i := 6) rfl) ?_
      refine rn_geti (v := nI (nS σ)) X hW FN_X6_46 (shB hβ) (ncB0 hβ) rfl (hB.c4 hi) (dg D_X6_gangLoad (i := 7) rfl) ?_
      refine n_icmp_ge (tgt := 44) hx hb (by omega) (by omega) (dg D_X6_gangLoad (i := 8) rfl) (by decide) (fun c14 => ?_) (fun c14 => ?_)
      · refine lv_iload_n hx hb (dg D_X6_gangLoad (i := 24) rfl) rfl (lv_at hl 3 rfl) ?_
        exact fin (dg D_X6_gangLoad (i := 25) rfl) hW hS ⟨by rw [show x = nS σ by omega]; rfl, rfl, rfl, rfl⟩
      · refine lv_aload_n hx hb (dg D_X6_gangLoad (i := 9) rfl) rfl (lv_at hl 0 rfl) ?_
        refine lv_iload_n hx hb (dg D_X6_gangLoad (i := 10) rfl) rfl (lv_at hl 2 rfl) ?_
        refine lv_iload hx hb (dg D_X6_gangLoad (i := 11) rfl) (lv_at hl 4 rfl) ?_
        refine callVi X hW hS hR (c_X6_painter (I := I) σ q y x (by first | assumption | omega | decide | exact hP.1) (by first | assumption | omega | decide | exact hP.1) (by first | assumption | omega | decide | exact hP.1) (by first | assumption | omega | decide | exact hP.1)) (by decide) UVX6_painter LK_X6_86 (shP hq) (ncP0 hq) rfl rfl rfl (Nat.le_of_ble_eq_true rfl) hl hcs (dg D_X6_gangLoad (i := 12) rfl) (fun r21 I21 L1 R1 H locs hq hW hS => ?_)
        obtain ⟨rfl, rfl, rfl, rfl⟩ := hq
        refine lv_iload_n hx hb (dg D_X6_gangLoad (i := 13) rfl) rfl (lv_at hl 1 rfl) ?_
        refine lv_icmp_ne (tgt := 38) hx hb (dg D_X6_gangLoad (i := 14) rfl) (by decide) (fun c25 => ?_) (fun c25 => ?_)
        · refine lv_iinc (v := nI (x + 1)) (lv' := [(4, .int (nI (x + 1))), (0, .ref (bs + q)), (1, .int g), (2, .int (nI y)), (3, .int (sumT (fun x => if pnt σ x y = g then eff σ x y else nI 0) x))]) hx hb (dg D_X6_gangLoad (i := 22) rfl) hl (k := 4) rfl (nI_add _ _) (by decide) rfl (fun ls hl => ?_)
          refine lv_goto (tgt := 5) hx hb (dg D_X6_gangLoad (i := 23) rfl) (by decide) ?_
          exact ih5 (by omega) _ _ _ _ _ (by show _ = _ + (if pnt σ x y = g then eff σ x y else nI 0); rw [if_neg c25]; exact (Int32.add_zero _).symm) (congrArg nI (by omega)) hW hS (lv_sub hl [1, 2, 3, 4, 0] rfl)
        · refine lv_iload_n hx hb (dg D_X6_gangLoad (i := 15) rfl) rfl (lv_at hl 3 rfl) ?_
          refine lv_aload_n hx hb (dg D_X6_gangLoad (i := 16) rfl) rfl (lv_at hl 0 rfl) ?_
          refine lv_iload hx hb (dg D_X6_gangLoad (i := 17) rfl) (lv_at hl 4 rfl) ?_
          refine lv_iload_n hx hb (dg D_X6_gangLoad (i := 18) rfl) rfl (lv_at hl 2 rfl) ?_
          refine callVi X hW hS hR (c_X6_spanEffort (I := I) σ β q x y (by first | assumption | omega | decide | exact hP.1) (by first | assumption | omega | decide | exact hP.1) (by first | assumption | omega | decide | exact hP.1) (by first | assumption | omega | decide | exact hP.1) (by first | assumption | omega | decide | exact hP.1) (by first | assumption | omega | decide | exact hP.1) (by first | assumption | omega | decide | exact hP.1) (by first | assumption | omega | decide | exact hP.1)) (by decide) UVX6_spanEffort LK_X6_89 (shP hq) (ncP0 hq) rfl rfl rfl (Nat.le_of_ble_eq_true rfl) hl hcs (dg D_X6_gangLoad (i := 19) rfl) (fun r33 I33 L1 R1 H locs hq hW hS => ?_)
          obtain ⟨rfl, rfl, rfl, rfl⟩ := hq
          refine lv_iadd hx hb (dg D_X6_gangLoad (i := 20) rfl) ?_
          refine lv_istore_n (lv' := [(3, .int ((sumT (fun x => if pnt σ x y = g then eff σ x y else nI 0) x) + (eff σ x y))), (0, .ref (bs + q)), (1, .int g), (2, .int (nI y)), (4, .int (nI x))]) hx hb (dg D_X6_gangLoad (i := 21) rfl) rfl hl (by decide) rfl (fun ls hl => ?_)
          refine lv_iinc (v := nI (x + 1)) (lv' := [(4, .int (nI (x + 1))), (3, .int ((sumT (fun x => if pnt σ x y = g then eff σ x y else nI 0) x) + (eff σ x y))), (0, .ref (bs + q)), (1, .int g), (2, .int (nI y))]) hx hb (dg D_X6_gangLoad (i := 22) rfl) hl (k := 4) rfl (nI_add _ _) (by decide) rfl (fun ls hl => ?_)
          refine lv_goto (tgt := 5) hx hb (dg D_X6_gangLoad (i := 23) rfl) (by decide) ?_
          exact ih5 (by omega) _ _ _ _ _ (by show _ = _ + (if pnt σ x y = g then eff σ x y else nI 0); rw [if_pos c25]) (congrArg nI (by omega)) hW hS (lv_sub hl [2, 3, 4, 1, 0] rfl))
  exact loop5 0 (Nat.zero_le _) _ _ _ _ _ (rfl) (congrArg nI (by omega)) hW hS (lv_sub hl [2, 3, 4, 1, 0] rfl)

set_option maxHeartbeats 4000000 in
set_option maxRecDepth 100000 in
theorem c_X6_shutLanes {l : Launch} {G : va_G} {bs : Nat} {cy : Nat → ClassId} {I : CI} {L : CL} {R : CR} (σ : Row) (β : Nat) (q : Nat) (y : Nat) (hi : Inv σ) (hβ : isBr β) (hB : BrAt I β σ) (hq : isPl q) (hP : PlAt I q σ) (hRb : R q 0 = β) (hy5 : y < Yn σ) : MTi l G bs cy MX6_shutLanes 2 [.ref (bs + q), .int (nI y)] I L R (fun r I1 L1 R1 => shu σ y = r ∧ I = I1 ∧ L = L1 ∧ R = R1) := by
  refine MTi.of (own := RX6) pn_RX6 rfl (Nat.le_of_ble_eq_true rfl) ?_
  intro p e s m args below meth c Qf X hW hS fin ls hl
  have hx := X.1
  have hb := X.2.1
  have hR : RmOK (rmL 2 0 0) 2 := ⟨rfl, rfl⟩
  have hcs : 0 ≤ (rmL 2 0 0).cells ∧ 0 ≤ (rmL 2 0 0).slots := ⟨Nat.zero_le _, Nat.zero_le _⟩
  have hl : lv_has ls 4 [(0, .ref (bs + q)), (1, .int (nI y))] := hl
  obtain ⟨hY, hY1, hY12, hLn, hL4, hSn, hS12, hGn, hG5⟩ := id hi
  refine n_iconst (a := 0) hx hb (dg D_X6_shutLanes (i := 0) rfl) rfl ?_
  refine lv_istore_n (lv' := [(2, .int (nI 0)), (0, .ref (bs + q)), (1, .int (nI y))]) hx hb (dg D_X6_shutLanes (i := 1) rfl) rfl hl (by decide) rfl (fun ls hl => ?_)
  refine n_iconst (a := 0) hx hb (dg D_X6_shutLanes (i := 2) rfl) rfl ?_
  refine lv_istore_n (lv' := [(3, .int (nI 0)), (2, .int (nI 0)), (0, .ref (bs + q)), (1, .int (nI y))]) hx hb (dg D_X6_shutLanes (i := 3) rfl) rfl hl (by decide) rfl (fun ls hl => ?_)
  have loop4 := up_ind (P := fun x => ∀ (H : Heap) (locs : List Loc) (ls : Array Slot) (v2 : Int32) (v3 : Int32), v2 = orT (shF σ y) x → v3 = nI x → Wd G bs cy I L R H → va_S (Aq bs) s.heap H locs → lv_has ls 4 [(0, .ref (bs + q)), (1, .int (nI y)), (2, .int v2), (3, .int v3)] → W p l e (rmL 2 0 0) s m args below meth c H locs 0 0 Qf (F0 m 4 ls [])) (nS σ) (fun x hx4 ih4 => by
      intro H locs ls v2 v3 q2 q3 hW hS hl
      subst q2
      subst q3
      refine lv_iload_n hx hb (dg D_X6_shutLanes (i := 4) rfl) rfl (lv_at hl 3 rfl) ?_
      refine lv_aload_n hx hb (dg D_X6_shutLanes (i := 5) rfl) rfl (lv_at hl 0 rfl) ?_
      refine r_getr (v := β) X hW FI_X6_21 (shP hq) (ncP0 hq) rfl hRb (dg D_X6_shutLanes (i := 6) rfl) ?_
      refine rn_geti (v := nI (nS σ)) X hW FN_X6_46 (shB hβ) (ncB0 hβ) rfl (hB.c4 hi) (dg D_X6_shutLanes (i := 7) rfl) ?_
      refine n_icmp_ge (tgt := 57) hx hb (by omega) (by omega) (dg D_X6_shutLanes (i := 8) rfl) (by decide) (fun c12 => ?_) (fun c12 => ?_)
      · refine lv_iload_n hx hb (dg D_X6_shutLanes (i := 33) rfl) rfl (lv_at hl 2 rfl) ?_
        exact fin (dg D_X6_shutLanes (i := 34) rfl) hW hS ⟨by rw [show x = nS σ by omega]; rfl, rfl, rfl, rfl⟩
      · refine lv_aload_n hx hb (dg D_X6_shutLanes (i := 9) rfl) rfl (lv_at hl 0 rfl) ?_
        refine lv_iload_n hx hb (dg D_X6_shutLanes (i := 10) rfl) rfl (lv_at hl 1 rfl) ?_
        refine lv_iload_n hx hb (dg D_X6_shutLanes (i := 11) rfl) rfl (lv_at hl 3 rfl) ?_
        refine callVi X hW hS hR (c_X6_isPainted (I := I) σ q y x (by first | assumption | omega | decide | exact hP.1) (by first | assumption | omega | decide | exact hP.1) (by first | assumption | omega | decide | exact hP.1) (by first | assumption | omega | decide | exact hP.1)) (by decide) UVX6_isPainted LK_X6_56 (shP hq) (ncP0 hq) rfl rfl rfl (Nat.le_of_ble_eq_true rfl) hl hcs (dg D_X6_shutLanes (i := 12) rfl) (fun r18 I18 L1 R1 H locs hq hW hS => ?_)
        obtain ⟨rfl, rfl, rfl, rfl⟩ := hq
        refine z_if_eq (tgt := 51) hx hb (dg D_X6_shutLanes (i := 13) rfl) (by decide) (fun c21 => ?_) (fun c21 => ?_)
        · refine lv_iinc (v := nI (x + 1)) (lv' := [(3, .int (nI (x + 1))), (0, .ref (bs + q)), (1, .int (nI y)), (2, .int (orT (shF σ y) x))]) hx hb (dg D_X6_shutLanes (i := 31) rfl) hl (k := 3) rfl (nI_add _ _) (by decide) rfl (fun ls hl => ?_)
          refine lv_goto (tgt := 4) hx hb (dg D_X6_shutLanes (i := 32) rfl) (by decide) ?_
          exact ih4 (by omega) _ _ _ _ _ (by show _ = _ ||| shF σ y x; unfold shF; rw [if_neg (nAl (Classical.not_not.mp (of_decide_eq_false c21))), or_n0]) (congrArg nI (by omega)) hW hS (lv_sub hl [1, 2, 3, 0] rfl)
        · refine lv_aload_n hx hb (dg D_X6_shutLanes (i := 14) rfl) rfl (lv_at hl 0 rfl) ?_
          refine r_getr (v := β) X hW FI_X6_21 (shP hq) (ncP0 hq) rfl hRb (dg D_X6_shutLanes (i := 15) rfl) ?_
          refine rn_getc (t := β + 2) X hW FN_X6_95 (shB hβ) (ncB0 hβ) rfl (dg D_X6_shutLanes (i := 16) rfl) ?_
          refine lv_iload_n hx hb (dg D_X6_shutLanes (i := 17) rfl) rfl (lv_at hl 3 rfl) ?_
          refine r_ald (j := x) (v := σ (10 + 5 * x + 0)) X hW (shB2 hβ) (ncB hβ (by decide)) rfl (by omega) (by omega) (hB.ln (by omega)) (dg D_X6_shutLanes (i := 18) rfl) ?_
          refine lv_iconst (v := -1) hx hb (dg D_X6_shutLanes (i := 19) rfl) (by decide) ?_
          refine lv_icmp_eq (tgt := 51) hx hb (dg D_X6_shutLanes (i := 20) rfl) (by decide) (fun c34 => ?_) (fun c34 => ?_)
          · refine lv_iinc (v := nI (x + 1)) (lv' := [(3, .int (nI (x + 1))), (0, .ref (bs + q)), (1, .int (nI y)), (2, .int (orT (shF σ y) x))]) hx hb (dg D_X6_shutLanes (i := 31) rfl) hl (k := 3) rfl (nI_add _ _) (by decide) rfl (fun ls hl => ?_)
            refine lv_goto (tgt := 4) hx hb (dg D_X6_shutLanes (i := 32) rfl) (by decide) ?_
            exact ih4 (by omega) _ _ _ _ _ (by show _ = _ ||| shF σ y x; unfold shF; rw [if_neg (nArr c34), or_n0]) (congrArg nI (by omega)) hW hS (lv_sub hl [1, 2, 3, 0] rfl)
          · refine lv_iload_n hx hb (dg D_X6_shutLanes (i := 21) rfl) rfl (lv_at hl 2 rfl) ?_
            refine n_iconst (a := 1) hx hb (dg D_X6_shutLanes (i := 22) rfl) rfl ?_
            refine lv_aload_n hx hb (dg D_X6_shutLanes (i := 23) rfl) rfl (lv_at hl 0 rfl) ?_
            refine r_getr (v := β) X hW FI_X6_21 (shP hq) (ncP0 hq) rfl hRb (dg D_X6_shutLanes (i := 24) rfl) ?_
            refine rn_getc (t := β + 2) X hW FN_X6_95 (shB hβ) (ncB0 hβ) rfl (dg D_X6_shutLanes (i := 25) rfl) ?_
            refine lv_iload_n hx hb (dg D_X6_shutLanes (i := 26) rfl) rfl (lv_at hl 3 rfl) ?_
            refine r_ald (j := x) (v := σ (10 + 5 * x + 0)) X hW (shB2 hβ) (ncB hβ (by decide)) rfl (by omega) (by omega) (hB.ln (by omega)) (dg D_X6_shutLanes (i := 27) rfl) ?_
            refine lv_ishl hx hb (dg D_X6_shutLanes (i := 28) rfl) ?_
            refine lv_ior hx hb (dg D_X6_shutLanes (i := 29) rfl) ?_
            refine lv_istore_n (lv' := [(2, .int ((orT (shF σ y) x) ||| ((nI 1) <<< ((σ (10 + 5 * x + 0)) &&& 31)))), (0, .ref (bs + q)), (1, .int (nI y)), (3, .int (nI x))]) hx hb (dg D_X6_shutLanes (i := 30) rfl) rfl hl (by decide) rfl (fun ls hl => ?_)
            refine lv_iinc (v := nI (x + 1)) (lv' := [(3, .int (nI (x + 1))), (2, .int ((orT (shF σ y) x) ||| ((nI 1) <<< ((σ (10 + 5 * x + 0)) &&& 31)))), (0, .ref (bs + q)), (1, .int (nI y))]) hx hb (dg D_X6_shutLanes (i := 31) rfl) hl (k := 3) rfl (nI_add _ _) (by decide) rfl (fun ls hl => ?_)
            refine lv_goto (tgt := 4) hx hb (dg D_X6_shutLanes (i := 32) rfl) (by decide) ?_
            exact ih4 (by omega) _ _ _ _ _ (by show _ = _ ||| shF σ y x; unfold shF; rw [if_pos (And.intro (of_decide_eq_true c21) c34)]) (congrArg nI (by omega)) hW hS (lv_sub hl [2, 3, 1, 0] rfl))
  exact loop4 0 (Nat.zero_le _) _ _ _ _ _ (rfl) (congrArg nI (by omega)) hW hS (lv_sub hl [2, 3, 1, 0] rfl)

