set_option maxHeartbeats 4000000 in
set_option maxRecDepth 100000 in
theorem c_X6_reasonAgainst {l : Launch} {G : va_G} {bs : Nat} {cy : Nat → ClassId} {I : CI} {L : CL} {R : CR} (σ : Row) (β : Nat) (q : Nat) (y : Nat) (x : Nat) (g : Nat) (hi : Inv σ) (hβ : isBr β) (hB : BrAt I β σ) (hq : isPl q) (hP : PlAt I q σ) (hRb : R q 0 = β) (hy5 : y < Yn σ) (hx5 : x < nS σ) (hg5 : g < nG σ) (hd : DR σ) : MTi l G bs cy MX6_reasonAgainst 3 [.ref (bs + q), .int (nI y), .int (nI x), .int (nI g)] I L R (fun r I1 L1 R1 => rfs σ y x g = r ∧ I = I1 ∧ L = L1 ∧ R = R1) := by
  refine MTi.of (own := RX6) pn_RX6 rfl (Nat.le_of_ble_eq_true rfl) ?_
  intro p e s m args below meth c Qf X hW hS fin ls hl
  have hx := X.1
  have hb := X.2.1
  have hR : RmOK (rmL 3 0 0) 3 := ⟨rfl, rfl⟩
  have hcs : 0 ≤ (rmL 3 0 0).cells ∧ 0 ≤ (rmL 3 0 0).slots := ⟨Nat.zero_le _, Nat.zero_le _⟩
  have hl : lv_has ls 6 [(0, .ref (bs + q)), (1, .int (nI y)), (2, .int (nI x)), (3, .int (nI g))] := hl
  obtain ⟨hY, hY1, hY12, hLn, hL4, hSn, hS12, hGn, hG5⟩ := id hi
  refine lv_aload_n hx hb (dg D_X6_reasonAgainst (i := 0) rfl) rfl (lv_at hl 0 rfl) ?_
  refine lv_iload_n hx hb (dg D_X6_reasonAgainst (i := 1) rfl) rfl (lv_at hl 1 rfl) ?_
  refine lv_iload_n hx hb (dg D_X6_reasonAgainst (i := 2) rfl) rfl (lv_at hl 2 rfl) ?_
  refine callVi X hW hS hR (c_X6_isPainted (I := I) σ q y x (by first | assumption | omega | decide | exact hP.1) (by first | assumption | omega | decide | exact hP.1) (by first | assumption | omega | decide | exact hP.1) (by first | assumption | omega | decide | exact hP.1)) (by decide) UVX6_isPainted LK_X6_56 (shP hq) (ncP0 hq) rfl rfl rfl (Nat.le_of_ble_eq_true rfl) hl hcs (dg D_X6_reasonAgainst (i := 3) rfl) (fun r3 I3 L1 R1 H locs hq hW hS => ?_)
  obtain ⟨rfl, rfl, rfl, rfl⟩ := hq
  refine z_if_eq (tgt := 11) hx hb (dg D_X6_reasonAgainst (i := 4) rfl) (by decide) (fun c6 => ?_) (fun c6 => ?_)
  · refine lv_aload_n hx hb (dg D_X6_reasonAgainst (i := 7) rfl) rfl (lv_at hl 0 rfl) ?_
    refine r_getr (v := β) X hW FI_X6_21 (shP hq) (ncP0 hq) rfl hRb (dg D_X6_reasonAgainst (i := 8) rfl) ?_
    refine rn_getc (t := β + 2) X hW FN_X6_95 (shB hβ) (ncB0 hβ) rfl (dg D_X6_reasonAgainst (i := 9) rfl) ?_
    refine lv_iload_n hx hb (dg D_X6_reasonAgainst (i := 10) rfl) rfl (lv_at hl 2 rfl) ?_
    refine r_ald (j := x) (v := σ (10 + 5 * x + 0)) X hW (shB2 hβ) (ncB hβ (by decide)) rfl (by omega) (by omega) (hB.ln (by omega)) (dg D_X6_reasonAgainst (i := 11) rfl) ?_
    refine lv_istore (lv' := [(4, .int (σ (10 + 5 * x + 0))), (0, .ref (bs + q)), (1, .int (nI y)), (2, .int (nI x)), (3, .int (nI g))]) hx hb (dg D_X6_reasonAgainst (i := 12) rfl) hl (by decide) rfl (fun ls hl => ?_)
    refine lv_iload hx hb (dg D_X6_reasonAgainst (i := 13) rfl) (lv_at hl 0 rfl) ?_
    refine lv_iconst (v := -1) hx hb (dg D_X6_reasonAgainst (i := 14) rfl) (by decide) ?_
    refine lv_icmp_eq (tgt := 68) hx hb (dg D_X6_reasonAgainst (i := 15) rfl) (by decide) (fun c25 => ?_) (fun c25 => ?_)
    · refine lv_aload_n hx hb (dg D_X6_reasonAgainst (i := 38) rfl) rfl (lv_at hl 1 rfl) ?_
      refine lv_iload_n hx hb (dg D_X6_reasonAgainst (i := 39) rfl) rfl (lv_at hl 4 rfl) ?_
      refine lv_iload_n hx hb (dg D_X6_reasonAgainst (i := 40) rfl) rfl (lv_at hl 2 rfl) ?_
      refine callVi X hW hS hR (c_X6_gangLoad (I := I) σ β q (nI g) y (by first | assumption | omega | decide | exact hP.1) (by first | assumption | omega | decide | exact hP.1) (by first | assumption | omega | decide | exact hP.1) (by first | assumption | omega | decide | exact hP.1) (by first | assumption | omega | decide | exact hP.1) (by first | assumption | omega | decide | exact hP.1) (by first | assumption | omega | decide | exact hP.1)) (by decide) UVX6_gangLoad LK_X6_116 (shP hq) (ncP0 hq) rfl rfl rfl (Nat.le_of_ble_eq_true rfl) hl hcs (dg D_X6_reasonAgainst (i := 41) rfl) (fun r71 I71 L1 R1 H locs hq hW hS => ?_)
      obtain ⟨rfl, rfl, rfl, rfl⟩ := hq
      refine lv_aload_n hx hb (dg D_X6_reasonAgainst (i := 42) rfl) rfl (lv_at hl 1 rfl) ?_
      refine lv_iload_n hx hb (dg D_X6_reasonAgainst (i := 43) rfl) rfl (lv_at hl 3 rfl) ?_
      refine lv_iload_n hx hb (dg D_X6_reasonAgainst (i := 44) rfl) rfl (lv_at hl 2 rfl) ?_
      refine callVi X hW hS hR (c_X6_spanEffort (I := I) σ β q x y (by first | assumption | omega | decide | exact hP.1) (by first | assumption | omega | decide | exact hP.1) (by first | assumption | omega | decide | exact hP.1) (by first | assumption | omega | decide | exact hP.1) (by first | assumption | omega | decide | exact hP.1) (by first | assumption | omega | decide | exact hP.1) (by first | assumption | omega | decide | exact hP.1) (by first | assumption | omega | decide | exact hP.1)) (by decide) UVX6_spanEffort LK_X6_89 (shP hq) (ncP0 hq) rfl rfl rfl (Nat.le_of_ble_eq_true rfl) hl hcs (dg D_X6_reasonAgainst (i := 45) rfl) (fun r77 I77 L1 R1 H locs hq hW hS => ?_)
      obtain ⟨rfl, rfl, rfl, rfl⟩ := hq
      refine lv_iadd hx hb (dg D_X6_reasonAgainst (i := 46) rfl) ?_
      refine lv_istore (lv' := [(5, .int ((lod σ (nI g) y) + (eff σ x y))), (4, .int (σ (10 + 5 * x + 0))), (0, .ref (bs + q)), (1, .int (nI y)), (2, .int (nI x)), (3, .int (nI g))]) hx hb (dg D_X6_reasonAgainst (i := 47) rfl) hl (by decide) rfl (fun ls hl => ?_)
      refine lv_iload hx hb (dg D_X6_reasonAgainst (i := 48) rfl) (lv_at hl 0 rfl) ?_
      refine lv_aload_n hx hb (dg D_X6_reasonAgainst (i := 49) rfl) rfl (lv_at hl 2 rfl) ?_
      refine r_getr (v := β) X hW FI_X6_21 (shP hq) (ncP0 hq) rfl hRb (dg D_X6_reasonAgainst (i := 50) rfl) ?_
      refine lv_iload_n hx hb (dg D_X6_reasonAgainst (i := 51) rfl) rfl (lv_at hl 5 rfl) ?_
      refine lv_iload_n hx hb (dg D_X6_reasonAgainst (i := 52) rfl) rfl (lv_at hl 3 rfl) ?_
      refine callVi X hW hS hR (c_X1_gangCapacity (I := I) σ β g y (by first | assumption | omega | decide | exact hP.1) (by first | assumption | omega | decide | exact hP.1) (by first | assumption | omega | decide | exact hP.1) (by first | assumption | omega | decide | exact hP.1) (by first | assumption | omega | decide | exact hP.1)) (by decide) UVX1_gangCapacity LK_X6_119 (shB hβ) (ncB0 hβ) rfl rfl rfl (Nat.le_of_ble_eq_true rfl) hl hcs (dg D_X6_reasonAgainst (i := 53) rfl) (fun r91 I91 L1 R1 H locs hq hW hS => ?_)
      obtain ⟨rfl, rfl, rfl, rfl⟩ := hq
      refine lv_icmp_le (tgt := 101) hx hb (dg D_X6_reasonAgainst (i := 54) rfl) (by decide) (fun c94 => ?_) (fun c94 => ?_)
      · refine n_iconst (a := 0) hx hb (dg D_X6_reasonAgainst (i := 57) rfl) rfl ?_
        exact fin (dg D_X6_reasonAgainst (i := 58) rfl) hW hS ⟨by unfold rfs; rw [if_neg (fun z => z (Classical.not_not.mp (of_decide_eq_false c6))), if_neg (nAl c25), if_neg (nAl c25), if_neg (Int32.not_lt.mpr c94)], rfl, rfl, rfl⟩
      · refine n_iconst (a := 4) hx hb (dg D_X6_reasonAgainst (i := 55) rfl) rfl ?_
        refine lv_goto (tgt := 102) hx hb (dg D_X6_reasonAgainst (i := 56) rfl) (by decide) ?_
        exact fin (dg D_X6_reasonAgainst (i := 58) rfl) hW hS ⟨by unfold rfs; rw [if_neg (fun z => z (Classical.not_not.mp (of_decide_eq_false c6))), if_neg (nAl c25), if_neg (nAl c25), if_pos (Int32.not_le.mp c94)], rfl, rfl, rfl⟩
    · obtain ⟨q0, hq0, hln⟩ := (hd.2.2.1 x hx5).resolve_left c25
      rw [hln] at hl
      refine lv_aload_n hx hb (dg D_X6_reasonAgainst (i := 16) rfl) rfl (lv_at hl 1 rfl) ?_
      refine r_getr (v := β) X hW FI_X6_21 (shP hq) (ncP0 hq) rfl hRb (dg D_X6_reasonAgainst (i := 17) rfl) ?_
      refine lv_iload hx hb (dg D_X6_reasonAgainst (i := 18) rfl) (lv_at hl 0 rfl) ?_
      refine lv_iload_n hx hb (dg D_X6_reasonAgainst (i := 19) rfl) rfl (lv_at hl 2 rfl) ?_
      refine callVi X hW hS hR (c_X1_isClosed (I := I) σ β q0 y (by first | assumption | omega | decide | exact hP.1) (by first | assumption | omega | decide | exact hP.1) (by first | assumption | omega | decide | exact hP.1) (by first | assumption | omega | decide | exact hP.1)) (by decide) UVX1_isClosed LK_X6_128 (shB hβ) (ncB0 hβ) rfl rfl rfl (Nat.le_of_ble_eq_true rfl) hl hcs (dg D_X6_reasonAgainst (i := 20) rfl) (fun r35 I35 L1 R1 H locs hq hW hS => ?_)
      obtain ⟨rfl, rfl, rfl, rfl⟩ := hq
      refine z_if_eq (tgt := 43) hx hb (dg D_X6_reasonAgainst (i := 21) rfl) (by decide) (fun c38 => ?_) (fun c38 => ?_)
      · obtain ⟨k9, hk9, hke⟩ := shuL_N hd hi y hq0
        refine lv_aload_n hx hb (dg D_X6_reasonAgainst (i := 24) rfl) rfl (lv_at hl 1 rfl) ?_
        refine lv_iload_n hx hb (dg D_X6_reasonAgainst (i := 25) rfl) rfl (lv_at hl 2 rfl) ?_
        refine callVi X hW hS hR (c_X6_shutLanes (I := I) σ β q y (by first | assumption | omega | decide | exact hP.1) (by first | assumption | omega | decide | exact hP.1) (by first | assumption | omega | decide | exact hP.1) (by first | assumption | omega | decide | exact hP.1) (by first | assumption | omega | decide | exact hP.1) (by first | assumption | omega | decide | exact hP.1) (by first | assumption | omega | decide | exact hP.1)) (by decide) UVX6_shutLanes LK_X6_131 (shP hq) (ncP0 hq) rfl rfl rfl (Nat.le_of_ble_eq_true rfl) hl hcs (dg D_X6_reasonAgainst (i := 26) rfl) (fun r45 I45 L1 R1 H locs hq hW hS => ?_)
        obtain ⟨rfl, rfl, rfl, rfl⟩ := hq
        refine n_iconst (a := 1) hx hb (dg D_X6_reasonAgainst (i := 27) rfl) rfl ?_
        refine lv_iload hx hb (dg D_X6_reasonAgainst (i := 28) rfl) (lv_at hl 0 rfl) ?_
        refine lv_ishl hx hb (dg D_X6_reasonAgainst (i := 29) rfl) ?_
        refine lv_ior hx hb (dg D_X6_reasonAgainst (i := 30) rfl) ?_
        rw [show (shu σ y) ||| ((nI 1) <<< ((nI q0) &&& 31)) = nI k9 from hke]
        refine callSi X hW hS hR (c_J6_bitCount_0f7a4 (I := I) k9 (by first | assumption | omega | decide | exact hP.1)) (by decide) USJ6_bitCount_0f7a4 LK_X6_134 rfl rfl (Nat.le_of_ble_eq_true rfl) hl hcs (dg D_X6_reasonAgainst (i := 31) rfl) (fun r53 I53 L1 R1 H locs hq hW hS => ?_)
        obtain ⟨rfl, rfl, rfl, rfl⟩ := hq
        refine lv_aload_n hx hb (dg D_X6_reasonAgainst (i := 32) rfl) rfl (lv_at hl 1 rfl) ?_
        refine r_getr (v := β) X hW FI_X6_21 (shP hq) (ncP0 hq) rfl hRb (dg D_X6_reasonAgainst (i := 33) rfl) ?_
        refine rn_geti (v := σ 1) X hW FN_X6_139 (shB hβ) (ncB0 hβ) rfl hB.c1 (dg D_X6_reasonAgainst (i := 34) rfl) ?_
        refine lv_icmp_le (tgt := 68) hx hb (dg D_X6_reasonAgainst (i := 35) rfl) (by decide) (fun c63 => ?_) (fun c63 => ?_)
        · refine lv_aload_n hx hb (dg D_X6_reasonAgainst (i := 38) rfl) rfl (lv_at hl 1 rfl) ?_
          refine lv_iload_n hx hb (dg D_X6_reasonAgainst (i := 39) rfl) rfl (lv_at hl 4 rfl) ?_
          refine lv_iload_n hx hb (dg D_X6_reasonAgainst (i := 40) rfl) rfl (lv_at hl 2 rfl) ?_
          refine callVi X hW hS hR (c_X6_gangLoad (I := I) σ β q (nI g) y (by first | assumption | omega | decide | exact hP.1) (by first | assumption | omega | decide | exact hP.1) (by first | assumption | omega | decide | exact hP.1) (by first | assumption | omega | decide | exact hP.1) (by first | assumption | omega | decide | exact hP.1) (by first | assumption | omega | decide | exact hP.1) (by first | assumption | omega | decide | exact hP.1)) (by decide) UVX6_gangLoad LK_X6_116 (shP hq) (ncP0 hq) rfl rfl rfl (Nat.le_of_ble_eq_true rfl) hl hcs (dg D_X6_reasonAgainst (i := 41) rfl) (fun r71 I71 L1 R1 H locs hq hW hS => ?_)
          obtain ⟨rfl, rfl, rfl, rfl⟩ := hq
          refine lv_aload_n hx hb (dg D_X6_reasonAgainst (i := 42) rfl) rfl (lv_at hl 1 rfl) ?_
          refine lv_iload_n hx hb (dg D_X6_reasonAgainst (i := 43) rfl) rfl (lv_at hl 3 rfl) ?_
          refine lv_iload_n hx hb (dg D_X6_reasonAgainst (i := 44) rfl) rfl (lv_at hl 2 rfl) ?_
          refine callVi X hW hS hR (c_X6_spanEffort (I := I) σ β q x y (by first | assumption | omega | decide | exact hP.1) (by first | assumption | omega | decide | exact hP.1) (by first | assumption | omega | decide | exact hP.1) (by first | assumption | omega | decide | exact hP.1) (by first | assumption | omega | decide | exact hP.1) (by first | assumption | omega | decide | exact hP.1) (by first | assumption | omega | decide | exact hP.1) (by first | assumption | omega | decide | exact hP.1)) (by decide) UVX6_spanEffort LK_X6_89 (shP hq) (ncP0 hq) rfl rfl rfl (Nat.le_of_ble_eq_true rfl) hl hcs (dg D_X6_reasonAgainst (i := 45) rfl) (fun r77 I77 L1 R1 H locs hq hW hS => ?_)
          obtain ⟨rfl, rfl, rfl, rfl⟩ := hq
          refine lv_iadd hx hb (dg D_X6_reasonAgainst (i := 46) rfl) ?_
          refine lv_istore (lv' := [(5, .int ((lod σ (nI g) y) + (eff σ x y))), (4, .int (nI q0)), (0, .ref (bs + q)), (1, .int (nI y)), (2, .int (nI x)), (3, .int (nI g))]) hx hb (dg D_X6_reasonAgainst (i := 47) rfl) hl (by decide) rfl (fun ls hl => ?_)
          refine lv_iload hx hb (dg D_X6_reasonAgainst (i := 48) rfl) (lv_at hl 0 rfl) ?_
          refine lv_aload_n hx hb (dg D_X6_reasonAgainst (i := 49) rfl) rfl (lv_at hl 2 rfl) ?_
          refine r_getr (v := β) X hW FI_X6_21 (shP hq) (ncP0 hq) rfl hRb (dg D_X6_reasonAgainst (i := 50) rfl) ?_
          refine lv_iload_n hx hb (dg D_X6_reasonAgainst (i := 51) rfl) rfl (lv_at hl 5 rfl) ?_
          refine lv_iload_n hx hb (dg D_X6_reasonAgainst (i := 52) rfl) rfl (lv_at hl 3 rfl) ?_
          refine callVi X hW hS hR (c_X1_gangCapacity (I := I) σ β g y (by first | assumption | omega | decide | exact hP.1) (by first | assumption | omega | decide | exact hP.1) (by first | assumption | omega | decide | exact hP.1) (by first | assumption | omega | decide | exact hP.1) (by first | assumption | omega | decide | exact hP.1)) (by decide) UVX1_gangCapacity LK_X6_119 (shB hβ) (ncB0 hβ) rfl rfl rfl (Nat.le_of_ble_eq_true rfl) hl hcs (dg D_X6_reasonAgainst (i := 53) rfl) (fun r91 I91 L1 R1 H locs hq hW hS => ?_)
          obtain ⟨rfl, rfl, rfl, rfl⟩ := hq
          refine lv_icmp_le (tgt := 101) hx hb (dg D_X6_reasonAgainst (i := 54) rfl) (by decide) (fun c94 => ?_) (fun c94 => ?_)
          · refine n_iconst (a := 0) hx hb (dg D_X6_reasonAgainst (i := 57) rfl) rfl ?_
            exact fin (dg D_X6_reasonAgainst (i := 58) rfl) hW hS ⟨by unfold rfs; rw [if_neg (fun z => z (Classical.not_not.mp (of_decide_eq_false c6))), if_neg (nAr (by rw [hln]; exact fun z => by rw [(bit_eq1 (by omega)).mp z] at c38; exact absurd c38 (by decide))), if_neg (nAr (by rw [hln, hke]; exact Int32.not_lt.mpr c63)), if_neg (Int32.not_lt.mpr c94)], rfl, rfl, rfl⟩
          · refine n_iconst (a := 4) hx hb (dg D_X6_reasonAgainst (i := 55) rfl) rfl ?_
            refine lv_goto (tgt := 102) hx hb (dg D_X6_reasonAgainst (i := 56) rfl) (by decide) ?_
            exact fin (dg D_X6_reasonAgainst (i := 58) rfl) hW hS ⟨by unfold rfs; rw [if_neg (fun z => z (Classical.not_not.mp (of_decide_eq_false c6))), if_neg (nAr (by rw [hln]; exact fun z => by rw [(bit_eq1 (by omega)).mp z] at c38; exact absurd c38 (by decide))), if_neg (nAr (by rw [hln, hke]; exact Int32.not_lt.mpr c63)), if_pos (Int32.not_le.mp c94)], rfl, rfl, rfl⟩
        · refine n_iconst (a := 3) hx hb (dg D_X6_reasonAgainst (i := 36) rfl) rfl ?_
          exact fin (dg D_X6_reasonAgainst (i := 37) rfl) hW hS ⟨by unfold rfs; rw [if_neg (fun z => z (Classical.not_not.mp (of_decide_eq_false c6))), if_neg (nAr (by rw [hln]; exact fun z => by rw [(bit_eq1 (by omega)).mp z] at c38; exact absurd c38 (by decide))), if_pos (And.intro c25 (by rw [hln, hke]; exact Int32.not_le.mp c63))], rfl, rfl, rfl⟩
      · refine n_iconst (a := 2) hx hb (dg D_X6_reasonAgainst (i := 22) rfl) rfl ?_
        exact fin (dg D_X6_reasonAgainst (i := 23) rfl) hW hS ⟨by unfold rfs; rw [if_neg (fun z => z (Classical.not_not.mp (of_decide_eq_false c6))), if_pos (And.intro c25 (by rw [hln]; exact (bit_eq1 (by omega)).mpr c38))], rfl, rfl, rfl⟩
  · refine n_iconst (a := 1) hx hb (dg D_X6_reasonAgainst (i := 5) rfl) rfl ?_
    exact fin (dg D_X6_reasonAgainst (i := 6) rfl) hW hS ⟨by unfold rfs; rw [if_pos (of_decide_eq_true c6)], rfl, rfl, rfl⟩

set_option maxHeartbeats 4000000 in
set_option maxRecDepth 100000 in
theorem c_X6_countPaintings {l : Launch} {G : va_G} {bs : Nat} {cy : Nat → ClassId} {I : CI} {L : CL} {R : CR} (σ : Row) (q : Nat) (hq : isPl q) (hP : PlAt I q σ) : MTi l G bs cy MX6_countPaintings 1 [.ref (bs + q)] I L R (fun r I1 L1 R1 => nI (pcN σ) = r ∧ I = I1 ∧ L = L1 ∧ R = R1) := by
  refine MTi.of (own := RX6) pn_RX6 rfl (Nat.le_of_ble_eq_true rfl) ?_
  intro p e s m args below meth c Qf X hW hS fin ls hl
  have hx := X.1
  have hb := X.2.1
  have hR : RmOK (rmL 1 0 0) 1 := ⟨rfl, rfl⟩
  have hcs : 0 ≤ (rmL 1 0 0).cells ∧ 0 ≤ (rmL 1 0 0).slots := ⟨Nat.zero_le _, Nat.zero_le _⟩
  have hl : lv_has ls 3 [(0, .ref (bs + q))] := hl
  refine n_iconst (a := 0) hx hb (dg D_X6_countPaintings (i := 0) rfl) rfl ?_
  refine lv_istore_n (lv' := [(1, .int (nI 0)), (0, .ref (bs + q))]) hx hb (dg D_X6_countPaintings (i := 1) rfl) rfl hl (by decide) rfl (fun ls hl => ?_)
  refine n_iconst (a := 0) hx hb (dg D_X6_countPaintings (i := 2) rfl) rfl ?_
  refine lv_istore_n (lv' := [(2, .int (nI 0)), (1, .int (nI 0)), (0, .ref (bs + q))]) hx hb (dg D_X6_countPaintings (i := 3) rfl) rfl hl (by decide) rfl (fun ls hl => ?_)
  have loop4 := up_ind (P := fun k => ∀ (H : Heap) (locs : List Loc) (ls : Array Slot) (v1 : Int32) (v2 : Int32), v1 = nI (cntB (cpB σ) k) → v2 = nI k → Wd G bs cy I L R H → va_S (Aq bs) s.heap H locs → lv_has ls 3 [(0, .ref (bs + q)), (1, .int v1), (2, .int v2)] → W p l e (rmL 1 0 0) s m args below meth c H locs 0 0 Qf (F0 m 4 ls [])) 144 (fun k hx4 ih4 => by
      intro H locs ls v1 v2 q1 q2 hW hS hl
      subst q1
      subst q2
      refine lv_iload_n hx hb (dg D_X6_countPaintings (i := 4) rfl) rfl (lv_at hl 2 rfl) ?_
      refine lv_sipush (v := nI 144) hx hb (dg D_X6_countPaintings (i := 5) rfl) (by decide) ?_
      refine n_icmp_ge (tgt := 30) hx hb (by omega) (by omega) (dg D_X6_countPaintings (i := 6) rfl) (by decide) (fun c8 => ?_) (fun c8 => ?_)
      · refine lv_iload_n hx hb (dg D_X6_countPaintings (i := 16) rfl) rfl (lv_at hl 1 rfl) ?_
        exact fin (dg D_X6_countPaintings (i := 17) rfl) hW hS ⟨by rw [show k = 144 by omega]; rfl, rfl, rfl, rfl⟩
      · refine lv_aload_n hx hb (dg D_X6_countPaintings (i := 7) rfl) rfl (lv_at hl 0 rfl) ?_
        refine r_getc (t := q + 1) X hW FI_X6_11 (shP hq) (ncP0 hq) rfl (dg D_X6_countPaintings (i := 8) rfl) ?_
        refine lv_iload_n hx hb (dg D_X6_countPaintings (i := 9) rfl) rfl (lv_at hl 2 rfl) ?_
        refine r_ald (j := k) (v := σ (104 + k) - nI 1) X hW (shP1 hq) (ncP hq (by decide)) rfl (by omega) (by omega) (hP.cell (by omega)) (dg D_X6_countPaintings (i := 10) rfl) ?_
        refine lv_iconst (v := -1) hx hb (dg D_X6_countPaintings (i := 11) rfl) (by decide) ?_
        refine lv_icmp_eq (tgt := 24) hx hb (dg D_X6_countPaintings (i := 12) rfl) (by decide) (fun c18 => ?_) (fun c18 => ?_)
        · refine lv_iinc (v := nI (k + 1)) (lv' := [(2, .int (nI (k + 1))), (0, .ref (bs + q)), (1, .int (nI (cntB (cpB σ) k)))]) hx hb (dg D_X6_countPaintings (i := 14) rfl) hl (k := 2) rfl (nI_add _ _) (by decide) rfl (fun ls hl => ?_)
          refine lv_goto (tgt := 4) hx hb (dg D_X6_countPaintings (i := 15) rfl) (by decide) ?_
          exact ih4 (by omega) _ _ _ _ _ (congrArg nI (by show _ = cntB (cpB σ) k + _; rw [show cpB σ k = false from decide_eq_false (fun z => z c18)]; rfl)) (congrArg nI (by omega)) hW hS (lv_sub hl [1, 2, 0] rfl)
        · refine lv_iinc (v := nI (cntB (cpB σ) k + 1)) (lv' := [(1, .int (nI (cntB (cpB σ) k + 1))), (0, .ref (bs + q)), (2, .int (nI k))]) hx hb (dg D_X6_countPaintings (i := 13) rfl) hl (k := 1) rfl (nI_add _ _) (by decide) rfl (fun ls hl => ?_)
          refine lv_iinc (v := nI (k + 1)) (lv' := [(2, .int (nI (k + 1))), (1, .int (nI (cntB (cpB σ) k + 1))), (0, .ref (bs + q))]) hx hb (dg D_X6_countPaintings (i := 14) rfl) hl (k := 2) rfl (nI_add _ _) (by decide) rfl (fun ls hl => ?_)
          refine lv_goto (tgt := 4) hx hb (dg D_X6_countPaintings (i := 15) rfl) (by decide) ?_
          exact ih4 (by omega) _ _ _ _ _ (congrArg nI (by show _ = cntB (cpB σ) k + _; rw [show cpB σ k = true from decide_eq_true c18]; rfl)) (congrArg nI (by omega)) hW hS (lv_sub hl [2, 1, 0] rfl))
  exact loop4 0 (Nat.zero_le _) _ _ _ _ _ (rfl) (congrArg nI (by omega)) hW hS (lv_sub hl [2, 1, 0] rfl)

