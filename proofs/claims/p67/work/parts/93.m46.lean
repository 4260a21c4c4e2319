set_option maxHeartbeats 1000000 in
set_option maxRecDepth 100000 in
theorem c_X5_readLane {l : Launch} {G : va_G} {bs : Nat} {cy : Nat → ClassId} {I : CI} {L : CL} {R : CR} (b : Nat → Int32) (n : Nat) (σ : Row) (p9 : Nat) (nm : Nm) (N : Nat) (ds : Nat → Nat) (st : Nat → Nat) (nu : Nat → Nat) (β : Nat) (q : Nat) (hTx : rowP I 30 n (fun j => sg (b j))) (hln : I 66 1 = nI n) (hT : TB b n) (hn : n ≤ 900) (hen : I 66 3 = nI (tE b n p9)) (hp : p9 ≤ n) (hz : KC I) (hi : Inv σ) (hNi : NmI b n I N ds st nu) (hNl : NmL b n L N ds) (hNR : NmR b n σ nm N ds st nu) (hβ : isBr β) (hB : BrAt I β σ) (hq : isPl q) (hGa : GaAt I q σ) (hR2 : R 61 2 = β) (hR3 : R 61 3 = q) (hRq : R q 0 = β) (hnL : nLn σ < 4) : MTi l G bs cy MX5_readLane 4 [.ref (bs + 61)] I L R (fun r I1 L1 R1 => bI (okP (seK b n (stLa b n σ nm p9))) = r ∧ Fr (SCP β q) I I1 ∧ PostC b n β q (seK b n (stLa b n σ nm p9)) σ I1 L1 ∧ FL SLq L L1 ∧ R = R1) := by
  refine MTz.of (own := RX5) pn_RX5 rfl (Nat.le_of_ble_eq_true rfl) ?_
  intro p e s m args below meth c Qf X hW hS fin ls hl
  have hx := X.1
  have hb := X.2.1
  have hR : RmOK (rmL 4 0 0) 4 := ⟨rfl, rfl⟩
  have hcs : 0 ≤ (rmL 4 0 0).cells ∧ 0 ≤ (rmL 4 0 0).slots := ⟨Nat.zero_le _, Nat.zero_le _⟩
  have hl : lv_has ls 4 [(0, .ref (bs + 61))] := hl
  have hF : Fr (SCP β q) I I := Fr.rf
  have hFL : FL SLq L L := FL.rf
  obtain ⟨hY, hY1, hY12, hLn, hL4, hSn, hS12, hGn, hG5⟩ := id hi
  have hbq := br_pl hβ hq
  have hq4 : 53 ≤ q ∧ q ≤ 57 := by rcases hq with rfl | rfl <;> omega
  have hN21 : N ≤ nLn σ + nS σ + nG σ := Nat.le_of_eq hNR.1
  have hnL4 : ¬ nLn σ = 4 := by omega
  refine lv_aload_n hx hb (dg D_X5_readLane (i := 0) rfl) rfl (lv_at hl 0 rfl) ?_
  refine callVl X hW hS hR (c_X5_newName (I := I) b n σ (tt b n p9 1) nm N ds st nu (by first | exact hTx | assumption | omega | decide | exact hP.1) (by first | exact hln | assumption | omega | decide | exact hP.1) (by first | exact hT | assumption | omega | decide | exact hP.1) (by first | exact hn | assumption | omega | decide | exact hP.1) (by first | exact hen | assumption | omega | decide | exact hP.1) (tt_le hp 1) (by first | exact hz | assumption | omega | decide | exact hP.1) (by first | exact hi | assumption | omega | decide | exact hP.1) (by first | exact hNi | assumption | omega | decide | exact hP.1) (by first | exact hNl | assumption | omega | decide | exact hP.1) (by first | exact hNR | assumption | omega | decide | exact hP.1)) (by decide) UVX5_newName LK_X5_148 rfl (by decide) rfl rfl rfl (Nat.le_of_ble_eq_true rfl) hl hcs (dg D_X5_readLane (i := 1) rfl) (fun r1 I1 Lc1 R1 H locs hq hW hS => ?_)
  obtain ⟨rfl, hT1, hp1_0, hp1_1, hp1_2, hL1, rfl⟩ := hq
  have hF : Fr (SCP β q) I I1 := Fr.tr hF hT1 (by intro a j h; simp only [SNr, SCP, Bool.or_eq_true, Bool.and_eq_true, beq_iff_eq, decide_eq_true_eq] at h ⊢; omega)
  have hTx : rowP I1 30 n (fun j => sg (b j)) := hTx.fr hT1 (fun j => Bool.eq_false_iff.mpr (fun h => by simp only [SNr, Bool.or_eq_true, Bool.and_eq_true, beq_iff_eq, decide_eq_true_eq] at h <;> omega))
  have hNi : NmI b n I1 N ds st nu := NmI.fr hNi hT1 (fun a j h1 h2 => Bool.eq_false_iff.mpr (fun h => by simp only [SNr, Bool.or_eq_true, Bool.and_eq_true, beq_iff_eq, decide_eq_true_eq] at h <;> omega))
  have hB : BrAt I1 β σ := BrAt.frI hB hT1 SNr_in (by omega)
  have hGa : GaAt I1 q σ := GaAt.frI hGa hT1 SNr_in (by omega)
  have hln : I1 66 1 = nI n := (hT1 66 1 rfl).trans hln
  have hFL : FL SLq L Lc1 := FL.tr hFL hL1 (by intro a j h; simp only [SLc, SLq, Bool.or_eq_true, Bool.and_eq_true, beq_iff_eq, decide_eq_true_eq] at h ⊢; omega)
  have hNl : NmL b n Lc1 N ds := NmL.fl hNl hL1 (fun _ => rfl)
  have hen : I1 66 3 = nI (tt b n p9 2) := hp1_0
  refine lv_lstore_n (lv' := [(1, .long (nwV b n σ nm (tt b n p9 1))), (0, .ref (bs + 61))]) hx hb (dg D_X5_readLane (i := 2) rfl) rfl hl (by decide) rfl (fun ls hl => ?_)
  refine lv_lload_n hx hb (dg D_X5_readLane (i := 3) rfl) rfl (lv_at hl 0 rfl) ?_
  refine r_ldc2 X CK_X5_152 (dg D_X5_readLane (i := 4) rfl) ?_
  refine W.lcmp hx hb (dg D_X5_readLane (i := 5) rfl) ?_
  refine c_if_ne (tgt := 18) hx hb (dg D_X5_readLane (i := 6) rfl) (by decide) (fun c10 => ?_) (fun c10 => ?_)
  · obtain ⟨hn1, hnv1⟩ := nwV_t c10
    rw [hnv1] at hl
    obtain ⟨hk2, hz⟩ := hp1_2 hn1
    refine lv_aload_n hx hb (dg D_X5_readLane (i := 9) rfl) rfl (lv_at hl 1 rfl) ?_
    refine n_iconst (a := 0) hx hb (dg D_X5_readLane (i := 10) rfl) rfl ?_
    refine lv_sipush (v := nI 999) hx hb (dg D_X5_readLane (i := 11) rfl) (by decide) ?_
    refine callVi X hW hS hR (c_X5_number (I := I1) b n (tt b n p9 2) 0 999 (by first | exact hTx | assumption | omega | decide | exact hP.1) (by first | exact hln | assumption | omega | decide | exact hP.1) (by first | exact hT | assumption | omega | decide | exact hP.1) (by first | exact hn | assumption | omega | decide | exact hP.1) (by first | exact hen | assumption | omega | decide | exact hP.1) (tt_le hp 2) (by first | exact hz | assumption | omega | decide | exact hP.1) (by first | exact hlo | assumption | omega | decide | exact hP.1) (by first | exact hhi | assumption | omega | decide | exact hP.1)) (by decide) UVX5_number LK_X5_132 rfl (by decide) rfl rfl rfl (Nat.le_of_ble_eq_true rfl) hl hcs (dg D_X5_readLane (i := 12) rfl) (fun r23 I23 Lc23 R1 H locs hq hW hS => ?_)
    obtain ⟨rfl, hT23, hp23_0, hp23_1, hp23_2, hL23, rfl⟩ := hq
    have hF : Fr (SCP β q) I I23 := Fr.tr hF hT23 (by intro a j h; simp only [SNr, SCP, Bool.or_eq_true, Bool.and_eq_true, beq_iff_eq, decide_eq_true_eq] at h ⊢; omega)
    have hTx : rowP I23 30 n (fun j => sg (b j)) := hTx.fr hT23 (fun j => Bool.eq_false_iff.mpr (fun h => by simp only [SNr, Bool.or_eq_true, Bool.and_eq_true, beq_iff_eq, decide_eq_true_eq] at h <;> omega))
    have hNi : NmI b n I23 N ds st nu := NmI.fr hNi hT23 (fun a j h1 h2 => Bool.eq_false_iff.mpr (fun h => by simp only [SNr, Bool.or_eq_true, Bool.and_eq_true, beq_iff_eq, decide_eq_true_eq] at h <;> omega))
    have hB : BrAt I23 β σ := BrAt.frI hB hT23 SNr_in (by omega)
    have hGa : GaAt I23 q σ := GaAt.frI hGa hT23 SNr_in (by omega)
    have hln : I23 66 1 = nI n := (hT23 66 1 rfl).trans hln
    have hFL : FL SLq L Lc23 := FL.tr hFL hL23 (by intro a j h; simp only [SLc, SLq, Bool.or_eq_true, Bool.and_eq_true, beq_iff_eq, decide_eq_true_eq] at h ⊢; omega)
    have hNl : NmL b n Lc23 N ds := NmL.fl hNl hL23 (fun _ => rfl)
    have hen : I23 66 3 = nI (tt b n p9 3) := hp23_0
    refine lv_istore_n (lv' := [(3, .int (nuV b n (tt b n p9 2) 0 999)), (1, .long (Int64.ofNat (w256 b n (tS b n (tt b n p9 1))))), (0, .ref (bs + 61))]) hx hb (dg D_X5_readLane (i := 13) rfl) rfl hl (by decide) rfl (fun ls hl => ?_)
    refine lv_iload_n hx hb (dg D_X5_readLane (i := 14) rfl) rfl (lv_at hl 0 rfl) ?_
    refine lv_bipush (v := -2) hx hb (dg D_X5_readLane (i := 15) rfl) (by decide) ?_
    refine lv_icmp_eq (tgt := 40) hx hb (dg D_X5_readLane (i := 16) rfl) (by decide) (fun c30 => ?_) (fun c30 => ?_)
    · refine n_iconst (a := 0) hx hb (dg D_X5_readLane (i := 20) rfl) rfl ?_
      have hn2 := nuV_f (by first | exact c30 | exact Classical.not_not.mp c30) (by omega)
      have hst8 : stLa b n σ nm p9 = .inl (nuE b n (tt b n p9 2), tS b n (tt b n p9 2)) := by unfold stLa; simp only [hnL4, hn1, hn2, ↓reduceIte, reduceCtorEq]
      have hst9 : seK b n (stLa b n σ nm p9) = .inl (nuE b n (tt b n p9 2), tS b n (tt b n p9 2)) := by rw [hst8]; rfl
      exact fin (dg D_X5_readLane (i := 21) rfl) hW hS (show _ = bI false from rfl) ⟨by rw [hst9]; rfl, hF, by rw [hst9]; exact ⟨(hp23_1 hn2).1, (hp23_1 hn2).2, hB, hGa⟩, hFL, rfl⟩
    · obtain ⟨hn2, hnv2⟩ := nuV_t (by omega) c30
      rw [hnv2] at hl
      have hz := hp23_2 hn2
      have hvr2 := of_decide_eq_true hn2
      refine lv_aload_n hx hb (dg D_X5_readLane (i := 17) rfl) rfl (lv_at hl 2 rfl) ?_
      refine callVi X hW hS hR (c_X5_semicolon (I := I23) b n (tt b n p9 3) (by first | exact hTx | assumption | omega | decide | exact hP.1) (by first | exact hln | assumption | omega | decide | exact hP.1) (by first | exact hT | assumption | omega | decide | exact hP.1) (by first | exact hn | assumption | omega | decide | exact hP.1) (by first | exact hen | assumption | omega | decide | exact hP.1) (tt_le hp 3) (by first | exact hz | assumption | omega | decide | exact hP.1)) (by decide) UVX5_semicolon LK_X5_136 rfl (by decide) rfl rfl rfl (Nat.le_of_ble_eq_true rfl) hl hcs (dg D_X5_readLane (i := 18) rfl) (fun r34 I34 Lc34 R1 H locs hq hW hS => ?_)
      obtain ⟨rfl, hT34, hp34_0, hp34_1, hp34_2, hL34, rfl⟩ := hq
      have hF : Fr (SCP β q) I I34 := Fr.tr hF hT34 (by intro a j h; simp only [SNr, SCP, Bool.or_eq_true, Bool.and_eq_true, beq_iff_eq, decide_eq_true_eq] at h ⊢; omega)
      have hTx : rowP I34 30 n (fun j => sg (b j)) := hTx.fr hT34 (fun j => Bool.eq_false_iff.mpr (fun h => by simp only [SNr, Bool.or_eq_true, Bool.and_eq_true, beq_iff_eq, decide_eq_true_eq] at h <;> omega))
      have hNi : NmI b n I34 N ds st nu := NmI.fr hNi hT34 (fun a j h1 h2 => Bool.eq_false_iff.mpr (fun h => by simp only [SNr, Bool.or_eq_true, Bool.and_eq_true, beq_iff_eq, decide_eq_true_eq] at h <;> omega))
      have hB : BrAt I34 β σ := BrAt.frI hB hT34 SNr_in (by omega)
      have hGa : GaAt I34 q σ := GaAt.frI hGa hT34 SNr_in (by omega)
      have hln : I34 66 1 = nI n := (hT34 66 1 rfl).trans hln
      have hFL : FL SLq L Lc34 := FL.tr hFL hL34 (by intro a j h; simp only [SLc, SLq, Bool.or_eq_true, Bool.and_eq_true, beq_iff_eq, decide_eq_true_eq] at h ⊢; omega)
      have hNl : NmL b n Lc34 N ds := NmL.fl hNl hL34 (fun _ => rfl)
      have hen : I34 66 3 = nI (tE b n (tt b n p9 3)) := hp34_0
      refine z_if_ne (tgt := 42) hx hb (dg D_X5_readLane (i := 19) rfl) (by decide) (fun c37 => ?_) (fun c37 => ?_)
      · have hz := hp34_2 c37
        have hNl0 := hNl
        have hNi0 := hNi
        refine lv_aload_n hx hb (dg D_X5_readLane (i := 22) rfl) rfl (lv_at hl 2 rfl) ?_
        refine r_getc (t := 62) X hW FI_X5_12 rfl (by decide) rfl (dg D_X5_readLane (i := 23) rfl) ?_
        refine lv_lload_n hx hb (dg D_X5_readLane (i := 24) rfl) rfl (lv_at hl 1 rfl) ?_
        refine n_iconst (a := 1) hx hb (dg D_X5_readLane (i := 25) rfl) rfl ?_
        refine lv_aload_n hx hb (dg D_X5_readLane (i := 26) rfl) rfl (lv_at hl 2 rfl) ?_
        refine r_getr (v := β) X hW FI_X5_32 rfl (by decide) rfl hR2 (dg D_X5_readLane (i := 27) rfl) ?_
        refine rn_geti (v := nI (nLn σ)) X hW FN_X5_95 (shB hβ) (ncB0 hβ) rfl (hB.c3 hi) (dg D_X5_readLane (i := 28) rfl) ?_
        refine callVv X hW hS hR (c_X3_add (I := I34) (Int64.ofNat (w256 b n (tS b n (tt b n p9 1)))) 1 (nLn σ) N (hNi.1) (by omega)) (by decide) UVX3_add LK_X5_154 rfl (by decide) rfl rfl rfl (Nat.le_of_ble_eq_true rfl) hl hcs (dg D_X5_readLane (i := 29) rfl) (fun I55 Lc55 R1 H locs hq hW hS => ?_)
        obtain ⟨hT55, hp55_0, hp55_1, hp55_2, hp55_3, hp55_4, hp55_5, hL55, rfl⟩ := hq
        have hF : Fr (SCP β q) I I55 := Fr.tr hF hT55 (by intro a j h; simp only [SNa, SCP, Bool.or_eq_true, Bool.and_eq_true, beq_iff_eq, decide_eq_true_eq] at h ⊢; omega)
        have hTx : rowP I55 30 n (fun j => sg (b j)) := hTx.fr hT55 (fun j => Bool.eq_false_iff.mpr (fun h => by simp only [SNa, Bool.or_eq_true, Bool.and_eq_true, beq_iff_eq, decide_eq_true_eq] at h <;> omega))
        have hB : BrAt I55 β σ := BrAt.frI hB hT55 SNa_in (by omega)
        have hGa : GaAt I55 q σ := GaAt.frI hGa hT55 SNa_in (by omega)
        have hz : KC I55 := KC.fr hz hT55 (Bool.eq_false_iff.mpr (fun h => by simp only [SNa, Bool.or_eq_true, Bool.and_eq_true, beq_iff_eq, decide_eq_true_eq] at h <;> omega)) (Bool.eq_false_iff.mpr (fun h => by simp only [SNa, Bool.or_eq_true, Bool.and_eq_true, beq_iff_eq, decide_eq_true_eq] at h <;> omega))
        have hln : I55 66 1 = nI n := (hT55 66 1 rfl).trans hln
        have hen : I55 66 3 = nI (tE b n (tt b n p9 3)) := (hT55 66 3 rfl).trans hen
        have hFL : FL SLq L Lc55 := FL.tr hFL hL55 (by intro a j h; simp only [SLn, SLq, Bool.or_eq_true, Bool.and_eq_true, beq_iff_eq, decide_eq_true_eq] at h ⊢; omega)
        have hNl : True := trivial
        have hNi9 := NmI.add hNi0 (by omega) (tok_w (nnOk_2 hn1).1).1 hp55_0 hp55_1 hp55_2 hp55_3
        have hNl9 := NmL.add hNl0 hp55_4 hp55_5
        refine lv_aload_n hx hb (dg D_X5_readLane (i := 30) rfl) rfl (lv_at hl 2 rfl) ?_
        refine r_getr (v := β) X hW FI_X5_32 rfl (by decide) rfl hR2 (dg D_X5_readLane (i := 31) rfl) ?_
        refine lv_iload_n hx hb (dg D_X5_readLane (i := 32) rfl) rfl (lv_at hl 0 rfl) ?_
        refine callVv X hW hS hR (c_X1_addLane (I := I55) σ β (nI (tV b n (tt b n p9 2))) (by first | exact hi | assumption | omega | decide | exact hP.1) (by first | exact hβ | assumption | omega | decide | exact hP.1) (by first | exact hB | assumption | omega | decide | exact hP.1) (by first | exact hn4 | assumption | omega | decide | exact hP.1)) (by decide) UVX1_addLane LK_X5_158 (shB hβ) (ncB0 hβ) rfl rfl rfl (Nat.le_of_ble_eq_true rfl) hl hcs (dg D_X5_readLane (i := 33) rfl) (fun I63 L1 R1 H locs hq hW hS => ?_)
        obtain ⟨hT63, hp63_0, rfl, rfl⟩ := hq
        have hF : Fr (SCP β q) I I63 := Fr.tr hF hT63 (by intro a j h; simp only [SB9, SCP, Bool.or_eq_true, Bool.and_eq_true, beq_iff_eq, decide_eq_true_eq] at h ⊢; omega)
        have hTx : rowP I63 30 n (fun j => sg (b j)) := hTx.fr hT63 (fun j => Bool.eq_false_iff.mpr (fun h => by simp only [SB9, Bool.or_eq_true, Bool.and_eq_true, beq_iff_eq, decide_eq_true_eq] at h <;> omega))
        have hGa : GaAt I63 q σ := GaAt.frI hGa hT63 SB9_in (by omega)
        have hz : KC I63 := KC.fr hz hT63 (Bool.eq_false_iff.mpr (fun h => by simp only [SB9, Bool.or_eq_true, Bool.and_eq_true, beq_iff_eq, decide_eq_true_eq] at h <;> omega)) (Bool.eq_false_iff.mpr (fun h => by simp only [SB9, Bool.or_eq_true, Bool.and_eq_true, beq_iff_eq, decide_eq_true_eq] at h <;> omega))
        have hNi9 : NmI b n I63 (N + 1) (upN ds N (tS b n (tt b n p9 1))) (upN st N 1) (upN nu N (nLn σ)) := NmI.fr hNi9 hT63 (fun a j h1 h2 => Bool.eq_false_iff.mpr (fun h => by simp only [SB9, Bool.or_eq_true, Bool.and_eq_true, beq_iff_eq, decide_eq_true_eq] at h <;> omega))
        have hln : I63 66 1 = nI n := (hT63 66 1 (SB9_in.no (by omega) _)).trans hln
        have hen : I63 66 3 = nI (tE b n (tt b n p9 3)) := (hT63 66 3 (SB9_in.no (by omega) _)).trans hen
        have hB9 := hp63_0
        refine n_iconst (a := 1) hx hb (dg D_X5_readLane (i := 34) rfl) rfl ?_
        have hst8 : stLa b n σ nm p9 = .inr (adL σ (nI (tV b n (tt b n p9 2))), unm nm 0 (nLn σ) (tS b n (tt b n p9 1)), tt b n p9 3) := by unfold stLa; simp only [hnL4, hn1, hn2, ↓reduceIte, reduceCtorEq]
        have hst9 : seK b n (stLa b n σ nm p9) = .inr (adL σ (nI (tV b n (tt b n p9 2))), unm nm 0 (nLn σ) (tS b n (tt b n p9 1)), tE b n (tt b n p9 3)) := by rw [hst8]; exact seK_r c37
        exact fin (dg D_X5_readLane (i := 35) rfl) hW hS (show _ = bI true from rfl) ⟨by rw [hst9]; rfl, hF, by rw [hst9]; exact ⟨hB9, GaAt_c hGa (fun j hj => adL_at (by omega) (by omega)), ⟨_, _, _, _, hNi9, hNl9, NmR.grow hNR (by decide) (cN_adL hnL) (nnOk_2 hn1).2⟩, hen, hz⟩, hFL, rfl⟩
      · refine n_iconst (a := 0) hx hb (dg D_X5_readLane (i := 20) rfl) rfl ?_
        have hst8 : stLa b n σ nm p9 = .inr (adL σ (nI (tV b n (tt b n p9 2))), unm nm 0 (nLn σ) (tS b n (tt b n p9 1)), tt b n p9 3) := by unfold stLa; simp only [hnL4, hn1, hn2, ↓reduceIte, reduceCtorEq]
        have hst9 : seK b n (stLa b n σ nm p9) = .inl (e2 b n (tt b n p9 3), tS b n (tt b n p9 3)) := by rw [hst8]; exact seK_n c37
        exact fin (dg D_X5_readLane (i := 21) rfl) hW hS (show _ = bI false from rfl) ⟨by rw [hst9]; rfl, hF, by rw [hst9]; exact ⟨(hp34_1 c37).1, (hp34_1 c37).2, hB, hGa⟩, hFL, rfl⟩
  · refine lv_bipush (v := -2) hx hb (dg D_X5_readLane (i := 7) rfl) (by decide) ?_
    refine lv_goto (tgt := 26) hx hb (dg D_X5_readLane (i := 8) rfl) (by decide) ?_
    refine lv_istore_n (lv' := [(3, .int ((-2))), (1, .long (nwV b n σ nm (tt b n p9 1))), (0, .ref (bs + 61))]) hx hb (dg D_X5_readLane (i := 13) rfl) rfl hl (by decide) rfl (fun ls hl => ?_)
    refine lv_iload_n hx hb (dg D_X5_readLane (i := 14) rfl) rfl (lv_at hl 0 rfl) ?_
    refine lv_bipush (v := -2) hx hb (dg D_X5_readLane (i := 15) rfl) (by decide) ?_
    refine lv_icmp_eq (tgt := 40) hx hb (dg D_X5_readLane (i := 16) rfl) (by decide) (fun c30 => ?_) (fun c30 => ?_)
    · refine n_iconst (a := 0) hx hb (dg D_X5_readLane (i := 20) rfl) rfl ?_
      have hn1 := nwV_f hT (by first | exact c10 | exact Classical.not_not.mp c10)
      have hst8 : stLa b n σ nm p9 = .inl (nnE b n (tt b n p9 1), tS b n (tt b n p9 1)) := by unfold stLa; simp only [hnL4, hn1, ↓reduceIte, reduceCtorEq]
      have hst9 : seK b n (stLa b n σ nm p9) = .inl (nnE b n (tt b n p9 1), tS b n (tt b n p9 1)) := by rw [hst8]; rfl
      exact fin (dg D_X5_readLane (i := 21) rfl) hW hS (show _ = bI false from rfl) ⟨by rw [hst9]; rfl, hF, by rw [hst9]; exact ⟨(hp1_1 hn1).1, (hp1_1 hn1).2, hB, hGa⟩, hFL, rfl⟩
    · exact absurd c30 (by decide)

set_option maxHeartbeats 1000000 in
set_option maxRecDepth 100000 in
theorem c_X5_readGang {l : Launch} {G : va_G} {bs : Nat} {cy : Nat → ClassId} {I : CI} {L : CL} {R : CR} (b : Nat → Int32) (n : Nat) (σ : Row) (p9 : Nat) (nm : Nm) (N : Nat) (ds : Nat → Nat) (st : Nat → Nat) (nu : Nat → Nat) (β : Nat) (q : Nat) (hTx : rowP I 30 n (fun j => sg (b j))) (hln : I 66 1 = nI n) (hT : TB b n) (hn : n ≤ 900) (hen : I 66 3 = nI (tE b n p9)) (hp : p9 ≤ n) (hz : KC I) (hi : Inv σ) (hNi : NmI b n I N ds st nu) (hNl : NmL b n L N ds) (hNR : NmR b n σ nm N ds st nu) (hβ : isBr β) (hB : BrAt I β σ) (hq : isPl q) (hGa : GaAt I q σ) (hR2 : R 61 2 = β) (hR3 : R 61 3 = q) (hRq : R q 0 = β) (hnL : nG σ < 5) : MTi l G bs cy MX5_readGang 4 [.ref (bs + 61)] I L R (fun r I1 L1 R1 => bI (okP (seK b n (stGa b n σ nm p9))) = r ∧ Fr (SCP β q) I I1 ∧ PostC b n β q (seK b n (stGa b n σ nm p9)) σ I1 L1 ∧ FL SLq L L1 ∧ R = R1) := by
  refine MTz.of (own := RX5) pn_RX5 rfl (Nat.le_of_ble_eq_true rfl) ?_
  intro p e s m args below meth c Qf X hW hS fin ls hl
  have hx := X.1
  have hb := X.2.1
  have hR : RmOK (rmL 4 0 0) 4 := ⟨rfl, rfl⟩
  have hcs : 0 ≤ (rmL 4 0 0).cells ∧ 0 ≤ (rmL 4 0 0).slots := ⟨Nat.zero_le _, Nat.zero_le _⟩
  have hl : lv_has ls 5 [(0, .ref (bs + 61))] := hl
  have hF : Fr (SCP β q) I I := Fr.rf
  have hFL : FL SLq L L := FL.rf
  obtain ⟨hY, hY1, hY12, hLn, hL4, hSn, hS12, hGn, hG5⟩ := id hi
  have hbq := br_pl hβ hq
  have hq4 : 53 ≤ q ∧ q ≤ 57 := by rcases hq with rfl | rfl <;> omega
  have hN21 : N ≤ nLn σ + nS σ + nG σ := Nat.le_of_eq hNR.1
  have hnL4 : ¬ nG σ = 5 := by omega
  refine lv_aload_n hx hb (dg D_X5_readGang (i := 0) rfl) rfl (lv_at hl 0 rfl) ?_
  refine callVl X hW hS hR (c_X5_newName (I := I) b n σ (tt b n p9 1) nm N ds st nu (by first | exact hTx | assumption | omega | decide | exact hP.1) (by first | exact hln | assumption | omega | decide | exact hP.1) (by first | exact hT | assumption | omega | decide | exact hP.1) (by first | exact hn | assumption | omega | decide | exact hP.1) (by first | exact hen | assumption | omega | decide | exact hP.1) (tt_le hp 1) (by first | exact hz | assumption | omega | decide | exact hP.1) (by first | exact hi | assumption | omega | decide | exact hP.1) (by first | exact hNi | assumption | omega | decide | exact hP.1) (by first | exact hNl | assumption | omega | decide | exact hP.1) (by first | exact hNR | assumption | omega | decide | exact hP.1)) (by decide) UVX5_newName LK_X5_148 rfl (by decide) rfl rfl rfl (Nat.le_of_ble_eq_true rfl) hl hcs (dg D_X5_readGang (i := 1) rfl) (fun r1 I1 Lc1 R1 H locs hq hW hS => ?_)
  obtain ⟨rfl, hT1, hp1_0, hp1_1, hp1_2, hL1, rfl⟩ := hq
  have hF : Fr (SCP β q) I I1 := Fr.tr hF hT1 (by intro a j h; simp only [SNr, SCP, Bool.or_eq_true, Bool.and_eq_true, beq_iff_eq, decide_eq_true_eq] at h ⊢; omega)
  have hTx : rowP I1 30 n (fun j => sg (b j)) := hTx.fr hT1 (fun j => Bool.eq_false_iff.mpr (fun h => by simp only [SNr, Bool.or_eq_true, Bool.and_eq_true, beq_iff_eq, decide_eq_true_eq] at h <;> omega))
  have hNi : NmI b n I1 N ds st nu := NmI.fr hNi hT1 (fun a j h1 h2 => Bool.eq_false_iff.mpr (fun h => by simp only [SNr, Bool.or_eq_true, Bool.and_eq_true, beq_iff_eq, decide_eq_true_eq] at h <;> omega))
  have hB : BrAt I1 β σ := BrAt.frI hB hT1 SNr_in (by omega)
  have hGa : GaAt I1 q σ := GaAt.frI hGa hT1 SNr_in (by omega)
  have hln : I1 66 1 = nI n := (hT1 66 1 rfl).trans hln
  have hFL : FL SLq L Lc1 := FL.tr hFL hL1 (by intro a j h; simp only [SLc, SLq, Bool.or_eq_true, Bool.and_eq_true, beq_iff_eq, decide_eq_true_eq] at h ⊢; omega)
  have hNl : NmL b n Lc1 N ds := NmL.fl hNl hL1 (fun _ => rfl)
  have hen : I1 66 3 = nI (tt b n p9 2) := hp1_0
  refine lv_lstore_n (lv' := [(1, .long (nwV b n σ nm (tt b n p9 1))), (0, .ref (bs + 61))]) hx hb (dg D_X5_readGang (i := 2) rfl) rfl hl (by decide) rfl (fun ls hl => ?_)
  refine lv_lload_n hx hb (dg D_X5_readGang (i := 3) rfl) rfl (lv_at hl 0 rfl) ?_
  refine r_ldc2 X CK_X5_152 (dg D_X5_readGang (i := 4) rfl) ?_
  refine W.lcmp hx hb (dg D_X5_readGang (i := 5) rfl) ?_
  refine c_if_ne (tgt := 18) hx hb (dg D_X5_readGang (i := 6) rfl) (by decide) (fun c10 => ?_) (fun c10 => ?_)
  · obtain ⟨hn1, hnv1⟩ := nwV_t c10
    rw [hnv1] at hl
    obtain ⟨hk2, hz⟩ := hp1_2 hn1
    refine lv_aload_n hx hb (dg D_X5_readGang (i := 9) rfl) rfl (lv_at hl 1 rfl) ?_
    refine n_iconst (a := 1) hx hb (dg D_X5_readGang (i := 10) rfl) rfl ?_
    refine lv_bipush (v := nI 50) hx hb (dg D_X5_readGang (i := 11) rfl) (by decide) ?_
    refine callVi X hW hS hR (c_X5_number (I := I1) b n (tt b n p9 2) 1 50 (by first | exact hTx | assumption | omega | decide | exact hP.1) (by first | exact hln | assumption | omega | decide | exact hP.1) (by first | exact hT | assumption | omega | decide | exact hP.1) (by first | exact hn | assumption | omega | decide | exact hP.1) (by first | exact hen | assumption | omega | decide | exact hP.1) (tt_le hp 2) (by first | exact hz | assumption | omega | decide | exact hP.1) (by first | exact hlo | assumption | omega | decide | exact hP.1) (by first | exact hhi | assumption | omega | decide | exact hP.1)) (by decide) UVX5_number LK_X5_132 rfl (by decide) rfl rfl rfl (Nat.le_of_ble_eq_true rfl) hl hcs (dg D_X5_readGang (i := 12) rfl) (fun r22 I22 Lc22 R1 H locs hq hW hS => ?_)
    obtain ⟨rfl, hT22, hp22_0, hp22_1, hp22_2, hL22, rfl⟩ := hq
    have hF : Fr (SCP β q) I I22 := Fr.tr hF hT22 (by intro a j h; simp only [SNr, SCP, Bool.or_eq_true, Bool.and_eq_true, beq_iff_eq, decide_eq_true_eq] at h ⊢; omega)
    have hTx : rowP I22 30 n (fun j => sg (b j)) := hTx.fr hT22 (fun j => Bool.eq_false_iff.mpr (fun h => by simp only [SNr, Bool.or_eq_true, Bool.and_eq_true, beq_iff_eq, decide_eq_true_eq] at h <;> omega))
    have hNi : NmI b n I22 N ds st nu := NmI.fr hNi hT22 (fun a j h1 h2 => Bool.eq_false_iff.mpr (fun h => by simp only [SNr, Bool.or_eq_true, Bool.and_eq_true, beq_iff_eq, decide_eq_true_eq] at h <;> omega))
    have hB : BrAt I22 β σ := BrAt.frI hB hT22 SNr_in (by omega)
    have hGa : GaAt I22 q σ := GaAt.frI hGa hT22 SNr_in (by omega)
    have hln : I22 66 1 = nI n := (hT22 66 1 rfl).trans hln
    have hFL : FL SLq L Lc22 := FL.tr hFL hL22 (by intro a j h; simp only [SLc, SLq, Bool.or_eq_true, Bool.and_eq_true, beq_iff_eq, decide_eq_true_eq] at h ⊢; omega)
    have hNl : NmL b n Lc22 N ds := NmL.fl hNl hL22 (fun _ => rfl)
    have hen : I22 66 3 = nI (tt b n p9 3) := hp22_0
    refine lv_istore_n (lv' := [(3, .int (nuV b n (tt b n p9 2) 1 50)), (1, .long (Int64.ofNat (w256 b n (tS b n (tt b n p9 1))))), (0, .ref (bs + 61))]) hx hb (dg D_X5_readGang (i := 13) rfl) rfl hl (by decide) rfl (fun ls hl => ?_)
    refine lv_iload_n hx hb (dg D_X5_readGang (i := 14) rfl) rfl (lv_at hl 0 rfl) ?_
    refine lv_bipush (v := -2) hx hb (dg D_X5_readGang (i := 15) rfl) (by decide) ?_
    refine lv_icmp_ne (tgt := 37) hx hb (dg D_X5_readGang (i := 16) rfl) (by decide) (fun c29 => ?_) (fun c29 => ?_)
    · obtain ⟨hn2, hnv2⟩ := nuV_t (by omega) c29
      rw [hnv2] at hl
      have hz := hp22_2 hn2
      have hvr2 := of_decide_eq_true hn2
      refine lv_aload_n hx hb (dg D_X5_readGang (i := 19) rfl) rfl (lv_at hl 2 rfl) ?_
      refine n_iconst (a := 0) hx hb (dg D_X5_readGang (i := 20) rfl) rfl ?_
      refine lv_bipush (v := nI 99) hx hb (dg D_X5_readGang (i := 21) rfl) (by decide) ?_
      refine callVi X hW hS hR (c_X5_number (I := I22) b n (tt b n p9 3) 0 99 (by first | exact hTx | assumption | omega | decide | exact hP.1) (by first | exact hln | assumption | omega | decide | exact hP.1) (by first | exact hT | assumption | omega | decide | exact hP.1) (by first | exact hn | assumption | omega | decide | exact hP.1) (by first | exact hen | assumption | omega | decide | exact hP.1) (tt_le hp 3) (by first | exact hz | assumption | omega | decide | exact hP.1) (by first | exact hlo | assumption | omega | decide | exact hP.1) (by first | exact hhi | assumption | omega | decide | exact hP.1)) (by decide) UVX5_number LK_X5_132 rfl (by decide) rfl rfl rfl (Nat.le_of_ble_eq_true rfl) hl hcs (dg D_X5_readGang (i := 22) rfl) (fun r41 I41 Lc41 R1 H locs hq hW hS => ?_)
      obtain ⟨rfl, hT41, hp41_0, hp41_1, hp41_2, hL41, rfl⟩ := hq
      have hF : Fr (SCP β q) I I41 := Fr.tr hF hT41 (by intro a j h; simp only [SNr, SCP, Bool.or_eq_true, Bool.and_eq_true, beq_iff_eq, decide_eq_true_eq] at h ⊢; omega)
      have hTx : rowP I41 30 n (fun j => sg (b j)) := hTx.fr hT41 (fun j => Bool.eq_false_iff.mpr (fun h => by simp only [SNr, Bool.or_eq_true, Bool.and_eq_true, beq_iff_eq, decide_eq_true_eq] at h <;> omega))
      have hNi : NmI b n I41 N ds st nu := NmI.fr hNi hT41 (fun a j h1 h2 => Bool.eq_false_iff.mpr (fun h => by simp only [SNr, Bool.or_eq_true, Bool.and_eq_true, beq_iff_eq, decide_eq_true_eq] at h <;> omega))
      have hB : BrAt I41 β σ := BrAt.frI hB hT41 SNr_in (by omega)
      have hGa : GaAt I41 q σ := GaAt.frI hGa hT41 SNr_in (by omega)
      have hln : I41 66 1 = nI n := (hT41 66 1 rfl).trans hln
      have hFL : FL SLq L Lc41 := FL.tr hFL hL41 (by intro a j h; simp only [SLc, SLq, Bool.or_eq_true, Bool.and_eq_true, beq_iff_eq, decide_eq_true_eq] at h ⊢; omega)
      have hNl : NmL b n Lc41 N ds := NmL.fl hNl hL41 (fun _ => rfl)
      have hen : I41 66 3 = nI (tt b n p9 4) := hp41_0
      refine lv_istore (lv' := [(4, .int (nuV b n (tt b n p9 3) 0 99)), (3, .int (nI (tV b n (tt b n p9 2)))), (1, .long (Int64.ofNat (w256 b n (tS b n (tt b n p9 1))))), (0, .ref (bs + 61))]) hx hb (dg D_X5_readGang (i := 23) rfl) hl (by decide) rfl (fun ls hl => ?_)
      refine lv_iload hx hb (dg D_X5_readGang (i := 24) rfl) (lv_at hl 0 rfl) ?_
      refine lv_bipush (v := -2) hx hb (dg D_X5_readGang (i := 25) rfl) (by decide) ?_
      refine lv_icmp_eq (tgt := 60) hx hb (dg D_X5_readGang (i := 26) rfl) (by decide) (fun c50 => ?_) (fun c50 => ?_)
      · refine n_iconst (a := 0) hx hb (dg D_X5_readGang (i := 30) rfl) rfl ?_
        have hn3 := nuV_f (by first | exact c50 | exact Classical.not_not.mp c50) (by omega)
        have hst8 : stGa b n σ nm p9 = .inl (nuE b n (tt b n p9 3), tS b n (tt b n p9 3)) := by unfold stGa; simp only [hnL4, hn1, hn2, hn3, ↓reduceIte, reduceCtorEq]
        have hst9 : seK b n (stGa b n σ nm p9) = .inl (nuE b n (tt b n p9 3), tS b n (tt b n p9 3)) := by rw [hst8]; rfl
        exact fin (dg D_X5_readGang (i := 31) rfl) hW hS (show _ = bI false from rfl) ⟨by rw [hst9]; rfl, hF, by rw [hst9]; exact ⟨(hp41_1 hn3).1, (hp41_1 hn3).2, hB, hGa⟩, hFL, rfl⟩
      · obtain ⟨hn3, hnv3⟩ := nuV_t (by omega) c50
        rw [hnv3] at hl
        have hz := hp41_2 hn3
        have hvr3 := of_decide_eq_true hn3
        refine lv_aload_n hx hb (dg D_X5_readGang (i := 27) rfl) rfl (lv_at hl 3 rfl) ?_
        refine callVi X hW hS hR (c_X5_semicolon (I := I41) b n (tt b n p9 4) (by first | exact hTx | assumption | omega | decide | exact hP.1) (by first | exact hln | assumption | omega | decide | exact hP.1) (by first | exact hT | assumption | omega | decide | exact hP.1) (by first | exact hn | assumption | omega | decide | exact hP.1) (by first | exact hen | assumption | omega | decide | exact hP.1) (tt_le hp 4) (by first | exact hz | assumption | omega | decide | exact hP.1)) (by decide) UVX5_semicolon LK_X5_136 rfl (by decide) rfl rfl rfl (Nat.le_of_ble_eq_true rfl) hl hcs (dg D_X5_readGang (i := 28) rfl) (fun r54 I54 Lc54 R1 H locs hq hW hS => ?_)
        obtain ⟨rfl, hT54, hp54_0, hp54_1, hp54_2, hL54, rfl⟩ := hq
        have hF : Fr (SCP β q) I I54 := Fr.tr hF hT54 (by intro a j h; simp only [SNr, SCP, Bool.or_eq_true, Bool.and_eq_true, beq_iff_eq, decide_eq_true_eq] at h ⊢; omega)
        have hTx : rowP I54 30 n (fun j => sg (b j)) := hTx.fr hT54 (fun j => Bool.eq_false_iff.mpr (fun h => by simp only [SNr, Bool.or_eq_true, Bool.and_eq_true, beq_iff_eq, decide_eq_true_eq] at h <;> omega))
        have hNi : NmI b n I54 N ds st nu := NmI.fr hNi hT54 (fun a j h1 h2 => Bool.eq_false_iff.mpr (fun h => by simp only [SNr, Bool.or_eq_true, Bool.and_eq_true, beq_iff_eq, decide_eq_true_eq] at h <;> omega))
        have hB : BrAt I54 β σ := BrAt.frI hB hT54 SNr_in (by omega)
        have hGa : GaAt I54 q σ := GaAt.frI hGa hT54 SNr_in (by omega)
        have hln : I54 66 1 = nI n := (hT54 66 1 rfl).trans hln
        have hFL : FL SLq L Lc54 := FL.tr hFL hL54 (by intro a j h; simp only [SLc, SLq, Bool.or_eq_true, Bool.and_eq_true, beq_iff_eq, decide_eq_true_eq] at h ⊢; omega)
        have hNl : NmL b n Lc54 N ds := NmL.fl hNl hL54 (fun _ => rfl)
        have hen : I54 66 3 = nI (tE b n (tt b n p9 4)) := hp54_0
        refine z_if_ne (tgt := 62) hx hb (dg D_X5_readGang (i := 29) rfl) (by decide) (fun c57 => ?_) (fun c57 => ?_)
        · have hz := hp54_2 c57
          have hNl0 := hNl
          have hNi0 := hNi
          refine lv_aload_n hx hb (dg D_X5_readGang (i := 32) rfl) rfl (lv_at hl 3 rfl) ?_
          refine r_getc (t := 62) X hW FI_X5_12 rfl (by decide) rfl (dg D_X5_readGang (i := 33) rfl) ?_
          refine lv_lload_n hx hb (dg D_X5_readGang (i := 34) rfl) rfl (lv_at hl 2 rfl) ?_
          refine n_iconst (a := 3) hx hb (dg D_X5_readGang (i := 35) rfl) rfl ?_
          refine lv_aload_n hx hb (dg D_X5_readGang (i := 36) rfl) rfl (lv_at hl 3 rfl) ?_
          refine r_getr (v := β) X hW FI_X5_32 rfl (by decide) rfl hR2 (dg D_X5_readGang (i := 37) rfl) ?_
          refine rn_geti (v := nI (nG σ)) X hW FN_X5_111 (shB hβ) (ncB0 hβ) rfl (hB.c5 hi) (dg D_X5_readGang (i := 38) rfl) ?_
          refine callVv X hW hS hR (c_X3_add (I := I54) (Int64.ofNat (w256 b n (tS b n (tt b n p9 1)))) 3 (nG σ) N (hNi.1) (by omega)) (by decide) UVX3_add LK_X5_154 rfl (by decide) rfl rfl rfl (Nat.le_of_ble_eq_true rfl) hl hcs (dg D_X5_readGang (i := 39) rfl) (fun I75 Lc75 R1 H locs hq hW hS => ?_)
          obtain ⟨hT75, hp75_0, hp75_1, hp75_2, hp75_3, hp75_4, hp75_5, hL75, rfl⟩ := hq
          have hF : Fr (SCP β q) I I75 := Fr.tr hF hT75 (by intro a j h; simp only [SNa, SCP, Bool.or_eq_true, Bool.and_eq_true, beq_iff_eq, decide_eq_true_eq] at h ⊢; omega)
          have hTx : rowP I75 30 n (fun j => sg (b j)) := hTx.fr hT75 (fun j => Bool.eq_false_iff.mpr (fun h => by simp only [SNa, Bool.or_eq_true, Bool.and_eq_true, beq_iff_eq, decide_eq_true_eq] at h <;> omega))
          have hB : BrAt I75 β σ := BrAt.frI hB hT75 SNa_in (by omega)
          have hGa : GaAt I75 q σ := GaAt.frI hGa hT75 SNa_in (by omega)
          have hz : KC I75 := KC.fr hz hT75 (Bool.eq_false_iff.mpr (fun h => by simp only [SNa, Bool.or_eq_true, Bool.and_eq_true, beq_iff_eq, decide_eq_true_eq] at h <;> omega)) (Bool.eq_false_iff.mpr (fun h => by simp only [SNa, Bool.or_eq_true, Bool.and_eq_true, beq_iff_eq, decide_eq_true_eq] at h <;> omega))
          have hln : I75 66 1 = nI n := (hT75 66 1 rfl).trans hln
          have hen : I75 66 3 = nI (tE b n (tt b n p9 4)) := (hT75 66 3 rfl).trans hen
          have hFL : FL SLq L Lc75 := FL.tr hFL hL75 (by intro a j h; simp only [SLn, SLq, Bool.or_eq_true, Bool.and_eq_true, beq_iff_eq, decide_eq_true_eq] at h ⊢; omega)
          have hNl : True := trivial
          have hNi9 := NmI.add hNi0 (by omega) (tok_w (nnOk_2 hn1).1).1 hp75_0 hp75_1 hp75_2 hp75_3
          have hNl9 := NmL.add hNl0 hp75_4 hp75_5
          refine lv_aload_n hx hb (dg D_X5_readGang (i := 40) rfl) rfl (lv_at hl 3 rfl) ?_
          refine r_getr (v := β) X hW FI_X5_32 rfl (by decide) rfl hR2 (dg D_X5_readGang (i := 41) rfl) ?_
          refine lv_iload_n hx hb (dg D_X5_readGang (i := 42) rfl) rfl (lv_at hl 1 rfl) ?_
          refine lv_iload hx hb (dg D_X5_readGang (i := 43) rfl) (lv_at hl 0 rfl) ?_
          refine callVv X hW hS hR (c_X1_addGang (I := I75) σ β (nI (tV b n (tt b n p9 2))) (nI (tV b n (tt b n p9 3))) (by first | exact hi | assumption | omega | decide | exact hP.1) (by first | exact hβ | assumption | omega | decide | exact hP.1) (by first | exact hB | assumption | omega | decide | exact hP.1) (by first | exact hn4 | assumption | omega | decide | exact hP.1)) (by decide) UVX1_addGang LK_X5_169 (shB hβ) (ncB0 hβ) rfl rfl rfl (Nat.le_of_ble_eq_true rfl) hl hcs (dg D_X5_readGang (i := 44) rfl) (fun I85 L1 R1 H locs hq hW hS => ?_)
          obtain ⟨hT85, hp85_0, rfl, rfl⟩ := hq
          have hF : Fr (SCP β q) I I85 := Fr.tr hF hT85 (by intro a j h; simp only [SB9, SCP, Bool.or_eq_true, Bool.and_eq_true, beq_iff_eq, decide_eq_true_eq] at h ⊢; omega)
          have hTx : rowP I85 30 n (fun j => sg (b j)) := hTx.fr hT85 (fun j => Bool.eq_false_iff.mpr (fun h => by simp only [SB9, Bool.or_eq_true, Bool.and_eq_true, beq_iff_eq, decide_eq_true_eq] at h <;> omega))
          have hGa : GaAt I85 q σ := GaAt.frI hGa hT85 SB9_in (by omega)
          have hz : KC I85 := KC.fr hz hT85 (Bool.eq_false_iff.mpr (fun h => by simp only [SB9, Bool.or_eq_true, Bool.and_eq_true, beq_iff_eq, decide_eq_true_eq] at h <;> omega)) (Bool.eq_false_iff.mpr (fun h => by simp only [SB9, Bool.or_eq_true, Bool.and_eq_true, beq_iff_eq, decide_eq_true_eq] at h <;> omega))
          have hNi9 : NmI b n I85 (N + 1) (upN ds N (tS b n (tt b n p9 1))) (upN st N 3) (upN nu N (nG σ)) := NmI.fr hNi9 hT85 (fun a j h1 h2 => Bool.eq_false_iff.mpr (fun h => by simp only [SB9, Bool.or_eq_true, Bool.and_eq_true, beq_iff_eq, decide_eq_true_eq] at h <;> omega))
          have hln : I85 66 1 = nI n := (hT85 66 1 (SB9_in.no (by omega) _)).trans hln
          have hen : I85 66 3 = nI (tE b n (tt b n p9 4)) := (hT85 66 3 (SB9_in.no (by omega) _)).trans hen
          have hB9 := hp85_0
          refine n_iconst (a := 1) hx hb (dg D_X5_readGang (i := 45) rfl) rfl ?_
          have hst8 : stGa b n σ nm p9 = .inr (adG σ (nI (tV b n (tt b n p9 2))) (nI (tV b n (tt b n p9 3))), unm nm 2 (nG σ) (tS b n (tt b n p9 1)), tt b n p9 4) := by unfold stGa; simp only [hnL4, hn1, hn2, hn3, ↓reduceIte, reduceCtorEq]
          have hst9 : seK b n (stGa b n σ nm p9) = .inr (adG σ (nI (tV b n (tt b n p9 2))) (nI (tV b n (tt b n p9 3))), unm nm 2 (nG σ) (tS b n (tt b n p9 1)), tE b n (tt b n p9 4)) := by rw [hst8]; exact seK_r c57
          exact fin (dg D_X5_readGang (i := 46) rfl) hW hS (show _ = bI true from rfl) ⟨by rw [hst9]; rfl, hF, by rw [hst9]; exact ⟨hB9, GaAt_c hGa (fun j hj => adG_at (by omega) (by omega)), ⟨_, _, _, _, hNi9, hNl9, NmR.grow hNR (by decide) (cN_adG hnL) (nnOk_2 hn1).2⟩, hen, hz⟩, hFL, rfl⟩
        · refine n_iconst (a := 0) hx hb (dg D_X5_readGang (i := 30) rfl) rfl ?_
          have hst8 : stGa b n σ nm p9 = .inr (adG σ (nI (tV b n (tt b n p9 2))) (nI (tV b n (tt b n p9 3))), unm nm 2 (nG σ) (tS b n (tt b n p9 1)), tt b n p9 4) := by unfold stGa; simp only [hnL4, hn1, hn2, hn3, ↓reduceIte, reduceCtorEq]
          have hst9 : seK b n (stGa b n σ nm p9) = .inl (e2 b n (tt b n p9 4), tS b n (tt b n p9 4)) := by rw [hst8]; exact seK_n c57
          exact fin (dg D_X5_readGang (i := 31) rfl) hW hS (show _ = bI false from rfl) ⟨by rw [hst9]; rfl, hF, by rw [hst9]; exact ⟨(hp54_1 c57).1, (hp54_1 c57).2, hB, hGa⟩, hFL, rfl⟩
    · refine lv_bipush (v := -2) hx hb (dg D_X5_readGang (i := 17) rfl) (by decide) ?_
      refine lv_goto (tgt := 44) hx hb (dg D_X5_readGang (i := 18) rfl) (by decide) ?_
      refine lv_istore (lv' := [(4, .int ((-2))), (3, .int (nuV b n (tt b n p9 2) 1 50)), (1, .long (Int64.ofNat (w256 b n (tS b n (tt b n p9 1))))), (0, .ref (bs + 61))]) hx hb (dg D_X5_readGang (i := 23) rfl) hl (by decide) rfl (fun ls hl => ?_)
      refine lv_iload hx hb (dg D_X5_readGang (i := 24) rfl) (lv_at hl 0 rfl) ?_
      refine lv_bipush (v := -2) hx hb (dg D_X5_readGang (i := 25) rfl) (by decide) ?_
      refine lv_icmp_eq (tgt := 60) hx hb (dg D_X5_readGang (i := 26) rfl) (by decide) (fun c50 => ?_) (fun c50 => ?_)
      · refine n_iconst (a := 0) hx hb (dg D_X5_readGang (i := 30) rfl) rfl ?_
        have hn2 := nuV_f (by first | exact c29 | exact Classical.not_not.mp c29) (by omega)
        have hst8 : stGa b n σ nm p9 = .inl (nuE b n (tt b n p9 2), tS b n (tt b n p9 2)) := by unfold stGa; simp only [hnL4, hn1, hn2, ↓reduceIte, reduceCtorEq]
        have hst9 : seK b n (stGa b n σ nm p9) = .inl (nuE b n (tt b n p9 2), tS b n (tt b n p9 2)) := by rw [hst8]; rfl
        exact fin (dg D_X5_readGang (i := 31) rfl) hW hS (show _ = bI false from rfl) ⟨by rw [hst9]; rfl, hF, by rw [hst9]; exact ⟨(hp22_1 hn2).1, (hp22_1 hn2).2, hB, hGa⟩, hFL, rfl⟩
      · exact absurd c50 (by decide)
  · refine lv_bipush (v := -2) hx hb (dg D_X5_readGang (i := 7) rfl) (by decide) ?_
    refine lv_goto (tgt := 25) hx hb (dg D_X5_readGang (i := 8) rfl) (by decide) ?_
    refine lv_istore_n (lv' := [(3, .int ((-2))), (1, .long (nwV b n σ nm (tt b n p9 1))), (0, .ref (bs + 61))]) hx hb (dg D_X5_readGang (i := 13) rfl) rfl hl (by decide) rfl (fun ls hl => ?_)
    refine lv_iload_n hx hb (dg D_X5_readGang (i := 14) rfl) rfl (lv_at hl 0 rfl) ?_
    refine lv_bipush (v := -2) hx hb (dg D_X5_readGang (i := 15) rfl) (by decide) ?_
    refine lv_icmp_ne (tgt := 37) hx hb (dg D_X5_readGang (i := 16) rfl) (by decide) (fun c29 => ?_) (fun c29 => ?_)
    · exact absurd c29 (by decide)
    · refine lv_bipush (v := -2) hx hb (dg D_X5_readGang (i := 17) rfl) (by decide) ?_
      refine lv_goto (tgt := 44) hx hb (dg D_X5_readGang (i := 18) rfl) (by decide) ?_
      refine lv_istore (lv' := [(4, .int ((-2))), (3, .int ((-2))), (1, .long (nwV b n σ nm (tt b n p9 1))), (0, .ref (bs + 61))]) hx hb (dg D_X5_readGang (i := 23) rfl) hl (by decide) rfl (fun ls hl => ?_)
      refine lv_iload hx hb (dg D_X5_readGang (i := 24) rfl) (lv_at hl 0 rfl) ?_
      refine lv_bipush (v := -2) hx hb (dg D_X5_readGang (i := 25) rfl) (by decide) ?_
      refine lv_icmp_eq (tgt := 60) hx hb (dg D_X5_readGang (i := 26) rfl) (by decide) (fun c50 => ?_) (fun c50 => ?_)
      · refine n_iconst (a := 0) hx hb (dg D_X5_readGang (i := 30) rfl) rfl ?_
        have hn1 := nwV_f hT (by first | exact c10 | exact Classical.not_not.mp c10)
        have hst8 : stGa b n σ nm p9 = .inl (nnE b n (tt b n p9 1), tS b n (tt b n p9 1)) := by unfold stGa; simp only [hnL4, hn1, ↓reduceIte, reduceCtorEq]
        have hst9 : seK b n (stGa b n σ nm p9) = .inl (nnE b n (tt b n p9 1), tS b n (tt b n p9 1)) := by rw [hst8]; rfl
        exact fin (dg D_X5_readGang (i := 31) rfl) hW hS (show _ = bI false from rfl) ⟨by rw [hst9]; rfl, hF, by rw [hst9]; exact ⟨(hp1_1 hn1).1, (hp1_1 hn1).2, hB, hGa⟩, hFL, rfl⟩
      · exact absurd c50 (by decide)

set_option maxHeartbeats 1000000 in
set_option maxRecDepth 100000 in
theorem c_X5_readSpan {l : Launch} {G : va_G} {bs : Nat} {cy : Nat → ClassId} {I : CI} {L : CL} {R : CR} (b : Nat → Int32) (n : Nat) (σ : Row) (p9 : Nat) (nm : Nm) (N : Nat) (ds : Nat → Nat) (st : Nat → Nat) (nu : Nat → Nat) (β : Nat) (q : Nat) (hTx : rowP I 30 n (fun j => sg (b j))) (hln : I 66 1 = nI n) (hT : TB b n) (hn : n ≤ 900) (hen : I 66 3 = nI (tE b n p9)) (hp : p9 ≤ n) (hz : KC I) (hi : Inv σ) (hNi : NmI b n I N ds st nu) (hNl : NmL b n L N ds) (hNR : NmR b n σ nm N ds st nu) (hβ : isBr β) (hB : BrAt I β σ) (hq : isPl q) (hGa : GaAt I q σ) (hR2 : R 61 2 = β) (hR3 : R 61 3 = q) (hRq : R q 0 = β) (hnL : nS σ < 12) : MTi l G bs cy MX5_readSpan 4 [.ref (bs + 61)] I L R (fun r I1 L1 R1 => bI (okP (seK b n (stSp b n σ nm p9))) = r ∧ Fr (SCP β q) I I1 ∧ PostC b n β q (seK b n (stSp b n σ nm p9)) σ I1 L1 ∧ FL SLq L L1 ∧ R = R1) := by
  refine MTz.of (own := RX5) pn_RX5 rfl (Nat.le_of_ble_eq_true rfl) ?_
  intro p e s m args below meth c Qf X hW hS fin ls hl
  have hx := X.1
  have hb := X.2.1
  have hR : RmOK (rmL 4 0 0) 4 := ⟨rfl, rfl⟩
  have hcs : 0 ≤ (rmL 4 0 0).cells ∧ 0 ≤ (rmL 4 0 0).slots := ⟨Nat.zero_le _, Nat.zero_le _⟩
  have hl : lv_has ls 8 [(0, .ref (bs + 61))] := hl
  have hF : Fr (SCP β q) I I := Fr.rf
  have hFL : FL SLq L L := FL.rf
  obtain ⟨hY, hY1, hY12, hLn, hL4, hSn, hS12, hGn, hG5⟩ := id hi
  have hbq := br_pl hβ hq
  have hq4 : 53 ≤ q ∧ q ≤ 57 := by rcases hq with rfl | rfl <;> omega
  have hN21 : N ≤ nLn σ + nS σ + nG σ := Nat.le_of_eq hNR.1
  have hnL4 : ¬ nS σ = 12 := by omega
  refine lv_aload_n hx hb (dg D_X5_readSpan (i := 0) rfl) rfl (lv_at hl 0 rfl) ?_
  refine callVl X hW hS hR (c_X5_newName (I := I) b n σ (tt b n p9 1) nm N ds st nu (by first | exact hTx | assumption | omega | decide | exact hP.1) (by first | exact hln | assumption | omega | decide | exact hP.1) (by first | exact hT | assumption | omega | decide | exact hP.1) (by first | exact hn | assumption | omega | decide | exact hP.1) (by first | exact hen | assumption | omega | decide | exact hP.1) (tt_le hp 1) (by first | exact hz | assumption | omega | decide | exact hP.1) (by first | exact hi | assumption | omega | decide | exact hP.1) (by first | exact hNi | assumption | omega | decide | exact hP.1) (by first | exact hNl | assumption | omega | decide | exact hP.1) (by first | exact hNR | assumption | omega | decide | exact hP.1)) (by decide) UVX5_newName LK_X5_148 rfl (by decide) rfl rfl rfl (Nat.le_of_ble_eq_true rfl) hl hcs (dg D_X5_readSpan (i := 1) rfl) (fun r1 I1 Lc1 R1 H locs hq hW hS => ?_)
  obtain ⟨rfl, hT1, hp1_0, hp1_1, hp1_2, hL1, rfl⟩ := hq
  have hF : Fr (SCP β q) I I1 := Fr.tr hF hT1 (by intro a j h; simp only [SNr, SCP, Bool.or_eq_true, Bool.and_eq_true, beq_iff_eq, decide_eq_true_eq] at h ⊢; omega)
  have hTx : rowP I1 30 n (fun j => sg (b j)) := hTx.fr hT1 (fun j => Bool.eq_false_iff.mpr (fun h => by simp only [SNr, Bool.or_eq_true, Bool.and_eq_true, beq_iff_eq, decide_eq_true_eq] at h <;> omega))
  have hNi : NmI b n I1 N ds st nu := NmI.fr hNi hT1 (fun a j h1 h2 => Bool.eq_false_iff.mpr (fun h => by simp only [SNr, Bool.or_eq_true, Bool.and_eq_true, beq_iff_eq, decide_eq_true_eq] at h <;> omega))
  have hB : BrAt I1 β σ := BrAt.frI hB hT1 SNr_in (by omega)
  have hGa : GaAt I1 q σ := GaAt.frI hGa hT1 SNr_in (by omega)
  have hln : I1 66 1 = nI n := (hT1 66 1 rfl).trans hln
  have hFL : FL SLq L Lc1 := FL.tr hFL hL1 (by intro a j h; simp only [SLc, SLq, Bool.or_eq_true, Bool.and_eq_true, beq_iff_eq, decide_eq_true_eq] at h ⊢; omega)
  have hNl : NmL b n Lc1 N ds := NmL.fl hNl hL1 (fun _ => rfl)
  have hen : I1 66 3 = nI (tt b n p9 2) := hp1_0
  refine lv_lstore_n (lv' := [(1, .long (nwV b n σ nm (tt b n p9 1))), (0, .ref (bs + 61))]) hx hb (dg D_X5_readSpan (i := 2) rfl) rfl hl (by decide) rfl (fun ls hl => ?_)
  refine lv_lload_n hx hb (dg D_X5_readSpan (i := 3) rfl) rfl (lv_at hl 0 rfl) ?_
  refine r_ldc2 X CK_X5_152 (dg D_X5_readSpan (i := 4) rfl) ?_
  refine W.lcmp hx hb (dg D_X5_readSpan (i := 5) rfl) ?_
  refine c_if_ne (tgt := 18) hx hb (dg D_X5_readSpan (i := 6) rfl) (by decide) (fun c10 => ?_) (fun c10 => ?_)
  · obtain ⟨hn1, hnv1⟩ := nwV_t c10
    rw [hnv1] at hl
    obtain ⟨hk2, hz⟩ := hp1_2 hn1
    refine lv_aload_n hx hb (dg D_X5_readSpan (i := 9) rfl) rfl (lv_at hl 1 rfl) ?_
    refine callVi X hW hS hR (c_X5_laneOrNone (I := I1) b n σ (tt b n p9 2) nm N ds st nu (by first | exact hTx | assumption | omega | decide | exact hP.1) (by first | exact hln | assumption | omega | decide | exact hP.1) (by first | exact hT | assumption | omega | decide | exact hP.1) (by first | exact hn | assumption | omega | decide | exact hP.1) (by first | exact hen | assumption | omega | decide | exact hP.1) (tt_le hp 2) (by first | exact hz | assumption | omega | decide | exact hP.1) (by first | exact hi | assumption | omega | decide | exact hP.1) (by first | exact hNi | assumption | omega | decide | exact hP.1) (by first | exact hNl | assumption | omega | decide | exact hP.1) (by first | exact hNR | assumption | omega | decide | exact hP.1)) (by decide) UVX5_laneOrNone LK_X5_161 rfl (by decide) rfl rfl rfl (Nat.le_of_ble_eq_true rfl) hl hcs (dg D_X5_readSpan (i := 10) rfl) (fun r19 I19 Lc19 R1 H locs hq hW hS => ?_)
    obtain ⟨rfl, hT19, hp19_0, hp19_1, hp19_2, hL19, rfl⟩ := hq
    have hF : Fr (SCP β q) I I19 := Fr.tr hF hT19 (by intro a j h; simp only [SNr, SCP, Bool.or_eq_true, Bool.and_eq_true, beq_iff_eq, decide_eq_true_eq] at h ⊢; omega)
    have hTx : rowP I19 30 n (fun j => sg (b j)) := hTx.fr hT19 (fun j => Bool.eq_false_iff.mpr (fun h => by simp only [SNr, Bool.or_eq_true, Bool.and_eq_true, beq_iff_eq, decide_eq_true_eq] at h <;> omega))
    have hNi : NmI b n I19 N ds st nu := NmI.fr hNi hT19 (fun a j h1 h2 => Bool.eq_false_iff.mpr (fun h => by simp only [SNr, Bool.or_eq_true, Bool.and_eq_true, beq_iff_eq, decide_eq_true_eq] at h <;> omega))
    have hB : BrAt I19 β σ := BrAt.frI hB hT19 SNr_in (by omega)
    have hGa : GaAt I19 q σ := GaAt.frI hGa hT19 SNr_in (by omega)
    have hln : I19 66 1 = nI n := (hT19 66 1 rfl).trans hln
    have hFL : FL SLq L Lc19 := FL.tr hFL hL19 (by intro a j h; simp only [SLc, SLq, Bool.or_eq_true, Bool.and_eq_true, beq_iff_eq, decide_eq_true_eq] at h ⊢; omega)
    have hNl : NmL b n Lc19 N ds := NmL.fl hNl hL19 (fun _ => rfl)
    have hen : I19 66 3 = nI (tt b n p9 3) := hp19_0
    refine lv_istore_n (lv' := [(3, .int (lnW b n σ nm (tt b n p9 2))), (1, .long (Int64.ofNat (w256 b n (tS b n (tt b n p9 1))))), (0, .ref (bs + 61))]) hx hb (dg D_X5_readSpan (i := 11) rfl) rfl hl (by decide) rfl (fun ls hl => ?_)
    refine lv_iload_n hx hb (dg D_X5_readSpan (i := 12) rfl) rfl (lv_at hl 0 rfl) ?_
    refine lv_bipush (v := -2) hx hb (dg D_X5_readSpan (i := 13) rfl) (by decide) ?_
    refine lv_icmp_ne (tgt := 34) hx hb (dg D_X5_readSpan (i := 14) rfl) (by decide) (fun c26 => ?_) (fun c26 => ?_)
    · obtain ⟨hn2, hnv2⟩ := lnW_t c26
      rw [hnv2] at hl
      have hz := hp19_2 hn2
      refine lv_aload_n hx hb (dg D_X5_readSpan (i := 17) rfl) rfl (lv_at hl 2 rfl) ?_
      refine n_iconst (a := 1) hx hb (dg D_X5_readSpan (i := 18) rfl) rfl ?_
      refine lv_bipush (v := nI 99) hx hb (dg D_X5_readSpan (i := 19) rfl) (by decide) ?_
      refine callVi X hW hS hR (c_X5_number (I := I19) b n (tt b n p9 3) 1 99 (by first | exact hTx | assumption | omega | decide | exact hP.1) (by first | exact hln | assumption | omega | decide | exact hP.1) (by first | exact hT | assumption | omega | decide | exact hP.1) (by first | exact hn | assumption | omega | decide | exact hP.1) (by first | exact hen | assumption | omega | decide | exact hP.1) (tt_le hp 3) (by first | exact hz | assumption | omega | decide | exact hP.1) (by first | exact hlo | assumption | omega | decide | exact hP.1) (by first | exact hhi | assumption | omega | decide | exact hP.1)) (by decide) UVX5_number LK_X5_132 rfl (by decide) rfl rfl rfl (Nat.le_of_ble_eq_true rfl) hl hcs (dg D_X5_readSpan (i := 20) rfl) (fun r38 I38 Lc38 R1 H locs hq hW hS => ?_)
      obtain ⟨rfl, hT38, hp38_0, hp38_1, hp38_2, hL38, rfl⟩ := hq
      have hF : Fr (SCP β q) I I38 := Fr.tr hF hT38 (by intro a j h; simp only [SNr, SCP, Bool.or_eq_true, Bool.and_eq_true, beq_iff_eq, decide_eq_true_eq] at h ⊢; omega)
      have hTx : rowP I38 30 n (fun j => sg (b j)) := hTx.fr hT38 (fun j => Bool.eq_false_iff.mpr (fun h => by simp only [SNr, Bool.or_eq_true, Bool.and_eq_true, beq_iff_eq, decide_eq_true_eq] at h <;> omega))
      have hNi : NmI b n I38 N ds st nu := NmI.fr hNi hT38 (fun a j h1 h2 => Bool.eq_false_iff.mpr (fun h => by simp only [SNr, Bool.or_eq_true, Bool.and_eq_true, beq_iff_eq, decide_eq_true_eq] at h <;> omega))
      have hB : BrAt I38 β σ := BrAt.frI hB hT38 SNr_in (by omega)
      have hGa : GaAt I38 q σ := GaAt.frI hGa hT38 SNr_in (by omega)
      have hln : I38 66 1 = nI n := (hT38 66 1 rfl).trans hln
      have hFL : FL SLq L Lc38 := FL.tr hFL hL38 (by intro a j h; simp only [SLc, SLq, Bool.or_eq_true, Bool.and_eq_true, beq_iff_eq, decide_eq_true_eq] at h ⊢; omega)
      have hNl : NmL b n Lc38 N ds := NmL.fl hNl hL38 (fun _ => rfl)
      have hen : I38 66 3 = nI (tt b n p9 4) := hp38_0
      refine lv_istore (lv' := [(4, .int (nuV b n (tt b n p9 3) 1 99)), (3, .int (lnV b n σ nm (tt b n p9 2))), (1, .long (Int64.ofNat (w256 b n (tS b n (tt b n p9 1))))), (0, .ref (bs + 61))]) hx hb (dg D_X5_readSpan (i := 21) rfl) hl (by decide) rfl (fun ls hl => ?_)
      refine lv_iload hx hb (dg D_X5_readSpan (i := 22) rfl) (lv_at hl 0 rfl) ?_
      refine lv_bipush (v := -2) hx hb (dg D_X5_readSpan (i := 23) rfl) (by decide) ?_
      refine lv_icmp_ne (tgt := 55) hx hb (dg D_X5_readSpan (i := 24) rfl) (by decide) (fun c47 => ?_) (fun c47 => ?_)
      · obtain ⟨hn3, hnv3⟩ := nuV_t (by omega) c47
        rw [hnv3] at hl
        have hz := hp38_2 hn3
        have hvr3 := of_decide_eq_true hn3
        refine lv_aload_n hx hb (dg D_X5_readSpan (i := 27) rfl) rfl (lv_at hl 3 rfl) ?_
        refine n_iconst (a := 0) hx hb (dg D_X5_readSpan (i := 28) rfl) rfl ?_
        refine lv_bipush (v := nI 100) hx hb (dg D_X5_readSpan (i := 29) rfl) (by decide) ?_
        refine callVi X hW hS hR (c_X5_number (I := I38) b n (tt b n p9 4) 0 100 (by first | exact hTx | assumption | omega | decide | exact hP.1) (by first | exact hln | assumption | omega | decide | exact hP.1) (by first | exact hT | assumption | omega | decide | exact hP.1) (by first | exact hn | assumption | omega | decide | exact hP.1) (by first | exact hen | assumption | omega | decide | exact hP.1) (tt_le hp 4) (by first | exact hz | assumption | omega | decide | exact hP.1) (by first | exact hlo | assumption | omega | decide | exact hP.1) (by first | exact hhi | assumption | omega | decide | exact hP.1)) (by decide) UVX5_number LK_X5_132 rfl (by decide) rfl rfl rfl (Nat.le_of_ble_eq_true rfl) hl hcs (dg D_X5_readSpan (i := 30) rfl) (fun r59 I59 Lc59 R1 H locs hq hW hS => ?_)
        obtain ⟨rfl, hT59, hp59_0, hp59_1, hp59_2, hL59, rfl⟩ := hq
        have hF : Fr (SCP β q) I I59 := Fr.tr hF hT59 (by intro a j h; simp only [SNr, SCP, Bool.or_eq_true, Bool.and_eq_true, beq_iff_eq, decide_eq_true_eq] at h ⊢; omega)
        have hTx : rowP I59 30 n (fun j => sg (b j)) := hTx.fr hT59 (fun j => Bool.eq_false_iff.mpr (fun h => by simp only [SNr, Bool.or_eq_true, Bool.and_eq_true, beq_iff_eq, decide_eq_true_eq] at h <;> omega))
        have hNi : NmI b n I59 N ds st nu := NmI.fr hNi hT59 (fun a j h1 h2 => Bool.eq_false_iff.mpr (fun h => by simp only [SNr, Bool.or_eq_true, Bool.and_eq_true, beq_iff_eq, decide_eq_true_eq] at h <;> omega))
        have hB : BrAt I59 β σ := BrAt.frI hB hT59 SNr_in (by omega)
        have hGa : GaAt I59 q σ := GaAt.frI hGa hT59 SNr_in (by omega)
        have hln : I59 66 1 = nI n := (hT59 66 1 rfl).trans hln
        have hFL : FL SLq L Lc59 := FL.tr hFL hL59 (by intro a j h; simp only [SLc, SLq, Bool.or_eq_true, Bool.and_eq_true, beq_iff_eq, decide_eq_true_eq] at h ⊢; omega)
        have hNl : NmL b n Lc59 N ds := NmL.fl hNl hL59 (fun _ => rfl)
        have hen : I59 66 3 = nI (tt b n p9 5) := hp59_0
        refine lv_istore (lv' := [(5, .int (nuV b n (tt b n p9 4) 0 100)), (4, .int (nI (tV b n (tt b n p9 3)))), (3, .int (lnV b n σ nm (tt b n p9 2))), (1, .long (Int64.ofNat (w256 b n (tS b n (tt b n p9 1))))), (0, .ref (bs + 61))]) hx hb (dg D_X5_readSpan (i := 31) rfl) hl (by decide) rfl (fun ls hl => ?_)
        refine lv_iload hx hb (dg D_X5_readSpan (i := 32) rfl) (lv_at hl 0 rfl) ?_
        refine lv_bipush (v := -2) hx hb (dg D_X5_readSpan (i := 33) rfl) (by decide) ?_
        refine lv_icmp_ne (tgt := 76) hx hb (dg D_X5_readSpan (i := 34) rfl) (by decide) (fun c68 => ?_) (fun c68 => ?_)
        · obtain ⟨hn4, hnv4⟩ := nuV_t (by omega) c68
          rw [hnv4] at hl
          have hz := hp59_2 hn4
          have hvr4 := of_decide_eq_true hn4
          refine lv_aload_n hx hb (dg D_X5_readSpan (i := 37) rfl) rfl (lv_at hl 4 rfl) ?_
          refine n_iconst (a := 1) hx hb (dg D_X5_readSpan (i := 38) rfl) rfl ?_
          refine lv_bipush (v := nI 50) hx hb (dg D_X5_readSpan (i := 39) rfl) (by decide) ?_
          refine callVi X hW hS hR (c_X5_number (I := I59) b n (tt b n p9 5) 1 50 (by first | exact hTx | assumption | omega | decide | exact hP.1) (by first | exact hln | assumption | omega | decide | exact hP.1) (by first | exact hT | assumption | omega | decide | exact hP.1) (by first | exact hn | assumption | omega | decide | exact hP.1) (by first | exact hen | assumption | omega | decide | exact hP.1) (tt_le hp 5) (by first | exact hz | assumption | omega | decide | exact hP.1) (by first | exact hlo | assumption | omega | decide | exact hP.1) (by first | exact hhi | assumption | omega | decide | exact hP.1)) (by decide) UVX5_number LK_X5_132 rfl (by decide) rfl rfl rfl (Nat.le_of_ble_eq_true rfl) hl hcs (dg D_X5_readSpan (i := 40) rfl) (fun r80 I80 Lc80 R1 H locs hq hW hS => ?_)
          obtain ⟨rfl, hT80, hp80_0, hp80_1, hp80_2, hL80, rfl⟩ := hq
          have hF : Fr (SCP β q) I I80 := Fr.tr hF hT80 (by intro a j h; simp only [SNr, SCP, Bool.or_eq_true, Bool.and_eq_true, beq_iff_eq, decide_eq_true_eq] at h ⊢; omega)
          have hTx : rowP I80 30 n (fun j => sg (b j)) := hTx.fr hT80 (fun j => Bool.eq_false_iff.mpr (fun h => by simp only [SNr, Bool.or_eq_true, Bool.and_eq_true, beq_iff_eq, decide_eq_true_eq] at h <;> omega))
          have hNi : NmI b n I80 N ds st nu := NmI.fr hNi hT80 (fun a j h1 h2 => Bool.eq_false_iff.mpr (fun h => by simp only [SNr, Bool.or_eq_true, Bool.and_eq_true, beq_iff_eq, decide_eq_true_eq] at h <;> omega))
          have hB : BrAt I80 β σ := BrAt.frI hB hT80 SNr_in (by omega)
          have hGa : GaAt I80 q σ := GaAt.frI hGa hT80 SNr_in (by omega)
          have hln : I80 66 1 = nI n := (hT80 66 1 rfl).trans hln
          have hFL : FL SLq L Lc80 := FL.tr hFL hL80 (by intro a j h; simp only [SLc, SLq, Bool.or_eq_true, Bool.and_eq_true, beq_iff_eq, decide_eq_true_eq] at h ⊢; omega)
          have hNl : NmL b n Lc80 N ds := NmL.fl hNl hL80 (fun _ => rfl)
          have hen : I80 66 3 = nI (tt b n p9 6) := hp80_0
          refine lv_istore (lv' := [(6, .int (nuV b n (tt b n p9 5) 1 50)), (5, .int (nI (tV b n (tt b n p9 4)))), (4, .int (nI (tV b n (tt b n p9 3)))), (3, .int (lnV b n σ nm (tt b n p9 2))), (1, .long (Int64.ofNat (w256 b n (tS b n (tt b n p9 1))))), (0, .ref (bs + 61))]) hx hb (dg D_X5_readSpan (i := 41) rfl) hl (by decide) rfl (fun ls hl => ?_)
          refine lv_iload hx hb (dg D_X5_readSpan (i := 42) rfl) (lv_at hl 0 rfl) ?_
          refine lv_bipush (v := -2) hx hb (dg D_X5_readSpan (i := 43) rfl) (by decide) ?_
          refine lv_icmp_ne (tgt := 97) hx hb (dg D_X5_readSpan (i := 44) rfl) (by decide) (fun c89 => ?_) (fun c89 => ?_)
          · obtain ⟨hn5, hnv5⟩ := nuV_t (by omega) c89
            rw [hnv5] at hl
            have hz := hp80_2 hn5
            have hvr5 := of_decide_eq_true hn5
            refine lv_aload_n hx hb (dg D_X5_readSpan (i := 47) rfl) rfl (lv_at hl 5 rfl) ?_
            refine n_iconst (a := 1) hx hb (dg D_X5_readSpan (i := 48) rfl) rfl ?_
            refine lv_bipush (v := nI 100) hx hb (dg D_X5_readSpan (i := 49) rfl) (by decide) ?_
            refine callVi X hW hS hR (c_X5_number (I := I80) b n (tt b n p9 6) 1 100 (by first | exact hTx | assumption | omega | decide | exact hP.1) (by first | exact hln | assumption | omega | decide | exact hP.1) (by first | exact hT | assumption | omega | decide | exact hP.1) (by first | exact hn | assumption | omega | decide | exact hP.1) (by first | exact hen | assumption | omega | decide | exact hP.1) (tt_le hp 6) (by first | exact hz | assumption | omega | decide | exact hP.1) (by first | exact hlo | assumption | omega | decide | exact hP.1) (by first | exact hhi | assumption | omega | decide | exact hP.1)) (by decide) UVX5_number LK_X5_132 rfl (by decide) rfl rfl rfl (Nat.le_of_ble_eq_true rfl) hl hcs (dg D_X5_readSpan (i := 50) rfl) (fun r101 I101 Lc101 R1 H locs hq hW hS => ?_)
            obtain ⟨rfl, hT101, hp101_0, hp101_1, hp101_2, hL101, rfl⟩ := hq
            have hF : Fr (SCP β q) I I101 := Fr.tr hF hT101 (by intro a j h; simp only [SNr, SCP, Bool.or_eq_true, Bool.and_eq_true, beq_iff_eq, decide_eq_true_eq] at h ⊢; omega)
            have hTx : rowP I101 30 n (fun j => sg (b j)) := hTx.fr hT101 (fun j => Bool.eq_false_iff.mpr (fun h => by simp only [SNr, Bool.or_eq_true, Bool.and_eq_true, beq_iff_eq, decide_eq_true_eq] at h <;> omega))
            have hNi : NmI b n I101 N ds st nu := NmI.fr hNi hT101 (fun a j h1 h2 => Bool.eq_false_iff.mpr (fun h => by simp only [SNr, Bool.or_eq_true, Bool.and_eq_true, beq_iff_eq, decide_eq_true_eq] at h <;> omega))
            have hB : BrAt I101 β σ := BrAt.frI hB hT101 SNr_in (by omega)
            have hGa : GaAt I101 q σ := GaAt.frI hGa hT101 SNr_in (by omega)
            have hln : I101 66 1 = nI n := (hT101 66 1 rfl).trans hln
            have hFL : FL SLq L Lc101 := FL.tr hFL hL101 (by intro a j h; simp only [SLc, SLq, Bool.or_eq_true, Bool.and_eq_true, beq_iff_eq, decide_eq_true_eq] at h ⊢; omega)
            have hNl : NmL b n Lc101 N ds := NmL.fl hNl hL101 (fun _ => rfl)
            have hen : I101 66 3 = nI (tt b n p9 7) := hp101_0
            refine lv_istore (lv' := [(7, .int (nuV b n (tt b n p9 6) 1 100)), (6, .int (nI (tV b n (tt b n p9 5)))), (5, .int (nI (tV b n (tt b n p9 4)))), (4, .int (nI (tV b n (tt b n p9 3)))), (3, .int (lnV b n σ nm (tt b n p9 2))), (1, .long (Int64.ofNat (w256 b n (tS b n (tt b n p9 1))))), (0, .ref (bs + 61))]) hx hb (dg D_X5_readSpan (i := 51) rfl) hl (by decide) rfl (fun ls hl => ?_)
            refine lv_iload hx hb (dg D_X5_readSpan (i := 52) rfl) (lv_at hl 0 rfl) ?_
            refine lv_bipush (v := -2) hx hb (dg D_X5_readSpan (i := 53) rfl) (by decide) ?_
            refine lv_icmp_eq (tgt := 120) hx hb (dg D_X5_readSpan (i := 54) rfl) (by decide) (fun c110 => ?_) (fun c110 => ?_)
            · refine n_iconst (a := 0) hx hb (dg D_X5_readSpan (i := 58) rfl) rfl ?_
              have hn6 := nuV_f (by first | exact c110 | exact Classical.not_not.mp c110) (by omega)
              have hst8 : stSp b n σ nm p9 = .inl (nuE b n (tt b n p9 6), tS b n (tt b n p9 6)) := by unfold stSp; simp only [hnL4, hn1, hn2, hn3, hn4, hn5, hn6, ↓reduceIte, reduceCtorEq]
              have hst9 : seK b n (stSp b n σ nm p9) = .inl (nuE b n (tt b n p9 6), tS b n (tt b n p9 6)) := by rw [hst8]; rfl
              exact fin (dg D_X5_readSpan (i := 59) rfl) hW hS (show _ = bI false from rfl) ⟨by rw [hst9]; rfl, hF, by rw [hst9]; exact ⟨(hp101_1 hn6).1, (hp101_1 hn6).2, hB, hGa⟩, hFL, rfl⟩
            · obtain ⟨hn6, hnv6⟩ := nuV_t (by omega) c110
              rw [hnv6] at hl
              have hz := hp101_2 hn6
              have hvr6 := of_decide_eq_true hn6
              refine lv_aload_n hx hb (dg D_X5_readSpan (i := 55) rfl) rfl (lv_at hl 6 rfl) ?_
              refine callVi X hW hS hR (c_X5_semicolon (I := I101) b n (tt b n p9 7) (by first | exact hTx | assumption | omega | decide | exact hP.1) (by first | exact hln | assumption | omega | decide | exact hP.1) (by first | exact hT | assumption | omega | decide | exact hP.1) (by first | exact hn | assumption | omega | decide | exact hP.1) (by first | exact hen | assumption | omega | decide | exact hP.1) (tt_le hp 7) (by first | exact hz | assumption | omega | decide | exact hP.1)) (by decide) UVX5_semicolon LK_X5_136 rfl (by decide) rfl rfl rfl (Nat.le_of_ble_eq_true rfl) hl hcs (dg D_X5_readSpan (i := 56) rfl) (fun r114 I114 Lc114 R1 H locs hq hW hS => ?_)
              obtain ⟨rfl, hT114, hp114_0, hp114_1, hp114_2, hL114, rfl⟩ := hq
              have hF : Fr (SCP β q) I I114 := Fr.tr hF hT114 (by intro a j h; simp only [SNr, SCP, Bool.or_eq_true, Bool.and_eq_true, beq_iff_eq, decide_eq_true_eq] at h ⊢; omega)
              have hTx : rowP I114 30 n (fun j => sg (b j)) := hTx.fr hT114 (fun j => Bool.eq_false_iff.mpr (fun h => by simp only [SNr, Bool.or_eq_true, Bool.and_eq_true, beq_iff_eq, decide_eq_true_eq] at h <;> omega))
              have hNi : NmI b n I114 N ds st nu := NmI.fr hNi hT114 (fun a j h1 h2 => Bool.eq_false_iff.mpr (fun h => by simp only [SNr, Bool.or_eq_true, Bool.and_eq_true, beq_iff_eq, decide_eq_true_eq] at h <;> omega))
              have hB : BrAt I114 β σ := BrAt.frI hB hT114 SNr_in (by omega)
              have hGa : GaAt I114 q σ := GaAt.frI hGa hT114 SNr_in (by omega)
              have hln : I114 66 1 = nI n := (hT114 66 1 rfl).trans hln
              have hFL : FL SLq L Lc114 := FL.tr hFL hL114 (by intro a j h; simp only [SLc, SLq, Bool.or_eq_true, Bool.and_eq_true, beq_iff_eq, decide_eq_true_eq] at h ⊢; omega)
              have hNl : NmL b n Lc114 N ds := NmL.fl hNl hL114 (fun _ => rfl)
              have hen : I114 66 3 = nI (tE b n (tt b n p9 7)) := hp114_0
              refine z_if_ne (tgt := 122) hx hb (dg D_X5_readSpan (i := 57) rfl) (by decide) (fun c117 => ?_) (fun c117 => ?_)
              · have hz := hp114_2 c117
                have hNl0 := hNl
                have hNi0 := hNi
                refine lv_aload_n hx hb (dg D_X5_readSpan (i := 60) rfl) rfl (lv_at hl 6 rfl) ?_
                refine r_getc (t := 62) X hW FI_X5_12 rfl (by decide) rfl (dg D_X5_readSpan (i := 61) rfl) ?_
                refine lv_lload_n hx hb (dg D_X5_readSpan (i := 62) rfl) rfl (lv_at hl 5 rfl) ?_
                refine n_iconst (a := 2) hx hb (dg D_X5_readSpan (i := 63) rfl) rfl ?_
                refine lv_aload_n hx hb (dg D_X5_readSpan (i := 64) rfl) rfl (lv_at hl 6 rfl) ?_
                refine r_getr (v := β) X hW FI_X5_32 rfl (by decide) rfl hR2 (dg D_X5_readSpan (i := 65) rfl) ?_
                refine rn_geti (v := nI (nS σ)) X hW FN_X5_103 (shB hβ) (ncB0 hβ) rfl (hB.c4 hi) (dg D_X5_readSpan (i := 66) rfl) ?_
                refine callVv X hW hS hR (c_X3_add (I := I114) (Int64.ofNat (w256 b n (tS b n (tt b n p9 1)))) 2 (nS σ) N (hNi.1) (by omega)) (by decide) UVX3_add LK_X5_154 rfl (by decide) rfl rfl rfl (Nat.le_of_ble_eq_true rfl) hl hcs (dg D_X5_readSpan (i := 67) rfl) (fun I135 Lc135 R1 H locs hq hW hS => ?_)
                obtain ⟨hT135, hp135_0, hp135_1, hp135_2, hp135_3, hp135_4, hp135_5, hL135, rfl⟩ := hq
                have hF : Fr (SCP β q) I I135 := Fr.tr hF hT135 (by intro a j h; simp only [SNa, SCP, Bool.or_eq_true, Bool.and_eq_true, beq_iff_eq, decide_eq_true_eq] at h ⊢; omega)
                have hTx : rowP I135 30 n (fun j => sg (b j)) := hTx.fr hT135 (fun j => Bool.eq_false_iff.mpr (fun h => by simp only [SNa, Bool.or_eq_true, Bool.and_eq_true, beq_iff_eq, decide_eq_true_eq] at h <;> omega))
                have hB : BrAt I135 β σ := BrAt.frI hB hT135 SNa_in (by omega)
                have hGa : GaAt I135 q σ := GaAt.frI hGa hT135 SNa_in (by omega)
                have hz : KC I135 := KC.fr hz hT135 (Bool.eq_false_iff.mpr (fun h => by simp only [SNa, Bool.or_eq_true, Bool.and_eq_true, beq_iff_eq, decide_eq_true_eq] at h <;> omega)) (Bool.eq_false_iff.mpr (fun h => by simp only [SNa, Bool.or_eq_true, Bool.and_eq_true, beq_iff_eq, decide_eq_true_eq] at h <;> omega))
                have hln : I135 66 1 = nI n := (hT135 66 1 rfl).trans hln
                have hen : I135 66 3 = nI (tE b n (tt b n p9 7)) := (hT135 66 3 rfl).trans hen
                have hFL : FL SLq L Lc135 := FL.tr hFL hL135 (by intro a j h; simp only [SLn, SLq, Bool.or_eq_true, Bool.and_eq_true, beq_iff_eq, decide_eq_true_eq] at h ⊢; omega)
                have hNl : True := trivial
                have hNi9 := NmI.add hNi0 (by omega) (tok_w (nnOk_2 hn1).1).1 hp135_0 hp135_1 hp135_2 hp135_3
                have hNl9 := NmL.add hNl0 hp135_4 hp135_5
                refine lv_aload_n hx hb (dg D_X5_readSpan (i := 68) rfl) rfl (lv_at hl 6 rfl) ?_
                refine r_getr (v := β) X hW FI_X5_32 rfl (by decide) rfl hR2 (dg D_X5_readSpan (i := 69) rfl) ?_
                refine lv_iload_n hx hb (dg D_X5_readSpan (i := 70) rfl) rfl (lv_at hl 4 rfl) ?_
                refine lv_iload hx hb (dg D_X5_readSpan (i := 71) rfl) (lv_at hl 3 rfl) ?_
                refine lv_iload hx hb (dg D_X5_readSpan (i := 72) rfl) (lv_at hl 2 rfl) ?_
                refine lv_iload hx hb (dg D_X5_readSpan (i := 73) rfl) (lv_at hl 1 rfl) ?_
                refine lv_iload hx hb (dg D_X5_readSpan (i := 74) rfl) (lv_at hl 0 rfl) ?_
                refine callVv X hW hS hR (c_X1_addSpan (I := I135) σ β (lnV b n σ nm (tt b n p9 2)) (nI (tV b n (tt b n p9 3))) (nI (tV b n (tt b n p9 4))) (nI (tV b n (tt b n p9 5))) (nI (tV b n (tt b n p9 6))) (by first | exact hi | assumption | omega | decide | exact hP.1) (by first | exact hβ | assumption | omega | decide | exact hP.1) (by first | exact hB | assumption | omega | decide | exact hP.1) (by first | exact hn4 | assumption | omega | decide | exact hP.1)) (by decide) UVX1_addSpan LK_X5_165 (shB hβ) (ncB0 hβ) rfl rfl rfl (Nat.le_of_ble_eq_true rfl) hl hcs (dg D_X5_readSpan (i := 75) rfl) (fun I151 L1 R1 H locs hq hW hS => ?_)
                obtain ⟨hT151, hp151_0, rfl, rfl⟩ := hq
                have hF : Fr (SCP β q) I I151 := Fr.tr hF hT151 (by intro a j h; simp only [SB9, SCP, Bool.or_eq_true, Bool.and_eq_true, beq_iff_eq, decide_eq_true_eq] at h ⊢; omega)
                have hTx : rowP I151 30 n (fun j => sg (b j)) := hTx.fr hT151 (fun j => Bool.eq_false_iff.mpr (fun h => by simp only [SB9, Bool.or_eq_true, Bool.and_eq_true, beq_iff_eq, decide_eq_true_eq] at h <;> omega))
                have hGa : GaAt I151 q σ := GaAt.frI hGa hT151 SB9_in (by omega)
                have hz : KC I151 := KC.fr hz hT151 (Bool.eq_false_iff.mpr (fun h => by simp only [SB9, Bool.or_eq_true, Bool.and_eq_true, beq_iff_eq, decide_eq_true_eq] at h <;> omega)) (Bool.eq_false_iff.mpr (fun h => by simp only [SB9, Bool.or_eq_true, Bool.and_eq_true, beq_iff_eq, decide_eq_true_eq] at h <;> omega))
                have hNi9 : NmI b n I151 (N + 1) (upN ds N (tS b n (tt b n p9 1))) (upN st N 2) (upN nu N (nS σ)) := NmI.fr hNi9 hT151 (fun a j h1 h2 => Bool.eq_false_iff.mpr (fun h => by simp only [SB9, Bool.or_eq_true, Bool.and_eq_true, beq_iff_eq, decide_eq_true_eq] at h <;> omega))
                have hln : I151 66 1 = nI n := (hT151 66 1 (SB9_in.no (by omega) _)).trans hln
                have hen : I151 66 3 = nI (tE b n (tt b n p9 7)) := (hT151 66 3 (SB9_in.no (by omega) _)).trans hen
                have hB9 := hp151_0
                refine n_iconst (a := 1) hx hb (dg D_X5_readSpan (i := 76) rfl) rfl ?_
                have hst8 : stSp b n σ nm p9 = .inr (adS σ (lnV b n σ nm (tt b n p9 2)) (nI (tV b n (tt b n p9 3))) (nI (tV b n (tt b n p9 4))) (nI (tV b n (tt b n p9 5))) (nI (tV b n (tt b n p9 6))), unm nm 1 (nS σ) (tS b n (tt b n p9 1)), tt b n p9 7) := by unfold stSp; simp only [hnL4, hn1, hn2, hn3, hn4, hn5, hn6, ↓reduceIte, reduceCtorEq]
                have hst9 : seK b n (stSp b n σ nm p9) = .inr (adS σ (lnV b n σ nm (tt b n p9 2)) (nI (tV b n (tt b n p9 3))) (nI (tV b n (tt b n p9 4))) (nI (tV b n (tt b n p9 5))) (nI (tV b n (tt b n p9 6))), unm nm 1 (nS σ) (tS b n (tt b n p9 1)), tE b n (tt b n p9 7)) := by rw [hst8]; exact seK_r c117
                exact fin (dg D_X5_readSpan (i := 77) rfl) hW hS (show _ = bI true from rfl) ⟨by rw [hst9]; rfl, hF, by rw [hst9]; exact ⟨hB9, GaAt_c hGa (fun j hj => adS_at (by omega) (by omega)), ⟨_, _, _, _, hNi9, hNl9, NmR.grow hNR (by decide) (cN_adS hnL) (nnOk_2 hn1).2⟩, hen, hz⟩, hFL, rfl⟩
              · refine n_iconst (a := 0) hx hb (dg D_X5_readSpan (i := 58) rfl) rfl ?_
                have hst8 : stSp b n σ nm p9 = .inr (adS σ (lnV b n σ nm (tt b n p9 2)) (nI (tV b n (tt b n p9 3))) (nI (tV b n (tt b n p9 4))) (nI (tV b n (tt b n p9 5))) (nI (tV b n (tt b n p9 6))), unm nm 1 (nS σ) (tS b n (tt b n p9 1)), tt b n p9 7) := by unfold stSp; simp only [hnL4, hn1, hn2, hn3, hn4, hn5, hn6, ↓reduceIte, reduceCtorEq]
                have hst9 : seK b n (stSp b n σ nm p9) = .inl (e2 b n (tt b n p9 7), tS b n (tt b n p9 7)) := by rw [hst8]; exact seK_n c117
                exact fin (dg D_X5_readSpan (i := 59) rfl) hW hS (show _ = bI false from rfl) ⟨by rw [hst9]; rfl, hF, by rw [hst9]; exact ⟨(hp114_1 c117).1, (hp114_1 c117).2, hB, hGa⟩, hFL, rfl⟩
          · refine lv_bipush (v := -2) hx hb (dg D_X5_readSpan (i := 45) rfl) (by decide) ?_
            refine lv_goto (tgt := 104) hx hb (dg D_X5_readSpan (i := 46) rfl) (by decide) ?_
            refine lv_istore (lv' := [(7, .int ((-2))), (6, .int (nuV b n (tt b n p9 5) 1 50)), (5, .int (nI (tV b n (tt b n p9 4)))), (4, .int (nI (tV b n (tt b n p9 3)))), (3, .int (lnV b n σ nm (tt b n p9 2))), (1, .long (Int64.ofNat (w256 b n (tS b n (tt b n p9 1))))), (0, .ref (bs + 61))]) hx hb (dg D_X5_readSpan (i := 51) rfl) hl (by decide) rfl (fun ls hl => ?_)
            refine lv_iload hx hb (dg D_X5_readSpan (i := 52) rfl) (lv_at hl 0 rfl) ?_
            refine lv_bipush (v := -2) hx hb (dg D_X5_readSpan (i := 53) rfl) (by decide) ?_
            refine lv_icmp_eq (tgt := 120) hx hb (dg D_X5_readSpan (i := 54) rfl) (by decide) (fun c110 => ?_) (fun c110 => ?_)
            · refine n_iconst (a := 0) hx hb (dg D_X5_readSpan (i := 58) rfl) rfl ?_
              have hn5 := nuV_f (by first | exact c89 | exact Classical.not_not.mp c89) (by omega)
              have hst8 : stSp b n σ nm p9 = .inl (nuE b n (tt b n p9 5), tS b n (tt b n p9 5)) := by unfold stSp; simp only [hnL4, hn1, hn2, hn3, hn4, hn5, ↓reduceIte, reduceCtorEq]
              have hst9 : seK b n (stSp b n σ nm p9) = .inl (nuE b n (tt b n p9 5), tS b n (tt b n p9 5)) := by rw [hst8]; rfl
              exact fin (dg D_X5_readSpan (i := 59) rfl) hW hS (show _ = bI false from rfl) ⟨by rw [hst9]; rfl, hF, by rw [hst9]; exact ⟨(hp80_1 hn5).1, (hp80_1 hn5).2, hB, hGa⟩, hFL, rfl⟩
            · exact absurd c110 (by decide)
        · refine lv_bipush (v := -2) hx hb (dg D_X5_readSpan (i := 35) rfl) (by decide) ?_
          refine lv_goto (tgt := 83) hx hb (dg D_X5_readSpan (i := 36) rfl) (by decide) ?_
          refine lv_istore (lv' := [(6, .int ((-2))), (5, .int (nuV b n (tt b n p9 4) 0 100)), (4, .int (nI (tV b n (tt b n p9 3)))), (3, .int (lnV b n σ nm (tt b n p9 2))), (1, .long (Int64.ofNat (w256 b n (tS b n (tt b n p9 1))))), (0, .ref (bs + 61))]) hx hb (dg D_X5_readSpan (i := 41) rfl) hl (by decide) rfl (fun ls hl => ?_)
          refine lv_iload hx hb (dg D_X5_readSpan (i := 42) rfl) (lv_at hl 0 rfl) ?_
          refine lv_bipush (v := -2) hx hb (dg D_X5_readSpan (i := 43) rfl) (by decide) ?_
          refine lv_icmp_ne (tgt := 97) hx hb (dg D_X5_readSpan (i := 44) rfl) (by decide) (fun c89 => ?_) (fun c89 => ?_)
          · exact absurd c89 (by decide)
          · refine lv_bipush (v := -2) hx hb (dg D_X5_readSpan (i := 45) rfl) (by decide) ?_
            refine lv_goto (tgt := 104) hx hb (dg D_X5_readSpan (i := 46) rfl) (by decide) ?_
            refine lv_istore (lv' := [(7, .int ((-2))), (6, .int ((-2))), (5, .int (nuV b n (tt b n p9 4) 0 100)), (4, .int (nI (tV b n (tt b n p9 3)))), (3, .int (lnV b n σ nm (tt b n p9 2))), (1, .long (Int64.ofNat (w256 b n (tS b n (tt b n p9 1))))), (0, .ref (bs + 61))]) hx hb (dg D_X5_readSpan (i := 51) rfl) hl (by decide) rfl (fun ls hl => ?_)
            refine lv_iload hx hb (dg D_X5_readSpan (i := 52) rfl) (lv_at hl 0 rfl) ?_
            refine lv_bipush (v := -2) hx hb (dg D_X5_readSpan (i := 53) rfl) (by decide) ?_
            refine lv_icmp_eq (tgt := 120) hx hb (dg D_X5_readSpan (i := 54) rfl) (by decide) (fun c110 => ?_) (fun c110 => ?_)
            · refine n_iconst (a := 0) hx hb (dg D_X5_readSpan (i := 58) rfl) rfl ?_
              have hn4 := nuV_f (by first | exact c68 | exact Classical.not_not.mp c68) (by omega)
              have hst8 : stSp b n σ nm p9 = .inl (nuE b n (tt b n p9 4), tS b n (tt b n p9 4)) := by unfold stSp; simp only [hnL4, hn1, hn2, hn3, hn4, ↓reduceIte, reduceCtorEq]
              have hst9 : seK b n (stSp b n σ nm p9) = .inl (nuE b n (tt b n p9 4), tS b n (tt b n p9 4)) := by rw [hst8]; rfl
              exact fin (dg D_X5_readSpan (i := 59) rfl) hW hS (show _ = bI false from rfl) ⟨by rw [hst9]; rfl, hF, by rw [hst9]; exact ⟨(hp59_1 hn4).1, (hp59_1 hn4).2, hB, hGa⟩, hFL, rfl⟩
            · exact absurd c110 (by decide)
      · refine lv_bipush (v := -2) hx hb (dg D_X5_readSpan (i := 25) rfl) (by decide) ?_
        refine lv_goto (tgt := 62) hx hb (dg D_X5_readSpan (i := 26) rfl) (by decide) ?_
        refine lv_istore (lv' := [(5, .int ((-2))), (4, .int (nuV b n (tt b n p9 3) 1 99)), (3, .int (lnV b n σ nm (tt b n p9 2))), (1, .long (Int64.ofNat (w256 b n (tS b n (tt b n p9 1))))), (0, .ref (bs + 61))]) hx hb (dg D_X5_readSpan (i := 31) rfl) hl (by decide) rfl (fun ls hl => ?_)
        refine lv_iload hx hb (dg D_X5_readSpan (i := 32) rfl) (lv_at hl 0 rfl) ?_
        refine lv_bipush (v := -2) hx hb (dg D_X5_readSpan (i := 33) rfl) (by decide) ?_
        refine lv_icmp_ne (tgt := 76) hx hb (dg D_X5_readSpan (i := 34) rfl) (by decide) (fun c68 => ?_) (fun c68 => ?_)
        · exact absurd c68 (by decide)
        · refine lv_bipush (v := -2) hx hb (dg D_X5_readSpan (i := 35) rfl) (by decide) ?_
          refine lv_goto (tgt := 83) hx hb (dg D_X5_readSpan (i := 36) rfl) (by decide) ?_
          refine lv_istore (lv' := [(6, .int ((-2))), (5, .int ((-2))), (4, .int (nuV b n (tt b n p9 3) 1 99)), (3, .int (lnV b n σ nm (tt b n p9 2))), (1, .long (Int64.ofNat (w256 b n (tS b n (tt b n p9 1))))), (0, .ref (bs + 61))]) hx hb (dg D_X5_readSpan (i := 41) rfl) hl (by decide) rfl (fun ls hl => ?_)
          refine lv_iload hx hb (dg D_X5_readSpan (i := 42) rfl) (lv_at hl 0 rfl) ?_
          refine lv_bipush (v := -2) hx hb (dg D_X5_readSpan (i := 43) rfl) (by decide) ?_
          refine lv_icmp_ne (tgt := 97) hx hb (dg D_X5_readSpan (i := 44) rfl) (by decide) (fun c89 => ?_) (fun c89 => ?_)
          · exact absurd c89 (by decide)
          · refine lv_bipush (v := -2) hx hb (dg D_X5_readSpan (i := 45) rfl) (by decide) ?_
            refine lv_goto (tgt := 104) hx hb (dg D_X5_readSpan (i := 46) rfl) (by decide) ?_
            refine lv_istore (lv' := [(7, .int ((-2))), (6, .int ((-2))), (5, .int ((-2))), (4, .int (nuV b n (tt b n p9 3) 1 99)), (3, .int (lnV b n σ nm (tt b n p9 2))), (1, .long (Int64.ofNat (w256 b n (tS b n (tt b n p9 1))))), (0, .ref (bs + 61))]) hx hb (dg D_X5_readSpan (i := 51) rfl) hl (by decide) rfl (fun ls hl => ?_)
            refine lv_iload hx hb (dg D_X5_readSpan (i := 52) rfl) (lv_at hl 0 rfl) ?_
            refine lv_bipush (v := -2) hx hb (dg D_X5_readSpan (i := 53) rfl) (by decide) ?_
            refine lv_icmp_eq (tgt := 120) hx hb (dg D_X5_readSpan (i := 54) rfl) (by decide) (fun c110 => ?_) (fun c110 => ?_)
            · refine n_iconst (a := 0) hx hb (dg D_X5_readSpan (i := 58) rfl) rfl ?_
              have hn3 := nuV_f (by first | exact c47 | exact Classical.not_not.mp c47) (by omega)
              have hst8 : stSp b n σ nm p9 = .inl (nuE b n (tt b n p9 3), tS b n (tt b n p9 3)) := by unfold stSp; simp only [hnL4, hn1, hn2, hn3, ↓reduceIte, reduceCtorEq]
              have hst9 : seK b n (stSp b n σ nm p9) = .inl (nuE b n (tt b n p9 3), tS b n (tt b n p9 3)) := by rw [hst8]; rfl
              exact fin (dg D_X5_readSpan (i := 59) rfl) hW hS (show _ = bI false from rfl) ⟨by rw [hst9]; rfl, hF, by rw [hst9]; exact ⟨(hp38_1 hn3).1, (hp38_1 hn3).2, hB, hGa⟩, hFL, rfl⟩
            · exact absurd c110 (by decide)
    · refine lv_bipush (v := -2) hx hb (dg D_X5_readSpan (i := 15) rfl) (by decide) ?_
      refine lv_goto (tgt := 41) hx hb (dg D_X5_readSpan (i := 16) rfl) (by decide) ?_
      refine lv_istore (lv' := [(4, .int ((-2))), (3, .int (lnW b n σ nm (tt b n p9 2))), (1, .long (Int64.ofNat (w256 b n (tS b n (tt b n p9 1))))), (0, .ref (bs + 61))]) hx hb (dg D_X5_readSpan (i := 21) rfl) hl (by decide) rfl (fun ls hl => ?_)
      refine lv_iload hx hb (dg D_X5_readSpan (i := 22) rfl) (lv_at hl 0 rfl) ?_
      refine lv_bipush (v := -2) hx hb (dg D_X5_readSpan (i := 23) rfl) (by decide) ?_
      refine lv_icmp_ne (tgt := 55) hx hb (dg D_X5_readSpan (i := 24) rfl) (by decide) (fun c47 => ?_) (fun c47 => ?_)
      · exact absurd c47 (by decide)
      · refine lv_bipush (v := -2) hx hb (dg D_X5_readSpan (i := 25) rfl) (by decide) ?_
        refine lv_goto (tgt := 62) hx hb (dg D_X5_readSpan (i := 26) rfl) (by decide) ?_
        refine lv_istore (lv' := [(5, .int ((-2))), (4, .int ((-2))), (3, .int (lnW b n σ nm (tt b n p9 2))), (1, .long (Int64.ofNat (w256 b n (tS b n (tt b n p9 1))))), (0, .ref (bs + 61))]) hx hb (dg D_X5_readSpan (i := 31) rfl) hl (by decide) rfl (fun ls hl => ?_)
        refine lv_iload hx hb (dg D_X5_readSpan (i := 32) rfl) (lv_at hl 0 rfl) ?_
        refine lv_bipush (v := -2) hx hb (dg D_X5_readSpan (i := 33) rfl) (by decide) ?_
        refine lv_icmp_ne (tgt := 76) hx hb (dg D_X5_readSpan (i := 34) rfl) (by decide) (fun c68 => ?_) (fun c68 => ?_)
        · exact absurd c68 (by decide)
        · refine lv_bipush (v := -2) hx hb (dg D_X5_readSpan (i := 35) rfl) (by decide) ?_
          refine lv_goto (tgt := 83) hx hb (dg D_X5_readSpan (i := 36) rfl) (by decide) ?_
          refine lv_istore (lv' := [(6, .int ((-2))), (5, .int ((-2))), (4, .int ((-2))), (3, .int (lnW b n σ nm (tt b n p9 2))), (1, .long (Int64.ofNat (w256 b n (tS b n (tt b n p9 1))))), (0, .ref (bs + 61))]) hx hb (dg D_X5_readSpan (i := 41) rfl) hl (by decide) rfl (fun ls hl => ?_)
          refine lv_iload hx hb (dg D_X5_readSpan (i := 42) rfl) (lv_at hl 0 rfl) ?_
          refine lv_bipush (v := -2) hx hb (dg D_X5_readSpan (i := 43) rfl) (by decide) ?_
          refine lv_icmp_ne (tgt := 97) hx hb (dg D_X5_readSpan (i := 44) rfl) (by decide) (fun c89 => ?_) (fun c89 => ?_)
          · exact absurd c89 (by decide)
          · refine lv_bipush (v := -2) hx hb (dg D_X5_readSpan (i := 45) rfl) (by decide) ?_
            refine lv_goto (tgt := 104) hx hb (dg D_X5_readSpan (i := 46) rfl) (by decide) ?_
            refine lv_istore (lv' := [(7, .int ((-2))), (6, .int ((-2))), (5, .int ((-2))), (4, .int ((-2))), (3, .int (lnW b n σ nm (tt b n p9 2))), (1, .long (Int64.ofNat (w256 b n (tS b n (tt b n p9 1))))), (0, .ref (bs + 61))]) hx hb (dg D_X5_readSpan (i := 51) rfl) hl (by decide) rfl (fun ls hl => ?_)
            refine lv_iload hx hb (dg D_X5_readSpan (i := 52) rfl) (lv_at hl 0 rfl) ?_
            refine lv_bipush (v := -2) hx hb (dg D_X5_readSpan (i := 53) rfl) (by decide) ?_
            refine lv_icmp_eq (tgt := 120) hx hb (dg D_X5_readSpan (i := 54) rfl) (by decide) (fun c110 => ?_) (fun c110 => ?_)
            · refine n_iconst (a := 0) hx hb (dg D_X5_readSpan (i := 58) rfl) rfl ?_
              have hn2 := lnW_f hi (by first | exact c26 | exact Classical.not_not.mp c26)
              have hst8 : stSp b n σ nm p9 = .inl (nnE b n (tt b n p9 2), tS b n (tt b n p9 2)) := by unfold stSp; simp only [hnL4, hn1, hn2, ↓reduceIte, reduceCtorEq]
              have hst9 : seK b n (stSp b n σ nm p9) = .inl (nnE b n (tt b n p9 2), tS b n (tt b n p9 2)) := by rw [hst8]; rfl
              exact fin (dg D_X5_readSpan (i := 59) rfl) hW hS (show _ = bI false from rfl) ⟨by rw [hst9]; rfl, hF, by rw [hst9]; exact ⟨(hp19_1 hn2).1, (hp19_1 hn2).2, hB, hGa⟩, hFL, rfl⟩
            · exact absurd c110 (by decide)
  · refine lv_bipush (v := -2) hx hb (dg D_X5_readSpan (i := 7) rfl) (by decide) ?_
    refine lv_goto (tgt := 22) hx hb (dg D_X5_readSpan (i := 8) rfl) (by decide) ?_
    refine lv_istore_n (lv' := [(3, .int ((-2))), (1, .long (nwV b n σ nm (tt b n p9 1))), (0, .ref (bs + 61))]) hx hb (dg D_X5_readSpan (i := 11) rfl) rfl hl (by decide) rfl (fun ls hl => ?_)
    refine lv_iload_n hx hb (dg D_X5_readSpan (i := 12) rfl) rfl (lv_at hl 0 rfl) ?_
    refine lv_bipush (v := -2) hx hb (dg D_X5_readSpan (i := 13) rfl) (by decide) ?_
    refine lv_icmp_ne (tgt := 34) hx hb (dg D_X5_readSpan (i := 14) rfl) (by decide) (fun c26 => ?_) (fun c26 => ?_)
    · exact absurd c26 (by decide)
    · refine lv_bipush (v := -2) hx hb (dg D_X5_readSpan (i := 15) rfl) (by decide) ?_
      refine lv_goto (tgt := 41) hx hb (dg D_X5_readSpan (i := 16) rfl) (by decide) ?_
      refine lv_istore (lv' := [(4, .int ((-2))), (3, .int ((-2))), (1, .long (nwV b n σ nm (tt b n p9 1))), (0, .ref (bs + 61))]) hx hb (dg D_X5_readSpan (i := 21) rfl) hl (by decide) rfl (fun ls hl => ?_)
      refine lv_iload hx hb (dg D_X5_readSpan (i := 22) rfl) (lv_at hl 0 rfl) ?_
      refine lv_bipush (v := -2) hx hb (dg D_X5_readSpan (i := 23) rfl) (by decide) ?_
      refine lv_icmp_ne (tgt := 55) hx hb (dg D_X5_readSpan (i := 24) rfl) (by decide) (fun c47 => ?_) (fun c47 => ?_)
      · exact absurd c47 (by decide)
      · refine lv_bipush (v := -2) hx hb (dg D_X5_readSpan (i := 25) rfl) (by decide) ?_
        refine lv_goto (tgt := 62) hx hb (dg D_X5_readSpan (i := 26) rfl) (by decide) ?_
        refine lv_istore (lv' := [(5, .int ((-2))), (4, .int ((-2))), (3, .int ((-2))), (1, .long (nwV b n σ nm (tt b n p9 1))), (0, .ref (bs + 61))]) hx hb (dg D_X5_readSpan (i := 31) rfl) hl (by decide) rfl (fun ls hl => ?_)
        refine lv_iload hx hb (dg D_X5_readSpan (i := 32) rfl) (lv_at hl 0 rfl) ?_
        refine lv_bipush (v := -2) hx hb (dg D_X5_readSpan (i := 33) rfl) (by decide) ?_
        refine lv_icmp_ne (tgt := 76) hx hb (dg D_X5_readSpan (i := 34) rfl) (by decide) (fun c68 => ?_) (fun c68 => ?_)
        · exact absurd c68 (by decide)
        · refine lv_bipush (v := -2) hx hb (dg D_X5_readSpan (i := 35) rfl) (by decide) ?_
          refine lv_goto (tgt := 83) hx hb (dg D_X5_readSpan (i := 36) rfl) (by decide) ?_
          refine lv_istore (lv' := [(6, .int ((-2))), (5, .int ((-2))), (4, .int ((-2))), (3, .int ((-2))), (1, .long (nwV b n σ nm (tt b n p9 1))), (0, .ref (bs + 61))]) hx hb (dg D_X5_readSpan (i := 41) rfl) hl (by decide) rfl (fun ls hl => ?_)
          refine lv_iload hx hb (dg D_X5_readSpan (i := 42) rfl) (lv_at hl 0 rfl) ?_
          refine lv_bipush (v := -2) hx hb (dg D_X5_readSpan (i := 43) rfl) (by decide) ?_
          refine lv_icmp_ne (tgt := 97) hx hb (dg D_X5_readSpan (i := 44) rfl) (by decide) (fun c89 => ?_) (fun c89 => ?_)
          · exact absurd c89 (by decide)
          · refine lv_bipush (v := -2) hx hb (dg D_X5_readSpan (i := 45) rfl) (by decide) ?_
            refine lv_goto (tgt := 104) hx hb (dg D_X5_readSpan (i := 46) rfl) (by decide) ?_
            refine lv_istore (lv' := [(7, .int ((-2))), (6, .int ((-2))), (5, .int ((-2))), (4, .int ((-2))), (3, .int ((-2))), (1, .long (nwV b n σ nm (tt b n p9 1))), (0, .ref (bs + 61))]) hx hb (dg D_X5_readSpan (i := 51) rfl) hl (by decide) rfl (fun ls hl => ?_)
            refine lv_iload hx hb (dg D_X5_readSpan (i := 52) rfl) (lv_at hl 0 rfl) ?_
            refine lv_bipush (v := -2) hx hb (dg D_X5_readSpan (i := 53) rfl) (by decide) ?_
            refine lv_icmp_eq (tgt := 120) hx hb (dg D_X5_readSpan (i := 54) rfl) (by decide) (fun c110 => ?_) (fun c110 => ?_)
            · refine n_iconst (a := 0) hx hb (dg D_X5_readSpan (i := 58) rfl) rfl ?_
              have hn1 := nwV_f hT (by first | exact c10 | exact Classical.not_not.mp c10)
              have hst8 : stSp b n σ nm p9 = .inl (nnE b n (tt b n p9 1), tS b n (tt b n p9 1)) := by unfold stSp; simp only [hnL4, hn1, ↓reduceIte, reduceCtorEq]
              have hst9 : seK b n (stSp b n σ nm p9) = .inl (nnE b n (tt b n p9 1), tS b n (tt b n p9 1)) := by rw [hst8]; rfl
              exact fin (dg D_X5_readSpan (i := 59) rfl) hW hS (show _ = bI false from rfl) ⟨by rw [hst9]; rfl, hF, by rw [hst9]; exact ⟨(hp1_1 hn1).1, (hp1_1 hn1).2, hB, hGa⟩, hFL, rfl⟩
            · exact absurd c110 (by decide)

