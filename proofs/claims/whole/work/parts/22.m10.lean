set_option maxHeartbeats 4000000 in
set_option maxRecDepth 100000 in
theorem c_X12_firstOverload {l : Launch} {G : va_G} {bs : Nat} {cy : Nat → ClassId} {I : CI} {L : CL} {R : CR} (σ : Row) (hs : I 68 = σ) (hi : Inv σ) : MTi l G bs cy MX12_firstOverload 7 [.ref (bs + 67)] I L R (fun r I1 L1 R1 => fst2 (fun y g => ovr σ g y) (Yn σ) (nG σ) = r ∧ Fr SLT I I1 ∧ I1 67 6 = nI 0 ∧ L = L1 ∧ R = R1) := by
  refine MTi.of (own := RX12) pn_RX12 rfl (Nat.le_of_ble_eq_true rfl) ?_
  intro p e s m args below meth c Qf X hW hS fin ls hl
  have hx := X.1
  have hb := X.2.1
  have hR : RmOK (rmL 7 0 0) 7 := ⟨rfl, rfl⟩
  have hcs : 0 ≤ (rmL 7 0 0).cells ∧ 0 ≤ (rmL 7 0 0).slots := ⟨Nat.zero_le _, Nat.zero_le _⟩
  have hl : lv_has ls 3 [(0, .ref (bs + 67))] := hl
  have hF : Fr SLT I I := Fr.rf
  obtain ⟨hY, hY1, hY12, hLn, hL4, hSn, hS12, hGn, hG5⟩ := id hi
  refine lv_aload_n hx hb (dg D_X12_firstOverload (i := 0) rfl) rfl (lv_at hl 0 rfl) ?_
  refine n_iconst (a := 0) hx hb (dg D_X12_firstOverload (i := 1) rfl) rfl ?_
  refine r_puti (v := nI 0) (ty := .int) X hW hS FI_X12_74 rfl (by decide) rfl rfl (by decide +kernel) rfl rfl (dg D_X12_firstOverload (i := 2) rfl) (fun H locs hW hS => ?_)
  have hF : Fr SLT I (u2 I 67 6 (nI 0)) := Fr.put hF rfl
  have hs : (u2 I 67 6 (nI 0)) 68 = σ := hs
  obtain ⟨J2, eJ2⟩ : ∃ J, J = u2 I 67 6 (nI 0) := ⟨_, rfl⟩
  rw [← eJ2] at hW hF hs
  have hth : J2 67 6 = nI 0 := by rw [eJ2]; exact u2_at
  refine n_iconst (a := 0) hx hb (dg D_X12_firstOverload (i := 3) rfl) rfl ?_
  refine lv_istore_n (lv' := [(1, .int (nI 0)), (0, .ref (bs + 67))]) hx hb (dg D_X12_firstOverload (i := 4) rfl) rfl hl (by decide) rfl (fun ls hl => ?_)
  have loop7 := up_ind (P := fun y => ∀ (K7 : CI) (H : Heap) (locs : List Loc) (ls : Array Slot) (v1 : Int32), v1 = nI y → (Fr SLT I K7) → (K7 68 = σ) → (K7 67 6 = nI 0) → (∀ z, z < y → ∀ g, g < nG σ → ovr σ g z = false) → Wd G bs cy K7 L R H → va_S (Aq bs) s.heap H locs → lv_has ls 3 [(0, .ref (bs + 67)), (1, .int v1)] → W p l e (rmL 7 0 0) s m args below meth c H locs 0 0 Qf (F0 m 7 ls [])) (Yn σ) (fun y hx7 ih7 => by
      intro K7 H locs ls v1 q1 hF hs hth hn hW hS hl
      subst q1
      refine lv_iload_n hx hb (dg D_X12_firstOverload (i := 5) rfl) rfl (lv_at hl 1 rfl) ?_
      refine lv_aload_n hx hb (dg D_X12_firstOverload (i := 6) rfl) rfl (lv_at hl 0 rfl) ?_
      refine r_getc (t := 68) X hW FI_X12_7 rfl (by decide) rfl (dg D_X12_firstOverload (i := 7) rfl) ?_
      refine n_iconst (a := 0) hx hb (dg D_X12_firstOverload (i := 8) rfl) rfl ?_
      refine r_ald (j := 0) (v := nI (Yn σ)) X hW rfl (by decide) rfl (by omega) (by decide) ((congrFun hs _).trans hY) (dg D_X12_firstOverload (i := 9) rfl) ?_
      refine n_icmp_ge (tgt := 57) hx hb (by omega) (by omega) (dg D_X12_firstOverload (i := 10) rfl) (by decide) (fun c14 => ?_) (fun c14 => ?_)
      · refine r_ldc X CK_X12_28 (dg D_X12_firstOverload (i := 34) rfl) ?_
        exact fin (dg D_X12_firstOverload (i := 35) rfl) hW hS ⟨(fst2_none (p := fun y g => ovr σ g y) (fun z hz g hg => hn z (by omega) g hg)), hF, hth, rfl, rfl⟩
      · refine n_iconst (a := 0) hx hb (dg D_X12_firstOverload (i := 11) rfl) rfl ?_
        refine lv_istore_n (lv' := [(2, .int (nI 0)), (0, .ref (bs + 67)), (1, .int (nI y))]) hx hb (dg D_X12_firstOverload (i := 12) rfl) rfl hl (by decide) rfl (fun ls hl => ?_)
        have loop19 := up_ind (P := fun k => ∀ (K19 : CI) (H : Heap) (locs : List Loc) (ls : Array Slot) (v2 : Int32), v2 = nI k → (Fr SLT I K19) → (K19 68 = σ) → (K19 67 6 = nI 0) → (∀ g, g < k → ovr σ g y = false) → Wd G bs cy K19 L R H → va_S (Aq bs) s.heap H locs → lv_has ls 3 [(0, .ref (bs + 67)), (1, .int (nI y)), (2, .int v2)] → W p l e (rmL 7 0 0) s m args below meth c H locs 0 0 Qf (F0 m 19 ls [])) (nG σ) (fun k hx19 ih19 => by
            intro K19 H locs ls v2 q2 hF hs hth hm hW hS hl
            subst q2
            refine lv_iload_n hx hb (dg D_X12_firstOverload (i := 13) rfl) rfl (lv_at hl 2 rfl) ?_
            refine lv_aload_n hx hb (dg D_X12_firstOverload (i := 14) rfl) rfl (lv_at hl 0 rfl) ?_
            refine r_getc (t := 68) X hW FI_X12_7 rfl (by decide) rfl (dg D_X12_firstOverload (i := 15) rfl) ?_
            refine n_iconst (a := 5) hx hb (dg D_X12_firstOverload (i := 16) rfl) rfl ?_
            refine r_ald (j := 5) (v := nI (nG σ)) X hW rfl (by decide) rfl (by omega) (by decide) ((congrFun hs _).trans hGn) (dg D_X12_firstOverload (i := 17) rfl) ?_
            refine n_icmp_ge (tgt := 51) hx hb (by omega) (by omega) (dg D_X12_firstOverload (i := 18) rfl) (by decide) (fun c26 => ?_) (fun c26 => ?_)
            · refine lv_iinc (v := nI (y + 1)) (lv' := [(1, .int (nI (y + 1))), (0, .ref (bs + 67)), (2, .int (nI k))]) hx hb (dg D_X12_firstOverload (i := 32) rfl) hl (k := 1) rfl (nI_add _ _) (by decide) rfl (fun ls hl => ?_)
              refine lv_goto (tgt := 7) hx hb (dg D_X12_firstOverload (i := 33) rfl) (by decide) ?_
              exact ih7 (by omega) K19 _ _ _ _ (congrArg nI (by omega)) hF hs hth (fst2_step (p := fun y g => ovr σ g y) hn (fun q hq => hm q (by omega))) hW hS (lv_sub hl [1, 0] rfl)
            · refine lv_aload_n hx hb (dg D_X12_firstOverload (i := 19) rfl) rfl (lv_at hl 0 rfl) ?_
              refine lv_iload_n hx hb (dg D_X12_firstOverload (i := 20) rfl) rfl (lv_at hl 2 rfl) ?_
              refine lv_iload_n hx hb (dg D_X12_firstOverload (i := 21) rfl) rfl (lv_at hl 1 rfl) ?_
              refine callVi X hW hS hR (c_X12_isOver (I := K19) σ k y (by first | assumption | omega | decide | exact hP.1) (by first | assumption | omega | decide | exact hP.1) (by first | assumption | omega | decide | exact hP.1) (by first | assumption | omega | decide | exact hP.1)) (by decide) UVX12_isOver LK_X12_318 rfl (by decide) rfl rfl rfl (Nat.le_of_ble_eq_true rfl) hl hcs (dg D_X12_firstOverload (i := 22) rfl) (fun r32 I32 L1 R1 H locs hq hW hS => ?_)
              obtain ⟨rfl, hT32, rfl, rfl⟩ := hq
              have hF : Fr SLT I I32 := Fr.tr hF hT32 (by intro a j h; simp only [SL, SLT, Bool.or_eq_true, Bool.and_eq_true, beq_iff_eq, decide_eq_true_eq] at h ⊢; omega)
              have hs : I32 68 = σ := by rw [Fr.row hT32 (fun _ => rfl)]; exact hs
              have hth : I32 67 6 = nI 0 := (hT32 67 6 rfl).trans hth
              refine z_if_eq (tgt := 45) hx hb (dg D_X12_firstOverload (i := 23) rfl) (by decide) (fun c35 => ?_) (fun c35 => ?_)
              · refine lv_iinc (v := nI (k + 1)) (lv' := [(2, .int (nI (k + 1))), (0, .ref (bs + 67)), (1, .int (nI y))]) hx hb (dg D_X12_firstOverload (i := 30) rfl) hl (k := 2) rfl (nI_add _ _) (by decide) rfl (fun ls hl => ?_)
                refine lv_goto (tgt := 19) hx hb (dg D_X12_firstOverload (i := 31) rfl) (by decide) ?_
                exact ih19 (by omega) I32 _ _ _ _ (congrArg nI (by omega)) hF hs hth (all_lt_succ (p := fun g => ovr σ g y) hm c35) hW hS (lv_sub hl [1, 2, 0] rfl)
              · refine lv_bipush (v := nI 10) hx hb (dg D_X12_firstOverload (i := 24) rfl) (by decide) ?_
                refine lv_iload_n hx hb (dg D_X12_firstOverload (i := 25) rfl) rfl (lv_at hl 1 rfl) ?_
                refine n_imul hx hb (dg D_X12_firstOverload (i := 26) rfl) ?_
                refine lv_iload_n hx hb (dg D_X12_firstOverload (i := 27) rfl) rfl (lv_at hl 2 rfl) ?_
                refine n_iadd hx hb (dg D_X12_firstOverload (i := 28) rfl) ?_
                exact fin (dg D_X12_firstOverload (i := 29) rfl) hW hS ⟨(fst2_hit (p := fun y g => ovr σ g y) (by omega) (by omega) c35 hn hm), hF, hth, rfl, rfl⟩)
        exact loop19 0 (Nat.zero_le _) K7 _ _ _ _ (congrArg nI (by omega)) hF hs hth (fun z hz => absurd hz (Nat.not_lt_zero z)) hW hS (lv_sub hl [1, 2, 0] rfl))
  exact loop7 0 (Nat.zero_le _) J2 _ _ _ _ (congrArg nI (by omega)) hF hs hth (fun z hz => absurd hz (Nat.not_lt_zero z)) hW hS (lv_sub hl [1, 0] rfl)

set_option maxHeartbeats 4000000 in
set_option maxRecDepth 100000 in
theorem c_X12_harmlessRate {l : Launch} {G : va_G} {bs : Nat} {cy : Nat → ClassId} {I : CI} {L : CL} {R : CR} (σ : Row) (v : Int32) (hs : I 68 = σ) (hi : Inv σ) : MTi l G bs cy MX12_harmlessRate 4 [.ref (bs + 67), .int v] I L R (fun r I1 L1 R1 => ((inB v (nS σ)) = true → r = hrm σ (tN v) 50) ∧ Fr SQ I I1 ∧ I1 67 6 = thr (inB v (nS σ)) ∧ I1 68 = σ ∧ L = L1 ∧ R = R1) := by
  refine MTi.of (own := RX12) pn_RX12 rfl (Nat.le_of_ble_eq_true rfl) ?_
  intro p e s m args below meth c Qf X hW hS fin ls hl
  have hx := X.1
  have hb := X.2.1
  have hR : RmOK (rmL 4 0 0) 4 := ⟨rfl, rfl⟩
  have hcs : 0 ≤ (rmL 4 0 0).cells ∧ 0 ≤ (rmL 4 0 0).slots := ⟨Nat.zero_le _, Nat.zero_le _⟩
  have hl : lv_has ls 5 [(0, .ref (bs + 67)), (1, .int v)] := hl
  have hF : Fr SQ I I := Fr.rf
  obtain ⟨hY, hY1, hY12, hLn, hL4, hSn, hS12, hGn, hG5⟩ := id hi
  refine lv_aload_n hx hb (dg D_X12_harmlessRate (i := 0) rfl) rfl (lv_at hl 0 rfl) ?_
  refine lv_aload_n hx hb (dg D_X12_harmlessRate (i := 1) rfl) rfl (lv_at hl 0 rfl) ?_
  refine lv_iload_n hx hb (dg D_X12_harmlessRate (i := 2) rfl) rfl (lv_at hl 1 rfl) ?_
  refine callVi X hW hS hR (c_X12_isSpan (I := I) σ v (by first | assumption | omega | decide | exact hP.1) (by first | assumption | omega | decide | exact hP.1)) (by decide) UVX12_isSpan LK_X12_88 rfl (by decide) rfl rfl rfl (Nat.le_of_ble_eq_true rfl) hl hcs (dg D_X12_harmlessRate (i := 3) rfl) (fun r3 I3 L1 R1 H locs hq hW hS => ?_)
  obtain ⟨rfl, rfl, rfl, rfl⟩ := hq
  refine callVi X hW hS hR (c_X12_good (I := I) (inB v (nS σ))) (by decide) UVX12_good LK_X12_95 rfl (by decide) rfl rfl rfl (Nat.le_of_ble_eq_true rfl) hl hcs (dg D_X12_harmlessRate (i := 4) rfl) (fun r6 I6 L1 R1 H locs hq hW hS => ?_)
  obtain ⟨rfl, hT6, hp6_0, rfl, rfl⟩ := hq
  have hF : Fr SQ I I6 := Fr.tr hF hT6 (by intro a j h; simp only [ST, SQ, Bool.or_eq_true, Bool.and_eq_true, beq_iff_eq, decide_eq_true_eq] at h ⊢; omega)
  have hs : I6 68 = σ := by rw [Fr.row hT6 (fun _ => rfl)]; exact hs
  have hth : I6 67 6 = thr (inB v (nS σ)) := hp6_0
  refine z_if_ne (tgt := 14) hx hb (dg D_X12_harmlessRate (i := 5) rfl) (by decide) (fun c9 => ?_) (fun c9 => ?_)
  · obtain ⟨jv, hjv, rfl⟩ := inB_of c9 (by omega)
    refine lv_aload_n hx hb (dg D_X12_harmlessRate (i := 8) rfl) rfl (lv_at hl 0 rfl) ?_
    refine lv_iload_n hx hb (dg D_X12_harmlessRate (i := 9) rfl) rfl (lv_at hl 1 rfl) ?_
    refine n_iconst (a := 3) hx hb (dg D_X12_harmlessRate (i := 10) rfl) rfl ?_
    refine callVi X hW hS hR (c_X12_spanOf (I := I6) σ jv 3 (by first | assumption | omega | decide | exact hP.1) (by first | assumption | omega | decide | exact hP.1) (by first | assumption | omega | decide | exact hP.1)) (by decide) UVX12_spanOf LK_X12_224 rfl (by decide) rfl rfl rfl (Nat.le_of_ble_eq_true rfl) hl hcs (dg D_X12_harmlessRate (i := 11) rfl) (fun r17 I17 L1 R1 H locs hq hW hS => ?_)
    obtain ⟨rfl, rfl, rfl, rfl⟩ := hq
    refine lv_istore_n (lv' := [(2, .int (σ (10 + 5 * jv + 3))), (0, .ref (bs + 67)), (1, .int (nI jv))]) hx hb (dg D_X12_harmlessRate (i := 12) rfl) rfl hl (by decide) rfl (fun ls hl => ?_)
    refine r_ldc X CK_X12_28 (dg D_X12_harmlessRate (i := 13) rfl) ?_
    refine lv_istore_n (lv' := [(3, .int ((-1000004))), (2, .int (σ (10 + 5 * jv + 3))), (0, .ref (bs + 67)), (1, .int (nI jv))]) hx hb (dg D_X12_harmlessRate (i := 14) rfl) rfl hl (by decide) rfl (fun ls hl => ?_)
    refine n_iconst (a := 1) hx hb (dg D_X12_harmlessRate (i := 15) rfl) rfl ?_
    refine lv_istore (lv' := [(4, .int (nI 1)), (3, .int ((-1000004))), (2, .int (σ (10 + 5 * jv + 3))), (0, .ref (bs + 67)), (1, .int (nI jv))]) hx hb (dg D_X12_harmlessRate (i := 16) rfl) hl (by decide) rfl (fun ls hl => ?_)
    have loop27 := up_ind (P := fun k => ∀ (K27 : CI) (H : Heap) (locs : List Loc) (ls : Array Slot) (v3 : Int32) (v4 : Int32), v3 = hrm σ jv (k - 1) → v4 = nI k → (Fr SQ I K27) → (K27 68 = upd σ (10 + 5 * jv + 3) (hrv σ jv k)) → (K27 67 6 = thr (inB (nI jv) (nS σ))) → (1 ≤ k) → Wd G bs cy K27 L R H → va_S (Aq bs) s.heap H locs → lv_has ls 5 [(0, .ref (bs + 67)), (1, .int (nI jv)), (2, .int (σ (10 + 5 * jv + 3))), (3, .int v3), (4, .int v4)] → W p l e (rmL 4 0 0) s m args below meth c H locs 0 0 Qf (F0 m 27 ls [])) 51 (fun k hx27 ih27 => by
        intro K27 H locs ls v3 v4 q3 q4 hF hs2 hth hk1 hW hS hl
        subst q3
        subst q4
        refine lv_iload hx hb (dg D_X12_harmlessRate (i := 17) rfl) (lv_at hl 4 rfl) ?_
        refine lv_bipush (v := nI 50) hx hb (dg D_X12_harmlessRate (i := 18) rfl) (by decide) ?_
        refine n_icmp_gt (tgt := 73) hx hb (by omega) (by omega) (dg D_X12_harmlessRate (i := 19) rfl) (by decide) (fun c31 => ?_) (fun c31 => ?_)
        · refine lv_aload_n hx hb (dg D_X12_harmlessRate (i := 43) rfl) rfl (lv_at hl 0 rfl) ?_
          refine r_getc (t := 68) X hW FI_X12_7 rfl (by decide) rfl (dg D_X12_harmlessRate (i := 44) rfl) ?_
          refine lv_bipush (v := nI 10) hx hb (dg D_X12_harmlessRate (i := 45) rfl) (by decide) ?_
          refine n_iconst (a := 5) hx hb (dg D_X12_harmlessRate (i := 46) rfl) rfl ?_
          refine lv_iload_n hx hb (dg D_X12_harmlessRate (i := 47) rfl) rfl (lv_at hl 1 rfl) ?_
          refine n_imul hx hb (dg D_X12_harmlessRate (i := 48) rfl) ?_
          refine n_iadd hx hb (dg D_X12_harmlessRate (i := 49) rfl) ?_
          refine n_iconst (a := 3) hx hb (dg D_X12_harmlessRate (i := 50) rfl) rfl ?_
          refine n_iadd hx hb (dg D_X12_harmlessRate (i := 51) rfl) ?_
          refine lv_iload_n hx hb (dg D_X12_harmlessRate (i := 52) rfl) rfl (lv_at hl 2 rfl) ?_
          refine r_ast (j := (10 + (5 * jv)) + 3) (v := σ (10 + 5 * jv + 3)) X hW hS rfl (by decide) rfl (by omega) (by decide) (dg D_X12_harmlessRate (i := 53) rfl) (fun H locs hW hS => ?_)
          have hF : Fr SQ I (u2 K27 68 ((10 + (5 * jv)) + 3) (σ (10 + 5 * jv + 3))) := Fr.put hF rfl
          obtain ⟨J86, eJ86⟩ : ∃ J, J = u2 K27 68 ((10 + (5 * jv)) + 3) (σ (10 + 5 * jv + 3)) := ⟨_, rfl⟩
          rw [← eJ86] at hW hF
          have hth : J86 67 6 = thr (inB (nI jv) (nS σ)) := by rw [eJ86, u2_off (Or.inl (by decide))]; exact hth
          have hs : J86 68 = σ := by rw [eJ86, u2_eq, hs2, upd_upd]; exact upd_same _ rfl
          refine lv_iload_n hx hb (dg D_X12_harmlessRate (i := 54) rfl) rfl (lv_at hl 3 rfl) ?_
          exact fin (dg D_X12_harmlessRate (i := 55) rfl) hW hS ⟨fun _ => by rw [tN_nI (show jv < 2 ^ 31 by omega), show k = 51 by omega], hF, hth, hs, rfl, rfl⟩
        · refine lv_aload_n hx hb (dg D_X12_harmlessRate (i := 20) rfl) rfl (lv_at hl 0 rfl) ?_
          refine r_getc (t := 68) X hW FI_X12_7 rfl (by decide) rfl (dg D_X12_harmlessRate (i := 21) rfl) ?_
          refine lv_bipush (v := nI 10) hx hb (dg D_X12_harmlessRate (i := 22) rfl) (by decide) ?_
          refine n_iconst (a := 5) hx hb (dg D_X12_harmlessRate (i := 23) rfl) rfl ?_
          refine lv_iload_n hx hb (dg D_X12_harmlessRate (i := 24) rfl) rfl (lv_at hl 1 rfl) ?_
          refine n_imul hx hb (dg D_X12_harmlessRate (i := 25) rfl) ?_
          refine n_iadd hx hb (dg D_X12_harmlessRate (i := 26) rfl) ?_
          refine n_iconst (a := 3) hx hb (dg D_X12_harmlessRate (i := 27) rfl) rfl ?_
          refine n_iadd hx hb (dg D_X12_harmlessRate (i := 28) rfl) ?_
          refine lv_iload hx hb (dg D_X12_harmlessRate (i := 29) rfl) (lv_at hl 4 rfl) ?_
          refine r_ast (j := (10 + (5 * jv)) + 3) (v := nI k) X hW hS rfl (by decide) rfl (by omega) (by decide) (dg D_X12_harmlessRate (i := 30) rfl) (fun H locs hW hS => ?_)
          have hF : Fr SQ I (u2 K27 68 ((10 + (5 * jv)) + 3) (nI k)) := Fr.put hF rfl
          obtain ⟨J48, eJ48⟩ : ∃ J, J = u2 K27 68 ((10 + (5 * jv)) + 3) (nI k) := ⟨_, rfl⟩
          rw [← eJ48] at hW hF
          have hth : J48 67 6 = thr (inB (nI jv) (nS σ)) := by rw [eJ48, u2_off (Or.inl (by decide))]; exact hth
          have hs3 : J48 68 = upd σ (10 + 5 * jv + 3) (nI k) := by rw [eJ48, u2_eq, hs2, upd_upd]
          refine lv_aload_n hx hb (dg D_X12_harmlessRate (i := 31) rfl) rfl (lv_at hl 0 rfl) ?_
          refine lv_iload_n hx hb (dg D_X12_harmlessRate (i := 32) rfl) rfl (lv_at hl 1 rfl) ?_
          refine n_iconst (a := 0) hx hb (dg D_X12_harmlessRate (i := 33) rfl) rfl ?_
          refine callVi X hW hS hR (c_X12_pastBy (I := J48) (upd σ (10 + 5 * jv + 3) (nI k)) jv (nI 0) (hs3) (Inv_upd (by omega) hi) (by first | assumption | omega | decide | exact hP.1)) (by decide) UVX12_pastBy LK_X12_267 rfl (by decide) rfl rfl rfl (Nat.le_of_ble_eq_true rfl) hl hcs (dg D_X12_harmlessRate (i := 34) rfl) (fun r52 I52 L1 R1 H locs hq hW hS => ?_)
          obtain ⟨rfl, hT52, rfl, rfl⟩ := hq
          rw [show fpB (upd σ (10 + 5 * jv + 3) (nI k)) jv (bitB (nI 0)) = fpR σ jv (nI k) from fpB_rate hY12]
          have hF : Fr SQ I I52 := Fr.tr hF hT52 (by intro a j h; simp only [SL, SQ, Bool.or_eq_true, Bool.and_eq_true, beq_iff_eq, decide_eq_true_eq] at h ⊢; omega)
          have hs3 : I52 68 = upd σ (10 + 5 * jv + 3) (nI k) := by rw [Fr.row hT52 (fun _ => rfl)]; exact hs3
          have hth : I52 67 6 = thr (inB (nI jv) (nS σ)) := (hT52 67 6 rfl).trans hth
          refine r_ldc X CK_X12_28 (dg D_X12_harmlessRate (i := 35) rfl) ?_
          refine lv_icmp_ne (tgt := 65) hx hb (dg D_X12_harmlessRate (i := 36) rfl) (by decide) (fun c57 => ?_) (fun c57 => ?_)
          · refine lv_iload_n hx hb (dg D_X12_harmlessRate (i := 39) rfl) rfl (lv_at hl 3 rfl) ?_
            refine lv_istore_n (lv' := [(3, .int (hrm σ jv (k - 1))), (0, .ref (bs + 67)), (1, .int (nI jv)), (2, .int (σ (10 + 5 * jv + 3))), (4, .int (nI k))]) hx hb (dg D_X12_harmlessRate (i := 40) rfl) rfl hl (by decide) rfl (fun ls hl => ?_)
            refine lv_iinc (v := nI (k + 1)) (lv' := [(4, .int (nI (k + 1))), (3, .int (hrm σ jv (k - 1))), (0, .ref (bs + 67)), (1, .int (nI jv)), (2, .int (σ (10 + 5 * jv + 3)))]) hx hb (dg D_X12_harmlessRate (i := 41) rfl) hl (k := 4) rfl (nI_add _ _) (by decide) rfl (fun ls hl => ?_)
            refine lv_goto (tgt := 27) hx hb (dg D_X12_harmlessRate (i := 42) rfl) (by decide) ?_
            exact ih27 (by omega) I52 _ _ _ _ _ (by rw [hrm_s hk1]; first | rw [if_pos c57] | rw [if_neg c57]) (congrArg nI (by omega)) hF (by rw [hs3, hrv_s hk1]) hth (by omega) hW hS (lv_sub hl [2, 3, 4, 1, 0] rfl)
          · refine lv_iload hx hb (dg D_X12_harmlessRate (i := 37) rfl) (lv_at hl 4 rfl) ?_
            refine lv_goto (tgt := 66) hx hb (dg D_X12_harmlessRate (i := 38) rfl) (by decide) ?_
            refine lv_istore_n (lv' := [(3, .int (nI k)), (0, .ref (bs + 67)), (1, .int (nI jv)), (2, .int (σ (10 + 5 * jv + 3))), (4, .int (nI k))]) hx hb (dg D_X12_harmlessRate (i := 40) rfl) rfl hl (by decide) rfl (fun ls hl => ?_)
            refine lv_iinc (v := nI (k + 1)) (lv' := [(4, .int (nI (k + 1))), (3, .int (nI k)), (0, .ref (bs + 67)), (1, .int (nI jv)), (2, .int (σ (10 + 5 * jv + 3)))]) hx hb (dg D_X12_harmlessRate (i := 41) rfl) hl (k := 4) rfl (nI_add _ _) (by decide) rfl (fun ls hl => ?_)
            refine lv_goto (tgt := 27) hx hb (dg D_X12_harmlessRate (i := 42) rfl) (by decide) ?_
            exact ih27 (by omega) I52 _ _ _ _ _ (by rw [hrm_s hk1]; first | rw [if_pos c57] | rw [if_neg c57]) (congrArg nI (by omega)) hF (by rw [hs3, hrv_s hk1]) hth (by omega) hW hS (lv_sub hl [2, 3, 4, 1, 0] rfl))
    exact loop27 1 (by decide) I6 _ _ _ _ _ (rfl) (congrArg nI (by omega)) hF (by rw [hs]; exact (upd_same _ rfl).symm) hth (Nat.le_refl 1) hW hS (lv_sub hl [3, 4, 2, 1, 0] rfl)
  · refine n_iconst (a := 0) hx hb (dg D_X12_harmlessRate (i := 6) rfl) rfl ?_
    exact fin (dg D_X12_harmlessRate (i := 7) rfl) hW hS ⟨fun z => absurd z (by rw [c9]; decide), hF, hth, hs, rfl, rfl⟩

set_option maxHeartbeats 4000000 in
set_option maxRecDepth 100000 in
theorem c_X12_write {l : Launch} {G : va_G} {bs : Nat} {cy : Nat → ClassId} {I : CI} {L : CL} {R : CR} (σ : Row) (hs : I 68 = σ) (hi : Inv σ) (hd : DR σ) : MTi l G bs cy MX12_write 3 [.ref (bs + 67)] I L R (fun r I1 L1 R1 => nI (wrO σ (I 85)).2 = r ∧ Fr SW I I1 ∧ I1 67 6 = nI 0 ∧ I1 67 38 = nI (wrO σ (I 85)).2 ∧ I1 85 = (wrO σ (I 85)).1 ∧ L = L1 ∧ R = R1) := by
  refine MTi.of (own := RX12) pn_RX12 rfl (Nat.le_of_ble_eq_true rfl) ?_
  intro p e s m args below meth c Qf X hW hS fin ls hl
  have hx := X.1
  have hb := X.2.1
  have hR : RmOK (rmL 3 0 0) 3 := ⟨rfl, rfl⟩
  have hcs : 0 ≤ (rmL 3 0 0).cells ∧ 0 ≤ (rmL 3 0 0).slots := ⟨Nat.zero_le _, Nat.zero_le _⟩
  have hl : lv_has ls 3 [(0, .ref (bs + 67))] := hl
  have hF : Fr SW I I := Fr.rf
  obtain ⟨hY, hY1, hY12, hLn, hL4, hSn, hS12, hGn, hG5⟩ := id hi
  have h85 : I 85 = I 85 := rfl
  refine lv_aload_n hx hb (dg D_X12_write (i := 0) rfl) rfl (lv_at hl 0 rfl) ?_
  refine n_iconst (a := 0) hx hb (dg D_X12_write (i := 1) rfl) rfl ?_
  refine r_puti (v := nI 0) (ty := .int) X hW hS FI_X12_74 rfl (by decide) rfl rfl (by decide +kernel) rfl rfl (dg D_X12_write (i := 2) rfl) (fun H locs hW hS => ?_)
  have hF : Fr SW I (u2 I 67 6 (nI 0)) := Fr.put hF rfl
  have hs : (u2 I 67 6 (nI 0)) 68 = σ := hs
  have h85 : (u2 I 67 6 (nI 0)) 85 = I 85 := h85
  obtain ⟨J2, eJ2⟩ : ∃ J, J = u2 I 67 6 (nI 0) := ⟨_, rfl⟩
  rw [← eJ2] at hW hF hs h85
  have hth : J2 67 6 = nI 0 := by rw [eJ2]; exact u2_at
  refine lv_aload_n hx hb (dg D_X12_write (i := 3) rfl) rfl (lv_at hl 0 rfl) ?_
  refine n_iconst (a := 0) hx hb (dg D_X12_write (i := 4) rfl) rfl ?_
  refine r_puti (v := nI 0) (ty := .int) X hW hS FI_X12_405 rfl (by decide) rfl rfl (by decide +kernel) rfl rfl (dg D_X12_write (i := 5) rfl) (fun H locs hW hS => ?_)
  have hF : Fr SW I (u2 J2 67 38 (nI 0)) := Fr.put hF rfl
  have hs : (u2 J2 67 38 (nI 0)) 68 = σ := hs
  have h85 : (u2 J2 67 38 (nI 0)) 85 = I 85 := h85
  obtain ⟨J7, eJ7⟩ : ∃ J, J = u2 J2 67 38 (nI 0) := ⟨_, rfl⟩
  rw [← eJ7] at hW hF hs h85
  have hth : J7 67 6 = nI 0 := by rw [eJ7, u2_off (Or.inr (by decide))]; exact hth
  have hln : J7 67 38 = nI 0 := by rw [eJ7]; exact u2_at
  refine n_iconst (a := 0) hx hb (dg D_X12_write (i := 6) rfl) rfl ?_
  refine lv_istore_n (lv' := [(1, .int (nI 0)), (0, .ref (bs + 67))]) hx hb (dg D_X12_write (i := 7) rfl) rfl hl (by decide) rfl (fun ls hl => ?_)
  have loop12 := up_ind (P := fun y => ∀ (K12 : CI) (H : Heap) (locs : List Loc) (ls : Array Slot) (v1 : Int32), v1 = nI y → (Fr SW I K12) → (K12 68 = σ) → (K12 85 = (oY σ (I 85, 0) y).1) → (K12 67 38 = nI (oY σ (I 85, 0) y).2) → (K12 67 6 = nI 0) → Wd G bs cy K12 L R H → va_S (Aq bs) s.heap H locs → lv_has ls 3 [(0, .ref (bs + 67)), (1, .int v1)] → W p l e (rmL 3 0 0) s m args below meth c H locs 0 0 Qf (F0 m 12 ls [])) (Yn σ) (fun y hx12 ih12 => by
      intro K12 H locs ls v1 q1 hF hs hoY hlY hth hW hS hl
      subst q1
      refine lv_iload_n hx hb (dg D_X12_write (i := 8) rfl) rfl (lv_at hl 1 rfl) ?_
      refine lv_aload_n hx hb (dg D_X12_write (i := 9) rfl) rfl (lv_at hl 0 rfl) ?_
      refine r_getc (t := 68) X hW FI_X12_7 rfl (by decide) rfl (dg D_X12_write (i := 10) rfl) ?_
      refine n_iconst (a := 0) hx hb (dg D_X12_write (i := 11) rfl) rfl ?_
      refine r_ald (j := 0) (v := nI (Yn σ)) X hW rfl (by decide) rfl (by omega) (by decide) ((congrFun hs _).trans hY) (dg D_X12_write (i := 12) rfl) ?_
      refine n_icmp_ge (tgt := 97) hx hb (by omega) (by omega) (dg D_X12_write (i := 13) rfl) (by decide) (fun c19 => ?_) (fun c19 => ?_)
      · refine lv_aload_n hx hb (dg D_X12_write (i := 54) rfl) rfl (lv_at hl 0 rfl) ?_
        refine r_geti (v := nI (oY σ (I 85, 0) y).2) X hW FI_X12_405 rfl (by decide) rfl hlY (dg D_X12_write (i := 55) rfl) ?_
        exact fin (dg D_X12_write (i := 56) rfl) hW hS ⟨by rw [show y = Yn σ by omega]; rfl, hF, hth, by rw [hlY, show y = Yn σ by omega]; rfl, by rw [hoY, show y = Yn σ by omega]; rfl, rfl, rfl⟩
      · refine n_iconst (a := 0) hx hb (dg D_X12_write (i := 14) rfl) rfl ?_
        refine lv_istore_n (lv' := [(2, .int (nI 0)), (0, .ref (bs + 67)), (1, .int (nI y))]) hx hb (dg D_X12_write (i := 15) rfl) rfl hl (by decide) rfl (fun ls hl => ?_)
        have loop24 := up_ind (P := fun x => ∀ (K24 : CI) (H : Heap) (locs : List Loc) (ls : Array Slot) (v2 : Int32), v2 = nI x → (Fr SW I K24) → (K24 68 = σ) → (K24 85 = (oS σ y (oY σ (I 85, 0) y) x).1) → (K24 67 38 = nI (oS σ y (oY σ (I 85, 0) y) x).2) → (K24 67 6 = nI 0) → Wd G bs cy K24 L R H → va_S (Aq bs) s.heap H locs → lv_has ls 3 [(0, .ref (bs + 67)), (1, .int (nI y)), (2, .int v2)] → W p l e (rmL 3 0 0) s m args below meth c H locs 0 0 Qf (F0 m 24 ls [])) (nS σ) (fun x hx24 ih24 => by
            intro K24 H locs ls v2 q2 hF hs ho hln hth hW hS hl
            subst q2
            refine lv_iload_n hx hb (dg D_X12_write (i := 16) rfl) rfl (lv_at hl 2 rfl) ?_
            refine lv_aload_n hx hb (dg D_X12_write (i := 17) rfl) rfl (lv_at hl 0 rfl) ?_
            refine r_getc (t := 68) X hW FI_X12_7 rfl (by decide) rfl (dg D_X12_write (i := 18) rfl) ?_
            refine n_iconst (a := 4) hx hb (dg D_X12_write (i := 19) rfl) rfl ?_
            refine r_ald (j := 4) (v := nI (nS σ)) X hW rfl (by decide) rfl (by omega) (by decide) ((congrFun hs _).trans hSn) (dg D_X12_write (i := 20) rfl) ?_
            refine n_icmp_ge (tgt := 91) hx hb (by omega) (by omega) (dg D_X12_write (i := 21) rfl) (by decide) (fun c31 => ?_) (fun c31 => ?_)
            · refine lv_iinc (v := nI (y + 1)) (lv' := [(1, .int (nI (y + 1))), (0, .ref (bs + 67)), (2, .int (nI x))]) hx hb (dg D_X12_write (i := 52) rfl) hl (k := 1) rfl (nI_add _ _) (by decide) rfl (fun ls hl => ?_)
              refine lv_goto (tgt := 12) hx hb (dg D_X12_write (i := 53) rfl) (by decide) ?_
              exact ih12 (by omega) K24 _ _ _ _ (congrArg nI (by omega)) hF hs (by rw [show x = nS σ by omega] at ho; exact ho) (by rw [show x = nS σ by omega] at hln; exact hln) hth hW hS (lv_sub hl [1, 0] rfl)
            · refine lv_aload_n hx hb (dg D_X12_write (i := 22) rfl) rfl (lv_at hl 0 rfl) ?_
              refine lv_iload_n hx hb (dg D_X12_write (i := 23) rfl) rfl (lv_at hl 2 rfl) ?_
              refine lv_iload_n hx hb (dg D_X12_write (i := 24) rfl) rfl (lv_at hl 1 rfl) ?_
              refine callVi X hW hS hR (c_X12_painter (I := K24) σ x y (by first | assumption | omega | decide | exact hP.1) (by first | assumption | omega | decide | exact hP.1) (by first | assumption | omega | decide | exact hP.1)) (by decide) UVX12_painter LK_X12_233 rfl (by decide) rfl rfl rfl (Nat.le_of_ble_eq_true rfl) hl hcs (dg D_X12_write (i := 25) rfl) (fun r37 I37 L1 R1 H locs hq hW hS => ?_)
              obtain ⟨rfl, rfl, rfl, rfl⟩ := hq
              refine lv_iconst (v := -1) hx hb (dg D_X12_write (i := 26) rfl) (by decide) ?_
              refine lv_icmp_ne (tgt := 47) hx hb (dg D_X12_write (i := 27) rfl) (by decide) (fun c41 => ?_) (fun c41 => ?_)
              · have hl8 := oS_le (y := y) (oY σ (I 85, 0) y) hd hi (by omega) x (by omega)
                have hl9 := oY_le (I 85, 0) hd hi y (by omega)
                obtain ⟨g0, hg0l, _, _, hg0⟩ := (hd.2.1 x y (by omega) (by omega)).resolve_left c41
                have hxy := oX_y (o := oS σ y (oY σ (I 85, 0) y) x) hg0 (by omega)
                obtain ⟨o, hoD⟩ : ∃ o : Out, o = oS σ y (oY σ (I 85, 0) y) x := ⟨_, rfl⟩
                rw [← hoD] at ho hln hl8 hxy
                have hl7 : o.2 ≤ 1144 := Nat.le_trans hl8 (Nat.le_trans (Nat.add_le_add_right hl9 _) (by show 0 + 96 * y + 8 * x ≤ 1144; omega))
                refine lv_aload_n hx hb (dg D_X12_write (i := 29) rfl) rfl (lv_at hl 0 rfl) ?_
                refine lv_iload_n hx hb (dg D_X12_write (i := 30) rfl) rfl (lv_at hl 1 rfl) ?_
                refine callVv X hW hS hR (c_X12_putNumber (I := K24) y o (by first | assumption | omega | decide | exact hP.1) (by first | assumption | omega | decide | exact hP.1) (by omega) (by first | assumption | omega | decide | exact hP.1)) (by decide) UVX12_putNumber LK_X12_411 rfl (by decide) rfl rfl rfl (Nat.le_of_ble_eq_true rfl) hl hcs (dg D_X12_write (i := 31) rfl) (fun I49 L1 R1 H locs hq hW hS => ?_)
                obtain ⟨hT49, hp49_0, hp49_1, rfl, rfl⟩ := hq
                have hF : Fr SW I I49 := Fr.tr hF hT49 (by intro a j h; simp only [SO, SW, Bool.or_eq_true, Bool.and_eq_true, beq_iff_eq, decide_eq_true_eq] at h ⊢; omega)
                have hs : I49 68 = σ := by rw [Fr.row hT49 (fun _ => rfl)]; exact hs
                have ho : I49 85 = (oN o y).1 := hp49_1
                have hth : I49 67 6 = nI 0 := (hT49 67 6 rfl).trans hth
                have hln : I49 67 38 = nI (oN o y).2 := hp49_0
                have q1 := oN_le o y
                have q2 : (oP (oN o y) (nI 58)).2 = (oN o y).2 + 1 := rfl
                refine lv_aload_n hx hb (dg D_X12_write (i := 32) rfl) rfl (lv_at hl 0 rfl) ?_
                refine lv_bipush (v := nI 58) hx hb (dg D_X12_write (i := 33) rfl) (by decide) ?_
                refine callVv X hW hS hR (c_X12_put (I := I49) (nI 58) ((oN o y).2) (by first | assumption | omega | decide | exact hP.1) (by omega)) (by decide) UVX12_put LK_X12_408 rfl (by decide) rfl rfl rfl (Nat.le_of_ble_eq_true rfl) hl hcs (dg D_X12_write (i := 34) rfl) (fun I55 L1 R1 H locs hq hW hS => ?_)
                obtain ⟨hT55, hp55_0, hp55_1, rfl, rfl⟩ := hq
                have hF : Fr SW I I55 := Fr.tr hF hT55 (by intro a j h; simp only [SO, SW, Bool.or_eq_true, Bool.and_eq_true, beq_iff_eq, decide_eq_true_eq] at h ⊢; omega)
                have hs : I55 68 = σ := by rw [Fr.row hT55 (fun _ => rfl)]; exact hs
                have ho : I55 85 = (oP (oN o y) (nI 58)).1 := by rw [hp55_1, ho]; rfl
                have hth : I55 67 6 = nI 0 := (hT55 67 6 rfl).trans hth
                have hln : I55 67 38 = nI (oP (oN o y) (nI 58)).2 := by rw [hp55_0]; rfl
                have q3 := oN_le (oP (oN o y) (nI 58)) x
                refine lv_aload_n hx hb (dg D_X12_write (i := 35) rfl) rfl (lv_at hl 0 rfl) ?_
                refine lv_iload_n hx hb (dg D_X12_write (i := 36) rfl) rfl (lv_at hl 2 rfl) ?_
                refine callVv X hW hS hR (c_X12_putNumber (I := I55) x (oP (oN o y) (nI 58)) (by first | assumption | omega | decide | exact hP.1) (by first | assumption | omega | decide | exact hP.1) (by omega) (by first | assumption | omega | decide | exact hP.1)) (by decide) UVX12_putNumber LK_X12_411 rfl (by decide) rfl rfl rfl (Nat.le_of_ble_eq_true rfl) hl hcs (dg D_X12_write (i := 37) rfl) (fun I60 L1 R1 H locs hq hW hS => ?_)
                obtain ⟨hT60, hp60_0, hp60_1, rfl, rfl⟩ := hq
                have hF : Fr SW I I60 := Fr.tr hF hT60 (by intro a j h; simp only [SO, SW, Bool.or_eq_true, Bool.and_eq_true, beq_iff_eq, decide_eq_true_eq] at h ⊢; omega)
                have hs : I60 68 = σ := by rw [Fr.row hT60 (fun _ => rfl)]; exact hs
                have ho : I60 85 = (oN (oP (oN o y) (nI 58)) x).1 := hp60_1
                have hth : I60 67 6 = nI 0 := (hT60 67 6 rfl).trans hth
                have hln : I60 67 38 = nI (oN (oP (oN o y) (nI 58)) x).2 := hp60_0
                have q4 : (oP (oN (oP (oN o y) (nI 58)) x) (nI 47)).2 = (oN (oP (oN o y) (nI 58)) x).2 + 1 := rfl
                refine lv_aload_n hx hb (dg D_X12_write (i := 38) rfl) rfl (lv_at hl 0 rfl) ?_
                refine lv_bipush (v := nI 47) hx hb (dg D_X12_write (i := 39) rfl) (by decide) ?_
                refine callVv X hW hS hR (c_X12_put (I := I60) (nI 47) ((oN (oP (oN o y) (nI 58)) x).2) (by first | assumption | omega | decide | exact hP.1) (by omega)) (by decide) UVX12_put LK_X12_408 rfl (by decide) rfl rfl rfl (Nat.le_of_ble_eq_true rfl) hl hcs (dg D_X12_write (i := 40) rfl) (fun I66 L1 R1 H locs hq hW hS => ?_)
                obtain ⟨hT66, hp66_0, hp66_1, rfl, rfl⟩ := hq
                have hF : Fr SW I I66 := Fr.tr hF hT66 (by intro a j h; simp only [SO, SW, Bool.or_eq_true, Bool.and_eq_true, beq_iff_eq, decide_eq_true_eq] at h ⊢; omega)
                have hs : I66 68 = σ := by rw [Fr.row hT66 (fun _ => rfl)]; exact hs
                have ho : I66 85 = (oP (oN (oP (oN o y) (nI 58)) x) (nI 47)).1 := by rw [hp66_1, ho]; rfl
                have hth : I66 67 6 = nI 0 := (hT66 67 6 rfl).trans hth
                have hln : I66 67 38 = nI (oP (oN (oP (oN o y) (nI 58)) x) (nI 47)).2 := by rw [hp66_0]; rfl
                have q5 := oN_le (oP (oN (oP (oN o y) (nI 58)) x) (nI 47)) g0
                refine lv_aload_n hx hb (dg D_X12_write (i := 41) rfl) rfl (lv_at hl 0 rfl) ?_
                refine lv_aload_n hx hb (dg D_X12_write (i := 42) rfl) rfl (lv_at hl 0 rfl) ?_
                refine lv_iload_n hx hb (dg D_X12_write (i := 43) rfl) rfl (lv_at hl 2 rfl) ?_
                refine lv_iload_n hx hb (dg D_X12_write (i := 44) rfl) rfl (lv_at hl 1 rfl) ?_
                refine callVi X hW hS hR (c_X12_painter (I := I66) σ x y (by first | assumption | omega | decide | exact hP.1) (by first | assumption | omega | decide | exact hP.1) (by first | assumption | omega | decide | exact hP.1)) (by decide) UVX12_painter LK_X12_233 rfl (by decide) rfl rfl rfl (Nat.le_of_ble_eq_true rfl) hl hcs (dg D_X12_write (i := 45) rfl) (fun r73 I73 L1 R1 H locs hq hW hS => ?_)
                obtain ⟨rfl, rfl, rfl, rfl⟩ := hq
                rw [show pnt σ x y = nI g0 from hg0]
                refine callVv X hW hS hR (c_X12_putNumber (I := I66) g0 (oP (oN (oP (oN o y) (nI 58)) x) (nI 47)) (by first | assumption | omega | decide | exact hP.1) (by first | assumption | omega | decide | exact hP.1) (by omega) (by first | assumption | omega | decide | exact hP.1)) (by decide) UVX12_putNumber LK_X12_411 rfl (by decide) rfl rfl rfl (Nat.le_of_ble_eq_true rfl) hl hcs (dg D_X12_write (i := 46) rfl) (fun I76 L1 R1 H locs hq hW hS => ?_)
                obtain ⟨hT76, hp76_0, hp76_1, rfl, rfl⟩ := hq
                have hF : Fr SW I I76 := Fr.tr hF hT76 (by intro a j h; simp only [SO, SW, Bool.or_eq_true, Bool.and_eq_true, beq_iff_eq, decide_eq_true_eq] at h ⊢; omega)
                have hs : I76 68 = σ := by rw [Fr.row hT76 (fun _ => rfl)]; exact hs
                have ho : I76 85 = (oN (oP (oN (oP (oN o y) (nI 58)) x) (nI 47)) g0).1 := hp76_1
                have hth : I76 67 6 = nI 0 := (hT76 67 6 rfl).trans hth
                have hln : I76 67 38 = nI (oN (oP (oN (oP (oN o y) (nI 58)) x) (nI 47)) g0).2 := hp76_0
                refine lv_aload_n hx hb (dg D_X12_write (i := 47) rfl) rfl (lv_at hl 0 rfl) ?_
                refine lv_bipush (v := nI 59) hx hb (dg D_X12_write (i := 48) rfl) (by decide) ?_
                refine callVv X hW hS hR (c_X12_put (I := I76) (nI 59) ((oN (oP (oN (oP (oN o y) (nI 58)) x) (nI 47)) g0).2) (by first | assumption | omega | decide | exact hP.1) (by omega)) (by decide) UVX12_put LK_X12_408 rfl (by decide) rfl rfl rfl (Nat.le_of_ble_eq_true rfl) hl hcs (dg D_X12_write (i := 49) rfl) (fun I82 L1 R1 H locs hq hW hS => ?_)
                obtain ⟨hT82, hp82_0, hp82_1, rfl, rfl⟩ := hq
                have hF : Fr SW I I82 := Fr.tr hF hT82 (by intro a j h; simp only [SO, SW, Bool.or_eq_true, Bool.and_eq_true, beq_iff_eq, decide_eq_true_eq] at h ⊢; omega)
                have hs : I82 68 = σ := by rw [Fr.row hT82 (fun _ => rfl)]; exact hs
                have ho : I82 85 = (oP (oN (oP (oN (oP (oN o y) (nI 58)) x) (nI 47)) g0) (nI 59)).1 := by rw [hp82_1, ho]; rfl
                have hth : I82 67 6 = nI 0 := (hT82 67 6 rfl).trans hth
                have hln : I82 67 38 = nI (oP (oN (oP (oN (oP (oN o y) (nI 58)) x) (nI 47)) g0) (nI 59)).2 := by rw [hp82_0]; rfl
                refine lv_iinc (v := nI (x + 1)) (lv' := [(2, .int (nI (x + 1))), (0, .ref (bs + 67)), (1, .int (nI y))]) hx hb (dg D_X12_write (i := 50) rfl) hl (k := 2) rfl (nI_add _ _) (by decide) rfl (fun ls hl => ?_)
                refine lv_goto (tgt := 24) hx hb (dg D_X12_write (i := 51) rfl) (by decide) ?_
                exact ih24 (by omega) I82 _ _ _ _ (congrArg nI (by omega)) hF hs (by show _ = (oX σ y x (oS σ y (oY σ (I 85, 0) y) x)).1; rw [← hoD, hxy]; exact ho) (by show _ = nI (oX σ y x (oS σ y (oY σ (I 85, 0) y) x)).2; rw [← hoD, hxy]; exact hln) hth hW hS (lv_sub hl [1, 2, 0] rfl)
              · refine lv_goto (tgt := 85) hx hb (dg D_X12_write (i := 28) rfl) (by decide) ?_
                refine lv_iinc (v := nI (x + 1)) (lv' := [(2, .int (nI (x + 1))), (0, .ref (bs + 67)), (1, .int (nI y))]) hx hb (dg D_X12_write (i := 50) rfl) hl (k := 2) rfl (nI_add _ _) (by decide) rfl (fun ls hl => ?_)
                refine lv_goto (tgt := 24) hx hb (dg D_X12_write (i := 51) rfl) (by decide) ?_
                exact ih24 (by omega) K24 _ _ _ _ (congrArg nI (by omega)) hF hs (by show _ = (oX σ y x (oS σ y (oY σ (I 85, 0) y) x)).1; rw [oX_n c41]; exact ho) (by show _ = nI (oX σ y x (oS σ y (oY σ (I 85, 0) y) x)).2; rw [oX_n c41]; exact hln) hth hW hS (lv_sub hl [1, 2, 0] rfl))
        exact loop24 0 (Nat.zero_le _) K12 _ _ _ _ (congrArg nI (by omega)) hF hs hoY hlY hth hW hS (lv_sub hl [1, 2, 0] rfl))
  exact loop12 0 (Nat.zero_le _) J7 _ _ _ _ (congrArg nI (by omega)) hF hs h85 hln hth hW hS (lv_sub hl [1, 0] rfl)

set_option maxHeartbeats 4000000 in
set_option maxRecDepth 100000 in
theorem c_X12_outputByte {l : Launch} {G : va_G} {bs : Nat} {cy : Nat → ClassId} {I : CI} {L : CL} {R : CR} (v : Int32) (o : Out) (hln : I 67 38 = nI o.2) (ho : I 85 = o.1) (hn : o.2 ≤ 1152) : MTi l G bs cy MX12_outputByte 2 [.ref (bs + 67), .int v] I L R (fun r I1 L1 R1 => (inB v o.2 = true → r = o.1 (tN v)) ∧ Fr ST I I1 ∧ I1 67 6 = thr (inB v o.2) ∧ L = L1 ∧ R = R1) := by
  refine MTi.of (own := RX12) pn_RX12 rfl (Nat.le_of_ble_eq_true rfl) ?_
  intro p e s m args below meth c Qf X hW hS fin ls hl
  have hx := X.1
  have hb := X.2.1
  have hR : RmOK (rmL 2 0 0) 2 := ⟨rfl, rfl⟩
  have hcs : 0 ≤ (rmL 2 0 0).cells ∧ 0 ≤ (rmL 2 0 0).slots := ⟨Nat.zero_le _, Nat.zero_le _⟩
  have hl : lv_has ls 2 [(0, .ref (bs + 67)), (1, .int v)] := hl
  have hF : Fr ST I I := Fr.rf
  refine lv_aload_n hx hb (dg D_X12_outputByte (i := 0) rfl) rfl (lv_at hl 0 rfl) ?_
  refine lv_iload_n hx hb (dg D_X12_outputByte (i := 1) rfl) rfl (lv_at hl 1 rfl) ?_
  refine lv_i2l (v := v.toInt64) hx hb (dg D_X12_outputByte (i := 2) rfl) rfl ?_
  refine lv_lconst (v := 0) hx hb (dg D_X12_outputByte (i := 3) rfl) rfl ?_
  refine lv_aload_n hx hb (dg D_X12_outputByte (i := 4) rfl) rfl (lv_at hl 0 rfl) ?_
  refine r_geti (v := nI o.2) X hW FI_X12_405 rfl (by decide) rfl hln (dg D_X12_outputByte (i := 5) rfl) ?_
  refine n_iconst (a := 1) hx hb (dg D_X12_outputByte (i := 6) rfl) rfl ?_
  refine lv_isub hx hb (dg D_X12_outputByte (i := 7) rfl) ?_
  rw [show (nI o.2) - (nI 1) = nI o.2 - nI 1 from rfl]
  refine lv_i2l (v := (nI o.2 - nI 1).toInt64) hx hb (dg D_X12_outputByte (i := 8) rfl) rfl ?_
  refine callSi X hW hS hR (c_X12_between (I := I) v.toInt64 0 ((nI o.2 - nI 1).toInt64)) (by decide) USX12_between LK_X12_84 rfl rfl (Nat.le_of_ble_eq_true rfl) hl hcs (dg D_X12_outputByte (i := 9) rfl) (fun r11 I11 L1 R1 H locs hq hW hS => ?_)
  obtain ⟨rfl, rfl, rfl, rfl⟩ := hq
  rw [show bI (decide (0 ≤ v.toInt64 ∧ v.toInt64 ≤ ((nI o.2 - nI 1).toInt64))) = bI (inB v o.2) from congrArg bI (btw2 (a := nI o.2) (n := o.2) rfl (Nat.le_trans hn (by decide)))]
  refine callVi X hW hS hR (c_X12_good (I := I) (inB v o.2)) (by decide) UVX12_good LK_X12_95 rfl (by decide) rfl rfl rfl (Nat.le_of_ble_eq_true rfl) hl hcs (dg D_X12_outputByte (i := 10) rfl) (fun r14 I14 L1 R1 H locs hq hW hS => ?_)
  obtain ⟨rfl, hT14, hp14_0, rfl, rfl⟩ := hq
  have hF : Fr ST I I14 := Fr.tr hF hT14 (fun _ _ h => h)
  have ho : I14 85 = o.1 := by rw [Fr.row hT14 (fun _ => rfl)]; exact ho
  have hln : I14 67 38 = nI o.2 := (hT14 67 38 rfl).trans hln
  have hth : I14 67 6 = thr (inB v o.2) := hp14_0
  refine z_if_eq (tgt := 29) hx hb (dg D_X12_outputByte (i := 11) rfl) (by decide) (fun c17 => ?_) (fun c17 => ?_)
  · refine n_iconst (a := 0) hx hb (dg D_X12_outputByte (i := 17) rfl) rfl ?_
    exact fin (dg D_X12_outputByte (i := 18) rfl) hW hS ⟨fun z => absurd z (by rw [c17]; decide), hF, hth, rfl, rfl⟩
  · obtain ⟨jv, hjv, rfl⟩ := inB_of c17 (by omega)
    refine lv_aload_n hx hb (dg D_X12_outputByte (i := 12) rfl) rfl (lv_at hl 0 rfl) ?_
    refine r_getc (t := 85) X hW FI_X12_67 rfl (by decide) rfl (dg D_X12_outputByte (i := 13) rfl) ?_
    refine lv_iload_n hx hb (dg D_X12_outputByte (i := 14) rfl) rfl (lv_at hl 1 rfl) ?_
    refine r_ald (j := jv) (v := o.1 jv) X hW rfl (by decide) rfl (by omega) (by decide) (congrFun ho _) (dg D_X12_outputByte (i := 15) rfl) ?_
    refine lv_goto (tgt := 30) hx hb (dg D_X12_outputByte (i := 16) rfl) (by decide) ?_
    exact fin (dg D_X12_outputByte (i := 18) rfl) hW hS ⟨fun _ => by rw [tN_nI (show jv < 2 ^ 31 by omega)], hF, hth, rfl, rfl⟩

