set_option maxHeartbeats 4000000 in
set_option maxRecDepth 100000 in
theorem c_X0_rankCandidates {l : Launch} {G : va_G} {bs : Nat} {cy : Nat → ClassId} {I : CI} {L : CL} {R : CR} (σ : Row) (β : Nat) (q : Nat) (y : Nat) (hi : Inv σ) (hβ : isBr β) (hB : BrAt I β σ) (hq : isPl q) (hP : PlAt I q σ) (hRb : R q 0 = β) (hd : DR σ) (hy5 : y < Yn σ) : MTv l G bs cy MX0_rankCandidates 3 [.ref (bs + 1), .ref (bs + β), .ref (bs + q), .int (nI y)] I L R (fun I1 L1 R1 => Fr (SRk 2) I I1 ∧ RkAt I1 2 (cand σ y) (ltY σ y) (kY σ y) (nS σ) ∧ L = L1 ∧ R = R1) := by
  refine MTv.of (own := RX0) pn_RX0 rfl (Nat.le_of_ble_eq_true rfl) ?_
  intro p e s m args below meth c Qf X hW hS fin ls hl
  have hx := X.1
  have hb := X.2.1
  have hR : RmOK (rmL 3 0 0) 3 := ⟨rfl, rfl⟩
  have hcs : 0 ≤ (rmL 3 0 0).cells ∧ 0 ≤ (rmL 3 0 0).slots := ⟨Nat.zero_le _, Nat.zero_le _⟩
  have hl : lv_has ls 6 [(0, .ref (bs + 1)), (1, .ref (bs + β)), (2, .ref (bs + q)), (3, .int (nI y))] := hl
  have hF : Fr (SRk 2) I I := Fr.rf
  obtain ⟨hY, hY1, hY12, hLn, hL4, hSn, hS12, hGn, hG5⟩ := id hi
  have hbq := br_pl hβ hq
  refine lv_aload_n hx hb (dg D_X0_rankCandidates (i := 0) rfl) rfl (lv_at hl 0 rfl) ?_
  refine r_getc (t := 2) X hW FI_X0_12 rfl (by decide) rfl (dg D_X0_rankCandidates (i := 1) rfl) ?_
  refine callVv X hW hS hR (c_X7_clear (I := I) 2 (Or.inl rfl)) (by decide) UVX7_clear LK_X0_50 rfl (by decide) rfl rfl rfl (Nat.le_of_ble_eq_true rfl) hl hcs (dg D_X0_rankCandidates (i := 2) rfl) (fun I4 L1 R1 H locs hq hW hS => ?_)
  obtain ⟨hT4, hp4_0, rfl, rfl⟩ := hq
  have hF : Fr (SRk 2) I I4 := Fr.tr hF hT4 (fun _ _ h => h)
  have hB : BrAt I4 β σ := BrAt.fr hB hT4 (fun a j h1 h2 => Bool.eq_false_iff.mpr (fun h => by simp only [SRk, Bool.or_eq_true, Bool.and_eq_true, beq_iff_eq, decide_eq_true_eq] at h; omega))
  have hP : PlAt I4 q σ := PlAt.fr hP hT4 (fun a j h1 h2 => Bool.eq_false_iff.mpr (fun h => by simp only [SRk, Bool.or_eq_true, Bool.and_eq_true, beq_iff_eq, decide_eq_true_eq] at h; omega))
  refine n_iconst (a := 0) hx hb (dg D_X0_rankCandidates (i := 3) rfl) rfl ?_
  refine lv_istore (lv' := [(4, .int (nI 0)), (0, .ref (bs + 1)), (1, .ref (bs + β)), (2, .ref (bs + q)), (3, .int (nI y))]) hx hb (dg D_X0_rankCandidates (i := 4) rfl) hl (by decide) rfl (fun ls hl => ?_)
  have loop10 := up_ind (P := fun x => ∀ (K10 : CI) (H : Heap) (locs : List Loc) (ls : Array Slot) (v4 : Int32), v4 = nI x → (Fr (SRk 2) I K10) → (BrAt K10 β σ) → (PlAt K10 q σ) → (RkAt K10 2 (cand σ y) (ltY σ y) (kY σ y) x) → Wd G bs cy K10 L R H → va_S (Aq bs) s.heap H locs → lv_has ls 6 [(0, .ref (bs + 1)), (1, .ref (bs + β)), (2, .ref (bs + q)), (3, .int (nI y)), (4, .int v4)] → W p l e (rmL 3 0 0) s m args below meth c H locs 0 0 Qf (F0 m 10 ls [])) (nS σ) (fun x hx10 ih10 => by
      intro K10 H locs ls v4 q4 hF hB hP hRk hW hS hl
      subst q4
      refine lv_iload hx hb (dg D_X0_rankCandidates (i := 5) rfl) (lv_at hl 4 rfl) ?_
      refine lv_aload_n hx hb (dg D_X0_rankCandidates (i := 6) rfl) rfl (lv_at hl 1 rfl) ?_
      refine rn_geti (v := nI (nS σ)) X hW FN_X0_53 (shB hβ) (ncB0 hβ) rfl (hB.c4 hi) (dg D_X0_rankCandidates (i := 7) rfl) ?_
      refine n_icmp_ge (tgt := 72) hx hb (by omega) (by omega) (dg D_X0_rankCandidates (i := 8) rfl) (by decide) (fun c16 => ?_) (fun c16 => ?_)
      · exact fin (dg D_X0_rankCandidates (i := 35) rfl) hW hS ⟨hF, by rw [show nS σ = x by omega]; exact hRk, rfl, rfl⟩
      · refine lv_aload_n hx hb (dg D_X0_rankCandidates (i := 9) rfl) rfl (lv_at hl 2 rfl) ?_
        refine lv_iload hx hb (dg D_X0_rankCandidates (i := 10) rfl) (lv_at hl 4 rfl) ?_
        refine callVi X hW hS hR (c_X6_firstPast (I := K10) σ β q x (by first | assumption | omega | decide | exact hP.1) (by first | assumption | omega | decide | exact hP.1) (by first | assumption | omega | decide | exact hP.1) (by first | assumption | omega | decide | exact hP.1) (by first | assumption | omega | decide | exact hP.1) (by first | assumption | omega | decide | exact hP.1) (by first | assumption | omega | decide | exact hP.1)) (by decide) UVX6_firstPast LK_X0_56 (shP hq) (ncP0 hq) rfl rfl rfl (Nat.le_of_ble_eq_true rfl) hl hcs (dg D_X0_rankCandidates (i := 11) rfl) (fun r22 I22 L1 R1 H locs hq hW hS => ?_)
        obtain ⟨rfl, rfl, rfl, rfl⟩ := hq
        refine lv_istore (lv' := [(5, .int (fp σ x)), (0, .ref (bs + 1)), (1, .ref (bs + β)), (2, .ref (bs + q)), (3, .int (nI y)), (4, .int (nI x))]) hx hb (dg D_X0_rankCandidates (i := 12) rfl) hl (by decide) rfl (fun ls hl => ?_)
        refine lv_iload hx hb (dg D_X0_rankCandidates (i := 13) rfl) (lv_at hl 0 rfl) ?_
        refine r_ldc X CK_X0_59 (dg D_X0_rankCandidates (i := 14) rfl) ?_
        refine lv_icmp_eq (tgt := 66) hx hb (dg D_X0_rankCandidates (i := 15) rfl) (by decide) (fun c31 => ?_) (fun c31 => ?_)
        · refine lv_iinc (v := nI (x + 1)) (lv' := [(4, .int (nI (x + 1))), (5, .int (fp σ x)), (0, .ref (bs + 1)), (1, .ref (bs + β)), (2, .ref (bs + q)), (3, .int (nI y))]) hx hb (dg D_X0_rankCandidates (i := 33) rfl) hl (k := 5) rfl (nI_add _ _) (by decide) rfl (fun ls hl => ?_)
          refine lv_goto (tgt := 10) hx hb (dg D_X0_rankCandidates (i := 34) rfl) (by decide) ?_
          exact ih10 (by omega) K10 _ _ _ _ (congrArg nI (by omega)) hF hB hP (RkAt.skip (ltY_St σ y) hRk (cand_a c31)) hW hS (lv_sub hl [2, 3, 4, 5, 0] rfl)
        · refine lv_iload hx hb (dg D_X0_rankCandidates (i := 16) rfl) (lv_at hl 0 rfl) ?_
          refine lv_iload_n hx hb (dg D_X0_rankCandidates (i := 17) rfl) rfl (lv_at hl 4 rfl) ?_
          refine lv_icmp_lt (tgt := 66) hx hb (dg D_X0_rankCandidates (i := 18) rfl) (by decide) (fun c37 => ?_) (fun c37 => ?_)
          · refine lv_iinc (v := nI (x + 1)) (lv' := [(4, .int (nI (x + 1))), (5, .int (fp σ x)), (0, .ref (bs + 1)), (1, .ref (bs + β)), (2, .ref (bs + q)), (3, .int (nI y))]) hx hb (dg D_X0_rankCandidates (i := 33) rfl) hl (k := 5) rfl (nI_add _ _) (by decide) rfl (fun ls hl => ?_)
            refine lv_goto (tgt := 10) hx hb (dg D_X0_rankCandidates (i := 34) rfl) (by decide) ?_
            exact ih10 (by omega) K10 _ _ _ _ (congrArg nI (by omega)) hF hB hP (RkAt.skip (ltY_St σ y) hRk (cand_b c37)) hW hS (lv_sub hl [2, 3, 4, 5, 0] rfl)
          · refine lv_iload hx hb (dg D_X0_rankCandidates (i := 19) rfl) (lv_at hl 0 rfl) ?_
            refine lv_iload_n hx hb (dg D_X0_rankCandidates (i := 20) rfl) rfl (lv_at hl 4 rfl) ?_
            refine n_iconst (a := 2) hx hb (dg D_X0_rankCandidates (i := 21) rfl) rfl ?_
            refine n_iadd hx hb (dg D_X0_rankCandidates (i := 22) rfl) ?_
            refine lv_icmp_gt (tgt := 66) hx hb (dg D_X0_rankCandidates (i := 23) rfl) (by decide) (fun c45 => ?_) (fun c45 => ?_)
            · refine lv_iinc (v := nI (x + 1)) (lv' := [(4, .int (nI (x + 1))), (5, .int (fp σ x)), (0, .ref (bs + 1)), (1, .ref (bs + β)), (2, .ref (bs + q)), (3, .int (nI y))]) hx hb (dg D_X0_rankCandidates (i := 33) rfl) hl (k := 5) rfl (nI_add _ _) (by decide) rfl (fun ls hl => ?_)
              refine lv_goto (tgt := 10) hx hb (dg D_X0_rankCandidates (i := 34) rfl) (by decide) ?_
              exact ih10 (by omega) K10 _ _ _ _ (congrArg nI (by omega)) hF hB hP (RkAt.skip (ltY_St σ y) hRk (cand_c c45)) hW hS (lv_sub hl [2, 3, 4, 5, 0] rfl)
            · have hfe := fp_N hY12 c31
              rw [hfe.1] at hl
              refine lv_aload_n hx hb (dg D_X0_rankCandidates (i := 24) rfl) rfl (lv_at hl 1 rfl) ?_
              refine r_getc (t := 2) X hW FI_X0_12 rfl (by decide) rfl (dg D_X0_rankCandidates (i := 25) rfl) ?_
              refine lv_iload hx hb (dg D_X0_rankCandidates (i := 26) rfl) (lv_at hl 5 rfl) ?_
              refine lv_iload hx hb (dg D_X0_rankCandidates (i := 27) rfl) (lv_at hl 0 rfl) ?_
              refine lv_aload_n hx hb (dg D_X0_rankCandidates (i := 28) rfl) rfl (lv_at hl 3 rfl) ?_
              refine lv_iload hx hb (dg D_X0_rankCandidates (i := 29) rfl) (lv_at hl 5 rfl) ?_
              refine lv_iload_n hx hb (dg D_X0_rankCandidates (i := 30) rfl) rfl (lv_at hl 4 rfl) ?_
              refine callVi X hW hS hR (c_X6_rustAtStart (I := K10) σ q x y (by first | assumption | omega | decide | exact hP.1) (by first | assumption | omega | decide | exact hP.1) (by first | assumption | omega | decide | exact hP.1) (by first | assumption | omega | decide | exact hP.1) (by first | assumption | omega | decide | exact hP.1)) (by decide) UVX6_rustAtStart LK_X0_60 (shP hq) (ncP0 hq) rfl rfl rfl (Nat.le_of_ble_eq_true rfl) hl hcs (dg D_X0_rankCandidates (i := 31) rfl) (fun r60 I60 L1 R1 H locs hq hW hS => ?_)
              obtain ⟨rfl, rfl, rfl, rfl⟩ := hq
              rw [show (rgS σ x y).1 = nI (tN (rgS σ x y).1) from (rgS_N hd (by omega) y).1]
              refine callVv X hW hS hR (c_X7_add (I := K10) 2 (cntB (cand σ y) x) (fun j => kY σ y (elK (cand σ y) (ltY σ y) x j)) x (tN (fp σ x)) (tN (rgS σ x y).1) (Or.inl rfl) (hRk.1) (Nat.lt_of_le_of_lt (cntB_le _ _) (by omega)) (hRk.2) (fun j hj => kY_b hi (Nat.lt_of_lt_of_le (elK_is (ltY_St σ y) hj).1 (by omega)) (elK_is (ltY_St σ y) hj).2.1) (by first | assumption | omega | decide | exact hP.1) (by omega) ((rgS_N hd (by omega) y).2)) (by decide) UVX7_add LK_X0_64 rfl (by decide) rfl rfl rfl (Nat.le_of_ble_eq_true rfl) hl hcs (dg D_X0_rankCandidates (i := 32) rfl) (fun I63 L1 R1 H locs hq hW hS => ?_)
              obtain ⟨hT63, hp63_0, hp63_1, rfl, rfl⟩ := hq
              have hF : Fr (SRk 2) I I63 := Fr.tr hF hT63 (fun _ _ h => h)
              have hB : BrAt I63 β σ := BrAt.fr hB hT63 (fun a j h1 h2 => Bool.eq_false_iff.mpr (fun h => by simp only [SRk, Bool.or_eq_true, Bool.and_eq_true, beq_iff_eq, decide_eq_true_eq] at h; omega))
              have hP : PlAt I63 q σ := PlAt.fr hP hT63 (fun a j h1 h2 => Bool.eq_false_iff.mpr (fun h => by simp only [SRk, Bool.or_eq_true, Bool.and_eq_true, beq_iff_eq, decide_eq_true_eq] at h; omega))
              refine lv_iinc (v := nI (x + 1)) (lv' := [(4, .int (nI (x + 1))), (5, .int (nI (tN (fp σ x)))), (0, .ref (bs + 1)), (1, .ref (bs + β)), (2, .ref (bs + q)), (3, .int (nI y))]) hx hb (dg D_X0_rankCandidates (i := 33) rfl) hl (k := 5) rfl (nI_add _ _) (by decide) rfl (fun ls hl => ?_)
              refine lv_goto (tgt := 10) hx hb (dg D_X0_rankCandidates (i := 34) rfl) (by decide) ?_
              exact ih10 (by omega) I63 _ _ _ _ (congrArg nI (by omega)) hF hB hP (RkAt.add (ltY_St σ y) (by omega) (cand_d c31 c37 c45) (kY_ahd hd hi y) hp63_0 hp63_1) hW hS (lv_sub hl [2, 3, 4, 5, 0] rfl))
  exact loop10 0 (Nat.zero_le _) I4 _ _ _ _ (congrArg nI (by omega)) hF hB hP (RkAt.nil hp4_0) hW hS (lv_sub hl [1, 2, 3, 4, 0] rfl)

set_option maxHeartbeats 4000000 in
set_option maxRecDepth 100000 in
theorem c_X0_tightestGang {l : Launch} {G : va_G} {bs : Nat} {cy : Nat → ClassId} {I : CI} {L : CL} {R : CR} (σ : Row) (β : Nat) (q : Nat) (gs : Int32) (y : Nat) (x : Nat) (hi : Inv σ) (hβ : isBr β) (hB : BrAt I β σ) (hq : isPl q) (hP : PlAt I q σ) (hRb : R q 0 = β) (hd : DR σ) (hy5 : y < Yn σ) (hx5 : x < nS σ) : MTi l G bs cy MX0_tightestGang 4 [.ref (bs + 1), .ref (bs + β), .ref (bs + q), .int gs, .int (nI y), .int (nI x)] I L R (fun r I1 L1 R1 => bgG σ gs y x = r ∧ I = I1 ∧ L = L1 ∧ R = R1) := by
  refine MTi.of (own := RX0) pn_RX0 rfl (Nat.le_of_ble_eq_true rfl) ?_
  intro p e s m args below meth c Qf X hW hS fin ls hl
  have hx := X.1
  have hb := X.2.1
  have hR : RmOK (rmL 4 0 0) 4 := ⟨rfl, rfl⟩
  have hcs : 0 ≤ (rmL 4 0 0).cells ∧ 0 ≤ (rmL 4 0 0).slots := ⟨Nat.zero_le _, Nat.zero_le _⟩
  have hl : lv_has ls 10 [(0, .ref (bs + 1)), (1, .ref (bs + β)), (2, .ref (bs + q)), (3, .int gs), (4, .int (nI y)), (5, .int (nI x))] := hl
  obtain ⟨hY, hY1, hY12, hLn, hL4, hSn, hS12, hGn, hG5⟩ := id hi
  have hbq := br_pl hβ hq
  refine lv_iconst (v := -1) hx hb (dg D_X0_tightestGang (i := 0) rfl) (by decide) ?_
  refine lv_istore (lv' := [(6, .int ((-1))), (0, .ref (bs + 1)), (1, .ref (bs + β)), (2, .ref (bs + q)), (3, .int gs), (4, .int (nI y)), (5, .int (nI x))]) hx hb (dg D_X0_tightestGang (i := 1) rfl) hl (by decide) rfl (fun ls hl => ?_)
  refine n_iconst (a := 0) hx hb (dg D_X0_tightestGang (i := 2) rfl) rfl ?_
  refine lv_istore (lv' := [(7, .int (nI 0)), (6, .int ((-1))), (0, .ref (bs + 1)), (1, .ref (bs + β)), (2, .ref (bs + q)), (3, .int gs), (4, .int (nI y)), (5, .int (nI x))]) hx hb (dg D_X0_tightestGang (i := 3) rfl) hl (by decide) rfl (fun ls hl => ?_)
  refine n_iconst (a := 0) hx hb (dg D_X0_tightestGang (i := 4) rfl) rfl ?_
  refine lv_istore (lv' := [(8, .int (nI 0)), (7, .int (nI 0)), (6, .int ((-1))), (0, .ref (bs + 1)), (1, .ref (bs + β)), (2, .ref (bs + q)), (3, .int gs), (4, .int (nI y)), (5, .int (nI x))]) hx hb (dg D_X0_tightestGang (i := 5) rfl) hl (by decide) rfl (fun ls hl => ?_)
  have loop9 := up_ind (P := fun g => ∀ (H : Heap) (locs : List Loc) (ls : Array Slot) (v6 : Int32) (v7 : Int32) (v8 : Int32), v6 = (bgL σ gs y x g).1 → v7 = (bgL σ gs y x g).2 → v8 = nI g → Wd G bs cy I L R H → va_S (Aq bs) s.heap H locs → lv_has ls 10 [(0, .ref (bs + 1)), (1, .ref (bs + β)), (2, .ref (bs + q)), (3, .int gs), (4, .int (nI y)), (5, .int (nI x)), (6, .int v6), (7, .int v7), (8, .int v8)] → W p l e (rmL 4 0 0) s m args below meth c H locs 0 0 Qf (F0 m 9 ls [])) (nG σ) (fun g hx9 ih9 => by
      intro H locs ls v6 v7 v8 q6 q7 q8 hW hS hl
      subst q6
      subst q7
      subst q8
      refine lv_iload hx hb (dg D_X0_tightestGang (i := 6) rfl) (lv_at hl 8 rfl) ?_
      refine lv_aload_n hx hb (dg D_X0_tightestGang (i := 7) rfl) rfl (lv_at hl 1 rfl) ?_
      refine rn_geti (v := nI (nG σ)) X hW FN_X0_67 (shB hβ) (ncB0 hβ) rfl (hB.c5 hi) (dg D_X0_tightestGang (i := 8) rfl) ?_
      refine n_icmp_ge (tgt := 79) hx hb (by omega) (by omega) (dg D_X0_tightestGang (i := 9) rfl) (by decide) (fun c15 => ?_) (fun c15 => ?_)
      · refine lv_iload hx hb (dg D_X0_tightestGang (i := 40) rfl) (lv_at hl 6 rfl) ?_
        exact fin (dg D_X0_tightestGang (i := 41) rfl) hW hS ⟨by rw [show g = nG σ by omega]; rfl, rfl, rfl, rfl⟩
      · refine lv_iload_n hx hb (dg D_X0_tightestGang (i := 10) rfl) rfl (lv_at hl 3 rfl) ?_
        refine lv_iload hx hb (dg D_X0_tightestGang (i := 11) rfl) (lv_at hl 8 rfl) ?_
        refine lv_ishr hx hb (dg D_X0_tightestGang (i := 12) rfl) ?_
        refine n_iconst (a := 1) hx hb (dg D_X0_tightestGang (i := 13) rfl) rfl ?_
        refine lv_iand hx hb (dg D_X0_tightestGang (i := 14) rfl) ?_
        refine lv_if_eq (tgt := 73) hx hb (dg D_X0_tightestGang (i := 15) rfl) (by decide) (fun c24 => ?_) (fun c24 => ?_)
        · refine lv_iinc (v := nI (g + 1)) (lv' := [(8, .int (nI (g + 1))), (0, .ref (bs + 1)), (1, .ref (bs + β)), (2, .ref (bs + q)), (3, .int gs), (4, .int (nI y)), (5, .int (nI x)), (6, .int ((bgL σ gs y x g).1)), (7, .int ((bgL σ gs y x g).2))]) hx hb (dg D_X0_tightestGang (i := 38) rfl) hl (k := 8) rfl (nI_add _ _) (by decide) rfl (fun ls hl => ?_)
          refine lv_goto (tgt := 9) hx hb (dg D_X0_tightestGang (i := 39) rfl) (by decide) ?_
          exact ih9 (by omega) _ _ _ _ _ _ (by show _ = (bgS σ gs y x g (bgL σ gs y x g)).1; unfold bgS; rw [if_neg (fun z => absurd z.1 (by rw [(bit_eq0 (by omega)).mp c24]; decide))]) (by show _ = (bgS σ gs y x g (bgL σ gs y x g)).2; unfold bgS; rw [if_neg (fun z => absurd z.1 (by rw [(bit_eq0 (by omega)).mp c24]; decide))]) (congrArg nI (by omega)) hW hS (lv_sub hl [1, 2, 3, 4, 5, 6, 7, 8, 0] rfl)
        · refine lv_aload_n hx hb (dg D_X0_tightestGang (i := 16) rfl) rfl (lv_at hl 2 rfl) ?_
          refine lv_iload hx hb (dg D_X0_tightestGang (i := 17) rfl) (lv_at hl 4 rfl) ?_
          refine lv_iload hx hb (dg D_X0_tightestGang (i := 18) rfl) (lv_at hl 5 rfl) ?_
          refine lv_iload hx hb (dg D_X0_tightestGang (i := 19) rfl) (lv_at hl 8 rfl) ?_
          refine callVi X hW hS hR (c_X6_reasonAgainst (I := I) σ β q y x g (by first | assumption | omega | decide | exact hP.1) (by first | assumption | omega | decide | exact hP.1) (by first | assumption | omega | decide | exact hP.1) (by first | assumption | omega | decide | exact hP.1) (by first | assumption | omega | decide | exact hP.1) (by first | assumption | omega | decide | exact hP.1) (by first | assumption | omega | decide | exact hP.1) (by first | assumption | omega | decide | exact hP.1) (by first | assumption | omega | decide | exact hP.1) (by first | assumption | omega | decide | exact hP.1)) (by decide) UVX6_reasonAgainst LK_X0_70 (shP hq) (ncP0 hq) rfl rfl rfl (Nat.le_of_ble_eq_true rfl) hl hcs (dg D_X0_tightestGang (i := 20) rfl) (fun r34 I34 L1 R1 H locs hq hW hS => ?_)
          obtain ⟨rfl, rfl, rfl, rfl⟩ := hq
          refine lv_if_ne (tgt := 73) hx hb (dg D_X0_tightestGang (i := 21) rfl) (by decide) (fun c37 => ?_) (fun c37 => ?_)
          · refine lv_iinc (v := nI (g + 1)) (lv' := [(8, .int (nI (g + 1))), (0, .ref (bs + 1)), (1, .ref (bs + β)), (2, .ref (bs + q)), (3, .int gs), (4, .int (nI y)), (5, .int (nI x)), (6, .int ((bgL σ gs y x g).1)), (7, .int ((bgL σ gs y x g).2))]) hx hb (dg D_X0_tightestGang (i := 38) rfl) hl (k := 8) rfl (nI_add _ _) (by decide) rfl (fun ls hl => ?_)
            refine lv_goto (tgt := 9) hx hb (dg D_X0_tightestGang (i := 39) rfl) (by decide) ?_
            exact ih9 (by omega) _ _ _ _ _ _ (by show _ = (bgS σ gs y x g (bgL σ gs y x g)).1; unfold bgS; rw [if_neg (fun z => c37 z.2.1)]) (by show _ = (bgS σ gs y x g (bgL σ gs y x g)).2; unfold bgS; rw [if_neg (fun z => c37 z.2.1)]) (congrArg nI (by omega)) hW hS (lv_sub hl [1, 2, 3, 4, 5, 6, 7, 8, 0] rfl)
          · refine lv_aload_n hx hb (dg D_X0_tightestGang (i := 22) rfl) rfl (lv_at hl 2 rfl) ?_
            refine lv_iload hx hb (dg D_X0_tightestGang (i := 23) rfl) (lv_at hl 4 rfl) ?_
            refine lv_iload hx hb (dg D_X0_tightestGang (i := 24) rfl) (lv_at hl 5 rfl) ?_
            refine lv_iload hx hb (dg D_X0_tightestGang (i := 25) rfl) (lv_at hl 8 rfl) ?_
            refine callVi X hW hS hR (c_X6_capacityLeft (I := I) σ β q y x g (by first | assumption | omega | decide | exact hP.1) (by first | assumption | omega | decide | exact hP.1) (by first | assumption | omega | decide | exact hP.1) (by first | assumption | omega | decide | exact hP.1) (by first | assumption | omega | decide | exact hP.1) (by first | assumption | omega | decide | exact hP.1) (by first | assumption | omega | decide | exact hP.1) (by first | assumption | omega | decide | exact hP.1) (by first | assumption | omega | decide | exact hP.1)) (by decide) UVX6_capacityLeft LK_X0_74 (shP hq) (ncP0 hq) rfl rfl rfl (Nat.le_of_ble_eq_true rfl) hl hcs (dg D_X0_tightestGang (i := 26) rfl) (fun r47 I47 L1 R1 H locs hq hW hS => ?_)
            obtain ⟨rfl, rfl, rfl, rfl⟩ := hq
            refine lv_istore (lv' := [(9, .int (lefT σ y x g)), (0, .ref (bs + 1)), (1, .ref (bs + β)), (2, .ref (bs + q)), (3, .int gs), (4, .int (nI y)), (5, .int (nI x)), (6, .int ((bgL σ gs y x g).1)), (7, .int ((bgL σ gs y x g).2)), (8, .int (nI g))]) hx hb (dg D_X0_tightestGang (i := 27) rfl) hl (by decide) rfl (fun ls hl => ?_)
            refine lv_iload hx hb (dg D_X0_tightestGang (i := 28) rfl) (lv_at hl 7 rfl) ?_
            refine lv_iconst (v := -1) hx hb (dg D_X0_tightestGang (i := 29) rfl) (by decide) ?_
            refine lv_icmp_eq (tgt := 65) hx hb (dg D_X0_tightestGang (i := 30) rfl) (by decide) (fun c55 => ?_) (fun c55 => ?_)
            · refine lv_iload hx hb (dg D_X0_tightestGang (i := 34) rfl) (lv_at hl 9 rfl) ?_
              refine lv_istore (lv' := [(6, .int (nI g)), (9, .int (lefT σ y x g)), (0, .ref (bs + 1)), (1, .ref (bs + β)), (2, .ref (bs + q)), (3, .int gs), (4, .int (nI y)), (5, .int (nI x)), (7, .int ((bgL σ gs y x g).2)), (8, .int (nI g))]) hx hb (dg D_X0_tightestGang (i := 35) rfl) hl (by decide) rfl (fun ls hl => ?_)
              refine lv_iload hx hb (dg D_X0_tightestGang (i := 36) rfl) (lv_at hl 1 rfl) ?_
              refine lv_istore (lv' := [(7, .int (lefT σ y x g)), (6, .int (nI g)), (9, .int (lefT σ y x g)), (0, .ref (bs + 1)), (1, .ref (bs + β)), (2, .ref (bs + q)), (3, .int gs), (4, .int (nI y)), (5, .int (nI x)), (8, .int (nI g))]) hx hb (dg D_X0_tightestGang (i := 37) rfl) hl (by decide) rfl (fun ls hl => ?_)
              refine lv_iinc (v := nI (g + 1)) (lv' := [(8, .int (nI (g + 1))), (7, .int (lefT σ y x g)), (6, .int (nI g)), (9, .int (lefT σ y x g)), (0, .ref (bs + 1)), (1, .ref (bs + β)), (2, .ref (bs + q)), (3, .int gs), (4, .int (nI y)), (5, .int (nI x))]) hx hb (dg D_X0_tightestGang (i := 38) rfl) hl (k := 9) rfl (nI_add _ _) (by decide) rfl (fun ls hl => ?_)
              refine lv_goto (tgt := 9) hx hb (dg D_X0_tightestGang (i := 39) rfl) (by decide) ?_
              exact ih9 (by omega) _ _ _ _ _ _ (by show _ = (bgS σ gs y x g (bgL σ gs y x g)).1; unfold bgS; rw [if_pos (And.intro ((Bool.eq_false_or_eq_true _).resolve_right (fun q => c24 ((bit_eq0 (by omega)).mpr q))) (And.intro (by first | exact c37 | exact Classical.not_not.mp c37) (Or.inl c55)))]) (by show _ = (bgS σ gs y x g (bgL σ gs y x g)).2; unfold bgS; rw [if_pos (And.intro ((Bool.eq_false_or_eq_true _).resolve_right (fun q => c24 ((bit_eq0 (by omega)).mpr q))) (And.intro (by first | exact c37 | exact Classical.not_not.mp c37) (Or.inl c55)))]) (congrArg nI (by omega)) hW hS (lv_sub hl [4, 5, 6, 7, 8, 9, 2, 1, 0] rfl)
            · refine lv_iload hx hb (dg D_X0_tightestGang (i := 31) rfl) (lv_at hl 0 rfl) ?_
              refine lv_iload hx hb (dg D_X0_tightestGang (i := 32) rfl) (lv_at hl 8 rfl) ?_
              refine lv_icmp_ge (tgt := 73) hx hb (dg D_X0_tightestGang (i := 33) rfl) (by decide) (fun c62 => ?_) (fun c62 => ?_)
              · refine lv_iinc (v := nI (g + 1)) (lv' := [(8, .int (nI (g + 1))), (9, .int (lefT σ y x g)), (0, .ref (bs + 1)), (1, .ref (bs + β)), (2, .ref (bs + q)), (3, .int gs), (4, .int (nI y)), (5, .int (nI x)), (6, .int ((bgL σ gs y x g).1)), (7, .int ((bgL σ gs y x g).2))]) hx hb (dg D_X0_tightestGang (i := 38) rfl) hl (k := 9) rfl (nI_add _ _) (by decide) rfl (fun ls hl => ?_)
                refine lv_goto (tgt := 9) hx hb (dg D_X0_tightestGang (i := 39) rfl) (by decide) ?_
                exact ih9 (by omega) _ _ _ _ _ _ (by show _ = (bgS σ gs y x g (bgL σ gs y x g)).1; unfold bgS; rw [if_neg (fun z => z.2.2.elim c55 (Int32.not_lt.mpr c62))]) (by show _ = (bgS σ gs y x g (bgL σ gs y x g)).2; unfold bgS; rw [if_neg (fun z => z.2.2.elim c55 (Int32.not_lt.mpr c62))]) (congrArg nI (by omega)) hW hS (lv_sub hl [2, 3, 4, 5, 6, 7, 8, 9, 0] rfl)
              · refine lv_iload hx hb (dg D_X0_tightestGang (i := 34) rfl) (lv_at hl 9 rfl) ?_
                refine lv_istore (lv' := [(6, .int (nI g)), (9, .int (lefT σ y x g)), (0, .ref (bs + 1)), (1, .ref (bs + β)), (2, .ref (bs + q)), (3, .int gs), (4, .int (nI y)), (5, .int (nI x)), (7, .int ((bgL σ gs y x g).2)), (8, .int (nI g))]) hx hb (dg D_X0_tightestGang (i := 35) rfl) hl (by decide) rfl (fun ls hl => ?_)
                refine lv_iload hx hb (dg D_X0_tightestGang (i := 36) rfl) (lv_at hl 1 rfl) ?_
                refine lv_istore (lv' := [(7, .int (lefT σ y x g)), (6, .int (nI g)), (9, .int (lefT σ y x g)), (0, .ref (bs + 1)), (1, .ref (bs + β)), (2, .ref (bs + q)), (3, .int gs), (4, .int (nI y)), (5, .int (nI x)), (8, .int (nI g))]) hx hb (dg D_X0_tightestGang (i := 37) rfl) hl (by decide) rfl (fun ls hl => ?_)
                refine lv_iinc (v := nI (g + 1)) (lv' := [(8, .int (nI (g + 1))), (7, .int (lefT σ y x g)), (6, .int (nI g)), (9, .int (lefT σ y x g)), (0, .ref (bs + 1)), (1, .ref (bs + β)), (2, .ref (bs + q)), (3, .int gs), (4, .int (nI y)), (5, .int (nI x))]) hx hb (dg D_X0_tightestGang (i := 38) rfl) hl (k := 9) rfl (nI_add _ _) (by decide) rfl (fun ls hl => ?_)
                refine lv_goto (tgt := 9) hx hb (dg D_X0_tightestGang (i := 39) rfl) (by decide) ?_
                exact ih9 (by omega) _ _ _ _ _ _ (by show _ = (bgS σ gs y x g (bgL σ gs y x g)).1; unfold bgS; rw [if_pos (And.intro ((Bool.eq_false_or_eq_true _).resolve_right (fun q => c24 ((bit_eq0 (by omega)).mpr q))) (And.intro (by first | exact c37 | exact Classical.not_not.mp c37) (Or.inr (Int32.not_le.mp c62))))]) (by show _ = (bgS σ gs y x g (bgL σ gs y x g)).2; unfold bgS; rw [if_pos (And.intro ((Bool.eq_false_or_eq_true _).resolve_right (fun q => c24 ((bit_eq0 (by omega)).mpr q))) (And.intro (by first | exact c37 | exact Classical.not_not.mp c37) (Or.inr (Int32.not_le.mp c62))))]) (congrArg nI (by omega)) hW hS (lv_sub hl [4, 5, 6, 7, 8, 9, 2, 1, 0] rfl))
  exact loop9 0 (Nat.zero_le _) _ _ _ _ _ _ (rfl) (rfl) (congrArg nI (by omega)) hW hS (lv_sub hl [3, 4, 5, 6, 7, 8, 2, 1, 0] rfl)

set_option maxHeartbeats 4000000 in
set_option maxRecDepth 100000 in
theorem c_X0_makePlan {l : Launch} {G : va_G} {bs : Nat} {cy : Nat → ClassId} {I : CI} {L : CL} {R : CR} (σ : Row) (β : Nat) (q : Nat) (gs : Int32) (hi : Inv σ) (hd : DR σ) (hβ : isBr β) (hB : BrAt I β σ) (hq : isPl q) : MTv l G bs cy MX0_makePlan 5 [.ref (bs + 1), .ref (bs + β), .ref (bs + q), .int gs] I L R (fun I1 L1 R1 => Fr (SAp q) I I1 ∧ PlAt I1 q (auto σ gs) ∧ L = L1 ∧ R1 = u2R R q 0 β) := by
  refine MTv.of (own := RX0) pn_RX0 rfl (Nat.le_of_ble_eq_true rfl) ?_
  intro p e s m args below meth c Qf X hW hS fin ls hl
  have hx := X.1
  have hb := X.2.1
  have hR : RmOK (rmL 5 0 0) 5 := ⟨rfl, rfl⟩
  have hcs : 0 ≤ (rmL 5 0 0).cells ∧ 0 ≤ (rmL 5 0 0).slots := ⟨Nat.zero_le _, Nat.zero_le _⟩
  have hl : lv_has ls 8 [(0, .ref (bs + 1)), (1, .ref (bs + β)), (2, .ref (bs + q)), (3, .int gs)] := hl
  have hF : Fr (SAp q) I I := Fr.rf
  obtain ⟨hY, hY1, hY12, hLn, hL4, hSn, hS12, hGn, hG5⟩ := id hi
  have hbq := br_pl hβ hq
  refine lv_aload_n hx hb (dg D_X0_makePlan (i := 0) rfl) rfl (lv_at hl 2 rfl) ?_
  refine lv_aload_n hx hb (dg D_X0_makePlan (i := 1) rfl) rfl (lv_at hl 1 rfl) ?_
  refine callVv X hW hS hR (c_X6_start (I := I) σ β q (by first | assumption | omega | decide | exact hP.1) (by first | assumption | omega | decide | exact hP.1) (by first | assumption | omega | decide | exact hP.1) (by first | assumption | omega | decide | exact hP.1)) (by decide) UVX6_start LK_X0_18 (shP hq) (ncP0 hq) rfl rfl rfl (Nat.le_of_ble_eq_true rfl) hl hcs (dg D_X0_makePlan (i := 2) rfl) (fun I2 L1 R1 H locs hq hW hS => ?_)
  obtain ⟨hT2, hp2_0, rfl, rfl⟩ := hq
  have hF : Fr (SAp q) I I2 := Fr.tr hF hT2 (by intro a j h; simp only [SPu, SAp, Bool.or_eq_true, beq_iff_eq] at h ⊢; omega)
  have hB : BrAt I2 β σ := BrAt.fr hB hT2 (fun a j h1 h2 => Bool.eq_false_iff.mpr (fun h => by simp only [SPu, Bool.or_eq_true, Bool.and_eq_true, beq_iff_eq, decide_eq_true_eq] at h; omega))
  refine n_iconst (a := 0) hx hb (dg D_X0_makePlan (i := 3) rfl) rfl ?_
  refine lv_istore (lv' := [(4, .int (nI 0)), (0, .ref (bs + 1)), (1, .ref (bs + β)), (2, .ref (bs + q)), (3, .int gs)]) hx hb (dg D_X0_makePlan (i := 4) rfl) hl (by decide) rfl (fun ls hl => ?_)
  have loop8 := up_ind (P := fun y => ∀ (K8 : CI) (H : Heap) (locs : List Loc) (ls : Array Slot) (v4 : Int32), v4 = nI y → (Fr (SAp q) I K8) → (BrAt K8 β σ) → (PlAt K8 q (plY σ gs y)) → Wd G bs cy K8 L (u2R R q 0 β) H → va_S (Aq bs) s.heap H locs → lv_has ls 8 [(0, .ref (bs + 1)), (1, .ref (bs + β)), (2, .ref (bs + q)), (3, .int gs), (4, .int v4)] → W p l e (rmL 5 0 0) s m args below meth c H locs 0 0 Qf (F0 m 8 ls [])) (Yn σ) (fun y hx8 ih8 => by
      intro K8 H locs ls v4 q4 hF hB hPy hW hS hl
      subst q4
      have hm : Sm σ (plY σ gs y) := Sm_plY y
      obtain ⟨τ, hτ⟩ : ∃ τ, τ = plY σ gs y := ⟨_, rfl⟩
      rw [← hτ] at hPy hm
      have hP := hPy
      have hon : ordN τ y ≤ nS σ := by rw [← hm.S]; exact ordN_le τ y
      have hiT : Inv τ := Sm_Inv hm hi
      have hdT : DR τ := Sm_DR hm hi hd (by rw [hτ]; exact PD_plY hS12 y hx8)
      refine lv_iload hx hb (dg D_X0_makePlan (i := 5) rfl) (lv_at hl 4 rfl) ?_
      refine lv_aload_n hx hb (dg D_X0_makePlan (i := 6) rfl) rfl (lv_at hl 1 rfl) ?_
      refine rn_geti (v := nI (Yn σ)) X hW FN_X0_24 (shB hβ) (ncB0 hβ) rfl (hB.c0 hi) (dg D_X0_makePlan (i := 7) rfl) ?_
      refine n_icmp_ge (tgt := 92) hx hb (by omega) (by omega) (dg D_X0_makePlan (i := 8) rfl) (by decide) (fun c14 => ?_) (fun c14 => ?_)
      · exact fin (dg D_X0_makePlan (i := 46) rfl) hW hS ⟨hF, by show PlAt _ q (plY σ gs (Yn σ)); rw [← show y = Yn σ by omega, ← hτ]; exact hP, rfl, rfl⟩
      · refine lv_aload_n hx hb (dg D_X0_makePlan (i := 9) rfl) rfl (lv_at hl 0 rfl) ?_
        refine lv_aload_n hx hb (dg D_X0_makePlan (i := 10) rfl) rfl (lv_at hl 1 rfl) ?_
        refine lv_aload_n hx hb (dg D_X0_makePlan (i := 11) rfl) rfl (lv_at hl 2 rfl) ?_
        refine lv_iload hx hb (dg D_X0_makePlan (i := 12) rfl) (lv_at hl 4 rfl) ?_
        refine callVv X hW hS hR (c_X0_rankCandidates (I := K8) τ β q y (hiT) (by first | assumption | omega | decide | exact hP.1) (BrAt_Sm hB hm hi) (by first | assumption | omega | decide | exact hP.1) (by first | assumption | omega | decide | exact hP.1) (u2R_at) (hdT) (by rw [hm.Y]; omega)) (by decide) UVX0_rankCandidates LK_X0_30 rfl (by decide) rfl rfl rfl (Nat.le_of_ble_eq_true rfl) hl hcs (dg D_X0_makePlan (i := 13) rfl) (fun I22 L1 R1 H locs hq hW hS => ?_)
        obtain ⟨hT22, hp22_0, rfl, rfl⟩ := hq
        have hF : Fr (SAp q) I I22 := Fr.tr hF hT22 (by intro a j h; simp only [SRk, SAp, Bool.or_eq_true, Bool.and_eq_true, beq_iff_eq, decide_eq_true_eq] at h ⊢; omega)
        have hB : BrAt I22 β σ := BrAt.fr hB hT22 (fun a j h1 h2 => Bool.eq_false_iff.mpr (fun h => by simp only [SRk, Bool.or_eq_true, Bool.and_eq_true, beq_iff_eq, decide_eq_true_eq] at h; omega))
        have hP : PlAt I22 q τ := PlAt.fr hP hT22 (fun a j h1 h2 => Bool.eq_false_iff.mpr (fun h => by simp only [SRk, Bool.or_eq_true, Bool.and_eq_true, beq_iff_eq, decide_eq_true_eq] at h; omega))
        have hRk := hp22_0
        refine n_iconst (a := 0) hx hb (dg D_X0_makePlan (i := 14) rfl) rfl ?_
        refine lv_istore (lv' := [(5, .int (nI 0)), (0, .ref (bs + 1)), (1, .ref (bs + β)), (2, .ref (bs + q)), (3, .int gs), (4, .int (nI y))]) hx hb (dg D_X0_makePlan (i := 15) rfl) hl (by decide) rfl (fun ls hl => ?_)
        have loop28 := up_ind (P := fun k => ∀ (K28 : CI) (H : Heap) (locs : List Loc) (ls : Array Slot) (v5 : Int32), v5 = nI k → (Fr (SAp q) I K28) → (BrAt K28 β σ) → (RkAt K28 2 (cand τ y) (ltY τ y) (kY τ y) (nS τ)) → (PlAt K28 q (plK τ gs y k)) → Wd G bs cy K28 L (u2R R q 0 β) H → va_S (Aq bs) s.heap H locs → lv_has ls 8 [(0, .ref (bs + 1)), (1, .ref (bs + β)), (2, .ref (bs + q)), (3, .int gs), (4, .int (nI y)), (5, .int v5)] → W p l e (rmL 5 0 0) s m args below meth c H locs 0 0 Qf (F0 m 28 ls [])) (ordN τ y) (fun k hx28 ih28 => by
            intro K28 H locs ls v5 q5 hF hB hRk hPk hW hS hl
            subst q5
            obtain ⟨υ, hυ⟩ : ∃ υ, υ = plK τ gs y k := ⟨_, rfl⟩
            rw [← hυ] at hPk
            have hP := hPk
            have hmU : Sm τ υ := by rw [hυ]; exact Sm_plK k
            have hiU : Inv υ := Sm_Inv hmU hiT
            have hdU : DR υ := Sm_DR hmU hiT hdT (by rw [hυ]; exact PD_plK hdT.2.1 (by rw [hm.S]; exact hS12) (by rw [hm.Y]; omega) k hx28)
            refine lv_iload hx hb (dg D_X0_makePlan (i := 16) rfl) (lv_at hl 5 rfl) ?_
            refine lv_aload_n hx hb (dg D_X0_makePlan (i := 17) rfl) rfl (lv_at hl 0 rfl) ?_
            refine r_getc (t := 2) X hW FI_X0_12 rfl (by decide) rfl (dg D_X0_makePlan (i := 18) rfl) ?_
            refine callVi X hW hS hR (c_X7_size (I := K28) 2 (ordN τ y) (Or.inl rfl) (hRk.1)) (by decide) UVX7_size LK_X0_34 rfl (by decide) rfl rfl rfl (Nat.le_of_ble_eq_true rfl) hl hcs (dg D_X0_makePlan (i := 19) rfl) (fun r34 I34 L1 R1 H locs hq hW hS => ?_)
            obtain ⟨rfl, rfl, rfl, rfl⟩ := hq
            refine n_icmp_ge (tgt := 86) hx hb (by omega) (by omega) (dg D_X0_makePlan (i := 20) rfl) (by decide) (fun c37 => ?_) (fun c37 => ?_)
            · refine lv_iinc (v := nI (y + 1)) (lv' := [(4, .int (nI (y + 1))), (0, .ref (bs + 1)), (1, .ref (bs + β)), (2, .ref (bs + q)), (3, .int gs), (5, .int (nI k))]) hx hb (dg D_X0_makePlan (i := 44) rfl) hl (k := 4) rfl (nI_add _ _) (by decide) rfl (fun ls hl => ?_)
              refine lv_goto (tgt := 8) hx hb (dg D_X0_makePlan (i := 45) rfl) (by decide) ?_
              exact ih8 (by omega) K28 _ _ _ _ (congrArg nI (by omega)) hF hB (by rw [show plY σ gs (y + 1) = plK τ gs y (ordN τ y) by rw [hτ]; rfl, ← show k = ordN τ y by omega, ← hυ]; exact hP) hW hS (lv_sub hl [1, 2, 3, 4, 0] rfl)
            · refine lv_aload_n hx hb (dg D_X0_makePlan (i := 21) rfl) rfl (lv_at hl 0 rfl) ?_
              refine r_getc (t := 2) X hW FI_X0_12 rfl (by decide) rfl (dg D_X0_makePlan (i := 22) rfl) ?_
              refine lv_iload hx hb (dg D_X0_makePlan (i := 23) rfl) (lv_at hl 5 rfl) ?_
              refine callVi X hW hS hR (c_X7_spanAt (I := K28) 2 (ordN τ y) (fun j => kY τ y (ordE τ y j)) k (Or.inl rfl) (hRk.2) (by first | assumption | omega | decide | exact hP.1) (Nat.le_trans (ordN_le τ y) (by rw [hm.S]; exact hS12))) (by decide) UVX7_spanAt LK_X0_38 rfl (by decide) rfl rfl rfl (Nat.le_of_ble_eq_true rfl) hl hcs (dg D_X0_makePlan (i := 24) rfl) (fun r46 I46 L1 R1 H locs hq hW hS => ?_)
              obtain ⟨rfl, rfl, rfl, rfl⟩ := hq
              rw [show nI ((fun j => kY τ y (ordE τ y j)) k % 16) = nI (ordE τ y k) from congrArg nI (kN_x (by have := ordE_lt (σ := τ) (y := y) (k := k) (by omega); have := hm.S; omega))]
              refine lv_istore (lv' := [(6, .int (nI (ordE τ y k))), (0, .ref (bs + 1)), (1, .ref (bs + β)), (2, .ref (bs + q)), (3, .int gs), (4, .int (nI y)), (5, .int (nI k))]) hx hb (dg D_X0_makePlan (i := 25) rfl) hl (by decide) rfl (fun ls hl => ?_)
              refine lv_aload_n hx hb (dg D_X0_makePlan (i := 26) rfl) rfl (lv_at hl 1 rfl) ?_
              refine lv_aload_n hx hb (dg D_X0_makePlan (i := 27) rfl) rfl (lv_at hl 2 rfl) ?_
              refine lv_aload_n hx hb (dg D_X0_makePlan (i := 28) rfl) rfl (lv_at hl 3 rfl) ?_
              refine lv_iload_n hx hb (dg D_X0_makePlan (i := 29) rfl) rfl (lv_at hl 4 rfl) ?_
              refine lv_iload hx hb (dg D_X0_makePlan (i := 30) rfl) (lv_at hl 5 rfl) ?_
              refine lv_iload hx hb (dg D_X0_makePlan (i := 31) rfl) (lv_at hl 0 rfl) ?_
              refine callVi X hW hS hR (c_X0_tightestGang (I := K28) υ β q gs y (ordE τ y k) (hiU) (by first | assumption | omega | decide | exact hP.1) (BrAt_Sm hB (hm.tr hmU) hi) (by first | assumption | omega | decide | exact hP.1) (by first | assumption | omega | decide | exact hP.1) (u2R_at) (hdU) (by rw [hmU.Y, hm.Y]; omega) (by rw [hmU.S]; exact ordE_lt (by omega))) (by decide) UVX0_tightestGang LK_X0_42 rfl (by decide) rfl rfl rfl (Nat.le_of_ble_eq_true rfl) hl hcs (dg D_X0_makePlan (i := 32) rfl) (fun r59 I59 L1 R1 H locs hq hW hS => ?_)
              obtain ⟨rfl, rfl, rfl, rfl⟩ := hq
              refine lv_istore (lv' := [(7, .int (bgG υ gs y (ordE τ y k))), (6, .int (nI (ordE τ y k))), (0, .ref (bs + 1)), (1, .ref (bs + β)), (2, .ref (bs + q)), (3, .int gs), (4, .int (nI y)), (5, .int (nI k))]) hx hb (dg D_X0_makePlan (i := 33) rfl) hl (by decide) rfl (fun ls hl => ?_)
              refine lv_iload hx hb (dg D_X0_makePlan (i := 34) rfl) (lv_at hl 0 rfl) ?_
              refine lv_iconst (v := -1) hx hb (dg D_X0_makePlan (i := 35) rfl) (by decide) ?_
              refine lv_icmp_eq (tgt := 80) hx hb (dg D_X0_makePlan (i := 36) rfl) (by decide) (fun c67 => ?_) (fun c67 => ?_)
              · refine lv_iinc (v := nI (k + 1)) (lv' := [(5, .int (nI (k + 1))), (7, .int (bgG υ gs y (ordE τ y k))), (6, .int (nI (ordE τ y k))), (0, .ref (bs + 1)), (1, .ref (bs + β)), (2, .ref (bs + q)), (3, .int gs), (4, .int (nI y))]) hx hb (dg D_X0_makePlan (i := 42) rfl) hl (k := 7) rfl (nI_add _ _) (by decide) rfl (fun ls hl => ?_)
                refine lv_goto (tgt := 28) hx hb (dg D_X0_makePlan (i := 43) rfl) (by decide) ?_
                have hpl : plK τ gs y (k + 1) = υ := by show plS (plK τ gs y k) gs y (ordE τ y k) = υ; rw [← hυ]; exact if_pos c67
                exact ih28 (by omega) K28 _ _ _ _ (congrArg nI (by omega)) hF hB hRk (by rw [hpl]; exact hP) hW hS (lv_sub hl [3, 4, 5, 6, 7, 0] rfl)
              · refine lv_aload_n hx hb (dg D_X0_makePlan (i := 37) rfl) rfl (lv_at hl 4 rfl) ?_
                refine lv_iload hx hb (dg D_X0_makePlan (i := 38) rfl) (lv_at hl 6 rfl) ?_
                refine lv_iload hx hb (dg D_X0_makePlan (i := 39) rfl) (lv_at hl 1 rfl) ?_
                refine lv_iload hx hb (dg D_X0_makePlan (i := 40) rfl) (lv_at hl 0 rfl) ?_
                refine callVv X hW hS hR (cP_X6_put (I := K28) υ β q y (ordE τ y k) (bgG υ gs y (ordE τ y k)) (hiU) (by first | assumption | omega | decide | exact hP.1) (BrAt_Sm hB (hm.tr hmU) hi) (by first | assumption | omega | decide | exact hP.1) (by first | assumption | omega | decide | exact hP.1) (u2R_at) (by rw [hmU.S]; exact ordE_lt (by omega)) (by omega) (by first | assumption | omega | decide | exact hP.1)) (by decide) UVX6_put LK_X0_46 (shP hq) (ncP0 hq) rfl rfl rfl (Nat.le_of_ble_eq_true rfl) hl hcs (dg D_X0_makePlan (i := 41) rfl) (fun I77 L1 R1 H locs hq hW hS => ?_)
                obtain ⟨hT77, hp77_0, rfl, rfl⟩ := hq
                have hF : Fr (SAp q) I I77 := Fr.tr hF hT77 (by intro a j h; simp only [SPu, SAp, Bool.or_eq_true, Bool.and_eq_true, beq_iff_eq, decide_eq_true_eq] at h ⊢; omega)
                have hB : BrAt I77 β σ := BrAt.fr hB hT77 (fun a j h1 h2 => Bool.eq_false_iff.mpr (fun h => by simp only [SPu, Bool.or_eq_true, Bool.and_eq_true, beq_iff_eq, decide_eq_true_eq] at h; omega))
                have hRk : RkAt I77 2 (cand τ y) (ltY τ y) (kY τ y) (nS τ) := RkAt.frI hRk hT77 SPu_in (by omega)
                refine lv_iinc (v := nI (k + 1)) (lv' := [(5, .int (nI (k + 1))), (7, .int (bgG υ gs y (ordE τ y k))), (6, .int (nI (ordE τ y k))), (0, .ref (bs + 1)), (1, .ref (bs + β)), (2, .ref (bs + q)), (3, .int gs), (4, .int (nI y))]) hx hb (dg D_X0_makePlan (i := 42) rfl) hl (k := 7) rfl (nI_add _ _) (by decide) rfl (fun ls hl => ?_)
                refine lv_goto (tgt := 28) hx hb (dg D_X0_makePlan (i := 43) rfl) (by decide) ?_
                have hpl : plK τ gs y (k + 1) = setP υ (ordE τ y k) y (bgG υ gs y (ordE τ y k)) := by show plS (plK τ gs y k) gs y (ordE τ y k) = _; rw [← hυ]; exact if_neg c67
                exact ih28 (by omega) I77 _ _ _ _ (congrArg nI (by omega)) hF hB hRk (by rw [hpl]; exact hp77_0) hW hS (lv_sub hl [3, 4, 5, 6, 7, 0] rfl))
        exact loop28 0 (Nat.zero_le _) I22 _ _ _ _ (congrArg nI (by omega)) hF hB hRk hP hW hS (lv_sub hl [1, 2, 3, 4, 5, 0] rfl))
  exact loop8 0 (Nat.zero_le _) I2 _ _ _ _ (congrArg nI (by omega)) hF hB hp2_0 hW hS (lv_sub hl [1, 2, 3, 4, 0] rfl)

