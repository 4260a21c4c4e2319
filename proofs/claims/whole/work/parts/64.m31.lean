set_option maxHeartbeats 4000000 in
set_option maxRecDepth 100000 in
theorem c_X11_pastCountWith {l : Launch} {G : va_G} {bs : Nat} {cy : Nat → ClassId} {I : CI} {L : CL} {R : CR} (σ : Row) (β : Nat) (q : Nat) (y : Nat) (x : Nat) (g : Int32) (hi : Inv σ) (hβ : isBr β) (hB : BrAt I β σ) (hq : isPl q) (hP : PlAt I q σ) (hRb : R q 0 = β) (hR7 : R 0 7 = β) (hR8 : R 0 8 = q) (hx5 : x < nS σ) (hy5 : y < 12) : MTi l G bs cy MX11_pastCountWith 4 [.ref (bs + 0), .int (nI y), .int (nI x), .int g] I L R (fun r I1 L1 R1 => cntP (setP σ x y g) = r ∧ Fr (SPu q) I I1 ∧ PlAt I1 q σ ∧ L = L1 ∧ R = R1) := by
  refine MTi.of (own := RX11) pn_RX11 rfl (Nat.le_of_ble_eq_true rfl) ?_
  intro p e s m args below meth c Qf X hW hS fin ls hl
  have hx := X.1
  have hb := X.2.1
  have hR : RmOK (rmL 4 0 0) 4 := ⟨rfl, rfl⟩
  have hcs : 0 ≤ (rmL 4 0 0).cells ∧ 0 ≤ (rmL 4 0 0).slots := ⟨Nat.zero_le _, Nat.zero_le _⟩
  have hl : lv_has ls 6 [(0, .ref (bs + 0)), (1, .int (nI y)), (2, .int (nI x)), (3, .int g)] := hl
  have hF : Fr (SPu q) I I := Fr.rf
  obtain ⟨hY, hY1, hY12, hLn, hL4, hSn, hS12, hGn, hG5⟩ := id hi
  have hbq := br_pl hβ hq
  refine lv_aload_n hx hb (dg D_X11_pastCountWith (i := 0) rfl) rfl (lv_at hl 0 rfl) ?_
  refine r_getr (v := q) X hW FI_X11_71 rfl (by decide) rfl hR8 (dg D_X11_pastCountWith (i := 1) rfl) ?_
  refine lv_iload_n hx hb (dg D_X11_pastCountWith (i := 2) rfl) rfl (lv_at hl 1 rfl) ?_
  refine lv_iload_n hx hb (dg D_X11_pastCountWith (i := 3) rfl) rfl (lv_at hl 2 rfl) ?_
  refine callVi X hW hS hR (c_X6_painter (I := I) σ q y x (by first | assumption | omega | decide | exact hP.1) (by first | assumption | omega | decide | exact hP.1) (by first | assumption | omega | decide | exact hP.1) (by first | assumption | omega | decide | exact hP.1)) (by decide) UVX6_painter LK_X11_202 (shP hq) (ncP0 hq) rfl rfl rfl (Nat.le_of_ble_eq_true rfl) hl hcs (dg D_X11_pastCountWith (i := 4) rfl) (fun r6 I6 L1 R1 H locs hq hW hS => ?_)
  obtain ⟨rfl, rfl, rfl, rfl⟩ := hq
  refine lv_istore (lv' := [(4, .int (pnt σ x y)), (0, .ref (bs + 0)), (1, .int (nI y)), (2, .int (nI x)), (3, .int g)]) hx hb (dg D_X11_pastCountWith (i := 5) rfl) hl (by decide) rfl (fun ls hl => ?_)
  refine lv_aload_n hx hb (dg D_X11_pastCountWith (i := 6) rfl) rfl (lv_at hl 1 rfl) ?_
  refine r_getr (v := q) X hW FI_X11_71 rfl (by decide) rfl hR8 (dg D_X11_pastCountWith (i := 7) rfl) ?_
  refine lv_iload_n hx hb (dg D_X11_pastCountWith (i := 8) rfl) rfl (lv_at hl 2 rfl) ?_
  refine lv_iload_n hx hb (dg D_X11_pastCountWith (i := 9) rfl) rfl (lv_at hl 3 rfl) ?_
  refine lv_iload_n hx hb (dg D_X11_pastCountWith (i := 10) rfl) rfl (lv_at hl 4 rfl) ?_
  refine callVv X hW hS hR (cP_X6_put (I := I) σ β q y x g (by first | assumption | omega | decide | exact hP.1) (by first | assumption | omega | decide | exact hP.1) (by first | assumption | omega | decide | exact hP.1) (by first | assumption | omega | decide | exact hP.1) (by first | assumption | omega | decide | exact hP.1) (by first | assumption | omega | decide | exact hP.1) (by first | assumption | omega | decide | exact hP.1) (by first | assumption | omega | decide | exact hP.1) (by first | assumption | omega | decide | exact hP.1)) (by decide) UVX6_put LK_X11_257 (shP hq) (ncP0 hq) rfl rfl rfl (Nat.le_of_ble_eq_true rfl) hl hcs (dg D_X11_pastCountWith (i := 11) rfl) (fun I18 L1 R1 H locs hq hW hS => ?_)
  obtain ⟨hT18, hp18_0, rfl, rfl⟩ := hq
  have hF : Fr (SPu q) I I18 := Fr.tr hF hT18 (fun _ _ h => h)
  have hB : BrAt I18 β σ := BrAt.fr hB hT18 (fun a j h1 h2 => Bool.eq_false_iff.mpr (fun h => by simp only [SPu, Bool.or_eq_true, Bool.and_eq_true, beq_iff_eq, decide_eq_true_eq] at h; omega))
  have hP : PlAt I18 q (setP σ x y g) := hp18_0
  refine lv_aload_n hx hb (dg D_X11_pastCountWith (i := 12) rfl) rfl (lv_at hl 1 rfl) ?_
  refine r_getr (v := q) X hW FI_X11_71 rfl (by decide) rfl hR8 (dg D_X11_pastCountWith (i := 13) rfl) ?_
  refine callVi X hW hS hR (c_X6_countPast (I := I18) (setP σ x y g) β q (Inv_setP hi) (by first | assumption | omega | decide | exact hP.1) (BrAt_Sm hB Sm_setP hi) (by first | assumption | omega | decide | exact hP.1) (by first | assumption | omega | decide | exact hP.1) (by first | assumption | omega | decide | exact hP.1)) (by decide) UVX6_countPast LK_X11_151 (shP hq) (ncP0 hq) rfl rfl rfl (Nat.le_of_ble_eq_true rfl) hl hcs (dg D_X11_pastCountWith (i := 14) rfl) (fun r25 I25 L1 R1 H locs hq hW hS => ?_)
  obtain ⟨rfl, rfl, rfl, rfl⟩ := hq
  refine lv_istore (lv' := [(5, .int (cntP (setP σ x y g))), (4, .int (pnt σ x y)), (0, .ref (bs + 0)), (1, .int (nI y)), (2, .int (nI x)), (3, .int g)]) hx hb (dg D_X11_pastCountWith (i := 15) rfl) hl (by decide) rfl (fun ls hl => ?_)
  refine lv_aload_n hx hb (dg D_X11_pastCountWith (i := 16) rfl) rfl (lv_at hl 2 rfl) ?_
  refine r_getr (v := q) X hW FI_X11_71 rfl (by decide) rfl hR8 (dg D_X11_pastCountWith (i := 17) rfl) ?_
  refine lv_iload_n hx hb (dg D_X11_pastCountWith (i := 18) rfl) rfl (lv_at hl 3 rfl) ?_
  refine lv_iload_n hx hb (dg D_X11_pastCountWith (i := 19) rfl) rfl (lv_at hl 4 rfl) ?_
  refine lv_iload hx hb (dg D_X11_pastCountWith (i := 20) rfl) (lv_at hl 1 rfl) ?_
  refine callVv X hW hS hR (cP_X6_put (I := I18) (setP σ x y g) β q y x (pnt σ x y) (Inv_setP hi) (by first | assumption | omega | decide | exact hP.1) (BrAt_Sm hB Sm_setP hi) (by first | assumption | omega | decide | exact hP.1) (by first | assumption | omega | decide | exact hP.1) (by first | assumption | omega | decide | exact hP.1) (by rw [nS_setP]; exact hx5) (by first | assumption | omega | decide | exact hP.1) (by first | assumption | omega | decide | exact hP.1)) (by decide) UVX6_put LK_X11_257 (shP hq) (ncP0 hq) rfl rfl rfl (Nat.le_of_ble_eq_true rfl) hl hcs (dg D_X11_pastCountWith (i := 21) rfl) (fun I38 L1 R1 H locs hq hW hS => ?_)
  obtain ⟨hT38, hp38_0, rfl, rfl⟩ := hq
  have hF : Fr (SPu q) I I38 := Fr.tr hF hT38 (fun _ _ h => h)
  have hB : BrAt I38 β σ := BrAt.fr hB hT38 (fun a j h1 h2 => Bool.eq_false_iff.mpr (fun h => by simp only [SPu, Bool.or_eq_true, Bool.and_eq_true, beq_iff_eq, decide_eq_true_eq] at h; omega))
  have hP : PlAt I38 q σ := by have h := hp38_0; rw [setP_bk] at h; exact h
  refine lv_iload hx hb (dg D_X11_pastCountWith (i := 22) rfl) (lv_at hl 0 rfl) ?_
  exact fin (dg D_X11_pastCountWith (i := 23) rfl) hW hS ⟨rfl, hF, hP, rfl, rfl⟩

set_option maxHeartbeats 4000000 in
set_option maxRecDepth 100000 in
theorem c_X11_bestPainting {l : Launch} {G : va_G} {bs : Nat} {cy : Nat → ClassId} {I : CI} {L : CL} {R : CR} (σ : Row) (β : Nat) (q : Nat) (v : Int32) (hl0 : l.stackTraces = false) (hi : Inv σ) (hd : DR σ) (hβ : isBr β) (hB : BrAt I β σ) (hq : isPl q) (hP : PlAt I q σ) (hRb : R q 0 = β) (hR7 : R 0 7 = β) (hR8 : R 0 8 = q) : XTi l G bs cy MX11_bestPainting 7 [.ref (bs + 0), .int v] I L R (fun r I1 L1 R1 => ((inB v (nS σ)) = true ∧ r = (bsY σ (tN v) (Yn σ)).1) ∧ Fr (SPu q) I I1 ∧ PlAt I1 q σ ∧ L = L1 ∧ R = R1) (fun E => E = IOE ∧ (inB v (nS σ)) = false) 1 6 := by
  refine XTi.of (own := RX11) pn_RX11 rfl (Nat.le_of_ble_eq_true rfl) ?_
  intro p e s m args below meth c Qc Qf X hW hS htab hlk hQf fin ls hl
  have hx := X.1
  have hb := X.2.1
  have hR : RmOK (rmL 7 1 6) 7 := ⟨rfl, rfl⟩
  have hcs : 0 ≤ (rmL 7 1 6).cells ∧ 0 ≤ (rmL 7 1 6).slots := ⟨Nat.zero_le _, Nat.zero_le _⟩
  have hl : lv_has ls 7 [(0, .ref (bs + 0)), (1, .int v)] := hl
  have hF : Fr (SPu q) I I := Fr.rf
  obtain ⟨hY, hY1, hY12, hLn, hL4, hSn, hS12, hGn, hG5⟩ := id hi
  have hbq := br_pl hβ hq
  refine lv_aload_n hx hb (dg D_X11_bestPainting (i := 0) rfl) rfl (lv_at hl 0 rfl) ?_
  refine lv_iload_n hx hb (dg D_X11_bestPainting (i := 1) rfl) rfl (lv_at hl 1 rfl) ?_
  refine callXv X hW hS hR htab hlk hQf (c_X11_checkSpan (I := I) σ β v (by first | assumption | omega | decide | exact hP.1) (by first | assumption | omega | decide | exact hP.1) (by first | assumption | omega | decide | exact hP.1) (by first | assumption | omega | decide | exact hP.1) (by first | assumption | omega | decide | exact hP.1)) (fun E hE => ⟨hE.1, by simp [hE.2]⟩) (by decide) UVX11_checkSpan LK_X11_131 rfl (by decide) rfl rfl rfl (Nat.le_of_ble_eq_true rfl) hl (Nat.le_of_ble_eq_true rfl) (Nat.le_of_ble_eq_true rfl) (Nat.le_of_ble_eq_true rfl) (Nat.le_of_ble_eq_true rfl) (dg D_X11_bestPainting (i := 2) rfl) (fun I2 L1 R1 H locs hq hW hS => ?_)
  have hcs : 0 + 1 ≤ (rmL 7 1 6).cells ∧ 0 + 6 ≤ (rmL 7 1 6).slots := ⟨Nat.le_of_ble_eq_true rfl, Nat.le_of_ble_eq_true rfl⟩
  obtain ⟨hr2, rfl, rfl, rfl⟩ := hq
  obtain ⟨jv, hjv, rfl⟩ := inB_of hr2 (by omega)
  refine r_ldc X CK_X11_48 (dg D_X11_bestPainting (i := 3) rfl) ?_
  refine lv_istore_n (lv' := [(2, .int ((-1000004))), (0, .ref (bs + 0)), (1, .int (nI jv))]) hx hb (dg D_X11_bestPainting (i := 4) rfl) rfl hl (by decide) rfl (fun ls hl => ?_)
  refine lv_bipush (v := nI 13) hx hb (dg D_X11_bestPainting (i := 5) rfl) (by decide) ?_
  refine lv_istore_n (lv' := [(3, .int (nI 13)), (2, .int ((-1000004))), (0, .ref (bs + 0)), (1, .int (nI jv))]) hx hb (dg D_X11_bestPainting (i := 6) rfl) rfl hl (by decide) rfl (fun ls hl => ?_)
  refine n_iconst (a := 0) hx hb (dg D_X11_bestPainting (i := 7) rfl) rfl ?_
  refine lv_istore (lv' := [(4, .int (nI 0)), (3, .int (nI 13)), (2, .int ((-1000004))), (0, .ref (bs + 0)), (1, .int (nI jv))]) hx hb (dg D_X11_bestPainting (i := 8) rfl) hl (by decide) rfl (fun ls hl => ?_)
  have loop14 := up_ind (P := fun y => ∀ (K14 : CI) (H : Heap) (locs : List Loc) (ls : Array Slot) (v2 : Int32) (v3 : Int32) (v4 : Int32), v2 = (bsY σ jv y).1 → v3 = lsF (bsY σ jv y) → v4 = nI y → (Fr (SPu q) I K14) → (BrAt K14 β σ) → (PlAt K14 q σ) → Wd G bs cy K14 L R H → va_S (Aq bs) s.heap H locs → lv_has ls 7 [(0, .ref (bs + 0)), (1, .int (nI jv)), (2, .int v2), (3, .int v3), (4, .int v4)] → W p l e (rmL 7 1 6) s m args below meth c H locs (0 + 1) (0 + 6) Qf (F0 m 14 ls [])) (Yn σ) (fun y hx14 ih14 => by
      intro K14 H locs ls v2 v3 v4 q2 q3 q4 hF hB hP hW hS hl
      subst q2
      subst q3
      subst q4
      refine lv_iload hx hb (dg D_X11_bestPainting (i := 9) rfl) (lv_at hl 4 rfl) ?_
      refine lv_aload_n hx hb (dg D_X11_bestPainting (i := 10) rfl) rfl (lv_at hl 0 rfl) ?_
      refine r_getr (v := β) X hW FI_X11_67 rfl (by decide) rfl hR7 (dg D_X11_bestPainting (i := 11) rfl) ?_
      refine rn_geti (v := nI (Yn σ)) X hW FN_X11_168 (shB hβ) (ncB0 hβ) rfl (hB.c0 hi) (dg D_X11_bestPainting (i := 12) rfl) ?_
      refine n_icmp_ge (tgt := 97) hx hb (by omega) (by omega) (dg D_X11_bestPainting (i := 13) rfl) (by decide) (fun c23 => ?_) (fun c23 => ?_)
      · refine lv_iload_n hx hb (dg D_X11_bestPainting (i := 49) rfl) rfl (lv_at hl 2 rfl) ?_
        exact fin (dg D_X11_bestPainting (i := 50) rfl) (Nat.le_of_ble_eq_true rfl) (Nat.le_of_ble_eq_true rfl) hW hS ⟨⟨by simp [hr2], by rw [tN_nI (show jv < 2 ^ 31 by omega), show y = Yn σ by omega]⟩, hF, hP, rfl, rfl⟩
      · refine n_iconst (a := 0) hx hb (dg D_X11_bestPainting (i := 14) rfl) rfl ?_
        refine lv_istore (lv' := [(5, .int (nI 0)), (0, .ref (bs + 0)), (1, .int (nI jv)), (2, .int ((bsY σ jv y).1)), (3, .int (lsF (bsY σ jv y))), (4, .int (nI y))]) hx hb (dg D_X11_bestPainting (i := 15) rfl) hl (by decide) rfl (fun ls hl => ?_)
        have loop29 := up_ind (P := fun g => ∀ (K29 : CI) (H : Heap) (locs : List Loc) (ls : Array Slot) (v2 : Int32) (v3 : Int32) (v5 : Int32), v2 = (bsG σ jv y (bsY σ jv y) g).1 → v3 = lsF (bsG σ jv y (bsY σ jv y) g) → v5 = nI g → (Fr (SPu q) I K29) → (BrAt K29 β σ) → (PlAt K29 q σ) → Wd G bs cy K29 L R H → va_S (Aq bs) s.heap H locs → lv_has ls 7 [(0, .ref (bs + 0)), (1, .int (nI jv)), (2, .int v2), (3, .int v3), (4, .int (nI y)), (5, .int v5)] → W p l e (rmL 7 1 6) s m args below meth c H locs (0 + 1) (0 + 6) Qf (F0 m 29 ls [])) (nG σ) (fun g hx29 ih29 => by
            intro K29 H locs ls v2 v3 v5 q2 q3 q5 hF hB hP hW hS hl
            subst q2
            subst q3
            subst q5
            refine lv_iload hx hb (dg D_X11_bestPainting (i := 16) rfl) (lv_at hl 5 rfl) ?_
            refine lv_aload_n hx hb (dg D_X11_bestPainting (i := 17) rfl) rfl (lv_at hl 0 rfl) ?_
            refine r_getr (v := β) X hW FI_X11_67 rfl (by decide) rfl hR7 (dg D_X11_bestPainting (i := 18) rfl) ?_
            refine rn_geti (v := nI (nG σ)) X hW FN_X11_226 (shB hβ) (ncB0 hβ) rfl (hB.c5 hi) (dg D_X11_bestPainting (i := 19) rfl) ?_
            refine n_icmp_ge (tgt := 91) hx hb (by omega) (by omega) (dg D_X11_bestPainting (i := 20) rfl) (by decide) (fun c38 => ?_) (fun c38 => ?_)
            · refine lv_iinc (v := nI (y + 1)) (lv' := [(4, .int (nI (y + 1))), (0, .ref (bs + 0)), (1, .int (nI jv)), (2, .int ((bsG σ jv y (bsY σ jv y) g).1)), (3, .int (lsF (bsG σ jv y (bsY σ jv y) g))), (5, .int (nI g))]) hx hb (dg D_X11_bestPainting (i := 47) rfl) hl (k := 4) rfl (nI_add _ _) (by decide) rfl (fun ls hl => ?_)
              refine lv_goto (tgt := 14) hx hb (dg D_X11_bestPainting (i := 48) rfl) (by decide) ?_
              exact ih14 (by omega) K29 _ _ _ _ _ _ (by rw [show g = nG σ by omega]; rfl) (by rw [show g = nG σ by omega]; rfl) (congrArg nI (by omega)) hF hB hP hW hS (lv_sub hl [1, 2, 3, 4, 0] rfl)
            · refine lv_aload_n hx hb (dg D_X11_bestPainting (i := 21) rfl) rfl (lv_at hl 0 rfl) ?_
              refine r_getr (v := q) X hW FI_X11_71 rfl (by decide) rfl hR8 (dg D_X11_bestPainting (i := 22) rfl) ?_
              refine lv_iload hx hb (dg D_X11_bestPainting (i := 23) rfl) (lv_at hl 4 rfl) ?_
              refine lv_iload_n hx hb (dg D_X11_bestPainting (i := 24) rfl) rfl (lv_at hl 1 rfl) ?_
              refine lv_iload hx hb (dg D_X11_bestPainting (i := 25) rfl) (lv_at hl 5 rfl) ?_
              refine callVi X hW hS hR (c_X6_reasonAgainst (I := K29) σ β q y jv g (by first | assumption | omega | decide | exact hP.1) (by first | assumption | omega | decide | exact hP.1) (by first | assumption | omega | decide | exact hP.1) (by first | assumption | omega | decide | exact hP.1) (by first | assumption | omega | decide | exact hP.1) (by first | assumption | omega | decide | exact hP.1) (by first | assumption | omega | decide | exact hP.1) (by first | assumption | omega | decide | exact hP.1) (by first | assumption | omega | decide | exact hP.1) (by first | assumption | omega | decide | exact hP.1)) (by decide) UVX6_reasonAgainst LK_X11_243 (shP hq) (ncP0 hq) rfl rfl rfl (Nat.le_of_ble_eq_true rfl) hl hcs (dg D_X11_bestPainting (i := 26) rfl) (fun r50 I50 L1 R1 H locs hq hW hS => ?_)
              obtain ⟨rfl, rfl, rfl, rfl⟩ := hq
              refine lv_if_ne (tgt := 85) hx hb (dg D_X11_bestPainting (i := 27) rfl) (by decide) (fun c53 => ?_) (fun c53 => ?_)
              · refine lv_iinc (v := nI (g + 1)) (lv' := [(5, .int (nI (g + 1))), (0, .ref (bs + 0)), (1, .int (nI jv)), (2, .int ((bsG σ jv y (bsY σ jv y) g).1)), (3, .int (lsF (bsG σ jv y (bsY σ jv y) g))), (4, .int (nI y))]) hx hb (dg D_X11_bestPainting (i := 45) rfl) hl (k := 5) rfl (nI_add _ _) (by decide) rfl (fun ls hl => ?_)
                refine lv_goto (tgt := 29) hx hb (dg D_X11_bestPainting (i := 46) rfl) (by decide) ?_
                have hbs : bsG σ jv y (bsY σ jv y) (g + 1) = _ := bs_c1 c53
                exact ih29 (by omega) K29 _ _ _ _ _ _ (by rw [hbs]) (by rw [hbs]) (congrArg nI (by omega)) hF hB hP hW hS (lv_sub hl [1, 2, 3, 4, 5, 0] rfl)
              · refine lv_aload_n hx hb (dg D_X11_bestPainting (i := 28) rfl) rfl (lv_at hl 0 rfl) ?_
                refine lv_iload hx hb (dg D_X11_bestPainting (i := 29) rfl) (lv_at hl 4 rfl) ?_
                refine lv_iload_n hx hb (dg D_X11_bestPainting (i := 30) rfl) rfl (lv_at hl 1 rfl) ?_
                refine lv_iload hx hb (dg D_X11_bestPainting (i := 31) rfl) (lv_at hl 5 rfl) ?_
                refine callVi X hW hS hR (c_X11_pastCountWith (I := K29) σ β q y jv (nI g) (by first | assumption | omega | decide | exact hP.1) (by first | assumption | omega | decide | exact hP.1) (by first | assumption | omega | decide | exact hP.1) (by first | assumption | omega | decide | exact hP.1) (by first | assumption | omega | decide | exact hP.1) (by first | assumption | omega | decide | exact hP.1) (by first | assumption | omega | decide | exact hP.1) (by first | assumption | omega | decide | exact hP.1) (by first | assumption | omega | decide | exact hP.1) (by first | assumption | omega | decide | exact hP.1)) (by decide) UVX11_pastCountWith LK_X11_247 rfl (by decide) rfl rfl rfl (Nat.le_of_ble_eq_true rfl) hl hcs (dg D_X11_bestPainting (i := 32) rfl) (fun r62 I62 L1 R1 H locs hq hW hS => ?_)
                obtain ⟨rfl, hT62, hp62_0, rfl, rfl⟩ := hq
                have hF : Fr (SPu q) I I62 := Fr.tr hF hT62 (fun _ _ h => h)
                have hB : BrAt I62 β σ := BrAt.fr hB hT62 (fun a j h1 h2 => Bool.eq_false_iff.mpr (fun h => by simp only [SPu, Bool.or_eq_true, Bool.and_eq_true, beq_iff_eq, decide_eq_true_eq] at h; omega))
                have hP : PlAt I62 q σ := hp62_0
                refine lv_istore (lv' := [(6, .int (cntP (setP σ jv y (nI g)))), (0, .ref (bs + 0)), (1, .int (nI jv)), (2, .int ((bsG σ jv y (bsY σ jv y) g).1)), (3, .int (lsF (bsG σ jv y (bsY σ jv y) g))), (4, .int (nI y)), (5, .int (nI g))]) hx hb (dg D_X11_bestPainting (i := 33) rfl) hl (by decide) rfl (fun ls hl => ?_)
                refine lv_iload hx hb (dg D_X11_bestPainting (i := 34) rfl) (lv_at hl 0 rfl) ?_
                refine lv_iload_n hx hb (dg D_X11_bestPainting (i := 35) rfl) rfl (lv_at hl 4 rfl) ?_
                refine lv_icmp_ge (tgt := 85) hx hb (dg D_X11_bestPainting (i := 36) rfl) (by decide) (fun c70 => ?_) (fun c70 => ?_)
                · refine lv_iinc (v := nI (g + 1)) (lv' := [(5, .int (nI (g + 1))), (6, .int (cntP (setP σ jv y (nI g)))), (0, .ref (bs + 0)), (1, .int (nI jv)), (2, .int ((bsG σ jv y (bsY σ jv y) g).1)), (3, .int (lsF (bsG σ jv y (bsY σ jv y) g))), (4, .int (nI y))]) hx hb (dg D_X11_bestPainting (i := 45) rfl) hl (k := 6) rfl (nI_add _ _) (by decide) rfl (fun ls hl => ?_)
                  refine lv_goto (tgt := 29) hx hb (dg D_X11_bestPainting (i := 46) rfl) (by decide) ?_
                  have hbs : bsG σ jv y (bsY σ jv y) (g + 1) = _ := bs_c2 (by first | exact c53 | exact Classical.not_not.mp c53) hS12 c70
                  exact ih29 (by omega) I62 _ _ _ _ _ _ (by rw [hbs]) (by rw [hbs]) (congrArg nI (by omega)) hF hB hP hW hS (lv_sub hl [2, 3, 4, 5, 6, 0] rfl)
                · refine lv_iload hx hb (dg D_X11_bestPainting (i := 37) rfl) (lv_at hl 0 rfl) ?_
                  refine lv_istore_n (lv' := [(3, .int (cntP (setP σ jv y (nI g)))), (6, .int (cntP (setP σ jv y (nI g)))), (0, .ref (bs + 0)), (1, .int (nI jv)), (2, .int ((bsG σ jv y (bsY σ jv y) g).1)), (4, .int (nI y)), (5, .int (nI g))]) hx hb (dg D_X11_bestPainting (i := 38) rfl) rfl hl (by decide) rfl (fun ls hl => ?_)
                  refine lv_bipush (v := nI 10) hx hb (dg D_X11_bestPainting (i := 39) rfl) (by decide) ?_
                  refine lv_iload hx hb (dg D_X11_bestPainting (i := 40) rfl) (lv_at hl 5 rfl) ?_
                  refine n_imul hx hb (dg D_X11_bestPainting (i := 41) rfl) ?_
                  refine lv_iload hx hb (dg D_X11_bestPainting (i := 42) rfl) (lv_at hl 6 rfl) ?_
                  refine n_iadd hx hb (dg D_X11_bestPainting (i := 43) rfl) ?_
                  refine lv_istore_n (lv' := [(2, .int (nI ((10 * y) + g))), (3, .int (cntP (setP σ jv y (nI g)))), (6, .int (cntP (setP σ jv y (nI g)))), (0, .ref (bs + 0)), (1, .int (nI jv)), (4, .int (nI y)), (5, .int (nI g))]) hx hb (dg D_X11_bestPainting (i := 44) rfl) rfl hl (by decide) rfl (fun ls hl => ?_)
                  refine lv_iinc (v := nI (g + 1)) (lv' := [(5, .int (nI (g + 1))), (2, .int (nI ((10 * y) + g))), (3, .int (cntP (setP σ jv y (nI g)))), (6, .int (cntP (setP σ jv y (nI g)))), (0, .ref (bs + 0)), (1, .int (nI jv)), (4, .int (nI y))]) hx hb (dg D_X11_bestPainting (i := 45) rfl) hl (k := 6) rfl (nI_add _ _) (by decide) rfl (fun ls hl => ?_)
                  refine lv_goto (tgt := 29) hx hb (dg D_X11_bestPainting (i := 46) rfl) (by decide) ?_
                  have hbs : bsG σ jv y (bsY σ jv y) (g + 1) = _ := bs_c3 (by first | exact c53 | exact Classical.not_not.mp c53) c70
                  exact ih29 (by omega) I62 _ _ _ _ _ _ (by rw [hbs]) (by rw [hbs, lsF_n (by omega)]) (congrArg nI (by omega)) hF hB hP hW hS (lv_sub hl [4, 5, 1, 2, 6, 0] rfl))
        exact loop29 0 (Nat.zero_le _) K14 _ _ _ _ _ _ (rfl) (rfl) (congrArg nI (by omega)) hF hB hP hW hS (lv_sub hl [1, 2, 3, 4, 5, 0] rfl))
  exact loop14 0 (Nat.zero_le _) I _ _ _ _ _ _ (rfl) (rfl) (congrArg nI (by omega)) hF hB hP hW hS (lv_sub hl [3, 4, 2, 1, 0] rfl)

set_option maxHeartbeats 4000000 in
set_option maxRecDepth 100000 in
theorem c_X11_needlessPaintings {l : Launch} {G : va_G} {bs : Nat} {cy : Nat → ClassId} {I : CI} {L : CL} {R : CR} (σ : Row) (β : Nat) (q : Nat) (v : Int32) (hl0 : l.stackTraces = false) (hi : Inv σ) (hd : DR σ) (hβ : isBr β) (hB : BrAt I β σ) (hq : isPl q) (hP : PlAt I q σ) (hRb : R q 0 = β) (hR7 : R 0 7 = β) (hR8 : R 0 8 = q) : XTi l G bs cy MX11_needlessPaintings 7 [.ref (bs + 0), .int v] I L R (fun r I1 L1 R1 => ((inB v (Yn σ)) = true ∧ r = orT (setF (ndl σ (tN v))) (nS σ)) ∧ Fr (SPu q) I I1 ∧ PlAt I1 q σ ∧ L = L1 ∧ R = R1) (fun E => E = IOE ∧ (inB v (Yn σ)) = false) 1 6 := by
  refine XTi.of (own := RX11) pn_RX11 rfl (Nat.le_of_ble_eq_true rfl) ?_
  intro p e s m args below meth c Qc Qf X hW hS htab hlk hQf fin ls hl
  have hx := X.1
  have hb := X.2.1
  have hR : RmOK (rmL 7 1 6) 7 := ⟨rfl, rfl⟩
  have hcs : 0 ≤ (rmL 7 1 6).cells ∧ 0 ≤ (rmL 7 1 6).slots := ⟨Nat.zero_le _, Nat.zero_le _⟩
  have hl : lv_has ls 5 [(0, .ref (bs + 0)), (1, .int v)] := hl
  have hF : Fr (SPu q) I I := Fr.rf
  obtain ⟨hY, hY1, hY12, hLn, hL4, hSn, hS12, hGn, hG5⟩ := id hi
  have hbq := br_pl hβ hq
  refine lv_aload_n hx hb (dg D_X11_needlessPaintings (i := 0) rfl) rfl (lv_at hl 0 rfl) ?_
  refine lv_iload_n hx hb (dg D_X11_needlessPaintings (i := 1) rfl) rfl (lv_at hl 1 rfl) ?_
  refine callXv X hW hS hR htab hlk hQf (c_X11_checkYear (I := I) σ β v (by first | assumption | omega | decide | exact hP.1) (by first | assumption | omega | decide | exact hP.1) (by first | assumption | omega | decide | exact hP.1) (by first | assumption | omega | decide | exact hP.1) (by first | assumption | omega | decide | exact hP.1)) (fun E hE => ⟨hE.1, by simp [hE.2]⟩) (by decide) UVX11_checkYear LK_X11_134 rfl (by decide) rfl rfl rfl (Nat.le_of_ble_eq_true rfl) hl (Nat.le_of_ble_eq_true rfl) (Nat.le_of_ble_eq_true rfl) (Nat.le_of_ble_eq_true rfl) (Nat.le_of_ble_eq_true rfl) (dg D_X11_needlessPaintings (i := 2) rfl) (fun I2 L1 R1 H locs hq hW hS => ?_)
  have hcs : 0 + 1 ≤ (rmL 7 1 6).cells ∧ 0 + 6 ≤ (rmL 7 1 6).slots := ⟨Nat.le_of_ble_eq_true rfl, Nat.le_of_ble_eq_true rfl⟩
  obtain ⟨hr2, rfl, rfl, rfl⟩ := hq
  obtain ⟨jv, hjv, rfl⟩ := inB_of hr2 (by omega)
  refine lv_aload_n hx hb (dg D_X11_needlessPaintings (i := 3) rfl) rfl (lv_at hl 0 rfl) ?_
  refine r_getr (v := q) X hW FI_X11_71 rfl (by decide) rfl hR8 (dg D_X11_needlessPaintings (i := 4) rfl) ?_
  refine callVi X hW hS hR (c_X6_countPast (I := I) σ β q (by first | assumption | omega | decide | exact hP.1) (by first | assumption | omega | decide | exact hP.1) (by first | assumption | omega | decide | exact hP.1) (by first | assumption | omega | decide | exact hP.1) (by first | assumption | omega | decide | exact hP.1) (by first | assumption | omega | decide | exact hP.1)) (by decide) UVX6_countPast LK_X11_151 (shP hq) (ncP0 hq) rfl rfl rfl (Nat.le_of_ble_eq_true rfl) hl hcs (dg D_X11_needlessPaintings (i := 5) rfl) (fun r9 I9 L1 R1 H locs hq hW hS => ?_)
  obtain ⟨rfl, rfl, rfl, rfl⟩ := hq
  refine lv_istore_n (lv' := [(2, .int (cntP σ)), (0, .ref (bs + 0)), (1, .int (nI jv))]) hx hb (dg D_X11_needlessPaintings (i := 6) rfl) rfl hl (by decide) rfl (fun ls hl => ?_)
  refine n_iconst (a := 0) hx hb (dg D_X11_needlessPaintings (i := 7) rfl) rfl ?_
  refine lv_istore_n (lv' := [(3, .int (nI 0)), (2, .int (cntP σ)), (0, .ref (bs + 0)), (1, .int (nI jv))]) hx hb (dg D_X11_needlessPaintings (i := 8) rfl) rfl hl (by decide) rfl (fun ls hl => ?_)
  refine n_iconst (a := 0) hx hb (dg D_X11_needlessPaintings (i := 9) rfl) rfl ?_
  refine lv_istore (lv' := [(4, .int (nI 0)), (3, .int (nI 0)), (2, .int (cntP σ)), (0, .ref (bs + 0)), (1, .int (nI jv))]) hx hb (dg D_X11_needlessPaintings (i := 10) rfl) hl (by decide) rfl (fun ls hl => ?_)
  have loop18 := up_ind (P := fun x => ∀ (K18 : CI) (H : Heap) (locs : List Loc) (ls : Array Slot) (v3 : Int32) (v4 : Int32), v3 = orT (setF (ndl σ jv)) x → v4 = nI x → (Fr (SPu q) I K18) → (BrAt K18 β σ) → (PlAt K18 q σ) → Wd G bs cy K18 L R H → va_S (Aq bs) s.heap H locs → lv_has ls 5 [(0, .ref (bs + 0)), (1, .int (nI jv)), (2, .int (cntP σ)), (3, .int v3), (4, .int v4)] → W p l e (rmL 7 1 6) s m args below meth c H locs (0 + 1) (0 + 6) Qf (F0 m 18 ls [])) (nS σ) (fun x hx18 ih18 => by
      intro K18 H locs ls v3 v4 q3 q4 hF hB hP hW hS hl
      subst q3
      subst q4
      refine lv_iload hx hb (dg D_X11_needlessPaintings (i := 11) rfl) (lv_at hl 4 rfl) ?_
      refine lv_aload_n hx hb (dg D_X11_needlessPaintings (i := 12) rfl) rfl (lv_at hl 0 rfl) ?_
      refine r_getr (v := β) X hW FI_X11_67 rfl (by decide) rfl hR7 (dg D_X11_needlessPaintings (i := 13) rfl) ?_
      refine rn_geti (v := nI (nS σ)) X hW FN_X11_128 (shB hβ) (ncB0 hβ) rfl (hB.c4 hi) (dg D_X11_needlessPaintings (i := 14) rfl) ?_
      refine n_icmp_ge (tgt := 68) hx hb (by omega) (by omega) (dg D_X11_needlessPaintings (i := 15) rfl) (by decide) (fun c27 => ?_) (fun c27 => ?_)
      · refine lv_iload_n hx hb (dg D_X11_needlessPaintings (i := 37) rfl) rfl (lv_at hl 3 rfl) ?_
        exact fin (dg D_X11_needlessPaintings (i := 38) rfl) (Nat.le_of_ble_eq_true rfl) (Nat.le_of_ble_eq_true rfl) hW hS ⟨⟨by simp [hr2], by rw [tN_nI (show jv < 2 ^ 31 by omega), show x = nS σ by omega]⟩, hF, hP, rfl, rfl⟩
      · refine lv_aload_n hx hb (dg D_X11_needlessPaintings (i := 16) rfl) rfl (lv_at hl 0 rfl) ?_
        refine r_getr (v := q) X hW FI_X11_71 rfl (by decide) rfl hR8 (dg D_X11_needlessPaintings (i := 17) rfl) ?_
        refine lv_iload_n hx hb (dg D_X11_needlessPaintings (i := 18) rfl) rfl (lv_at hl 1 rfl) ?_
        refine lv_iload hx hb (dg D_X11_needlessPaintings (i := 19) rfl) (lv_at hl 4 rfl) ?_
        refine callVi X hW hS hR (c_X6_isPainted (I := K18) σ q jv x (by first | assumption | omega | decide | exact hP.1) (by first | assumption | omega | decide | exact hP.1) (by first | assumption | omega | decide | exact hP.1) (by first | assumption | omega | decide | exact hP.1)) (by decide) UVX6_isPainted LK_X11_199 (shP hq) (ncP0 hq) rfl rfl rfl (Nat.le_of_ble_eq_true rfl) hl hcs (dg D_X11_needlessPaintings (i := 20) rfl) (fun r37 I37 L1 R1 H locs hq hW hS => ?_)
        obtain ⟨rfl, rfl, rfl, rfl⟩ := hq
        refine z_if_eq (tgt := 62) hx hb (dg D_X11_needlessPaintings (i := 21) rfl) (by decide) (fun c40 => ?_) (fun c40 => ?_)
        · refine lv_iinc (v := nI (x + 1)) (lv' := [(4, .int (nI (x + 1))), (0, .ref (bs + 0)), (1, .int (nI jv)), (2, .int (cntP σ)), (3, .int (orT (setF (ndl σ jv)) x))]) hx hb (dg D_X11_needlessPaintings (i := 35) rfl) hl (k := 4) rfl (nI_add _ _) (by decide) rfl (fun ls hl => ?_)
          refine lv_goto (tgt := 18) hx hb (dg D_X11_needlessPaintings (i := 36) rfl) (by decide) ?_
          exact ih18 (by omega) K18 _ _ _ _ _ (by show _ = _ ||| setF (ndl σ jv) x; rw [setF_f (p := ndl σ jv) (ndl_1 (Classical.not_not.mp (of_decide_eq_false c40))), or_n0]) (congrArg nI (by omega)) hF hB hP hW hS (lv_sub hl [1, 2, 3, 4, 0] rfl)
        · refine lv_aload_n hx hb (dg D_X11_needlessPaintings (i := 22) rfl) rfl (lv_at hl 0 rfl) ?_
          refine lv_iload_n hx hb (dg D_X11_needlessPaintings (i := 23) rfl) rfl (lv_at hl 1 rfl) ?_
          refine lv_iload hx hb (dg D_X11_needlessPaintings (i := 24) rfl) (lv_at hl 4 rfl) ?_
          refine lv_iconst (v := -1) hx hb (dg D_X11_needlessPaintings (i := 25) rfl) (by decide) ?_
          refine callVi X hW hS hR (c_X11_pastCountWith (I := K18) σ β q jv x ((-1)) (by first | assumption | omega | decide | exact hP.1) (by first | assumption | omega | decide | exact hP.1) (by first | assumption | omega | decide | exact hP.1) (by first | assumption | omega | decide | exact hP.1) (by first | assumption | omega | decide | exact hP.1) (by first | assumption | omega | decide | exact hP.1) (by first | assumption | omega | decide | exact hP.1) (by first | assumption | omega | decide | exact hP.1) (by first | assumption | omega | decide | exact hP.1) (by first | assumption | omega | decide | exact hP.1)) (by decide) UVX11_pastCountWith LK_X11_247 rfl (by decide) rfl rfl rfl (Nat.le_of_ble_eq_true rfl) hl hcs (dg D_X11_needlessPaintings (i := 26) rfl) (fun r48 I48 L1 R1 H locs hq hW hS => ?_)
          obtain ⟨rfl, hT48, hp48_0, rfl, rfl⟩ := hq
          have hF : Fr (SPu q) I I48 := Fr.tr hF hT48 (fun _ _ h => h)
          have hB : BrAt I48 β σ := BrAt.fr hB hT48 (fun a j h1 h2 => Bool.eq_false_iff.mpr (fun h => by simp only [SPu, Bool.or_eq_true, Bool.and_eq_true, beq_iff_eq, decide_eq_true_eq] at h; omega))
          have hP : PlAt I48 q σ := hp48_0
          refine lv_iload_n hx hb (dg D_X11_needlessPaintings (i := 27) rfl) rfl (lv_at hl 2 rfl) ?_
          refine lv_icmp_gt (tgt := 62) hx hb (dg D_X11_needlessPaintings (i := 28) rfl) (by decide) (fun c52 => ?_) (fun c52 => ?_)
          · refine lv_iinc (v := nI (x + 1)) (lv' := [(4, .int (nI (x + 1))), (0, .ref (bs + 0)), (1, .int (nI jv)), (2, .int (cntP σ)), (3, .int (orT (setF (ndl σ jv)) x))]) hx hb (dg D_X11_needlessPaintings (i := 35) rfl) hl (k := 4) rfl (nI_add _ _) (by decide) rfl (fun ls hl => ?_)
            refine lv_goto (tgt := 18) hx hb (dg D_X11_needlessPaintings (i := 36) rfl) (by decide) ?_
            exact ih18 (by omega) I48 _ _ _ _ _ (by show _ = _ ||| setF (ndl σ jv) x; rw [setF_f (p := ndl σ jv) (ndl_2 c52), or_n0]) (congrArg nI (by omega)) hF hB hP hW hS (lv_sub hl [1, 2, 3, 4, 0] rfl)
          · refine lv_iload_n hx hb (dg D_X11_needlessPaintings (i := 29) rfl) rfl (lv_at hl 3 rfl) ?_
            refine n_iconst (a := 1) hx hb (dg D_X11_needlessPaintings (i := 30) rfl) rfl ?_
            refine lv_iload hx hb (dg D_X11_needlessPaintings (i := 31) rfl) (lv_at hl 4 rfl) ?_
            refine lv_ishl hx hb (dg D_X11_needlessPaintings (i := 32) rfl) ?_
            refine lv_ior hx hb (dg D_X11_needlessPaintings (i := 33) rfl) ?_
            refine lv_istore_n (lv' := [(3, .int ((orT (setF (ndl σ jv)) x) ||| ((nI 1) <<< ((nI x) &&& 31)))), (0, .ref (bs + 0)), (1, .int (nI jv)), (2, .int (cntP σ)), (4, .int (nI x))]) hx hb (dg D_X11_needlessPaintings (i := 34) rfl) rfl hl (by decide) rfl (fun ls hl => ?_)
            refine lv_iinc (v := nI (x + 1)) (lv' := [(4, .int (nI (x + 1))), (3, .int ((orT (setF (ndl σ jv)) x) ||| ((nI 1) <<< ((nI x) &&& 31)))), (0, .ref (bs + 0)), (1, .int (nI jv)), (2, .int (cntP σ))]) hx hb (dg D_X11_needlessPaintings (i := 35) rfl) hl (k := 4) rfl (nI_add _ _) (by decide) rfl (fun ls hl => ?_)
            refine lv_goto (tgt := 18) hx hb (dg D_X11_needlessPaintings (i := 36) rfl) (by decide) ?_
            exact ih18 (by omega) I48 _ _ _ _ _ (by show _ = _ ||| setF (ndl σ jv) x; rw [setF_t (p := ndl σ jv) (ndl_3 (of_decide_eq_true c40) c52)]) (congrArg nI (by omega)) hF hB hP hW hS (lv_sub hl [2, 3, 4, 1, 0] rfl))
  exact loop18 0 (Nat.zero_le _) I _ _ _ _ _ (rfl) (congrArg nI (by omega)) hF hB hP hW hS (lv_sub hl [3, 4, 2, 1, 0] rfl)

set_option maxHeartbeats 4000000 in
set_option maxRecDepth 100000 in
theorem c_X11_urgent {l : Launch} {G : va_G} {bs : Nat} {cy : Nat → ClassId} {I : CI} {L : CL} {R : CR} (σ : Row) (β : Nat) (q : Nat) (v : Int32) (hl0 : l.stackTraces = false) (hi : Inv σ) (hd : DR σ) (hβ : isBr β) (hB : BrAt I β σ) (hq : isPl q) (hP : PlAt I q σ) (hRb : R q 0 = β) (hR7 : R 0 7 = β) (hR8 : R 0 8 = q) : XTi l G bs cy MX11_urgent 7 [.ref (bs + 0), .int v] I L R (fun r I1 L1 R1 => (inB v (nS σ) = true ∧ r = rkd (urF σ) (urL σ) (nS σ) v) ∧ Fr (SRk 7) I I1 ∧ L = L1 ∧ R = R1) (fun E => E = IOE ∧ inB v (nS σ) = false) 1 6 := by
  refine XTi.of (own := RX11) pn_RX11 rfl (Nat.le_of_ble_eq_true rfl) ?_
  intro p e s m args below meth c Qc Qf X hW hS htab hlk hQf fin ls hl
  have hx := X.1
  have hb := X.2.1
  have hR : RmOK (rmL 7 1 6) 7 := ⟨rfl, rfl⟩
  have hcs : 0 ≤ (rmL 7 1 6).cells ∧ 0 ≤ (rmL 7 1 6).slots := ⟨Nat.zero_le _, Nat.zero_le _⟩
  have hl : lv_has ls 5 [(0, .ref (bs + 0)), (1, .int v)] := hl
  have hF : Fr (SRk 7) I I := Fr.rf
  obtain ⟨hY, hY1, hY12, hLn, hL4, hSn, hS12, hGn, hG5⟩ := id hi
  have hbq := br_pl hβ hq
  refine lv_iload_n hx hb (dg D_X11_urgent (i := 0) rfl) rfl (lv_at hl 1 rfl) ?_
  refine lv_if_lt (tgt := 15) hx hb (dg D_X11_urgent (i := 1) rfl) (by decide) (fun c1 => ?_) (fun c1 => ?_)
  · exact r_th0 X hl0 htab hlk hQf ⟨rfl, inB_lo c1⟩ hW hS hR (Nat.le_of_ble_eq_true rfl) (List.mem_of_getElem? (i := 3) rfl) hl (Nat.le_of_ble_eq_true rfl) (Nat.le_of_ble_eq_true rfl) (Nat.le_of_ble_eq_true rfl) (Nat.le_of_ble_eq_true rfl) (Nat.le_of_ble_eq_true rfl) (dg D_X11_urgent (i := 7) rfl) (dg D_X11_urgent (i := 8) rfl) (dg D_X11_urgent (i := 9) rfl) (dg D_X11_urgent (i := 10) rfl) (dg D_X11_urgent (i := 11) rfl)
  · refine lv_iload_n hx hb (dg D_X11_urgent (i := 2) rfl) rfl (lv_at hl 1 rfl) ?_
    refine lv_aload_n hx hb (dg D_X11_urgent (i := 3) rfl) rfl (lv_at hl 0 rfl) ?_
    refine r_getr (v := β) X hW FI_X11_67 rfl (by decide) rfl hR7 (dg D_X11_urgent (i := 4) rfl) ?_
    refine rn_geti (v := nI (nS σ)) X hW FN_X11_128 (shB hβ) (ncB0 hβ) rfl (hB.c4 hi) (dg D_X11_urgent (i := 5) rfl) ?_
    refine lv_icmp_lt (tgt := 25) hx hb (dg D_X11_urgent (i := 6) rfl) (by decide) (fun c12 => ?_) (fun c12 => ?_)
    · have hok : inB v (nS σ) = true := inB_ok c1 c12 (by omega)
      obtain ⟨jv, hjv, rfl⟩ := inB_of hok (by omega)
      refine lv_aload_n hx hb (dg D_X11_urgent (i := 12) rfl) rfl (lv_at hl 0 rfl) ?_
      refine r_getc (t := 7) X hW FI_X11_26 rfl (by decide) rfl (dg D_X11_urgent (i := 13) rfl) ?_
      refine callVv X hW hS hR (c_X7_clear (I := I) 7 (Or.inr (Or.inr rfl))) (by decide) UVX7_clear LK_X11_167 rfl (by decide) rfl rfl rfl (Nat.le_of_ble_eq_true rfl) hl hcs (dg D_X11_urgent (i := 14) rfl) (fun I29 L1 R1 H locs hq hW hS => ?_)
      obtain ⟨hT29, hp29_0, rfl, rfl⟩ := hq
      have hF : Fr (SRk 7) I I29 := Fr.tr hF hT29 (fun _ _ h => h)
      have hB : BrAt I29 β σ := BrAt.fr hB hT29 (fun a j h1 h2 => Bool.eq_false_iff.mpr (fun h => by simp only [SRk, Bool.or_eq_true, Bool.and_eq_true, beq_iff_eq, decide_eq_true_eq] at h; omega))
      have hP : PlAt I29 q σ := PlAt.fr hP hT29 (fun a j h1 h2 => Bool.eq_false_iff.mpr (fun h => by simp only [SRk, Bool.or_eq_true, Bool.and_eq_true, beq_iff_eq, decide_eq_true_eq] at h; omega))
      refine n_iconst (a := 0) hx hb (dg D_X11_urgent (i := 15) rfl) rfl ?_
      refine lv_istore_n (lv' := [(2, .int (nI 0)), (0, .ref (bs + 0)), (1, .int (nI jv))]) hx hb (dg D_X11_urgent (i := 16) rfl) rfl hl (by decide) rfl (fun ls hl => ?_)
      have loop34 := up_ind (P := fun x => ∀ (K34 : CI) (H : Heap) (locs : List Loc) (ls : Array Slot) (v2 : Int32), v2 = nI x → (Fr (SRk 7) I K34) → (BrAt K34 β σ) → (PlAt K34 q σ) → (RkAt K34 7 (fun _ => true) (ahd (urF σ) (urL σ)) (kU σ) x) → Wd G bs cy K34 L R H → va_S (Aq bs) s.heap H locs → lv_has ls 5 [(0, .ref (bs + 0)), (1, .int (nI jv)), (2, .int v2)] → W p l e (rmL 7 1 6) s m args below meth c H locs 0 0 Qf (F0 m 34 ls [])) (nS σ) (fun x hx34 ih34 => by
          intro K34 H locs ls v2 q2 hF hB hP hRk hW hS hl
          subst q2
          refine lv_iload_n hx hb (dg D_X11_urgent (i := 17) rfl) rfl (lv_at hl 2 rfl) ?_
          refine lv_aload_n hx hb (dg D_X11_urgent (i := 18) rfl) rfl (lv_at hl 0 rfl) ?_
          refine r_getr (v := β) X hW FI_X11_67 rfl (by decide) rfl hR7 (dg D_X11_urgent (i := 19) rfl) ?_
          refine rn_geti (v := nI (nS σ)) X hW FN_X11_128 (shB hβ) (ncB0 hβ) rfl (hB.c4 hi) (dg D_X11_urgent (i := 20) rfl) ?_
          refine n_icmp_ge (tgt := 106) hx hb (by omega) (by omega) (dg D_X11_urgent (i := 21) rfl) (by decide) (fun c42 => ?_) (fun c42 => ?_)
          · have hRk : RkAt K34 7 (fun _ => true) (ahd (urF σ) (urL σ)) (kU σ) (nS σ) := by rw [show nS σ = x by omega]; exact hRk
            refine lv_aload_n hx hb (dg D_X11_urgent (i := 52) rfl) rfl (lv_at hl 0 rfl) ?_
            refine r_getc (t := 7) X hW FI_X11_26 rfl (by decide) rfl (dg D_X11_urgent (i := 53) rfl) ?_
            refine lv_iload_n hx hb (dg D_X11_urgent (i := 54) rfl) rfl (lv_at hl 1 rfl) ?_
            refine callVi X hW hS hR (c_X7_spanAt (I := K34) 7 (cntB (fun _ => true) (nS σ)) (fun j => kU σ (elK (fun _ => true) (ahd (urF σ) (urL σ)) (nS σ) j)) jv (Or.inr (Or.inr rfl)) (hRk.2) (by rw [cnt_true]; exact hjv) (by rw [cnt_true]; exact hS12)) (by decide) UVX7_spanAt LK_X11_175 rfl (by decide) rfl rfl rfl (Nat.le_of_ble_eq_true rfl) hl hcs (dg D_X11_urgent (i := 55) rfl) (fun r111 I111 L1 R1 H locs hq hW hS => ?_)
            obtain ⟨rfl, rfl, rfl, rfl⟩ := hq
            rw [show nI ((fun j => kU σ (elK (fun _ => true) (ahd (urF σ) (urL σ)) (nS σ) j)) jv % 16) = rkd (urF σ) (urL σ) (nS σ) (nI jv) from ((congrArg nI (kN_x (by have := (rkd_el (fy := urF σ) (lr := urL σ) hS12 hjv).2; omega))).trans (rkd_el hS12 hjv).1.symm)]
            exact fin (dg D_X11_urgent (i := 56) rfl) (Nat.le_of_ble_eq_true rfl) (Nat.le_of_ble_eq_true rfl) hW hS ⟨⟨hok, rfl⟩, hF, rfl, rfl⟩
          · refine lv_aload_n hx hb (dg D_X11_urgent (i := 22) rfl) rfl (lv_at hl 0 rfl) ?_
            refine r_getr (v := q) X hW FI_X11_71 rfl (by decide) rfl hR8 (dg D_X11_urgent (i := 23) rfl) ?_
            refine lv_iload_n hx hb (dg D_X11_urgent (i := 24) rfl) rfl (lv_at hl 2 rfl) ?_
            refine callVi X hW hS hR (c_X6_firstPast (I := K34) σ β q x (by first | assumption | omega | decide | exact hP.1) (by first | assumption | omega | decide | exact hP.1) (by first | assumption | omega | decide | exact hP.1) (by first | assumption | omega | decide | exact hP.1) (by first | assumption | omega | decide | exact hP.1) (by first | assumption | omega | decide | exact hP.1) (by first | assumption | omega | decide | exact hP.1)) (by decide) UVX6_firstPast LK_X11_147 (shP hq) (ncP0 hq) rfl rfl rfl (Nat.le_of_ble_eq_true rfl) hl hcs (dg D_X11_urgent (i := 25) rfl) (fun r50 I50 L1 R1 H locs hq hW hS => ?_)
            obtain ⟨rfl, rfl, rfl, rfl⟩ := hq
            refine lv_istore_n (lv' := [(3, .int (fp σ x)), (0, .ref (bs + 0)), (1, .int (nI jv)), (2, .int (nI x))]) hx hb (dg D_X11_urgent (i := 26) rfl) rfl hl (by decide) rfl (fun ls hl => ?_)
            refine lv_iload_n hx hb (dg D_X11_urgent (i := 27) rfl) rfl (lv_at hl 0 rfl) ?_
            refine r_ldc X CK_X11_48 (dg D_X11_urgent (i := 28) rfl) ?_
            refine lv_icmp_ne (tgt := 70) hx hb (dg D_X11_urgent (i := 29) rfl) (by decide) (fun c57 => ?_) (fun c57 => ?_)
            · refine lv_iload_n hx hb (dg D_X11_urgent (i := 34) rfl) rfl (lv_at hl 0 rfl) ?_
              refine lv_istore (lv' := [(4, .int (fp σ x)), (3, .int (fp σ x)), (0, .ref (bs + 0)), (1, .int (nI jv)), (2, .int (nI x))]) hx hb (dg D_X11_urgent (i := 35) rfl) hl (by decide) rfl (fun ls hl => ?_)
              have hu2 : urF σ x = fp σ x := if_neg c57
              have hue : fp σ x = nI (tN (urF σ x)) := hu2.symm.trans (ur_all hd hi (x := x) (by omega)).1
              rw [hue] at hl
              refine lv_aload_n hx hb (dg D_X11_urgent (i := 36) rfl) rfl (lv_at hl 2 rfl) ?_
              refine r_getc (t := 7) X hW FI_X11_26 rfl (by decide) rfl (dg D_X11_urgent (i := 37) rfl) ?_
              refine lv_iload_n hx hb (dg D_X11_urgent (i := 38) rfl) rfl (lv_at hl 4 rfl) ?_
              refine lv_iload hx hb (dg D_X11_urgent (i := 39) rfl) (lv_at hl 0 rfl) ?_
              refine lv_aload_n hx hb (dg D_X11_urgent (i := 40) rfl) rfl (lv_at hl 2 rfl) ?_
              refine r_getr (v := q) X hW FI_X11_71 rfl (by decide) rfl hR8 (dg D_X11_urgent (i := 41) rfl) ?_
              refine lv_iload_n hx hb (dg D_X11_urgent (i := 42) rfl) rfl (lv_at hl 4 rfl) ?_
              refine lv_aload_n hx hb (dg D_X11_urgent (i := 43) rfl) rfl (lv_at hl 2 rfl) ?_
              refine r_getr (v := β) X hW FI_X11_67 rfl (by decide) rfl hR7 (dg D_X11_urgent (i := 44) rfl) ?_
              refine rn_geti (v := nI (Yn σ)) X hW FN_X11_168 (shB hβ) (ncB0 hβ) rfl (hB.c0 hi) (dg D_X11_urgent (i := 45) rfl) ?_
              refine n_iconst (a := 1) hx hb (dg D_X11_urgent (i := 46) rfl) rfl ?_
              refine n_isub hx hb (dg D_X11_urgent (i := 47) rfl) (by omega) ?_
              refine callVi X hW hS hR (c_X6_rustAtEnd (I := K34) σ q x ((Yn σ) - 1) (by first | assumption | omega | decide | exact hP.1) (by first | assumption | omega | decide | exact hP.1) (by first | assumption | omega | decide | exact hP.1) (by first | assumption | omega | decide | exact hP.1) (by first | assumption | omega | decide | exact hP.1)) (by decide) UVX6_rustAtEnd LK_X11_141 (shP hq) (ncP0 hq) rfl rfl rfl (Nat.le_of_ble_eq_true rfl) hl hcs (dg D_X11_urgent (i := 48) rfl) (fun r94 I94 L1 R1 H locs hq hW hS => ?_)
              obtain ⟨rfl, rfl, rfl, rfl⟩ := hq
              rw [show (rgS σ x (((Yn σ) - 1) + 1)).1 = nI (tN (urL σ x)) from by rw [show Yn σ - 1 + 1 = Yn σ by omega]; exact (ur_all hd hi (by omega)).2.1]
              refine callVv X hW hS hR (c_X7_add (I := K34) 7 (cntB (fun _ => true) x) (fun j => kU σ (elK (fun _ => true) (ahd (urF σ) (urL σ)) x j)) x (tN (urF σ x)) (tN (urL σ x)) (Or.inr (Or.inr rfl)) (hRk.1) (Nat.lt_of_le_of_lt (cntB_le _ _) (by omega)) (hRk.2) (fun j hj => by have h := (elK_is (ahd_StO (urF σ) (urL σ)) hj).1; have h2 := ur_all hd hi (x := elK (fun _ => true) (ahd (urF σ) (urL σ)) x j) (by omega); exact kN_b (by omega) (by omega)) (by first | assumption | omega | decide | exact hP.1) ((ur_all hd hi (by omega)).2.2.1) ((ur_all hd hi (by omega)).2.2.2)) (by decide) UVX7_add LK_X11_171 rfl (by decide) rfl rfl rfl (Nat.le_of_ble_eq_true rfl) hl hcs (dg D_X11_urgent (i := 49) rfl) (fun I97 L1 R1 H locs hq hW hS => ?_)
              obtain ⟨hT97, hp97_0, hp97_1, rfl, rfl⟩ := hq
              have hF : Fr (SRk 7) I I97 := Fr.tr hF hT97 (fun _ _ h => h)
              have hB : BrAt I97 β σ := BrAt.fr hB hT97 (fun a j h1 h2 => Bool.eq_false_iff.mpr (fun h => by simp only [SRk, Bool.or_eq_true, Bool.and_eq_true, beq_iff_eq, decide_eq_true_eq] at h; omega))
              have hP : PlAt I97 q σ := PlAt.fr hP hT97 (fun a j h1 h2 => Bool.eq_false_iff.mpr (fun h => by simp only [SRk, Bool.or_eq_true, Bool.and_eq_true, beq_iff_eq, decide_eq_true_eq] at h; omega))
              refine lv_iinc (v := nI (x + 1)) (lv' := [(2, .int (nI (x + 1))), (4, .int (nI (tN (urF σ x)))), (3, .int (nI (tN (urF σ x)))), (0, .ref (bs + 0)), (1, .int (nI jv))]) hx hb (dg D_X11_urgent (i := 50) rfl) hl (k := 4) rfl (nI_add _ _) (by decide) rfl (fun ls hl => ?_)
              refine lv_goto (tgt := 34) hx hb (dg D_X11_urgent (i := 51) rfl) (by decide) ?_
              exact ih34 (by omega) I97 _ _ _ _ (congrArg nI (by omega)) hF hB hP (RkAt.add (ahd_StO (urF σ) (urL σ)) (show x < nS σ by omega) rfl (kU_ahd hd hi) hp97_0 hp97_1) hW hS (lv_sub hl [3, 4, 0] rfl)
            · refine lv_aload_n hx hb (dg D_X11_urgent (i := 30) rfl) rfl (lv_at hl 1 rfl) ?_
              refine r_getr (v := β) X hW FI_X11_67 rfl (by decide) rfl hR7 (dg D_X11_urgent (i := 31) rfl) ?_
              refine rn_geti (v := nI (Yn σ)) X hW FN_X11_168 (shB hβ) (ncB0 hβ) rfl (hB.c0 hi) (dg D_X11_urgent (i := 32) rfl) ?_
              refine lv_goto (tgt := 71) hx hb (dg D_X11_urgent (i := 33) rfl) (by decide) ?_
              refine lv_istore (lv' := [(4, .int (nI (Yn σ))), (3, .int (fp σ x)), (0, .ref (bs + 0)), (1, .int (nI jv)), (2, .int (nI x))]) hx hb (dg D_X11_urgent (i := 35) rfl) hl (by decide) rfl (fun ls hl => ?_)
              have hu2 : urF σ x = nI (Yn σ) := if_pos (by first | exact c57 | exact Classical.not_not.mp c57)
              have hue : nI (Yn σ) = nI (tN (urF σ x)) := hu2.symm.trans (ur_all hd hi (x := x) (by omega)).1
              rw [hue] at hl
              refine lv_aload_n hx hb (dg D_X11_urgent (i := 36) rfl) rfl (lv_at hl 2 rfl) ?_
              refine r_getc (t := 7) X hW FI_X11_26 rfl (by decide) rfl (dg D_X11_urgent (i := 37) rfl) ?_
              refine lv_iload_n hx hb (dg D_X11_urgent (i := 38) rfl) rfl (lv_at hl 4 rfl) ?_
              refine lv_iload hx hb (dg D_X11_urgent (i := 39) rfl) (lv_at hl 0 rfl) ?_
              refine lv_aload_n hx hb (dg D_X11_urgent (i := 40) rfl) rfl (lv_at hl 2 rfl) ?_
              refine r_getr (v := q) X hW FI_X11_71 rfl (by decide) rfl hR8 (dg D_X11_urgent (i := 41) rfl) ?_
              refine lv_iload_n hx hb (dg D_X11_urgent (i := 42) rfl) rfl (lv_at hl 4 rfl) ?_
              refine lv_aload_n hx hb (dg D_X11_urgent (i := 43) rfl) rfl (lv_at hl 2 rfl) ?_
              refine r_getr (v := β) X hW FI_X11_67 rfl (by decide) rfl hR7 (dg D_X11_urgent (i := 44) rfl) ?_
              refine rn_geti (v := nI (Yn σ)) X hW FN_X11_168 (shB hβ) (ncB0 hβ) rfl (hB.c0 hi) (dg D_X11_urgent (i := 45) rfl) ?_
              refine n_iconst (a := 1) hx hb (dg D_X11_urgent (i := 46) rfl) rfl ?_
              refine n_isub hx hb (dg D_X11_urgent (i := 47) rfl) (by omega) ?_
              refine callVi X hW hS hR (c_X6_rustAtEnd (I := K34) σ q x ((Yn σ) - 1) (by first | assumption | omega | decide | exact hP.1) (by first | assumption | omega | decide | exact hP.1) (by first | assumption | omega | decide | exact hP.1) (by first | assumption | omega | decide | exact hP.1) (by first | assumption | omega | decide | exact hP.1)) (by decide) UVX6_rustAtEnd LK_X11_141 (shP hq) (ncP0 hq) rfl rfl rfl (Nat.le_of_ble_eq_true rfl) hl hcs (dg D_X11_urgent (i := 48) rfl) (fun r94 I94 L1 R1 H locs hq hW hS => ?_)
              obtain ⟨rfl, rfl, rfl, rfl⟩ := hq
              rw [show (rgS σ x (((Yn σ) - 1) + 1)).1 = nI (tN (urL σ x)) from by rw [show Yn σ - 1 + 1 = Yn σ by omega]; exact (ur_all hd hi (by omega)).2.1]
              refine callVv X hW hS hR (c_X7_add (I := K34) 7 (cntB (fun _ => true) x) (fun j => kU σ (elK (fun _ => true) (ahd (urF σ) (urL σ)) x j)) x (tN (urF σ x)) (tN (urL σ x)) (Or.inr (Or.inr rfl)) (hRk.1) (Nat.lt_of_le_of_lt (cntB_le _ _) (by omega)) (hRk.2) (fun j hj => by have h := (elK_is (ahd_StO (urF σ) (urL σ)) hj).1; have h2 := ur_all hd hi (x := elK (fun _ => true) (ahd (urF σ) (urL σ)) x j) (by omega); exact kN_b (by omega) (by omega)) (by first | assumption | omega | decide | exact hP.1) ((ur_all hd hi (by omega)).2.2.1) ((ur_all hd hi (by omega)).2.2.2)) (by decide) UVX7_add LK_X11_171 rfl (by decide) rfl rfl rfl (Nat.le_of_ble_eq_true rfl) hl hcs (dg D_X11_urgent (i := 49) rfl) (fun I97 L1 R1 H locs hq hW hS => ?_)
              obtain ⟨hT97, hp97_0, hp97_1, rfl, rfl⟩ := hq
              have hF : Fr (SRk 7) I I97 := Fr.tr hF hT97 (fun _ _ h => h)
              have hB : BrAt I97 β σ := BrAt.fr hB hT97 (fun a j h1 h2 => Bool.eq_false_iff.mpr (fun h => by simp only [SRk, Bool.or_eq_true, Bool.and_eq_true, beq_iff_eq, decide_eq_true_eq] at h; omega))
              have hP : PlAt I97 q σ := PlAt.fr hP hT97 (fun a j h1 h2 => Bool.eq_false_iff.mpr (fun h => by simp only [SRk, Bool.or_eq_true, Bool.and_eq_true, beq_iff_eq, decide_eq_true_eq] at h; omega))
              refine lv_iinc (v := nI (x + 1)) (lv' := [(2, .int (nI (x + 1))), (4, .int (nI (tN (urF σ x)))), (3, .int (fp σ x)), (0, .ref (bs + 0)), (1, .int (nI jv))]) hx hb (dg D_X11_urgent (i := 50) rfl) hl (k := 4) rfl (nI_add _ _) (by decide) rfl (fun ls hl => ?_)
              refine lv_goto (tgt := 34) hx hb (dg D_X11_urgent (i := 51) rfl) (by decide) ?_
              exact ih34 (by omega) I97 _ _ _ _ (congrArg nI (by omega)) hF hB hP (RkAt.add (ahd_StO (urF σ) (urL σ)) (show x < nS σ by omega) rfl (kU_ahd hd hi) hp97_0 hp97_1) hW hS (lv_sub hl [3, 4, 0] rfl))
      exact loop34 0 (Nat.zero_le _) I29 _ _ _ _ (congrArg nI (by omega)) hF hB hP (RkAt.nil hp29_0) hW hS (lv_sub hl [1, 2, 0] rfl)
    · exact r_th0 X hl0 htab hlk hQf ⟨rfl, inB_hi c12 (by omega)⟩ hW hS hR (Nat.le_of_ble_eq_true rfl) (List.mem_of_getElem? (i := 3) rfl) hl (Nat.le_of_ble_eq_true rfl) (Nat.le_of_ble_eq_true rfl) (Nat.le_of_ble_eq_true rfl) (Nat.le_of_ble_eq_true rfl) (Nat.le_of_ble_eq_true rfl) (dg D_X11_urgent (i := 7) rfl) (dg D_X11_urgent (i := 8) rfl) (dg D_X11_urgent (i := 9) rfl) (dg D_X11_urgent (i := 10) rfl) (dg D_X11_urgent (i := 11) rfl)

