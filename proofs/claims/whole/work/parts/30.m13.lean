set_option maxHeartbeats 8000000 in
set_option maxRecDepth 100000 in
theorem c_X12_makePlan {l : Launch} {G : va_G} {bs : Nat} {cy : Nat → ClassId} {I : CI} {L : CL} {R : CR} (σ : Row) (gs : Int32) (hs : I 68 = σ) (hi : Inv σ) (hd : DR σ) : MTv l G bs cy MX12_makePlan 5 [.ref (bs + 67), .int gs] I L R (fun I1 L1 R1 => Fr SM I I1 ∧ I1 68 = auto σ gs ∧ L = L1 ∧ R = R1) := by
  refine MTv.of (own := RX12) pn_RX12 rfl (Nat.le_of_ble_eq_true rfl) ?_
  intro p e s m args below meth c Qf X hW hS fin ls hl
  have hx := X.1
  have hb := X.2.1
  have hR : RmOK (rmL 5 0 0) 5 := ⟨rfl, rfl⟩
  have hcs : 0 ≤ (rmL 5 0 0).cells ∧ 0 ≤ (rmL 5 0 0).slots := ⟨Nat.zero_le _, Nat.zero_le _⟩
  have hl : lv_has ls 6 [(0, .ref (bs + 67)), (1, .int gs)] := hl
  have hF : Fr SM I I := Fr.rf
  obtain ⟨hY, hY1, hY12, hLn, hL4, hSn, hS12, hGn, hG5⟩ := id hi
  refine lv_aload_n hx hb (dg D_X12_makePlan (i := 0) rfl) rfl (lv_at hl 0 rfl) ?_
  refine callVv X hW hS hR (c_X12_clearPlan (I := I) σ (by first | assumption | omega | decide | exact hP.1)) (by decide) UVX12_clearPlan LK_X12_358 rfl (by decide) rfl rfl rfl (Nat.le_of_ble_eq_true rfl) hl hcs (dg D_X12_makePlan (i := 1) rfl) (fun I1 L1 R1 H locs hq hW hS => ?_)
  obtain ⟨hT1, hp1_0, rfl, rfl⟩ := hq
  have hF : Fr SM I I1 := Fr.tr hF hT1 (by intro a j h; simp only [SP, SM, Bool.or_eq_true, Bool.and_eq_true, beq_iff_eq, decide_eq_true_eq] at h ⊢; omega)
  have hs : I1 68 = clP σ := hp1_0
  refine n_iconst (a := 0) hx hb (dg D_X12_makePlan (i := 2) rfl) rfl ?_
  refine lv_istore_n (lv' := [(2, .int (nI 0)), (0, .ref (bs + 67)), (1, .int gs)]) hx hb (dg D_X12_makePlan (i := 3) rfl) rfl hl (by decide) rfl (fun ls hl => ?_)
  have loop6 := up_ind (P := fun y => ∀ (K6 : CI) (H : Heap) (locs : List Loc) (ls : Array Slot) (v2 : Int32), v2 = nI y → (Fr SM I K6) → (K6 68 = plY σ gs y) → Wd G bs cy K6 L R H → va_S (Aq bs) s.heap H locs → lv_has ls 6 [(0, .ref (bs + 67)), (1, .int gs), (2, .int v2)] → W p l e (rmL 5 0 0) s m args below meth c H locs 0 0 Qf (F0 m 6 ls [])) (Yn σ) (fun y hx6 ih6 => by
      intro K6 H locs ls v2 q2 hF hs hW hS hl
      subst q2
      have hm : Sm σ (plY σ gs y) := Sm_plY y
      obtain ⟨τ, hτ⟩ : ∃ τ, τ = plY σ gs y := ⟨_, rfl⟩
      rw [← hτ] at hs hm
      have hiT : Inv τ := Sm_Inv hm hi
      have hdT : DR τ := Sm_DR hm hi hd (by rw [hτ]; exact PD_plY hS12 y hx6)
      have huT : UnP τ y := by rw [hτ]; exact UnP_plY hS12 y
      refine lv_iload_n hx hb (dg D_X12_makePlan (i := 4) rfl) rfl (lv_at hl 2 rfl) ?_
      refine lv_aload_n hx hb (dg D_X12_makePlan (i := 5) rfl) rfl (lv_at hl 0 rfl) ?_
      refine r_getc (t := 68) X hW FI_X12_7 rfl (by decide) rfl (dg D_X12_makePlan (i := 6) rfl) ?_
      refine n_iconst (a := 0) hx hb (dg D_X12_makePlan (i := 7) rfl) rfl ?_
      refine r_ald (j := 0) (v := nI (Yn σ)) X hW rfl (by decide) rfl (by omega) (by decide) ((congrFun hs _).trans ((hm _ (by decide)).trans hY)) (dg D_X12_makePlan (i := 8) rfl) ?_
      refine n_icmp_ge (tgt := 200) hx hb (by omega) (by omega) (dg D_X12_makePlan (i := 9) rfl) (by decide) (fun c13 => ?_) (fun c13 => ?_)
      · exact fin (dg D_X12_makePlan (i := 109) rfl) hW hS ⟨hF, by rw [hs, hτ, show y = Yn σ by omega]; rfl, rfl, rfl⟩
      · refine n_iconst (a := 0) hx hb (dg D_X12_makePlan (i := 10) rfl) rfl ?_
        refine lv_istore_n (lv' := [(3, .int (nI 0)), (0, .ref (bs + 67)), (1, .int gs), (2, .int (nI y))]) hx hb (dg D_X12_makePlan (i := 11) rfl) rfl hl (by decide) rfl (fun ls hl => ?_)
        have loop18 := up_ind (P := fun x => ∀ (K18 : CI) (H : Heap) (locs : List Loc) (ls : Array Slot) (v3 : Int32), v3 = nI x → (Fr SM I K18) → (K18 68 = τ) → (rowP K18 78 x (fyY τ y)) → (rowP K18 79 x (lrY τ y)) → Wd G bs cy K18 L R H → va_S (Aq bs) s.heap H locs → lv_has ls 6 [(0, .ref (bs + 67)), (1, .int gs), (2, .int (nI y)), (3, .int v3)] → W p l e (rmL 5 0 0) s m args below meth c H locs 0 0 Qf (F0 m 18 ls [])) (nS σ) (fun x hx18 ih18 => by
            intro K18 H locs ls v3 q3 hF hs hFy hLr hW hS hl
            subst q3
            refine lv_iload_n hx hb (dg D_X12_makePlan (i := 12) rfl) rfl (lv_at hl 3 rfl) ?_
            refine lv_aload_n hx hb (dg D_X12_makePlan (i := 13) rfl) rfl (lv_at hl 0 rfl) ?_
            refine r_getc (t := 68) X hW FI_X12_7 rfl (by decide) rfl (dg D_X12_makePlan (i := 14) rfl) ?_
            refine n_iconst (a := 4) hx hb (dg D_X12_makePlan (i := 15) rfl) rfl ?_
            refine r_ald (j := 4) (v := nI (nS σ)) X hW rfl (by decide) rfl (by omega) (by decide) ((congrFun hs _).trans ((hm _ (by decide)).trans hSn)) (dg D_X12_makePlan (i := 16) rfl) ?_
            refine n_icmp_ge (tgt := 87) hx hb (by omega) (by omega) (dg D_X12_makePlan (i := 17) rfl) (by decide) (fun c25 => ?_) (fun c25 => ?_)
            · have hFy : rowP K18 78 (nS σ) (fyY τ y) := by rw [show nS σ = x by omega]; exact hFy
              have hLr : rowP K18 79 (nS σ) (lrY τ y) := by rw [show nS σ = x by omega]; exact hLr
              refine n_iconst (a := 0) hx hb (dg D_X12_makePlan (i := 50) rfl) rfl ?_
              refine lv_istore_n (lv' := [(3, .int (nI 0)), (0, .ref (bs + 67)), (1, .int gs), (2, .int (nI y))]) hx hb (dg D_X12_makePlan (i := 51) rfl) rfl hl (by decide) rfl (fun ls hl => ?_)
              refine n_iconst (a := 0) hx hb (dg D_X12_makePlan (i := 52) rfl) rfl ?_
              refine lv_istore (lv' := [(4, .int (nI 0)), (3, .int (nI 0)), (0, .ref (bs + 67)), (1, .int gs), (2, .int (nI y))]) hx hb (dg D_X12_makePlan (i := 53) rfl) hl (by decide) rfl (fun ls hl => ?_)
              have loop92 := up_ind (P := fun r => ∀ (K92 : CI) (H : Heap) (locs : List Loc) (ls : Array Slot) (v3 : Int32) (v4 : Int32), v3 = nI (min r (ordN τ y)) → v4 = nI r → (Fr SM I K92) → (K92 68 = τ) → (rowP K92 82 (min r (ordN τ y)) (fun k => nI (ordE τ y k))) → (rowP K92 78 (nS σ) (fyY τ y)) → (rowP K92 79 (nS σ) (lrY τ y)) → Wd G bs cy K92 L R H → va_S (Aq bs) s.heap H locs → lv_has ls 6 [(0, .ref (bs + 67)), (1, .int gs), (2, .int (nI y)), (3, .int v3), (4, .int v4)] → W p l e (rmL 5 0 0) s m args below meth c H locs 0 0 Qf (F0 m 92 ls [])) (nS σ) (fun r hx92 ih92 => by
                  intro K92 H locs ls v3 v4 q3 q4 hF hs hO hFy hLr hW hS hl
                  subst q3
                  subst q4
                  refine lv_iload hx hb (dg D_X12_makePlan (i := 54) rfl) (lv_at hl 4 rfl) ?_
                  refine lv_aload_n hx hb (dg D_X12_makePlan (i := 55) rfl) rfl (lv_at hl 0 rfl) ?_
                  refine r_getc (t := 68) X hW FI_X12_7 rfl (by decide) rfl (dg D_X12_makePlan (i := 56) rfl) ?_
                  refine n_iconst (a := 4) hx hb (dg D_X12_makePlan (i := 57) rfl) rfl ?_
                  refine r_ald (j := 4) (v := nI (nS σ)) X hW rfl (by decide) rfl (by omega) (by decide) ((congrFun hs _).trans ((hm _ (by decide)).trans hSn)) (dg D_X12_makePlan (i := 58) rfl) ?_
                  refine n_icmp_ge (tgt := 140) hx hb (by omega) (by omega) (dg D_X12_makePlan (i := 59) rfl) (by decide) (fun c100 => ?_) (fun c100 => ?_)
                  · have hon : ordN τ y ≤ nS σ := by rw [← hm.S]; exact ordN_le τ y
                    have hO : rowP K92 82 (ordN τ y) (fun k => nI (ordE τ y k)) := by rw [show min r (ordN τ y) = ordN τ y by omega] at hO; exact hO
                    refine lv_aload_n hx hb (dg D_X12_makePlan (i := 78) rfl) rfl (lv_at hl 0 rfl) ?_
                    refine callVv X hW hS hR (c_X12_startYear (I := K92) τ y (by first | assumption | omega | decide | exact hP.1) (hiT) (by rw [hm.S]; exact hLr)) (by decide) UVX12_startYear LK_X12_361 rfl (by decide) rfl rfl rfl (Nat.le_of_ble_eq_true rfl) hl hcs (dg D_X12_makePlan (i := 79) rfl) (fun I141 L1 R1 H locs hq hW hS => ?_)
                    obtain ⟨hT141, hp141_0, hp141_1, hp141_2, rfl, rfl⟩ := hq
                    have hF : Fr SM I I141 := Fr.tr hF hT141 (by intro a j h; simp only [SZ, SM, Bool.or_eq_true, Bool.and_eq_true, beq_iff_eq, decide_eq_true_eq] at h ⊢; omega)
                    have hs : I141 68 = τ := by rw [Fr.row hT141 (fun _ => rfl)]; exact hs
                    have hO : rowP I141 82 (ordN τ y) (fun k => nI (ordE τ y k)) := hO.fr hT141 (fun _ => rfl)
                    have hFy : rowP I141 78 (nS σ) (fyY τ y) := hFy.fr hT141 (fun _ => rfl)
                    have hLr : rowP I141 79 (nS σ) (lrY τ y) := hLr.fr hT141 (fun _ => rfl)
                    refine n_iconst (a := 0) hx hb (dg D_X12_makePlan (i := 80) rfl) rfl ?_
                    refine lv_istore (lv' := [(4, .int (nI 0)), (0, .ref (bs + 67)), (1, .int gs), (2, .int (nI y)), (3, .int (nI (min r (ordN τ y))))]) hx hb (dg D_X12_makePlan (i := 81) rfl) hl (by decide) rfl (fun ls hl => ?_)
                    have loop147 := up_ind (P := fun k => ∀ (K147 : CI) (H : Heap) (locs : List Loc) (ls : Array Slot) (v4 : Int32), v4 = nI k → (Fr SM I K147) → (rowP K147 82 (ordN τ y) (fun k => nI (ordE τ y k))) → (K147 68 = plK τ gs y k) → (rowP K147 81 (nG σ) (fun g => lod (plK τ gs y k) (nI g) y)) → (rowP K147 80 (nS σ) (fun x9 => eff (plK τ gs y k) x9 y)) → (K147 67 30 = shu (plK τ gs y k) y) → (rowP K147 78 (nS σ) (fyY τ y)) → (rowP K147 79 (nS σ) (lrY τ y)) → Wd G bs cy K147 L R H → va_S (Aq bs) s.heap H locs → lv_has ls 6 [(0, .ref (bs + 67)), (1, .int gs), (2, .int (nI y)), (3, .int (nI (min r (ordN τ y)))), (4, .int v4)] → W p l e (rmL 5 0 0) s m args below meth c H locs 0 0 Qf (F0 m 147 ls [])) (ordN τ y) (fun k hx147 ih147 => by
                        intro K147 H locs ls v4 q4 hF hO hsK hLd hEf hSh hFy hLr hW hS hl
                        subst q4
                        obtain ⟨υ, hυ⟩ : ∃ υ, υ = plK τ gs y k := ⟨_, rfl⟩
                        rw [← hυ] at hsK hLd hEf hSh
                        have hmU : Sm τ υ := by rw [hυ]; exact Sm_plK k
                        have hiU : Inv υ := Sm_Inv hmU hiT
                        have hdU : DR υ := Sm_DR hmU hiT hdT (by rw [hυ]; exact PD_plK hdT.2.1 (by rw [hm.S]; exact hS12) (by rw [hm.Y]; omega) k hx147)
                        refine lv_iload hx hb (dg D_X12_makePlan (i := 82) rfl) (lv_at hl 4 rfl) ?_
                        refine lv_iload_n hx hb (dg D_X12_makePlan (i := 83) rfl) rfl (lv_at hl 3 rfl) ?_
                        refine n_icmp_ge (tgt := 194) hx hb (by omega) (by omega) (dg D_X12_makePlan (i := 84) rfl) (by decide) (fun c150 => ?_) (fun c150 => ?_)
                        · refine lv_iinc (v := nI (y + 1)) (lv' := [(2, .int (nI (y + 1))), (0, .ref (bs + 67)), (1, .int gs), (3, .int (nI (min r (ordN τ y)))), (4, .int (nI k))]) hx hb (dg D_X12_makePlan (i := 107) rfl) hl (k := 2) rfl (nI_add _ _) (by decide) rfl (fun ls hl => ?_)
                          refine lv_goto (tgt := 6) hx hb (dg D_X12_makePlan (i := 108) rfl) (by decide) ?_
                          exact ih6 (by omega) K147 _ _ _ _ (congrArg nI (by omega)) hF (by rw [hsK, hυ, show k = ordN τ y by omega, hτ]; rfl) hW hS (lv_sub hl [1, 2, 0] rfl)
                        · have hoL : ordE τ y k < nS σ := by rw [← hm.S]; exact ordE_lt (by omega)
                          have hun : pnt υ (ordE τ y k) y = -1 := by rw [hυ]; exact (UnP_plK (by rw [hm.S]; exact hS12) huT k (by omega)).2 k (Nat.le_refl _) (by omega) (by omega)
                          refine lv_aload_n hx hb (dg D_X12_makePlan (i := 85) rfl) rfl (lv_at hl 0 rfl) ?_
                          refine lv_iload_n hx hb (dg D_X12_makePlan (i := 86) rfl) rfl (lv_at hl 2 rfl) ?_
                          refine lv_aload_n hx hb (dg D_X12_makePlan (i := 87) rfl) rfl (lv_at hl 0 rfl) ?_
                          refine r_getc (t := 82) X hW FI_X12_58 rfl (by decide) rfl (dg D_X12_makePlan (i := 88) rfl) ?_
                          refine lv_iload hx hb (dg D_X12_makePlan (i := 89) rfl) (lv_at hl 4 rfl) ?_
                          refine r_ald (j := k) (v := nI (ordE τ y k)) X hW rfl (by decide) rfl (by omega) (by decide) (hO _ (by omega)) (dg D_X12_makePlan (i := 90) rfl) ?_
                          refine lv_iload_n hx hb (dg D_X12_makePlan (i := 91) rfl) rfl (lv_at hl 1 rfl) ?_
                          refine callVi X hW hS hR (c_X12_chooseGang (I := K147) υ y (ordE τ y k) gs (by first | assumption | omega | decide | exact hP.1) (hiU) (hdU) (by rw [hmU.S, hm.S]; exact hoL) (by omega) (hun) (by first | assumption | omega | decide | exact hP.1) (by rw [hmU.G, hm.G]; exact hLd) (by rw [hmU.S, hm.S]; exact hEf)) (by decide) UVX12_chooseGang LK_X12_364 rfl (by decide) rfl rfl rfl (Nat.le_of_ble_eq_true rfl) hl hcs (dg D_X12_makePlan (i := 92) rfl) (fun r163 I163 L1 R1 H locs hq hW hS => ?_)
                          obtain ⟨rfl, rfl, rfl, rfl⟩ := hq
                          refine lv_istore (lv' := [(5, .int (bgG υ gs y (ordE τ y k))), (0, .ref (bs + 67)), (1, .int gs), (2, .int (nI y)), (3, .int (nI (min r (ordN τ y)))), (4, .int (nI k))]) hx hb (dg D_X12_makePlan (i := 93) rfl) hl (by decide) rfl (fun ls hl => ?_)
                          refine lv_iload hx hb (dg D_X12_makePlan (i := 94) rfl) (lv_at hl 0 rfl) ?_
                          refine lv_iconst (v := -1) hx hb (dg D_X12_makePlan (i := 95) rfl) (by decide) ?_
                          refine lv_icmp_eq (tgt := 188) hx hb (dg D_X12_makePlan (i := 96) rfl) (by decide) (fun c171 => ?_) (fun c171 => ?_)
                          · refine lv_iinc (v := nI (k + 1)) (lv' := [(4, .int (nI (k + 1))), (5, .int (bgG υ gs y (ordE τ y k))), (0, .ref (bs + 67)), (1, .int gs), (2, .int (nI y)), (3, .int (nI (min r (ordN τ y))))]) hx hb (dg D_X12_makePlan (i := 105) rfl) hl (k := 5) rfl (nI_add _ _) (by decide) rfl (fun ls hl => ?_)
                            refine lv_goto (tgt := 147) hx hb (dg D_X12_makePlan (i := 106) rfl) (by decide) ?_
                            have hpl : plK τ gs y (k + 1) = υ := by show plS (plK τ gs y k) gs y (ordE τ y k) = υ; rw [← hυ]; exact if_pos c171
                            exact ih147 (by omega) K147 _ _ _ _ (congrArg nI (by omega)) hF hO (by rw [hpl]; exact hsK) (by rw [hpl]; exact hLd) (by rw [hpl]; exact hEf) (by rw [hpl]; exact hSh) hFy hLr hW hS (lv_sub hl [2, 3, 4, 5, 0] rfl)
                          · obtain ⟨g9, hg9, hb9, _⟩ := (bgG_ok υ gs y (ordE τ y k)).resolve_left c171
                            rw [hb9] at hl
                            have hpl : plK τ gs y (k + 1) = setP υ (ordE τ y k) y (nI g9) := by show plS (plK τ gs y k) gs y (ordE τ y k) = _; rw [← hυ]; unfold plS; rw [if_neg c171, hb9]
                            refine lv_aload_n hx hb (dg D_X12_makePlan (i := 97) rfl) rfl (lv_at hl 1 rfl) ?_
                            refine lv_iload_n hx hb (dg D_X12_makePlan (i := 98) rfl) rfl (lv_at hl 3 rfl) ?_
                            refine lv_aload_n hx hb (dg D_X12_makePlan (i := 99) rfl) rfl (lv_at hl 1 rfl) ?_
                            refine r_getc (t := 82) X hW FI_X12_58 rfl (by decide) rfl (dg D_X12_makePlan (i := 100) rfl) ?_
                            refine lv_iload hx hb (dg D_X12_makePlan (i := 101) rfl) (lv_at hl 5 rfl) ?_
                            refine r_ald (j := k) (v := nI (ordE τ y k)) X hW rfl (by decide) rfl (by omega) (by decide) (hO _ (by omega)) (dg D_X12_makePlan (i := 102) rfl) ?_
                            refine lv_iload hx hb (dg D_X12_makePlan (i := 103) rfl) (lv_at hl 0 rfl) ?_
                            refine callVv X hW hS hR (c_X12_paintNow (I := K147) υ y (ordE τ y k) g9 (by first | assumption | omega | decide | exact hP.1) (hiU) (by rw [hmU.S, hm.S]; exact hoL) (by omega) (by first | assumption | omega | decide | exact hP.1) (hun) (by first | assumption | omega | decide | exact hP.1) (by rw [hmU.G, hm.G]; exact hLd) (by rw [hmU.S, hm.S]; exact hEf)) (by decide) UVX12_paintNow LK_X12_367 rfl (by decide) rfl rfl rfl (Nat.le_of_ble_eq_true rfl) hl hcs (dg D_X12_makePlan (i := 104) rfl) (fun I185 L1 R1 H locs hq hW hS => ?_)
                            obtain ⟨hT185, hp185_0, hp185_1, hp185_2, hp185_3, rfl, rfl⟩ := hq
                            have hF : Fr SM I I185 := Fr.tr hF hT185 (by intro a j h; simp only [SY, SM, Bool.or_eq_true, Bool.and_eq_true, beq_iff_eq, decide_eq_true_eq] at h ⊢; omega)
                            have hO : rowP I185 82 (ordN τ y) (fun k => nI (ordE τ y k)) := hO.fr hT185 (fun _ => rfl)
                            have hFy : rowP I185 78 (nS σ) (fyY τ y) := hFy.fr hT185 (fun _ => rfl)
                            have hLr : rowP I185 79 (nS σ) (lrY τ y) := hLr.fr hT185 (fun _ => rfl)
                            refine lv_iinc (v := nI (k + 1)) (lv' := [(4, .int (nI (k + 1))), (5, .int (nI g9)), (0, .ref (bs + 67)), (1, .int gs), (2, .int (nI y)), (3, .int (nI (min r (ordN τ y))))]) hx hb (dg D_X12_makePlan (i := 105) rfl) hl (k := 5) rfl (nI_add _ _) (by decide) rfl (fun ls hl => ?_)
                            refine lv_goto (tgt := 147) hx hb (dg D_X12_makePlan (i := 106) rfl) (by decide) ?_
                            exact ih147 (by omega) I185 _ _ _ _ (congrArg nI (by omega)) hF hO (by rw [hpl]; exact hp185_0) (by rw [hpl, ← hm.G, ← hmU.G]; exact hp185_1) (by rw [hpl, ← hm.S, ← hmU.S]; exact hp185_2) (by rw [hpl]; exact hp185_3) hFy hLr hW hS (lv_sub hl [2, 3, 4, 5, 0] rfl))
                    exact loop147 0 (Nat.zero_le _) I141 _ _ _ _ (congrArg nI (by omega)) hF hO hs (fun g hg => by rw [hp141_0 g (by rw [hm.G]; exact hg)]; exact (lod_un (by omega) (fun x hx => huT x y (by rw [hm.S] at hx; omega) (Nat.le_refl _) (by omega))).symm) (by rw [← hm.S]; exact hp141_1) (by rw [hp141_2]; exact (shu_un (fun x hx => huT x y (by rw [hm.S] at hx; omega) (Nat.le_refl _) (by omega))).symm) hFy hLr hW hS (lv_sub hl [1, 2, 3, 4, 0] rfl)
                  · refine lv_aload_n hx hb (dg D_X12_makePlan (i := 60) rfl) rfl (lv_at hl 0 rfl) ?_
                    refine lv_iload hx hb (dg D_X12_makePlan (i := 61) rfl) (lv_at hl 4 rfl) ?_
                    refine callVi X hW hS hR (c_X12_ranked (I := K92) τ (fyY τ y) (lrY τ y) (nI r) (by first | assumption | omega | decide | exact hP.1) (hiT) (by rw [hm.S]; exact hFy) (by rw [hm.S]; exact hLr)) (by decide) UVX12_ranked LK_X12_261 rfl (by decide) rfl rfl rfl (Nat.le_of_ble_eq_true rfl) hl hcs (dg D_X12_makePlan (i := 62) rfl) (fun r106 I106 L1 R1 H locs hq hW hS => ?_)
                    obtain ⟨rfl, rfl, rfl, rfl⟩ := hq
                    rw [show rkd (fyY τ y) (lrY τ y) (nS τ) (nI r) = nI (elK (fun _ => true) (ltY τ y) (nS τ) r) from (rkd_el (by rw [hm.S]; exact hS12) (by rw [hm.S]; omega)).1]
                    have hel : elK (fun _ => true) (ltY τ y) (nS τ) r < nS σ := by rw [← hm.S]; exact (rkd_el (by rw [hm.S]; exact hS12) (by rw [hm.S]; omega)).2
                    refine lv_istore (lv' := [(5, .int (nI (elK (fun _ => true) (ltY τ y) (nS τ) r))), (0, .ref (bs + 67)), (1, .int gs), (2, .int (nI y)), (3, .int (nI (min r (ordN τ y)))), (4, .int (nI r))]) hx hb (dg D_X12_makePlan (i := 63) rfl) hl (by decide) rfl (fun ls hl => ?_)
                    refine lv_aload_n hx hb (dg D_X12_makePlan (i := 64) rfl) rfl (lv_at hl 1 rfl) ?_
                    refine r_getc (t := 78) X hW FI_X12_46 rfl (by decide) rfl (dg D_X12_makePlan (i := 65) rfl) ?_
                    refine lv_iload hx hb (dg D_X12_makePlan (i := 66) rfl) (lv_at hl 0 rfl) ?_
                    refine r_ald (j := elK (fun _ => true) (ltY τ y) (nS τ) r) (v := fyY τ y (elK (fun _ => true) (ltY τ y) (nS τ) r)) X hW rfl (by decide) rfl (by omega) (by decide) (hFy _ (by omega)) (dg D_X12_makePlan (i := 67) rfl) ?_
                    refine lv_bipush (v := nI 100) hx hb (dg D_X12_makePlan (i := 68) rfl) (by decide) ?_
                    refine lv_icmp_ge (tgt := 134) hx hb (dg D_X12_makePlan (i := 69) rfl) (by decide) (fun c120 => ?_) (fun c120 => ?_)
                    · have hrn := or_n (σ := τ) (by rw [hm.Y]; exact hY12) c120
                      refine lv_iinc (v := nI (r + 1)) (lv' := [(4, .int (nI (r + 1))), (5, .int (nI (elK (fun _ => true) (ltY τ y) (nS τ) r))), (0, .ref (bs + 67)), (1, .int gs), (2, .int (nI y)), (3, .int (nI (min r (ordN τ y))))]) hx hb (dg D_X12_makePlan (i := 76) rfl) hl (k := 5) rfl (nI_add _ _) (by decide) rfl (fun ls hl => ?_)
                      refine lv_goto (tgt := 92) hx hb (dg D_X12_makePlan (i := 77) rfl) (by decide) ?_
                      exact ih92 (by omega) K92 _ _ _ _ _ (congrArg nI (by omega)) (congrArg nI (by omega)) hF hs (by rw [show min (r + 1) (ordN τ y) = min r (ordN τ y) by omega]; exact hO) hFy hLr hW hS (lv_sub hl [2, 3, 4, 5, 0] rfl)
                    · obtain ⟨hr1, hr2⟩ := or_y (by rw [hm.Y]; exact hY12) (by rw [hm.S]; omega) c120
                      have hmr : min r (ordN τ y) = r := by omega
                      refine lv_aload_n hx hb (dg D_X12_makePlan (i := 70) rfl) rfl (lv_at hl 1 rfl) ?_
                      refine r_getc (t := 82) X hW FI_X12_58 rfl (by decide) rfl (dg D_X12_makePlan (i := 71) rfl) ?_
                      refine lv_iload_n hx hb (dg D_X12_makePlan (i := 72) rfl) rfl (lv_at hl 4 rfl) ?_
                      refine lv_iload hx hb (dg D_X12_makePlan (i := 73) rfl) (lv_at hl 0 rfl) ?_
                      refine r_ast (j := min r (ordN τ y)) (v := nI (elK (fun _ => true) (ltY τ y) (nS τ) r)) X hW hS rfl (by decide) rfl (by omega) (by decide) (dg D_X12_makePlan (i := 74) rfl) (fun H locs hW hS => ?_)
                      have hF : Fr SM I (u2 K92 82 (min r (ordN τ y)) (nI (elK (fun _ => true) (ltY τ y) (nS τ) r))) := Fr.put hF rfl
                      have hs : (u2 K92 82 (min r (ordN τ y)) (nI (elK (fun _ => true) (ltY τ y) (nS τ) r))) 68 = τ := hs
                      obtain ⟨J130, eJ130⟩ : ∃ J, J = u2 K92 82 (min r (ordN τ y)) (nI (elK (fun _ => true) (ltY τ y) (nS τ) r)) := ⟨_, rfl⟩
                      rw [← eJ130] at hW hF hs
                      have hFy : rowP J130 78 (nS σ) (fyY τ y) := by rw [eJ130]; exact hFy.keep (by decide)
                      have hLr : rowP J130 79 (nS σ) (lrY τ y) := by rw [eJ130]; exact hLr.keep (by decide)
                      have hO : rowP J130 82 (r + 1) (fun k => nI (ordE τ y k)) := by rw [eJ130, hmr]; exact rowP.ext (by rw [hmr] at hO; exact hO) (by rw [hr2])
                      refine lv_iinc (v := nI (min r (ordN τ y) + 1)) (lv' := [(3, .int (nI (min r (ordN τ y) + 1))), (5, .int (nI (elK (fun _ => true) (ltY τ y) (nS τ) r))), (0, .ref (bs + 67)), (1, .int gs), (2, .int (nI y)), (4, .int (nI r))]) hx hb (dg D_X12_makePlan (i := 75) rfl) hl (k := 4) rfl (nI_add _ _) (by decide) rfl (fun ls hl => ?_)
                      refine lv_iinc (v := nI (r + 1)) (lv' := [(4, .int (nI (r + 1))), (3, .int (nI (min r (ordN τ y) + 1))), (5, .int (nI (elK (fun _ => true) (ltY τ y) (nS τ) r))), (0, .ref (bs + 67)), (1, .int gs), (2, .int (nI y))]) hx hb (dg D_X12_makePlan (i := 76) rfl) hl (k := 5) rfl (nI_add _ _) (by decide) rfl (fun ls hl => ?_)
                      refine lv_goto (tgt := 92) hx hb (dg D_X12_makePlan (i := 77) rfl) (by decide) ?_
                      exact ih92 (by omega) J130 _ _ _ _ _ (congrArg nI (by omega)) (congrArg nI (by omega)) hF hs (by rw [show min (r + 1) (ordN τ y) = r + 1 by omega]; exact hO) hFy hLr hW hS (lv_sub hl [3, 4, 5, 1, 0] rfl))
              exact loop92 0 (Nat.zero_le _) K18 _ _ _ _ _ (congrArg nI (by omega)) (congrArg nI (by omega)) hF hs (fun z hz => absurd hz (by omega)) hFy hLr hW hS (lv_sub hl [2, 3, 4, 1, 0] rfl)
            · refine lv_aload_n hx hb (dg D_X12_makePlan (i := 18) rfl) rfl (lv_at hl 0 rfl) ?_
              refine lv_iload_n hx hb (dg D_X12_makePlan (i := 19) rfl) rfl (lv_at hl 3 rfl) ?_
              refine callVi X hW hS hR (c_X12_firstPast (I := K18) τ x (by first | assumption | omega | decide | exact hP.1) (hiT) (by first | assumption | omega | decide | exact hP.1)) (by decide) UVX12_firstPast LK_X12_249 rfl (by decide) rfl rfl rfl (Nat.le_of_ble_eq_true rfl) hl hcs (dg D_X12_makePlan (i := 20) rfl) (fun r30 I30 L1 R1 H locs hq hW hS => ?_)
              obtain ⟨rfl, hT30, hp30_0, hp30_1, rfl, rfl⟩ := hq
              have hF : Fr SM I I30 := Fr.tr hF hT30 (by intro a j h; simp only [SL, SM, Bool.or_eq_true, Bool.and_eq_true, beq_iff_eq, decide_eq_true_eq] at h ⊢; omega)
              have hs : I30 68 = τ := by rw [Fr.row hT30 (fun _ => rfl)]; exact hs
              have hFy : rowP I30 78 x (fyY τ y) := hFy.fr hT30 (fun _ => rfl)
              have hLr : rowP I30 79 x (lrY τ y) := hLr.fr hT30 (fun _ => rfl)
              have hB9 : rowP I30 75 (Yn σ) (fun z => (rgS τ x z).1) := by rw [← hm.Y]; exact hp30_0
              refine lv_istore (lv' := [(4, .int (fp τ x)), (0, .ref (bs + 67)), (1, .int gs), (2, .int (nI y)), (3, .int (nI x))]) hx hb (dg D_X12_makePlan (i := 21) rfl) hl (by decide) rfl (fun ls hl => ?_)
              refine lv_aload_n hx hb (dg D_X12_makePlan (i := 22) rfl) rfl (lv_at hl 1 rfl) ?_
              refine r_getc (t := 78) X hW FI_X12_46 rfl (by decide) rfl (dg D_X12_makePlan (i := 23) rfl) ?_
              refine lv_iload_n hx hb (dg D_X12_makePlan (i := 24) rfl) rfl (lv_at hl 4 rfl) ?_
              refine lv_iload hx hb (dg D_X12_makePlan (i := 25) rfl) (lv_at hl 0 rfl) ?_
              refine r_ldc X CK_X12_28 (dg D_X12_makePlan (i := 26) rfl) ?_
              refine lv_icmp_eq (tgt := 66) hx hb (dg D_X12_makePlan (i := 27) rfl) (by decide) (fun c44 => ?_) (fun c44 => ?_)
              · refine lv_bipush (v := nI 100) hx hb (dg D_X12_makePlan (i := 38) rfl) (by decide) ?_
                refine r_ast (j := x) (v := nI 100) X hW hS rfl (by decide) rfl (by omega) (by decide) (dg D_X12_makePlan (i := 39) rfl) (fun H locs hW hS => ?_)
                have hF : Fr SM I (u2 I30 78 x (nI 100)) := Fr.put hF rfl
                have hs : (u2 I30 78 x (nI 100)) 68 = τ := hs
                obtain ⟨J68, eJ68⟩ : ∃ J, J = u2 I30 78 x (nI 100) := ⟨_, rfl⟩
                rw [← eJ68] at hW hF hs
                have hFy : rowP J68 78 (x + 1) (fyY τ y) := by rw [eJ68]; exact hFy.ext (fy_a c44)
                have hLr : rowP J68 79 x (lrY τ y) := by rw [eJ68]; exact hLr.keep (by decide)
                have hB9 : rowP J68 75 (Yn σ) (fun z => (rgS τ x z).1) := by rw [eJ68]; exact hB9.keep (by decide)
                refine lv_aload_n hx hb (dg D_X12_makePlan (i := 40) rfl) rfl (lv_at hl 1 rfl) ?_
                refine r_getc (t := 79) X hW FI_X12_49 rfl (by decide) rfl (dg D_X12_makePlan (i := 41) rfl) ?_
                refine lv_iload_n hx hb (dg D_X12_makePlan (i := 42) rfl) rfl (lv_at hl 4 rfl) ?_
                refine lv_aload_n hx hb (dg D_X12_makePlan (i := 43) rfl) rfl (lv_at hl 1 rfl) ?_
                refine r_getc (t := 75) X hW FI_X12_37 rfl (by decide) rfl (dg D_X12_makePlan (i := 44) rfl) ?_
                refine lv_iload_n hx hb (dg D_X12_makePlan (i := 45) rfl) rfl (lv_at hl 3 rfl) ?_
                refine r_ald (j := y) (v := (rgS τ x y).1) X hW rfl (by decide) rfl (by omega) (by decide) (hB9 _ (by omega)) (dg D_X12_makePlan (i := 46) rfl) ?_
                refine r_ast (j := x) (v := (rgS τ x y).1) X hW hS rfl (by decide) rfl (by omega) (by decide) (dg D_X12_makePlan (i := 47) rfl) (fun H locs hW hS => ?_)
                have hF : Fr SM I (u2 J68 79 x ((rgS τ x y).1)) := Fr.put hF rfl
                have hs : (u2 J68 79 x ((rgS τ x y).1)) 68 = τ := hs
                obtain ⟨J80, eJ80⟩ : ∃ J, J = u2 J68 79 x ((rgS τ x y).1) := ⟨_, rfl⟩
                rw [← eJ80] at hW hF hs
                have hFy : rowP J80 78 (x + 1) (fyY τ y) := by rw [eJ80]; exact hFy.keep (by decide)
                have hLr : rowP J80 79 (x + 1) (lrY τ y) := by rw [eJ80]; exact hLr.ext rfl
                have hB9 : rowP J80 75 (Yn σ) (fun z => (rgS τ x z).1) := by rw [eJ80]; exact hB9.keep (by decide)
                refine lv_iinc (v := nI (x + 1)) (lv' := [(3, .int (nI (x + 1))), (4, .int (fp τ x)), (0, .ref (bs + 67)), (1, .int gs), (2, .int (nI y))]) hx hb (dg D_X12_makePlan (i := 48) rfl) hl (k := 4) rfl (nI_add _ _) (by decide) rfl (fun ls hl => ?_)
                refine lv_goto (tgt := 18) hx hb (dg D_X12_makePlan (i := 49) rfl) (by decide) ?_
                exact ih18 (by omega) J80 _ _ _ _ (congrArg nI (by omega)) hF hs hFy hLr hW hS (lv_sub hl [2, 3, 4, 0] rfl)
              · refine lv_iload hx hb (dg D_X12_makePlan (i := 28) rfl) (lv_at hl 0 rfl) ?_
                refine lv_iload_n hx hb (dg D_X12_makePlan (i := 29) rfl) rfl (lv_at hl 3 rfl) ?_
                refine lv_icmp_lt (tgt := 66) hx hb (dg D_X12_makePlan (i := 30) rfl) (by decide) (fun c50 => ?_) (fun c50 => ?_)
                · refine lv_bipush (v := nI 100) hx hb (dg D_X12_makePlan (i := 38) rfl) (by decide) ?_
                  refine r_ast (j := x) (v := nI 100) X hW hS rfl (by decide) rfl (by omega) (by decide) (dg D_X12_makePlan (i := 39) rfl) (fun H locs hW hS => ?_)
                  have hF : Fr SM I (u2 I30 78 x (nI 100)) := Fr.put hF rfl
                  have hs : (u2 I30 78 x (nI 100)) 68 = τ := hs
                  obtain ⟨J68, eJ68⟩ : ∃ J, J = u2 I30 78 x (nI 100) := ⟨_, rfl⟩
                  rw [← eJ68] at hW hF hs
                  have hFy : rowP J68 78 (x + 1) (fyY τ y) := by rw [eJ68]; exact hFy.ext (fy_b c50)
                  have hLr : rowP J68 79 x (lrY τ y) := by rw [eJ68]; exact hLr.keep (by decide)
                  have hB9 : rowP J68 75 (Yn σ) (fun z => (rgS τ x z).1) := by rw [eJ68]; exact hB9.keep (by decide)
                  refine lv_aload_n hx hb (dg D_X12_makePlan (i := 40) rfl) rfl (lv_at hl 1 rfl) ?_
                  refine r_getc (t := 79) X hW FI_X12_49 rfl (by decide) rfl (dg D_X12_makePlan (i := 41) rfl) ?_
                  refine lv_iload_n hx hb (dg D_X12_makePlan (i := 42) rfl) rfl (lv_at hl 4 rfl) ?_
                  refine lv_aload_n hx hb (dg D_X12_makePlan (i := 43) rfl) rfl (lv_at hl 1 rfl) ?_
                  refine r_getc (t := 75) X hW FI_X12_37 rfl (by decide) rfl (dg D_X12_makePlan (i := 44) rfl) ?_
                  refine lv_iload_n hx hb (dg D_X12_makePlan (i := 45) rfl) rfl (lv_at hl 3 rfl) ?_
                  refine r_ald (j := y) (v := (rgS τ x y).1) X hW rfl (by decide) rfl (by omega) (by decide) (hB9 _ (by omega)) (dg D_X12_makePlan (i := 46) rfl) ?_
                  refine r_ast (j := x) (v := (rgS τ x y).1) X hW hS rfl (by decide) rfl (by omega) (by decide) (dg D_X12_makePlan (i := 47) rfl) (fun H locs hW hS => ?_)
                  have hF : Fr SM I (u2 J68 79 x ((rgS τ x y).1)) := Fr.put hF rfl
                  have hs : (u2 J68 79 x ((rgS τ x y).1)) 68 = τ := hs
                  obtain ⟨J80, eJ80⟩ : ∃ J, J = u2 J68 79 x ((rgS τ x y).1) := ⟨_, rfl⟩
                  rw [← eJ80] at hW hF hs
                  have hFy : rowP J80 78 (x + 1) (fyY τ y) := by rw [eJ80]; exact hFy.keep (by decide)
                  have hLr : rowP J80 79 (x + 1) (lrY τ y) := by rw [eJ80]; exact hLr.ext rfl
                  have hB9 : rowP J80 75 (Yn σ) (fun z => (rgS τ x z).1) := by rw [eJ80]; exact hB9.keep (by decide)
                  refine lv_iinc (v := nI (x + 1)) (lv' := [(3, .int (nI (x + 1))), (4, .int (fp τ x)), (0, .ref (bs + 67)), (1, .int gs), (2, .int (nI y))]) hx hb (dg D_X12_makePlan (i := 48) rfl) hl (k := 4) rfl (nI_add _ _) (by decide) rfl (fun ls hl => ?_)
                  refine lv_goto (tgt := 18) hx hb (dg D_X12_makePlan (i := 49) rfl) (by decide) ?_
                  exact ih18 (by omega) J80 _ _ _ _ (congrArg nI (by omega)) hF hs hFy hLr hW hS (lv_sub hl [2, 3, 4, 0] rfl)
                · refine lv_iload hx hb (dg D_X12_makePlan (i := 31) rfl) (lv_at hl 0 rfl) ?_
                  refine lv_iload_n hx hb (dg D_X12_makePlan (i := 32) rfl) rfl (lv_at hl 3 rfl) ?_
                  refine n_iconst (a := 2) hx hb (dg D_X12_makePlan (i := 33) rfl) rfl ?_
                  refine n_iadd hx hb (dg D_X12_makePlan (i := 34) rfl) ?_
                  refine lv_icmp_gt (tgt := 66) hx hb (dg D_X12_makePlan (i := 35) rfl) (by decide) (fun c58 => ?_) (fun c58 => ?_)
                  · refine lv_bipush (v := nI 100) hx hb (dg D_X12_makePlan (i := 38) rfl) (by decide) ?_
                    refine r_ast (j := x) (v := nI 100) X hW hS rfl (by decide) rfl (by omega) (by decide) (dg D_X12_makePlan (i := 39) rfl) (fun H locs hW hS => ?_)
                    have hF : Fr SM I (u2 I30 78 x (nI 100)) := Fr.put hF rfl
                    have hs : (u2 I30 78 x (nI 100)) 68 = τ := hs
                    obtain ⟨J68, eJ68⟩ : ∃ J, J = u2 I30 78 x (nI 100) := ⟨_, rfl⟩
                    rw [← eJ68] at hW hF hs
                    have hFy : rowP J68 78 (x + 1) (fyY τ y) := by rw [eJ68]; exact hFy.ext (fy_c c58)
                    have hLr : rowP J68 79 x (lrY τ y) := by rw [eJ68]; exact hLr.keep (by decide)
                    have hB9 : rowP J68 75 (Yn σ) (fun z => (rgS τ x z).1) := by rw [eJ68]; exact hB9.keep (by decide)
                    refine lv_aload_n hx hb (dg D_X12_makePlan (i := 40) rfl) rfl (lv_at hl 1 rfl) ?_
                    refine r_getc (t := 79) X hW FI_X12_49 rfl (by decide) rfl (dg D_X12_makePlan (i := 41) rfl) ?_
                    refine lv_iload_n hx hb (dg D_X12_makePlan (i := 42) rfl) rfl (lv_at hl 4 rfl) ?_
                    refine lv_aload_n hx hb (dg D_X12_makePlan (i := 43) rfl) rfl (lv_at hl 1 rfl) ?_
                    refine r_getc (t := 75) X hW FI_X12_37 rfl (by decide) rfl (dg D_X12_makePlan (i := 44) rfl) ?_
                    refine lv_iload_n hx hb (dg D_X12_makePlan (i := 45) rfl) rfl (lv_at hl 3 rfl) ?_
                    refine r_ald (j := y) (v := (rgS τ x y).1) X hW rfl (by decide) rfl (by omega) (by decide) (hB9 _ (by omega)) (dg D_X12_makePlan (i := 46) rfl) ?_
                    refine r_ast (j := x) (v := (rgS τ x y).1) X hW hS rfl (by decide) rfl (by omega) (by decide) (dg D_X12_makePlan (i := 47) rfl) (fun H locs hW hS => ?_)
                    have hF : Fr SM I (u2 J68 79 x ((rgS τ x y).1)) := Fr.put hF rfl
                    have hs : (u2 J68 79 x ((rgS τ x y).1)) 68 = τ := hs
                    obtain ⟨J80, eJ80⟩ : ∃ J, J = u2 J68 79 x ((rgS τ x y).1) := ⟨_, rfl⟩
                    rw [← eJ80] at hW hF hs
                    have hFy : rowP J80 78 (x + 1) (fyY τ y) := by rw [eJ80]; exact hFy.keep (by decide)
                    have hLr : rowP J80 79 (x + 1) (lrY τ y) := by rw [eJ80]; exact hLr.ext rfl
                    have hB9 : rowP J80 75 (Yn σ) (fun z => (rgS τ x z).1) := by rw [eJ80]; exact hB9.keep (by decide)
                    refine lv_iinc (v := nI (x + 1)) (lv' := [(3, .int (nI (x + 1))), (4, .int (fp τ x)), (0, .ref (bs + 67)), (1, .int gs), (2, .int (nI y))]) hx hb (dg D_X12_makePlan (i := 48) rfl) hl (k := 4) rfl (nI_add _ _) (by decide) rfl (fun ls hl => ?_)
                    refine lv_goto (tgt := 18) hx hb (dg D_X12_makePlan (i := 49) rfl) (by decide) ?_
                    exact ih18 (by omega) J80 _ _ _ _ (congrArg nI (by omega)) hF hs hFy hLr hW hS (lv_sub hl [2, 3, 4, 0] rfl)
                  · refine lv_iload hx hb (dg D_X12_makePlan (i := 36) rfl) (lv_at hl 0 rfl) ?_
                    refine lv_goto (tgt := 68) hx hb (dg D_X12_makePlan (i := 37) rfl) (by decide) ?_
                    refine r_ast (j := x) (v := fp τ x) X hW hS rfl (by decide) rfl (by omega) (by decide) (dg D_X12_makePlan (i := 39) rfl) (fun H locs hW hS => ?_)
                    have hF : Fr SM I (u2 I30 78 x (fp τ x)) := Fr.put hF rfl
                    have hs : (u2 I30 78 x (fp τ x)) 68 = τ := hs
                    obtain ⟨J68, eJ68⟩ : ∃ J, J = u2 I30 78 x (fp τ x) := ⟨_, rfl⟩
                    rw [← eJ68] at hW hF hs
                    have hFy : rowP J68 78 (x + 1) (fyY τ y) := by rw [eJ68]; exact hFy.ext (fy_d c44 c50 c58)
                    have hLr : rowP J68 79 x (lrY τ y) := by rw [eJ68]; exact hLr.keep (by decide)
                    have hB9 : rowP J68 75 (Yn σ) (fun z => (rgS τ x z).1) := by rw [eJ68]; exact hB9.keep (by decide)
                    refine lv_aload_n hx hb (dg D_X12_makePlan (i := 40) rfl) rfl (lv_at hl 1 rfl) ?_
                    refine r_getc (t := 79) X hW FI_X12_49 rfl (by decide) rfl (dg D_X12_makePlan (i := 41) rfl) ?_
                    refine lv_iload_n hx hb (dg D_X12_makePlan (i := 42) rfl) rfl (lv_at hl 4 rfl) ?_
                    refine lv_aload_n hx hb (dg D_X12_makePlan (i := 43) rfl) rfl (lv_at hl 1 rfl) ?_
                    refine r_getc (t := 75) X hW FI_X12_37 rfl (by decide) rfl (dg D_X12_makePlan (i := 44) rfl) ?_
                    refine lv_iload_n hx hb (dg D_X12_makePlan (i := 45) rfl) rfl (lv_at hl 3 rfl) ?_
                    refine r_ald (j := y) (v := (rgS τ x y).1) X hW rfl (by decide) rfl (by omega) (by decide) (hB9 _ (by omega)) (dg D_X12_makePlan (i := 46) rfl) ?_
                    refine r_ast (j := x) (v := (rgS τ x y).1) X hW hS rfl (by decide) rfl (by omega) (by decide) (dg D_X12_makePlan (i := 47) rfl) (fun H locs hW hS => ?_)
                    have hF : Fr SM I (u2 J68 79 x ((rgS τ x y).1)) := Fr.put hF rfl
                    have hs : (u2 J68 79 x ((rgS τ x y).1)) 68 = τ := hs
                    obtain ⟨J80, eJ80⟩ : ∃ J, J = u2 J68 79 x ((rgS τ x y).1) := ⟨_, rfl⟩
                    rw [← eJ80] at hW hF hs
                    have hFy : rowP J80 78 (x + 1) (fyY τ y) := by rw [eJ80]; exact hFy.keep (by decide)
                    have hLr : rowP J80 79 (x + 1) (lrY τ y) := by rw [eJ80]; exact hLr.ext rfl
                    have hB9 : rowP J80 75 (Yn σ) (fun z => (rgS τ x z).1) := by rw [eJ80]; exact hB9.keep (by decide)
                    refine lv_iinc (v := nI (x + 1)) (lv' := [(3, .int (nI (x + 1))), (4, .int (fp τ x)), (0, .ref (bs + 67)), (1, .int gs), (2, .int (nI y))]) hx hb (dg D_X12_makePlan (i := 48) rfl) hl (k := 4) rfl (nI_add _ _) (by decide) rfl (fun ls hl => ?_)
                    refine lv_goto (tgt := 18) hx hb (dg D_X12_makePlan (i := 49) rfl) (by decide) ?_
                    exact ih18 (by omega) J80 _ _ _ _ (congrArg nI (by omega)) hF hs hFy hLr hW hS (lv_sub hl [2, 3, 4, 0] rfl))
        exact loop18 0 (Nat.zero_le _) K6 _ _ _ _ (congrArg nI (by omega)) hF hs rowP.zero rowP.zero hW hS (lv_sub hl [1, 2, 3, 0] rfl))
  exact loop6 0 (Nat.zero_le _) I1 _ _ _ _ (congrArg nI (by omega)) hF hs hW hS (lv_sub hl [1, 2, 0] rfl)

