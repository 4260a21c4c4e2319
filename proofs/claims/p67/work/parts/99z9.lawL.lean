set_option maxHeartbeats 4000000 in
set_option maxRecDepth 100000 in
theorem c_L_refused {l : Launch} {G : va_G} {bs : Nat} {cy : Nat → ClassId} {I : CI} {L : CL} {R : CR} (σ : Row) (y : Nat) (x : Nat) (g : Nat) (hi : Inv σ) (hd : DR σ) (hw : LwAt I σ) (hLb : LwB σ) (hy9 : y < Yn σ) (hx9 : x < nS σ) (hg9 : g < nG σ) {sz : Nat} : MAi l G bs cy ML_refused 8 [.ref (ad bs 67), .int (nI y), .int (nI x), .int (nI g)] sz I L R (fun r I1 L1 R1 => r = rfs σ y x g ∧ Fr SLf I I1 ∧ L1 = L ∧ R1 = R) 1 4 := by
  refine MAi.of (own := RL) pn_RL rfl (Nat.le_of_ble_eq_true rfl) ?_
  intro p e s m args below meth c Qf X hW hS fin ls hl
  have hx := X.1
  have hb := X.2.1
  have hR : RmOK (rmL 8 1 4) 8 := ⟨rfl, rfl⟩
  have hcs : 0 ≤ (rmL 8 1 4).cells ∧ 0 ≤ (rmL 8 1 4).slots := ⟨Nat.zero_le _, Nat.zero_le _⟩
  have hsz0 := hW.sz
  have hA : AOK bs s.heap.size (Ar bs s.heap.size) := ArOK hsz0
  have hT : TW G cy bs s s.heap [] [] := TW.nil (Nat.le_refl _)
  have hl : lv_has ls 7 [(0, .ref (ad bs 67)), (1, .int (nI y)), (2, .int (nI x)), (3, .int (nI g))] := hl
  have hF : Fr SLf I I := Fr.rf
  obtain ⟨hY, hY1, hY12, hLn, hL4, hSn, hS12, hGn, hG5⟩ := id hi
  obtain ⟨hY6, hS5, hG2, hL3, hcl0⟩ := id hLb
  refine lv_aload_n hx hb (dg D_L_refused (i := 0) rfl) rfl (lv_at hl 0 rfl) ?_
  refine rL_get X hW FI_L_39 rfl (dg D_L_refused (i := 1) rfl) ?_
  refine lv_iload_n hx hb (dg D_L_refused (i := 2) rfl) rfl (lv_at hl 2 rfl) ?_
  refine rL_aald (j := x) X hW rfl (by omega) (dg D_L_refused (i := 3) rfl) ?_
  refine lv_iload_n hx hb (dg D_L_refused (i := 4) rfl) rfl (lv_at hl 1 rfl) ?_
  refine rL_ald (j := y) (v := pnt σ x y) X hW (shBy (by omega)) ⟨by omega, by show _ < 83; omega⟩ rfl (by omega) (by decide) (hw.by (by omega) (by omega)) (dg D_L_refused (i := 5) rfl) ?_
  refine lv_if_lt (tgt := 13) hx hb (dg D_L_refused (i := 6) rfl) (by decide) (fun c8 => ?_) (fun c8 => ?_)
  · refine n_iconst (a := 4) hx hb (dg D_L_refused (i := 9) rfl) rfl ?_
    refine z_new X hA hW hT hS (by show _ ≤ 1; omega) (by show _ ≤ 4; omega) (dg D_L_refused (i := 10) rfl) (fun q9 H hq8 hq7 hZ hW hT hS => ?_)
    have hZ : va_P G vwCl [(q9, arZ cy (fun j => bI (usd σ y x 0 j)))] H := by have e : (fun j => bI (usd σ y x 0 j)) = fun _ => (0 : Int32) := funext fun j => us_0; rw [e]; exact hZ
    have hcs : 0 + 1 ≤ (rmL 8 1 4).cells ∧ 0 + 4 ≤ (rmL 8 1 4).slots := ⟨by show _ ≤ 1; omega, by show _ ≤ 4; omega⟩
    refine lv_astore (lv' := [(4, .ref q9), (0, .ref (ad bs 67)), (1, .int (nI y)), (2, .int (nI x)), (3, .int (nI g))]) hx hb (dg D_L_refused (i := 11) rfl) hl (by decide) rfl (fun ls hl => ?_)
    refine n_iconst (a := 0) hx hb (dg D_L_refused (i := 12) rfl) rfl ?_
    refine lv_istore (lv' := [(5, .int (nI 0)), (4, .ref q9), (0, .ref (ad bs 67)), (1, .int (nI y)), (2, .int (nI x)), (3, .int (nI g))]) hx hb (dg D_L_refused (i := 13) rfl) hl (by decide) rfl (fun ls hl => ?_)
    refine n_iconst (a := 0) hx hb (dg D_L_refused (i := 14) rfl) rfl ?_
    refine lv_istore (lv' := [(6, .int (nI 0)), (5, .int (nI 0)), (4, .ref q9), (0, .ref (ad bs 67)), (1, .int (nI y)), (2, .int (nI x)), (3, .int (nI g))]) hx hb (dg D_L_refused (i := 15) rfl) hl (by decide) rfl (fun ls hl => ?_)
    have hl : lv_has ls 7 [(6, .int (nI 0)), (5, .int (nI (cnU σ y x 0))), (4, .ref q9), (0, .ref (ad bs 67)), (1, .int (nI y)), (2, .int (nI x)), (3, .int (nI g))] := by rw [cn_0]; exact hl
    have loop24 := up_ind (P := fun k => ∀ (K24 : CI) (H : Heap) (locs : List Loc) (ls : Array Slot), (Fr SLf I K24) → (LwAt K24 σ) → (va_P G vwCl [(q9, arZ cy (fun j => bI (usd σ y x k j)))] H) → TW G cy bs s H [] [] → Wd G bs cy K24 L R H → va_S (Ar bs s.heap.size) s.heap H locs → lv_has ls 7 [(0, .ref (ad bs 67)), (1, .int (nI y)), (2, .int (nI x)), (3, .int (nI g)), (4, .ref q9), (5, .int (nI (cnU σ y x k))), (6, .int (nI k))] → W p l e (rmL 8 1 4) s m args below meth c H locs 1 4 Qf (F0 m 24 ls [])) (nS σ) (fun k hx24 ih24 => by
        intro K24 H locs ls hF hw hZ hT hW hS hl
        have hcs : 1 + 0 ≤ (rmL 8 1 4).cells ∧ 4 + 0 ≤ (rmL 8 1 4).slots := ⟨by show _ ≤ 1; omega, by show _ ≤ 4; omega⟩
        refine lv_iload hx hb (dg D_L_refused (i := 16) rfl) (lv_at hl 6 rfl) ?_
        refine lv_aload_n hx hb (dg D_L_refused (i := 17) rfl) rfl (lv_at hl 0 rfl) ?_
        refine rL_get (v := .int (nI (nS σ))) X hW FI_L_93 (congrArg (fun z => some (Value.int z)) (hw.c4 hi)) (dg D_L_refused (i := 18) rfl) ?_
        refine n_icmp_ge (tgt := 97) hx hb (by omega) (by omega) (dg D_L_refused (i := 19) rfl) (by decide) (fun c30 => ?_) (fun c30 => ?_)
        · refine lv_aload_n hx hb (dg D_L_refused (i := 53) rfl) rfl (lv_at hl 0 rfl) ?_
          refine rL_get X hW FI_L_13 rfl (dg D_L_refused (i := 54) rfl) ?_
          refine lv_iload_n hx hb (dg D_L_refused (i := 55) rfl) rfl (lv_at hl 2 rfl) ?_
          refine rL_ald (j := x) (v := σ (10 + 5 * x + 0)) X hW rfl ⟨by decide, by decide⟩ rfl (by omega) (by decide) (hw.ln (by omega)) (dg D_L_refused (i := 56) rfl) ?_
          refine lv_if_lt (tgt := 117) hx hb (dg D_L_refused (i := 57) rfl) (by decide) (fun c103 => ?_) (fun c103 => ?_)
          · refine lv_aload_n hx hb (dg D_L_refused (i := 64) rfl) rfl (lv_at hl 0 rfl) ?_
            refine lv_iload_n hx hb (dg D_L_refused (i := 65) rfl) rfl (lv_at hl 3 rfl) ?_
            refine lv_iload_n hx hb (dg D_L_refused (i := 66) rfl) rfl (lv_at hl 1 rfl) ?_
            refine gO_i X hA hW hT hS hR (c_L_load_ (I := K24) σ g y (by first | exact hi | assumption | omega | decide | exact hP.1) (by first | exact hd | assumption | omega | decide | exact hP.1) (by first | exact hw | assumption | omega | decide | exact hP.1) (by first | exact hLb | assumption | omega | decide | exact hP.1) (by first | exact hg9 | assumption | omega | decide | exact hP.1) (by first | exact hy9 | assumption | omega | decide | exact hP.1)) (by decide) UVL_load_ LK_L_202 rfl rfl (Nat.le_of_ble_eq_true rfl) hl hcs (dg D_L_refused (i := 67) rfl) (fun r120 I120 L1 R1 H locs hq hW hT hS => ?_)
            obtain ⟨rfl, hT120, rfl, rfl⟩ := hq
            have hF : Fr SLf I I120 := Fr.tr hF hT120 (fun _ _ h => h)
            have hw : LwAt I120 σ := hw.fr hT120
            refine lv_aload_n hx hb (dg D_L_refused (i := 68) rfl) rfl (lv_at hl 0 rfl) ?_
            refine lv_iload_n hx hb (dg D_L_refused (i := 69) rfl) rfl (lv_at hl 2 rfl) ?_
            refine lv_iload_n hx hb (dg D_L_refused (i := 70) rfl) rfl (lv_at hl 1 rfl) ?_
            refine gO_i X hA hW hT hS hR (c_L_effort (I := I120) σ x y (by first | exact hi | assumption | omega | decide | exact hP.1) (by first | exact hd | assumption | omega | decide | exact hP.1) (by first | exact hw | assumption | omega | decide | exact hP.1) (by first | exact hLb | assumption | omega | decide | exact hP.1) (by first | exact hx9 | assumption | omega | decide | exact hP.1) (by first | exact hy9 | assumption | omega | decide | exact hP.1)) (by decide) UVL_effort LK_L_199 rfl rfl (Nat.le_of_ble_eq_true rfl) hl hcs (dg D_L_refused (i := 71) rfl) (fun r126 I126 L1 R1 H locs hq hW hT hS => ?_)
            obtain ⟨rfl, hT126, hp126_0, rfl, rfl⟩ := hq
            have hF : Fr SLf I I126 := Fr.tr hF hT126 (fun _ _ h => h)
            have hw : LwAt I126 σ := hw.fr hT126
            refine lv_iadd hx hb (dg D_L_refused (i := 72) rfl) ?_
            refine lv_aload_n hx hb (dg D_L_refused (i := 73) rfl) rfl (lv_at hl 0 rfl) ?_
            refine rL_get X hW FI_L_28 rfl (dg D_L_refused (i := 74) rfl) ?_
            refine lv_iload_n hx hb (dg D_L_refused (i := 75) rfl) rfl (lv_at hl 3 rfl) ?_
            refine rL_ald (j := g) (v := σ (70 + 2 * g + 0)) X hW rfl ⟨by decide, by decide⟩ rfl (by omega) (by decide) (hw.sp (by omega)) (dg D_L_refused (i := 76) rfl) ?_
            refine lv_aload_n hx hb (dg D_L_refused (i := 77) rfl) rfl (lv_at hl 0 rfl) ?_
            refine rL_get X hW FI_L_34 rfl (dg D_L_refused (i := 78) rfl) ?_
            refine lv_iload_n hx hb (dg D_L_refused (i := 79) rfl) rfl (lv_at hl 1 rfl) ?_
            refine rL_ald (j := y) (v := σ (80 + y)) X hW rfl ⟨by decide, by decide⟩ rfl (by omega) (by decide) (hw.da (by omega)) (dg D_L_refused (i := 80) rfl) ?_
            refine lv_imul hx hb (dg D_L_refused (i := 81) rfl) ?_
            refine lv_icmp_le (tgt := 150) hx hb (dg D_L_refused (i := 82) rfl) (by decide) (fun c143 => ?_) (fun c143 => ?_)
            · refine n_iconst (a := 0) hx hb (dg D_L_refused (i := 85) rfl) rfl ?_
              exact fin (dg D_L_refused (i := 86) rfl) (by omega) (by omega) hW hS ⟨((rf_4 (g := g) (pn_lt hi hd (by omega) (by omega) (by first | exact c8 | exact Int32.not_le.mp c8)) (hcl0 y (by omega)) (by omega) (Or.inl (ln_m1 hd hi (by omega) c103))).trans (if_neg (by first | exact Int32.not_lt.mpr c143 | exact c143))).symm, hF, rfl, rfl⟩
            · refine n_iconst (a := 4) hx hb (dg D_L_refused (i := 83) rfl) rfl ?_
              refine lv_goto (tgt := 151) hx hb (dg D_L_refused (i := 84) rfl) (by decide) ?_
              exact fin (dg D_L_refused (i := 86) rfl) (by omega) (by omega) hW hS ⟨((rf_4 (g := g) (pn_lt hi hd (by omega) (by omega) (by first | exact c8 | exact Int32.not_le.mp c8)) (hcl0 y (by omega)) (by omega) (Or.inl (ln_m1 hd hi (by omega) c103))).trans (if_pos (by first | exact Int32.not_le.mp c143 | exact c143))).symm, hF, rfl, rfl⟩
          · refine lv_iload hx hb (dg D_L_refused (i := 58) rfl) (lv_at hl 5 rfl) ?_
            refine lv_aload_n hx hb (dg D_L_refused (i := 59) rfl) rfl (lv_at hl 0 rfl) ?_
            refine rL_get (v := .int (σ 1)) X hW FI_L_84 (congrArg (fun z => some (Value.int z)) hw.c1) (dg D_L_refused (i := 60) rfl) ?_
            refine lv_icmp_le (tgt := 117) hx hb (dg D_L_refused (i := 61) rfl) (by decide) (fun c112 => ?_) (fun c112 => ?_)
            · refine lv_aload_n hx hb (dg D_L_refused (i := 64) rfl) rfl (lv_at hl 0 rfl) ?_
              refine lv_iload_n hx hb (dg D_L_refused (i := 65) rfl) rfl (lv_at hl 3 rfl) ?_
              refine lv_iload_n hx hb (dg D_L_refused (i := 66) rfl) rfl (lv_at hl 1 rfl) ?_
              refine gO_i X hA hW hT hS hR (c_L_load_ (I := K24) σ g y (by first | exact hi | assumption | omega | decide | exact hP.1) (by first | exact hd | assumption | omega | decide | exact hP.1) (by first | exact hw | assumption | omega | decide | exact hP.1) (by first | exact hLb | assumption | omega | decide | exact hP.1) (by first | exact hg9 | assumption | omega | decide | exact hP.1) (by first | exact hy9 | assumption | omega | decide | exact hP.1)) (by decide) UVL_load_ LK_L_202 rfl rfl (Nat.le_of_ble_eq_true rfl) hl hcs (dg D_L_refused (i := 67) rfl) (fun r120 I120 L1 R1 H locs hq hW hT hS => ?_)
              obtain ⟨rfl, hT120, rfl, rfl⟩ := hq
              have hF : Fr SLf I I120 := Fr.tr hF hT120 (fun _ _ h => h)
              have hw : LwAt I120 σ := hw.fr hT120
              refine lv_aload_n hx hb (dg D_L_refused (i := 68) rfl) rfl (lv_at hl 0 rfl) ?_
              refine lv_iload_n hx hb (dg D_L_refused (i := 69) rfl) rfl (lv_at hl 2 rfl) ?_
              refine lv_iload_n hx hb (dg D_L_refused (i := 70) rfl) rfl (lv_at hl 1 rfl) ?_
              refine gO_i X hA hW hT hS hR (c_L_effort (I := I120) σ x y (by first | exact hi | assumption | omega | decide | exact hP.1) (by first | exact hd | assumption | omega | decide | exact hP.1) (by first | exact hw | assumption | omega | decide | exact hP.1) (by first | exact hLb | assumption | omega | decide | exact hP.1) (by first | exact hx9 | assumption | omega | decide | exact hP.1) (by first | exact hy9 | assumption | omega | decide | exact hP.1)) (by decide) UVL_effort LK_L_199 rfl rfl (Nat.le_of_ble_eq_true rfl) hl hcs (dg D_L_refused (i := 71) rfl) (fun r126 I126 L1 R1 H locs hq hW hT hS => ?_)
              obtain ⟨rfl, hT126, hp126_0, rfl, rfl⟩ := hq
              have hF : Fr SLf I I126 := Fr.tr hF hT126 (fun _ _ h => h)
              have hw : LwAt I126 σ := hw.fr hT126
              refine lv_iadd hx hb (dg D_L_refused (i := 72) rfl) ?_
              refine lv_aload_n hx hb (dg D_L_refused (i := 73) rfl) rfl (lv_at hl 0 rfl) ?_
              refine rL_get X hW FI_L_28 rfl (dg D_L_refused (i := 74) rfl) ?_
              refine lv_iload_n hx hb (dg D_L_refused (i := 75) rfl) rfl (lv_at hl 3 rfl) ?_
              refine rL_ald (j := g) (v := σ (70 + 2 * g + 0)) X hW rfl ⟨by decide, by decide⟩ rfl (by omega) (by decide) (hw.sp (by omega)) (dg D_L_refused (i := 76) rfl) ?_
              refine lv_aload_n hx hb (dg D_L_refused (i := 77) rfl) rfl (lv_at hl 0 rfl) ?_
              refine rL_get X hW FI_L_34 rfl (dg D_L_refused (i := 78) rfl) ?_
              refine lv_iload_n hx hb (dg D_L_refused (i := 79) rfl) rfl (lv_at hl 1 rfl) ?_
              refine rL_ald (j := y) (v := σ (80 + y)) X hW rfl ⟨by decide, by decide⟩ rfl (by omega) (by decide) (hw.da (by omega)) (dg D_L_refused (i := 80) rfl) ?_
              refine lv_imul hx hb (dg D_L_refused (i := 81) rfl) ?_
              refine lv_icmp_le (tgt := 150) hx hb (dg D_L_refused (i := 82) rfl) (by decide) (fun c143 => ?_) (fun c143 => ?_)
              · refine n_iconst (a := 0) hx hb (dg D_L_refused (i := 85) rfl) rfl ?_
                exact fin (dg D_L_refused (i := 86) rfl) (by omega) (by omega) hW hS ⟨((rf_4 (g := g) (pn_lt hi hd (by omega) (by omega) (by first | exact c8 | exact Int32.not_le.mp c8)) (hcl0 y (by omega)) (by omega) (Or.inr (by rw [show nS σ = k by omega]; first | exact Int32.not_lt.mpr c112 | exact c112))).trans (if_neg (by first | exact Int32.not_lt.mpr c143 | exact c143))).symm, hF, rfl, rfl⟩
              · refine n_iconst (a := 4) hx hb (dg D_L_refused (i := 83) rfl) rfl ?_
                refine lv_goto (tgt := 151) hx hb (dg D_L_refused (i := 84) rfl) (by decide) ?_
                exact fin (dg D_L_refused (i := 86) rfl) (by omega) (by omega) hW hS ⟨((rf_4 (g := g) (pn_lt hi hd (by omega) (by omega) (by first | exact c8 | exact Int32.not_le.mp c8)) (hcl0 y (by omega)) (by omega) (Or.inr (by rw [show nS σ = k by omega]; first | exact Int32.not_lt.mpr c112 | exact c112))).trans (if_pos (by first | exact Int32.not_le.mp c143 | exact c143))).symm, hF, rfl, rfl⟩
            · refine n_iconst (a := 3) hx hb (dg D_L_refused (i := 62) rfl) rfl ?_
              exact fin (dg D_L_refused (i := 63) rfl) (by omega) (by omega) hW hS ⟨(rf_3 (pn_lt hi hd (by omega) (by omega) (by first | exact c8 | exact Int32.not_le.mp c8)) (hcl0 y (by omega)) (by omega) (nlt_m1 (by first | exact c103 | exact Int32.not_lt.mpr c103)) (by rw [show nS σ = k by omega]; first | exact Int32.not_le.mp c112 | exact c112)).symm, hF, rfl, rfl⟩
        · refine lv_aload_n hx hb (dg D_L_refused (i := 20) rfl) rfl (lv_at hl 0 rfl) ?_
          refine rL_get X hW FI_L_39 rfl (dg D_L_refused (i := 21) rfl) ?_
          refine lv_iload hx hb (dg D_L_refused (i := 22) rfl) (lv_at hl 6 rfl) ?_
          refine rL_aald (j := k) X hW rfl (by omega) (dg D_L_refused (i := 23) rfl) ?_
          refine lv_iload_n hx hb (dg D_L_refused (i := 24) rfl) rfl (lv_at hl 1 rfl) ?_
          refine rL_ald (j := y) (v := pnt σ k y) X hW (shBy (by omega)) ⟨by omega, by show _ < 83; omega⟩ rfl (by omega) (by decide) (hw.by (by omega) (by omega)) (dg D_L_refused (i := 25) rfl) ?_
          refine lv_if_ge (tgt := 51) hx hb (dg D_L_refused (i := 26) rfl) (by decide) (fun c42 => ?_) (fun c42 => ?_)
          · have hcd : pnt σ k y ≠ -1 ∨ k = x := Or.inl (nlt_m1 (by first | exact Int32.not_lt.mpr c42 | exact c42))
            refine lv_aload_n hx hb (dg D_L_refused (i := 30) rfl) rfl (lv_at hl 0 rfl) ?_
            refine rL_get X hW FI_L_13 rfl (dg D_L_refused (i := 31) rfl) ?_
            refine lv_iload hx hb (dg D_L_refused (i := 32) rfl) (lv_at hl 6 rfl) ?_
            refine rL_ald (j := k) (v := σ (10 + 5 * k + 0)) X hW rfl ⟨by decide, by decide⟩ rfl (by omega) (by decide) (hw.ln (by omega)) (dg D_L_refused (i := 33) rfl) ?_
            refine lv_if_lt (tgt := 91) hx hb (dg D_L_refused (i := 34) rfl) (by decide) (fun c58 => ?_) (fun c58 => ?_)
            · refine lv_iinc (v := nI (k + 1)) (lv' := [(6, .int (nI (k + 1))), (0, .ref (ad bs 67)), (1, .int (nI y)), (2, .int (nI x)), (3, .int (nI g)), (4, .ref q9), (5, .int (nI (cnU σ y x k)))]) hx hb (dg D_L_refused (i := 51) rfl) hl (k := 6) rfl (nI_add _ _) (by decide) rfl (fun ls hl => ?_)
              refine lv_goto (tgt := 24) hx hb (dg D_L_refused (i := 52) rfl) (by decide) ?_
              obtain ⟨hcn9, hus9⟩ := us_eq (us_skip (σ := σ) (y := y) (x := x) (k := k) (fun h => h.2 (ln_m1 hd hi (by omega) c58)))
              have hZ : va_P G vwCl [(q9, arZ cy (fun j => bI (usd σ y x (k + 1) j)))] H := by rw [hus9]; exact hZ
              rw [← hcn9] at hl
              refine W.widen (k := 1) (n := 4) (by omega) (by omega) ?_
              exact ih24 (by omega) K24 _ _ _ hF hw hZ hT hW hS (lv_sub hl [1, 2, 3, 4, 5, 6, 0] rfl)
            · obtain ⟨q1, hq1, hq9v⟩ := ln_nI hi hd (by omega) (by first | exact c58 | exact Int32.not_lt.mpr c58)
              refine lv_aload hx hb (dg D_L_refused (i := 35) rfl) (lv_at hl 4 rfl) ?_
              refine lv_aload_n hx hb (dg D_L_refused (i := 36) rfl) rfl (lv_at hl 0 rfl) ?_
              refine rL_get X hW FI_L_13 rfl (dg D_L_refused (i := 37) rfl) ?_
              refine lv_iload hx hb (dg D_L_refused (i := 38) rfl) (lv_at hl 6 rfl) ?_
              refine rL_ald (j := k) (v := nI q1) X hW rfl ⟨by decide, by decide⟩ rfl (by omega) (by decide) ((hw.ln (by omega)).trans hq9v) (dg D_L_refused (i := 39) rfl) ?_
              refine z_ald (v := bI (usd σ y x k q1)) X hZ hq1 rfl (dg D_L_refused (i := 40) rfl) ?_
              refine z_if_eq (tgt := 77) hx hb (dg D_L_refused (i := 41) rfl) (by decide) (fun c71 => ?_) (fun c71 => ?_)
              · refine lv_aload hx hb (dg D_L_refused (i := 43) rfl) (lv_at hl 4 rfl) ?_
                refine lv_aload_n hx hb (dg D_L_refused (i := 44) rfl) rfl (lv_at hl 0 rfl) ?_
                refine rL_get X hW FI_L_13 rfl (dg D_L_refused (i := 45) rfl) ?_
                refine lv_iload hx hb (dg D_L_refused (i := 46) rfl) (lv_at hl 6 rfl) ?_
                refine rL_ald (j := k) (v := nI q1) X hW rfl ⟨by decide, by decide⟩ rfl (by omega) (by decide) ((hw.ln (by omega)).trans hq9v) (dg D_L_refused (i := 47) rfl) ?_
                refine n_iconst (a := 1) hx hb (dg D_L_refused (i := 48) rfl) rfl ?_
                refine z_ast X hA hW hT hS hZ hq8 hq7 hq1 (dg D_L_refused (i := 49) rfl) (fun H locs hZ hW hT hS => ?_)
                refine lv_iinc (v := nI (cnU σ y x k + 1)) (lv' := [(5, .int (nI (cnU σ y x k + 1))), (0, .ref (ad bs 67)), (1, .int (nI y)), (2, .int (nI x)), (3, .int (nI g)), (4, .ref q9), (6, .int (nI k))]) hx hb (dg D_L_refused (i := 50) rfl) hl (k := 5) rfl (nI_add _ _) (by decide) rfl (fun ls hl => ?_)
                refine lv_iinc (v := nI (k + 1)) (lv' := [(6, .int (nI (k + 1))), (5, .int (nI (cnU σ y x k + 1))), (0, .ref (ad bs 67)), (1, .int (nI y)), (2, .int (nI x)), (3, .int (nI g)), (4, .ref q9)]) hx hb (dg D_L_refused (i := 51) rfl) hl (k := 6) rfl (nI_add _ _) (by decide) rfl (fun ls hl => ?_)
                refine lv_goto (tgt := 24) hx hb (dg D_L_refused (i := 52) rfl) (by decide) ?_
                obtain ⟨hcn9, hus9⟩ := us_new hcd hq9v (by omega) (by first | exact c71 | exact Bool.eq_false_of_not_eq_true c71 | simpa using c71)
                have hZ : va_P G vwCl [(q9, arZ cy (fun j => bI (usd σ y x (k + 1) j)))] H := by rw [hus9]; exact hZ
                rw [← hcn9] at hl
                refine W.widen (k := 1) (n := 4) (by omega) (by omega) ?_
                exact ih24 (by omega) K24 _ _ _ hF hw hZ hT hW hS (lv_sub hl [2, 3, 4, 5, 6, 1, 0] rfl)
              · refine lv_goto (tgt := 91) hx hb (dg D_L_refused (i := 42) rfl) (by decide) ?_
                refine lv_iinc (v := nI (k + 1)) (lv' := [(6, .int (nI (k + 1))), (0, .ref (ad bs 67)), (1, .int (nI y)), (2, .int (nI x)), (3, .int (nI g)), (4, .ref q9), (5, .int (nI (cnU σ y x k)))]) hx hb (dg D_L_refused (i := 51) rfl) hl (k := 6) rfl (nI_add _ _) (by decide) rfl (fun ls hl => ?_)
                refine lv_goto (tgt := 24) hx hb (dg D_L_refused (i := 52) rfl) (by decide) ?_
                obtain ⟨hcn9, hus9⟩ := us_old hcd hq9v (by omega) (by first | exact c71 | exact Bool.of_not_eq_false c71 | exact Bool.eq_true_of_not_eq_false c71 | simpa using c71)
                have hZ : va_P G vwCl [(q9, arZ cy (fun j => bI (usd σ y x (k + 1) j)))] H := by rw [hus9]; exact hZ
                rw [← hcn9] at hl
                refine W.widen (k := 1) (n := 4) (by omega) (by omega) ?_
                exact ih24 (by omega) K24 _ _ _ hF hw hZ hT hW hS (lv_sub hl [1, 2, 3, 4, 5, 6, 0] rfl)
          · refine lv_iload hx hb (dg D_L_refused (i := 27) rfl) (lv_at hl 6 rfl) ?_
            refine lv_iload_n hx hb (dg D_L_refused (i := 28) rfl) rfl (lv_at hl 2 rfl) ?_
            refine n_icmp_ne (tgt := 91) hx hb (by omega) (by omega) (dg D_L_refused (i := 29) rfl) (by decide) (fun c48 => ?_) (fun c48 => ?_)
            · refine lv_iinc (v := nI (k + 1)) (lv' := [(6, .int (nI (k + 1))), (0, .ref (ad bs 67)), (1, .int (nI y)), (2, .int (nI x)), (3, .int (nI g)), (4, .ref q9), (5, .int (nI (cnU σ y x k)))]) hx hb (dg D_L_refused (i := 51) rfl) hl (k := 6) rfl (nI_add _ _) (by decide) rfl (fun ls hl => ?_)
              refine lv_goto (tgt := 24) hx hb (dg D_L_refused (i := 52) rfl) (by decide) ?_
              obtain ⟨hcn9, hus9⟩ := us_eq (us_skip (σ := σ) (y := y) (x := x) (k := k) (fun h => h.1.elim (fun h => h (pn_lt (x := k) (y := y) hi hd (by omega) (by omega) (by first | exact Int32.not_le.mp c42 | exact c42))) (fun h => by omega)))
              have hZ : va_P G vwCl [(q9, arZ cy (fun j => bI (usd σ y x (k + 1) j)))] H := by rw [hus9]; exact hZ
              rw [← hcn9] at hl
              refine W.widen (k := 1) (n := 4) (by omega) (by omega) ?_
              exact ih24 (by omega) K24 _ _ _ hF hw hZ hT hW hS (lv_sub hl [1, 2, 3, 4, 5, 6, 0] rfl)
            · have hcd : pnt σ k y ≠ -1 ∨ k = x := Or.inr (by omega)
              refine lv_aload_n hx hb (dg D_L_refused (i := 30) rfl) rfl (lv_at hl 0 rfl) ?_
              refine rL_get X hW FI_L_13 rfl (dg D_L_refused (i := 31) rfl) ?_
              refine lv_iload hx hb (dg D_L_refused (i := 32) rfl) (lv_at hl 6 rfl) ?_
              refine rL_ald (j := k) (v := σ (10 + 5 * k + 0)) X hW rfl ⟨by decide, by decide⟩ rfl (by omega) (by decide) (hw.ln (by omega)) (dg D_L_refused (i := 33) rfl) ?_
              refine lv_if_lt (tgt := 91) hx hb (dg D_L_refused (i := 34) rfl) (by decide) (fun c58 => ?_) (fun c58 => ?_)
              · refine lv_iinc (v := nI (k + 1)) (lv' := [(6, .int (nI (k + 1))), (0, .ref (ad bs 67)), (1, .int (nI y)), (2, .int (nI x)), (3, .int (nI g)), (4, .ref q9), (5, .int (nI (cnU σ y x k)))]) hx hb (dg D_L_refused (i := 51) rfl) hl (k := 6) rfl (nI_add _ _) (by decide) rfl (fun ls hl => ?_)
                refine lv_goto (tgt := 24) hx hb (dg D_L_refused (i := 52) rfl) (by decide) ?_
                obtain ⟨hcn9, hus9⟩ := us_eq (us_skip (σ := σ) (y := y) (x := x) (k := k) (fun h => h.2 (ln_m1 hd hi (by omega) c58)))
                have hZ : va_P G vwCl [(q9, arZ cy (fun j => bI (usd σ y x (k + 1) j)))] H := by rw [hus9]; exact hZ
                rw [← hcn9] at hl
                refine W.widen (k := 1) (n := 4) (by omega) (by omega) ?_
                exact ih24 (by omega) K24 _ _ _ hF hw hZ hT hW hS (lv_sub hl [1, 2, 3, 4, 5, 6, 0] rfl)
              · obtain ⟨q1, hq1, hq9v⟩ := ln_nI hi hd (by omega) (by first | exact c58 | exact Int32.not_lt.mpr c58)
                refine lv_aload hx hb (dg D_L_refused (i := 35) rfl) (lv_at hl 4 rfl) ?_
                refine lv_aload_n hx hb (dg D_L_refused (i := 36) rfl) rfl (lv_at hl 0 rfl) ?_
                refine rL_get X hW FI_L_13 rfl (dg D_L_refused (i := 37) rfl) ?_
                refine lv_iload hx hb (dg D_L_refused (i := 38) rfl) (lv_at hl 6 rfl) ?_
                refine rL_ald (j := k) (v := nI q1) X hW rfl ⟨by decide, by decide⟩ rfl (by omega) (by decide) ((hw.ln (by omega)).trans hq9v) (dg D_L_refused (i := 39) rfl) ?_
                refine z_ald (v := bI (usd σ y x k q1)) X hZ hq1 rfl (dg D_L_refused (i := 40) rfl) ?_
                refine z_if_eq (tgt := 77) hx hb (dg D_L_refused (i := 41) rfl) (by decide) (fun c71 => ?_) (fun c71 => ?_)
                · refine lv_aload hx hb (dg D_L_refused (i := 43) rfl) (lv_at hl 4 rfl) ?_
                  refine lv_aload_n hx hb (dg D_L_refused (i := 44) rfl) rfl (lv_at hl 0 rfl) ?_
                  refine rL_get X hW FI_L_13 rfl (dg D_L_refused (i := 45) rfl) ?_
                  refine lv_iload hx hb (dg D_L_refused (i := 46) rfl) (lv_at hl 6 rfl) ?_
                  refine rL_ald (j := k) (v := nI q1) X hW rfl ⟨by decide, by decide⟩ rfl (by omega) (by decide) ((hw.ln (by omega)).trans hq9v) (dg D_L_refused (i := 47) rfl) ?_
                  refine n_iconst (a := 1) hx hb (dg D_L_refused (i := 48) rfl) rfl ?_
                  refine z_ast X hA hW hT hS hZ hq8 hq7 hq1 (dg D_L_refused (i := 49) rfl) (fun H locs hZ hW hT hS => ?_)
                  refine lv_iinc (v := nI (cnU σ y x k + 1)) (lv' := [(5, .int (nI (cnU σ y x k + 1))), (0, .ref (ad bs 67)), (1, .int (nI y)), (2, .int (nI x)), (3, .int (nI g)), (4, .ref q9), (6, .int (nI k))]) hx hb (dg D_L_refused (i := 50) rfl) hl (k := 5) rfl (nI_add _ _) (by decide) rfl (fun ls hl => ?_)
                  refine lv_iinc (v := nI (k + 1)) (lv' := [(6, .int (nI (k + 1))), (5, .int (nI (cnU σ y x k + 1))), (0, .ref (ad bs 67)), (1, .int (nI y)), (2, .int (nI x)), (3, .int (nI g)), (4, .ref q9)]) hx hb (dg D_L_refused (i := 51) rfl) hl (k := 6) rfl (nI_add _ _) (by decide) rfl (fun ls hl => ?_)
                  refine lv_goto (tgt := 24) hx hb (dg D_L_refused (i := 52) rfl) (by decide) ?_
                  obtain ⟨hcn9, hus9⟩ := us_new hcd hq9v (by omega) (by first | exact c71 | exact Bool.eq_false_of_not_eq_true c71 | simpa using c71)
                  have hZ : va_P G vwCl [(q9, arZ cy (fun j => bI (usd σ y x (k + 1) j)))] H := by rw [hus9]; exact hZ
                  rw [← hcn9] at hl
                  refine W.widen (k := 1) (n := 4) (by omega) (by omega) ?_
                  exact ih24 (by omega) K24 _ _ _ hF hw hZ hT hW hS (lv_sub hl [2, 3, 4, 5, 6, 1, 0] rfl)
                · refine lv_goto (tgt := 91) hx hb (dg D_L_refused (i := 42) rfl) (by decide) ?_
                  refine lv_iinc (v := nI (k + 1)) (lv' := [(6, .int (nI (k + 1))), (0, .ref (ad bs 67)), (1, .int (nI y)), (2, .int (nI x)), (3, .int (nI g)), (4, .ref q9), (5, .int (nI (cnU σ y x k)))]) hx hb (dg D_L_refused (i := 51) rfl) hl (k := 6) rfl (nI_add _ _) (by decide) rfl (fun ls hl => ?_)
                  refine lv_goto (tgt := 24) hx hb (dg D_L_refused (i := 52) rfl) (by decide) ?_
                  obtain ⟨hcn9, hus9⟩ := us_old hcd hq9v (by omega) (by first | exact c71 | exact Bool.of_not_eq_false c71 | exact Bool.eq_true_of_not_eq_false c71 | simpa using c71)
                  have hZ : va_P G vwCl [(q9, arZ cy (fun j => bI (usd σ y x (k + 1) j)))] H := by rw [hus9]; exact hZ
                  rw [← hcn9] at hl
                  refine W.widen (k := 1) (n := 4) (by omega) (by omega) ?_
                  exact ih24 (by omega) K24 _ _ _ hF hw hZ hT hW hS (lv_sub hl [1, 2, 3, 4, 5, 6, 0] rfl))
    refine W.widen (k := 1) (n := 4) (by omega) (by omega) ?_
    exact loop24 0 (Nat.zero_le _) I _ _ _ hF hw hZ hT hW hS (lv_sub hl [3, 4, 5, 6, 2, 1, 0] rfl)
  · refine n_iconst (a := 1) hx hb (dg D_L_refused (i := 7) rfl) rfl ?_
    exact fin (dg D_L_refused (i := 8) rfl) (by omega) (by omega) hW hS ⟨(rf_1 (by first | exact c8 | exact Int32.not_lt.mpr c8)).symm, hF, rfl, rfl⟩

