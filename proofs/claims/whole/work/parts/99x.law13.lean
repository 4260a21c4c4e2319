/-! the two sides of each method of the face -/
def SUr (a j : Nat) : Bool := a == 75 || a == 76 || a == 77 || (a == 67 && j == 6) || a == 78 || a == 79
theorem OKM_SUr : OKM SUr := fun a j h => by unfold SUr; simp only [Bool.or_eq_false_iff, Bool.and_eq_false_iff, beq_eq_false_iff_ne]; omega
theorem SUr_68 {I I1 : CI} {σ : Row} (hF : Fr SUr I I1) (h : I 68 = σ) : I1 68 = σ := (hF.row (fun j => by unfold SUr; simp)).trans h
theorem u2L_at9 {L : CL} {k j : Nat} {v : Int64} : u2L L k j v k j = v := by rw [u2L_eq]; simp [vp_updL]
theorem u2L_dat {L : CL} {k j : Nat} {v : UInt64} : (u2L L k j v.toInt64 k j).toUInt64 = v := by rw [u2L_at9]; rfl
set_option maxHeartbeats 4000000 in
set_option maxRecDepth 100000 in
theorem c_X12_urgentU {l : Launch} {G : va_G} {bs : Nat} {cy : Nat → ClassId} {I : CI} {L : CL} {R : CR} (σ : Row) (v : Int32) (hs : I 68 = σ) (hi : Inv σ) : MTi l G bs cy MX12_urgent 5 [.ref (bs + 67), .int v] I L R (fun r I1 L1 R1 => ((inB v (nS σ)) = true → r = rkd (urF σ) (urL σ) (nS σ) v) ∧ Fr SUr I I1 ∧ I1 67 6 = thr (inB v (nS σ)) ∧ L = L1 ∧ R = R1) := by
  refine MTi.of (own := RX12) pn_RX12 rfl (Nat.le_of_ble_eq_true rfl) ?_
  intro p e s m args below meth c Qf X hW hS fin ls hl
  have hx := X.1
  have hb := X.2.1
  have hR : RmOK (rmL 5 0 0) 5 := ⟨rfl, rfl⟩
  have hcs : 0 ≤ (rmL 5 0 0).cells ∧ 0 ≤ (rmL 5 0 0).slots := ⟨Nat.zero_le _, Nat.zero_le _⟩
  have hl : lv_has ls 4 [(0, .ref (bs + 67)), (1, .int v)] := hl
  have hF : Fr SUr I I := Fr.rf
  obtain ⟨hY, hY1, hY12, hLn, hL4, hSn, hS12, hGn, hG5⟩ := id hi
  refine lv_aload_n hx hb (dg D_X12_urgent (i := 0) rfl) rfl (lv_at hl 0 rfl) ?_
  refine lv_aload_n hx hb (dg D_X12_urgent (i := 1) rfl) rfl (lv_at hl 0 rfl) ?_
  refine lv_iload_n hx hb (dg D_X12_urgent (i := 2) rfl) rfl (lv_at hl 1 rfl) ?_
  refine callVi X hW hS hR (c_X12_isSpan (I := I) σ v (by first | assumption | omega | decide | exact hP.1) (by first | assumption | omega | decide | exact hP.1)) (by decide) UVX12_isSpan LK_X12_88 rfl (by decide) rfl rfl rfl (Nat.le_of_ble_eq_true rfl) hl hcs (dg D_X12_urgent (i := 3) rfl) (fun r3 I3 L1 R1 H locs hq hW hS => ?_)
  obtain ⟨rfl, rfl, rfl, rfl⟩ := hq
  refine callVi X hW hS hR (c_X12_good (I := I) (inB v (nS σ))) (by decide) UVX12_good LK_X12_95 rfl (by decide) rfl rfl rfl (Nat.le_of_ble_eq_true rfl) hl hcs (dg D_X12_urgent (i := 4) rfl) (fun r6 I6 L1 R1 H locs hq hW hS => ?_)
  obtain ⟨rfl, hT6, hp6_0, rfl, rfl⟩ := hq
  have hF : Fr SUr I I6 := Fr.tr hF hT6 (by intro a j h; simp only [ST, SUr, Bool.or_eq_true, Bool.and_eq_true, beq_iff_eq, decide_eq_true_eq] at h ⊢; omega)
  have hs : I6 68 = σ := by rw [Fr.row hT6 (fun _ => rfl)]; exact hs
  have hth : I6 67 6 = thr (inB v (nS σ)) := hp6_0
  refine z_if_ne (tgt := 14) hx hb (dg D_X12_urgent (i := 5) rfl) (by decide) (fun c9 => ?_) (fun c9 => ?_)
  · obtain ⟨jv, hjv, rfl⟩ := inB_of c9 (by omega)
    refine n_iconst (a := 0) hx hb (dg D_X12_urgent (i := 8) rfl) rfl ?_
    refine lv_istore_n (lv' := [(2, .int (nI 0)), (0, .ref (bs + 67)), (1, .int (nI jv))]) hx hb (dg D_X12_urgent (i := 9) rfl) rfl hl (by decide) rfl (fun ls hl => ?_)
    have loop16 := up_ind (P := fun x => ∀ (K16 : CI) (H : Heap) (locs : List Loc) (ls : Array Slot) (v2 : Int32), v2 = nI x → (Fr SUr I K16) → (K16 68 = σ) → (K16 67 6 = thr (inB (nI jv) (nS σ))) → (rowP K16 78 x (urF σ)) → (rowP K16 79 x (urL σ)) → Wd G bs cy K16 L R H → va_S (Aq bs) s.heap H locs → lv_has ls 4 [(0, .ref (bs + 67)), (1, .int (nI jv)), (2, .int v2)] → W p l e (rmL 5 0 0) s m args below meth c H locs 0 0 Qf (F0 m 16 ls [])) (nS σ) (fun x hx16 ih16 => by
        intro K16 H locs ls v2 q2 hF hs hth hFy hLr hW hS hl
        subst q2
        refine lv_iload_n hx hb (dg D_X12_urgent (i := 10) rfl) rfl (lv_at hl 2 rfl) ?_
        refine lv_aload_n hx hb (dg D_X12_urgent (i := 11) rfl) rfl (lv_at hl 0 rfl) ?_
        refine r_getc (t := 68) X hW FI_X12_7 rfl (by decide) rfl (dg D_X12_urgent (i := 12) rfl) ?_
        refine n_iconst (a := 4) hx hb (dg D_X12_urgent (i := 13) rfl) rfl ?_
        refine r_ald (j := 4) (v := nI (nS σ)) X hW rfl (by decide) rfl (by omega) (by decide) ((congrFun hs _).trans hSn) (dg D_X12_urgent (i := 14) rfl) ?_
        refine n_icmp_ge (tgt := 79) hx hb (by omega) (by omega) (dg D_X12_urgent (i := 15) rfl) (by decide) (fun c23 => ?_) (fun c23 => ?_)
        · refine lv_aload_n hx hb (dg D_X12_urgent (i := 48) rfl) rfl (lv_at hl 0 rfl) ?_
          refine lv_iload_n hx hb (dg D_X12_urgent (i := 49) rfl) rfl (lv_at hl 1 rfl) ?_
          refine callVi X hW hS hR (c_X12_ranked (I := K16) σ (urF σ) (urL σ) (nI jv) (by first | assumption | omega | decide | exact hP.1) (by first | assumption | omega | decide | exact hP.1) (by rw [← show x = nS σ by omega]; exact hFy) (by rw [← show x = nS σ by omega]; exact hLr)) (by decide) UVX12_ranked LK_X12_261 rfl (by decide) rfl rfl rfl (Nat.le_of_ble_eq_true rfl) hl hcs (dg D_X12_urgent (i := 50) rfl) (fun r81 I81 L1 R1 H locs hq hW hS => ?_)
          obtain ⟨rfl, rfl, rfl, rfl⟩ := hq
          exact fin (dg D_X12_urgent (i := 51) rfl) hW hS ⟨fun _ => rfl, hF, hth, rfl, rfl⟩
        · refine lv_aload_n hx hb (dg D_X12_urgent (i := 16) rfl) rfl (lv_at hl 0 rfl) ?_
          refine lv_iload_n hx hb (dg D_X12_urgent (i := 17) rfl) rfl (lv_at hl 2 rfl) ?_
          refine callVi X hW hS hR (c_X12_firstPast (I := K16) σ x (by first | assumption | omega | decide | exact hP.1) (by first | assumption | omega | decide | exact hP.1) (by first | assumption | omega | decide | exact hP.1)) (by decide) UVX12_firstPast LK_X12_249 rfl (by decide) rfl rfl rfl (Nat.le_of_ble_eq_true rfl) hl hcs (dg D_X12_urgent (i := 18) rfl) (fun r28 I28 L1 R1 H locs hq hW hS => ?_)
          obtain ⟨rfl, hT28, hp28_0, hp28_1, rfl, rfl⟩ := hq
          have hF : Fr SUr I I28 := Fr.tr hF hT28 (by intro a j h; simp only [SL, SUr, Bool.or_eq_true, Bool.and_eq_true, beq_iff_eq, decide_eq_true_eq] at h ⊢; omega)
          have hs : I28 68 = σ := by rw [Fr.row hT28 (fun _ => rfl)]; exact hs
          have hth : I28 67 6 = thr (inB (nI jv) (nS σ)) := (hT28 67 6 rfl).trans hth
          have hFy : rowP I28 78 x (urF σ) := hFy.fr hT28 (fun _ => rfl)
          have hLr : rowP I28 79 x (urL σ) := hLr.fr hT28 (fun _ => rfl)
          have hA9 : rowP I28 76 (Yn σ) (fun z => (rgS σ x (z + 1)).1) := hp28_1
          refine lv_istore_n (lv' := [(3, .int (fp σ x)), (0, .ref (bs + 67)), (1, .int (nI jv)), (2, .int (nI x))]) hx hb (dg D_X12_urgent (i := 19) rfl) rfl hl (by decide) rfl (fun ls hl => ?_)
          refine lv_aload_n hx hb (dg D_X12_urgent (i := 20) rfl) rfl (lv_at hl 1 rfl) ?_
          refine r_getc (t := 78) X hW FI_X12_46 rfl (by decide) rfl (dg D_X12_urgent (i := 21) rfl) ?_
          refine lv_iload_n hx hb (dg D_X12_urgent (i := 22) rfl) rfl (lv_at hl 3 rfl) ?_
          refine lv_iload_n hx hb (dg D_X12_urgent (i := 23) rfl) rfl (lv_at hl 0 rfl) ?_
          refine r_ldc X CK_X12_28 (dg D_X12_urgent (i := 24) rfl) ?_
          refine lv_icmp_ne (tgt := 52) hx hb (dg D_X12_urgent (i := 25) rfl) (by decide) (fun c40 => ?_) (fun c40 => ?_)
          · refine lv_iload_n hx hb (dg D_X12_urgent (i := 31) rfl) rfl (lv_at hl 0 rfl) ?_
            refine r_ast (j := x) (v := fp σ x) X hW hS rfl (by decide) rfl (by omega) (by decide) (dg D_X12_urgent (i := 32) rfl) (fun H locs hW hS => ?_)
            have hF : Fr SUr I (u2 I28 78 x (fp σ x)) := Fr.put hF rfl
            have hs : (u2 I28 78 x (fp σ x)) 68 = σ := hs
            obtain ⟨J53, eJ53⟩ : ∃ J, J = u2 I28 78 x (fp σ x) := ⟨_, rfl⟩
            rw [← eJ53] at hW hF hs
            have hth : J53 67 6 = thr (inB (nI jv) (nS σ)) := by rw [eJ53, u2_off (Or.inl (by decide))]; exact hth
            have hFy : rowP J53 78 (x + 1) (urF σ) := by rw [eJ53]; exact hFy.ext (by unfold urF; first | rw [if_pos c40] | rw [if_neg c40])
            have hLr : rowP J53 79 x (urL σ) := by rw [eJ53]; exact hLr.keep (by decide)
            have hA9 : rowP J53 76 (Yn σ) (fun z => (rgS σ x (z + 1)).1) := by rw [eJ53]; exact hA9.keep (by decide)
            refine lv_aload_n hx hb (dg D_X12_urgent (i := 33) rfl) rfl (lv_at hl 1 rfl) ?_
            refine r_getc (t := 79) X hW FI_X12_49 rfl (by decide) rfl (dg D_X12_urgent (i := 34) rfl) ?_
            refine lv_iload_n hx hb (dg D_X12_urgent (i := 35) rfl) rfl (lv_at hl 3 rfl) ?_
            refine lv_aload_n hx hb (dg D_X12_urgent (i := 36) rfl) rfl (lv_at hl 1 rfl) ?_
            refine r_getc (t := 76) X hW FI_X12_40 rfl (by decide) rfl (dg D_X12_urgent (i := 37) rfl) ?_
            refine lv_aload_n hx hb (dg D_X12_urgent (i := 38) rfl) rfl (lv_at hl 1 rfl) ?_
            refine r_getc (t := 68) X hW FI_X12_7 rfl (by decide) rfl (dg D_X12_urgent (i := 39) rfl) ?_
            refine n_iconst (a := 0) hx hb (dg D_X12_urgent (i := 40) rfl) rfl ?_
            refine r_ald (j := 0) (v := nI (Yn σ)) X hW rfl (by decide) rfl (by omega) (by decide) ((congrFun hs _).trans hY) (dg D_X12_urgent (i := 41) rfl) ?_
            refine n_iconst (a := 1) hx hb (dg D_X12_urgent (i := 42) rfl) rfl ?_
            refine n_isub hx hb (dg D_X12_urgent (i := 43) rfl) (by omega) ?_
            refine r_ald (j := (Yn σ) - 1) (v := (rgS σ x (((Yn σ) - 1) + 1)).1) X hW rfl (by decide) rfl (by omega) (by decide) (hA9 _ (by omega)) (dg D_X12_urgent (i := 44) rfl) ?_
            refine r_ast (j := x) (v := (rgS σ x (((Yn σ) - 1) + 1)).1) X hW hS rfl (by decide) rfl (by omega) (by decide) (dg D_X12_urgent (i := 45) rfl) (fun H locs hW hS => ?_)
            have hF : Fr SUr I (u2 J53 79 x ((rgS σ x (((Yn σ) - 1) + 1)).1)) := Fr.put hF rfl
            have hs : (u2 J53 79 x ((rgS σ x (((Yn σ) - 1) + 1)).1)) 68 = σ := hs
            obtain ⟨J72, eJ72⟩ : ∃ J, J = u2 J53 79 x ((rgS σ x (((Yn σ) - 1) + 1)).1) := ⟨_, rfl⟩
            rw [← eJ72] at hW hF hs
            have hth : J72 67 6 = thr (inB (nI jv) (nS σ)) := by rw [eJ72, u2_off (Or.inl (by decide))]; exact hth
            have hFy : rowP J72 78 (x + 1) (urF σ) := by rw [eJ72]; exact hFy.keep (by decide)
            have hLr : rowP J72 79 (x + 1) (urL σ) := by rw [eJ72]; exact hLr.ext (by rw [show Yn σ - 1 + 1 = Yn σ by omega]; rfl)
            have hA9 : rowP J72 76 (Yn σ) (fun z => (rgS σ x (z + 1)).1) := by rw [eJ72]; exact hA9.keep (by decide)
            refine lv_iinc (v := nI (x + 1)) (lv' := [(2, .int (nI (x + 1))), (3, .int (fp σ x)), (0, .ref (bs + 67)), (1, .int (nI jv))]) hx hb (dg D_X12_urgent (i := 46) rfl) hl (k := 3) rfl (nI_add _ _) (by decide) rfl (fun ls hl => ?_)
            refine lv_goto (tgt := 16) hx hb (dg D_X12_urgent (i := 47) rfl) (by decide) ?_
            exact ih16 (by omega) J72 _ _ _ _ (congrArg nI (by omega)) hF hs hth hFy hLr hW hS (lv_sub hl [2, 3, 0] rfl)
          · refine lv_aload_n hx hb (dg D_X12_urgent (i := 26) rfl) rfl (lv_at hl 1 rfl) ?_
            refine r_getc (t := 68) X hW FI_X12_7 rfl (by decide) rfl (dg D_X12_urgent (i := 27) rfl) ?_
            refine n_iconst (a := 0) hx hb (dg D_X12_urgent (i := 28) rfl) rfl ?_
            refine r_ald (j := 0) (v := nI (Yn σ)) X hW rfl (by decide) rfl (by omega) (by decide) ((congrFun hs _).trans hY) (dg D_X12_urgent (i := 29) rfl) ?_
            refine lv_goto (tgt := 53) hx hb (dg D_X12_urgent (i := 30) rfl) (by decide) ?_
            refine r_ast (j := x) (v := nI (Yn σ)) X hW hS rfl (by decide) rfl (by omega) (by decide) (dg D_X12_urgent (i := 32) rfl) (fun H locs hW hS => ?_)
            have hF : Fr SUr I (u2 I28 78 x (nI (Yn σ))) := Fr.put hF rfl
            have hs : (u2 I28 78 x (nI (Yn σ))) 68 = σ := hs
            obtain ⟨J53, eJ53⟩ : ∃ J, J = u2 I28 78 x (nI (Yn σ)) := ⟨_, rfl⟩
            rw [← eJ53] at hW hF hs
            have hth : J53 67 6 = thr (inB (nI jv) (nS σ)) := by rw [eJ53, u2_off (Or.inl (by decide))]; exact hth
            have hFy : rowP J53 78 (x + 1) (urF σ) := by rw [eJ53]; exact hFy.ext (by unfold urF; first | rw [if_pos c40] | rw [if_neg c40])
            have hLr : rowP J53 79 x (urL σ) := by rw [eJ53]; exact hLr.keep (by decide)
            have hA9 : rowP J53 76 (Yn σ) (fun z => (rgS σ x (z + 1)).1) := by rw [eJ53]; exact hA9.keep (by decide)
            refine lv_aload_n hx hb (dg D_X12_urgent (i := 33) rfl) rfl (lv_at hl 1 rfl) ?_
            refine r_getc (t := 79) X hW FI_X12_49 rfl (by decide) rfl (dg D_X12_urgent (i := 34) rfl) ?_
            refine lv_iload_n hx hb (dg D_X12_urgent (i := 35) rfl) rfl (lv_at hl 3 rfl) ?_
            refine lv_aload_n hx hb (dg D_X12_urgent (i := 36) rfl) rfl (lv_at hl 1 rfl) ?_
            refine r_getc (t := 76) X hW FI_X12_40 rfl (by decide) rfl (dg D_X12_urgent (i := 37) rfl) ?_
            refine lv_aload_n hx hb (dg D_X12_urgent (i := 38) rfl) rfl (lv_at hl 1 rfl) ?_
            refine r_getc (t := 68) X hW FI_X12_7 rfl (by decide) rfl (dg D_X12_urgent (i := 39) rfl) ?_
            refine n_iconst (a := 0) hx hb (dg D_X12_urgent (i := 40) rfl) rfl ?_
            refine r_ald (j := 0) (v := nI (Yn σ)) X hW rfl (by decide) rfl (by omega) (by decide) ((congrFun hs _).trans hY) (dg D_X12_urgent (i := 41) rfl) ?_
            refine n_iconst (a := 1) hx hb (dg D_X12_urgent (i := 42) rfl) rfl ?_
            refine n_isub hx hb (dg D_X12_urgent (i := 43) rfl) (by omega) ?_
            refine r_ald (j := (Yn σ) - 1) (v := (rgS σ x (((Yn σ) - 1) + 1)).1) X hW rfl (by decide) rfl (by omega) (by decide) (hA9 _ (by omega)) (dg D_X12_urgent (i := 44) rfl) ?_
            refine r_ast (j := x) (v := (rgS σ x (((Yn σ) - 1) + 1)).1) X hW hS rfl (by decide) rfl (by omega) (by decide) (dg D_X12_urgent (i := 45) rfl) (fun H locs hW hS => ?_)
            have hF : Fr SUr I (u2 J53 79 x ((rgS σ x (((Yn σ) - 1) + 1)).1)) := Fr.put hF rfl
            have hs : (u2 J53 79 x ((rgS σ x (((Yn σ) - 1) + 1)).1)) 68 = σ := hs
            obtain ⟨J72, eJ72⟩ : ∃ J, J = u2 J53 79 x ((rgS σ x (((Yn σ) - 1) + 1)).1) := ⟨_, rfl⟩
            rw [← eJ72] at hW hF hs
            have hth : J72 67 6 = thr (inB (nI jv) (nS σ)) := by rw [eJ72, u2_off (Or.inl (by decide))]; exact hth
            have hFy : rowP J72 78 (x + 1) (urF σ) := by rw [eJ72]; exact hFy.keep (by decide)
            have hLr : rowP J72 79 (x + 1) (urL σ) := by rw [eJ72]; exact hLr.ext (by rw [show Yn σ - 1 + 1 = Yn σ by omega]; rfl)
            have hA9 : rowP J72 76 (Yn σ) (fun z => (rgS σ x (z + 1)).1) := by rw [eJ72]; exact hA9.keep (by decide)
            refine lv_iinc (v := nI (x + 1)) (lv' := [(2, .int (nI (x + 1))), (3, .int (fp σ x)), (0, .ref (bs + 67)), (1, .int (nI jv))]) hx hb (dg D_X12_urgent (i := 46) rfl) hl (k := 3) rfl (nI_add _ _) (by decide) rfl (fun ls hl => ?_)
            refine lv_goto (tgt := 16) hx hb (dg D_X12_urgent (i := 47) rfl) (by decide) ?_
            exact ih16 (by omega) J72 _ _ _ _ (congrArg nI (by omega)) hF hs hth hFy hLr hW hS (lv_sub hl [2, 3, 0] rfl))
    exact loop16 0 (Nat.zero_le _) I6 _ _ _ _ (congrArg nI (by omega)) hF hs hth rowP.zero rowP.zero hW hS (lv_sub hl [1, 2, 0] rfl)
  · refine n_iconst (a := 0) hx hb (dg D_X12_urgent (i := 6) rfl) rfl ?_
    exact fin (dg D_X12_urgent (i := 7) rfl) hW hS ⟨fun z => absurd z (by rw [c9]; decide), hF, hth, rfl, rfl⟩
set_option maxHeartbeats 400000 in
set_option maxRecDepth 100000 in
theorem st_rustBefore {l : Launch} {G : va_G} {bs : Nat} {cy : Nat → ClassId} {I : CI} {L : CL} {R : CR} (hl0 : l.stackTraces = false) (hL : LSt I R) (v1 : Int32) (v2 : Int32) : StB l G bs cy I L R ML_rustBefore [(0, 10, 13, 19)] 8 2 12 [.int v1, .int v2] MX12_rustBefore 4 := by
  obtain ⟨σ, k, n, b, U, o, β, q, γ, u, nw, hM, hC, hU⟩ := hL
  obtain ⟨m1, m2, m3, m4, m5, m6, m7, m8, m9, m10, m11, m12, m13⟩ := id hM
  obtain ⟨c1, c2, c3, c4, c5, c6, c7, c8, c9, c10, c11, c12, c13, c14, c15, c16, c17, c18⟩ := id hC
  refine ⟨_, WTn.up (w_rustBefore v1 v2 (c_X11_rustBefore σ β q v1 v2 hl0 m2 m3 c1 c12 c2 c13 c11 c7 c8) (fun E h => h.1)), fun r1 I1 L1 R1 h1 => ?_⟩
  rcases h1 with ⟨rfl, w1, L', ⟨⟨hc, hv⟩, rfl, rfl, rfl⟩, rfl⟩ | ⟨q9, hq9, rfl, hpx, rfl, rfl, rfl⟩
  · refine ⟨_, c_X12_rustBefore σ v1 v2 hM.1 m2, fun r2 I2 L2 R2 h2 => ?_⟩
    obtain ⟨f0, f1, f2, rfl, f4⟩ := h2
    exact ⟨by rw [f2, hc]; rfl, fun _ => by rw [f0 hc, ← hv]; exact u2L_at9, q_end hM hC hU f1 (SLT_68 f1 hM.1) OKM_SLT f4⟩
  · refine ⟨_, c_X12_rustBefore σ v1 v2 hM.1 m2, fun r2 I2 L2 R2 h2 => ?_⟩
    obtain ⟨f0, f1, f2, rfl, f4⟩ := h2
    rw [List.mem_singleton.mp hq9] at hpx ⊢
    exact ⟨by rw [f2, hpx.2]; rfl, fun h => absurd h (by decide), q_end hM hC hU f1 (SLT_68 f1 m1) OKM_SLT f4⟩
set_option maxHeartbeats 400000 in
set_option maxRecDepth 100000 in
theorem st_rustAfter {l : Launch} {G : va_G} {bs : Nat} {cy : Nat → ClassId} {I : CI} {L : CL} {R : CR} (hl0 : l.stackTraces = false) (hL : LSt I R) (v1 : Int32) (v2 : Int32) : StB l G bs cy I L R ML_rustAfter [(0, 10, 13, 19)] 8 2 12 [.int v1, .int v2] MX12_rustAfter 4 := by
  obtain ⟨σ, k, n, b, U, o, β, q, γ, u, nw, hM, hC, hU⟩ := hL
  obtain ⟨m1, m2, m3, m4, m5, m6, m7, m8, m9, m10, m11, m12, m13⟩ := id hM
  obtain ⟨c1, c2, c3, c4, c5, c6, c7, c8, c9, c10, c11, c12, c13, c14, c15, c16, c17, c18⟩ := id hC
  refine ⟨_, WTn.up (w_rustAfter v1 v2 (c_X11_rustAfter σ β q v1 v2 hl0 m2 m3 c1 c12 c2 c13 c11 c7 c8) (fun E h => h.1)), fun r1 I1 L1 R1 h1 => ?_⟩
  rcases h1 with ⟨rfl, w1, L', ⟨⟨hc, hv⟩, rfl, rfl, rfl⟩, rfl⟩ | ⟨q9, hq9, rfl, hpx, rfl, rfl, rfl⟩
  · refine ⟨_, c_X12_rustAfter σ v1 v2 hM.1 m2, fun r2 I2 L2 R2 h2 => ?_⟩
    obtain ⟨f0, f1, f2, rfl, f4⟩ := h2
    exact ⟨by rw [f2, hc]; rfl, fun _ => by rw [f0 hc, ← hv]; exact u2L_at9, q_end hM hC hU f1 (SLT_68 f1 hM.1) OKM_SLT f4⟩
  · refine ⟨_, c_X12_rustAfter σ v1 v2 hM.1 m2, fun r2 I2 L2 R2 h2 => ?_⟩
    obtain ⟨f0, f1, f2, rfl, f4⟩ := h2
    rw [List.mem_singleton.mp hq9] at hpx ⊢
    exact ⟨by rw [f2, hpx.2]; rfl, fun h => absurd h (by decide), q_end hM hC hU f1 (SLT_68 f1 m1) OKM_SLT f4⟩
set_option maxHeartbeats 400000 in
set_option maxRecDepth 100000 in
theorem st_guardLeft {l : Launch} {G : va_G} {bs : Nat} {cy : Nat → ClassId} {I : CI} {L : CL} {R : CR} (hl0 : l.stackTraces = false) (hL : LSt I R) (v1 : Int32) (v2 : Int32) : StB l G bs cy I L R ML_guardLeft [(0, 10, 13, 19)] 8 2 12 [.int v1, .int v2] MX12_guardLeft 4 := by
  obtain ⟨σ, k, n, b, U, o, β, q, γ, u, nw, hM, hC, hU⟩ := hL
  obtain ⟨m1, m2, m3, m4, m5, m6, m7, m8, m9, m10, m11, m12, m13⟩ := id hM
  obtain ⟨c1, c2, c3, c4, c5, c6, c7, c8, c9, c10, c11, c12, c13, c14, c15, c16, c17, c18⟩ := id hC
  refine ⟨_, WTn.up (w_guardLeft v1 v2 (c_X11_guardLeft σ β q v1 v2 hl0 m2 m3 c1 c12 c2 c13 c11 c7 c8) (fun E h => h.1)), fun r1 I1 L1 R1 h1 => ?_⟩
  rcases h1 with ⟨rfl, w1, L', ⟨⟨hc, hv⟩, rfl, rfl, rfl⟩, rfl⟩ | ⟨q9, hq9, rfl, hpx, rfl, rfl, rfl⟩
  · refine ⟨_, c_X12_guardLeft σ v1 v2 hM.1 m2, fun r2 I2 L2 R2 h2 => ?_⟩
    obtain ⟨f0, f1, f2, rfl, f4⟩ := h2
    exact ⟨by rw [f2, hc]; rfl, fun _ => by rw [f0 hc, ← hv]; exact u2L_at9, q_end hM hC hU f1 (SLT_68 f1 hM.1) OKM_SLT f4⟩
  · refine ⟨_, c_X12_guardLeft σ v1 v2 hM.1 m2, fun r2 I2 L2 R2 h2 => ?_⟩
    obtain ⟨f0, f1, f2, rfl, f4⟩ := h2
    rw [List.mem_singleton.mp hq9] at hpx ⊢
    exact ⟨by rw [f2, hpx.2]; rfl, fun h => absurd h (by decide), q_end hM hC hU f1 (SLT_68 f1 m1) OKM_SLT f4⟩
set_option maxHeartbeats 400000 in
set_option maxRecDepth 100000 in
theorem st_pastYear {l : Launch} {G : va_G} {bs : Nat} {cy : Nat → ClassId} {I : CI} {L : CL} {R : CR} (hl0 : l.stackTraces = false) (hL : LSt I R) (v1 : Int32) : StB l G bs cy I L R ML_pastYear [(0, 9, 12, 19)] 8 1 6 [.int v1] MX12_pastYear 5 := by
  obtain ⟨σ, k, n, b, U, o, β, q, γ, u, nw, hM, hC, hU⟩ := hL
  obtain ⟨m1, m2, m3, m4, m5, m6, m7, m8, m9, m10, m11, m12, m13⟩ := id hM
  obtain ⟨c1, c2, c3, c4, c5, c6, c7, c8, c9, c10, c11, c12, c13, c14, c15, c16, c17, c18⟩ := id hC
  refine ⟨_, WTn.up (w_pastYear v1 (c_X11_pastYear σ β q v1 hl0 m2 m3 c1 c12 c2 c13 c11 c7 c8) (fun E h => h.1)), fun r1 I1 L1 R1 h1 => ?_⟩
  rcases h1 with ⟨rfl, w1, L', ⟨⟨hc, hv⟩, rfl, rfl, rfl⟩, rfl⟩ | ⟨q9, hq9, rfl, hpx, rfl, rfl, rfl⟩
  · refine ⟨_, c_X12_pastYear σ v1 hM.1 m2, fun r2 I2 L2 R2 h2 => ?_⟩
    obtain ⟨f0, f1, f2, rfl, f4⟩ := h2
    exact ⟨by rw [f2, hc]; rfl, fun _ => by rw [f0 hc, ← hv]; exact u2L_at9, q_end hM hC hU f1 (SLT_68 f1 hM.1) OKM_SLT f4⟩
  · refine ⟨_, c_X12_pastYear σ v1 hM.1 m2, fun r2 I2 L2 R2 h2 => ?_⟩
    obtain ⟨f0, f1, f2, rfl, f4⟩ := h2
    rw [List.mem_singleton.mp hq9] at hpx ⊢
    exact ⟨by rw [f2, hpx.2]; rfl, fun h => absurd h (by decide), q_end hM hC hU f1 (SLT_68 f1 m1) OKM_SLT f4⟩
set_option maxHeartbeats 400000 in
set_option maxRecDepth 100000 in
theorem st_pastCount {l : Launch} {G : va_G} {bs : Nat} {cy : Nat → ClassId} {I : CI} {L : CL} {R : CR} (hl0 : l.stackTraces = false) (hL : LSt I R) : StA l G bs cy I L R MX11_pastCount 4 [] MX12_pastCount 6 := by
  obtain ⟨σ, k, n, b, U, o, β, q, γ, u, nw, hM, hC, hU⟩ := hL
  obtain ⟨m1, m2, m3, m4, m5, m6, m7, m8, m9, m10, m11, m12, m13⟩ := id hM
  obtain ⟨c1, c2, c3, c4, c5, c6, c7, c8, c9, c10, c11, c12, c13, c14, c15, c16, c17, c18⟩ := id hC
  refine ⟨_, c_X11_pastCount σ β q hl0 m2 m3 c1 c12 c2 c13 c11 c7 c8, fun r1 I1 L1 R1 h1 => ?_⟩
  obtain ⟨e9, rfl, rfl, rfl⟩ := h1
  refine ⟨_, c_X12_pastCount σ hM.1 m2, fun r2 I2 L2 R2 h2 => ?_⟩
  obtain ⟨f0, f1, f2, rfl, f4⟩ := h2
  exact ⟨e9.symm.trans f0, q_end hM hC hU f1 (SLT_68 f1 hM.1) OKM_SLT f4⟩
set_option maxHeartbeats 400000 in
set_option maxRecDepth 100000 in
theorem st_pastSpans {l : Launch} {G : va_G} {bs : Nat} {cy : Nat → ClassId} {I : CI} {L : CL} {R : CR} (hl0 : l.stackTraces = false) (hL : LSt I R) (v1 : Int32) : StB l G bs cy I L R ML_pastSpans [(0, 9, 12, 19)] 8 1 6 [.int v1] MX12_pastSpans 4 := by
  obtain ⟨σ, k, n, b, U, o, β, q, γ, u, nw, hM, hC, hU⟩ := hL
  obtain ⟨m1, m2, m3, m4, m5, m6, m7, m8, m9, m10, m11, m12, m13⟩ := id hM
  obtain ⟨c1, c2, c3, c4, c5, c6, c7, c8, c9, c10, c11, c12, c13, c14, c15, c16, c17, c18⟩ := id hC
  refine ⟨_, WTn.up (w_pastSpans v1 (c_X11_pastSpans σ β q v1 hl0 m2 m3 c1 c12 c2 c13 c11 c7 c8) (fun E h => h.1)), fun r1 I1 L1 R1 h1 => ?_⟩
  rcases h1 with ⟨rfl, w1, L', ⟨⟨hc, hv⟩, rfl, rfl, rfl⟩, rfl⟩ | ⟨q9, hq9, rfl, hpx, rfl, rfl, rfl⟩
  · refine ⟨_, c_X12_pastSpans σ v1 hM.1 m2, fun r2 I2 L2 R2 h2 => ?_⟩
    obtain ⟨f0, f1, f2, rfl, f4⟩ := h2
    exact ⟨by rw [f2, hc]; rfl, fun _ => by rw [f0 hc, ← hv]; exact u2L_at9, q_end hM hC hU f1 (SLT_68 f1 hM.1) OKM_SLT f4⟩
  · refine ⟨_, c_X12_pastSpans σ v1 hM.1 m2, fun r2 I2 L2 R2 h2 => ?_⟩
    obtain ⟨f0, f1, f2, rfl, f4⟩ := h2
    rw [List.mem_singleton.mp hq9] at hpx ⊢
    exact ⟨by rw [f2, hpx.2]; rfl, fun h => absurd h (by decide), q_end hM hC hU f1 (SLT_68 f1 m1) OKM_SLT f4⟩
set_option maxHeartbeats 400000 in
set_option maxRecDepth 100000 in
theorem st_rustiest {l : Launch} {G : va_G} {bs : Nat} {cy : Nat → ClassId} {I : CI} {L : CL} {R : CR} (hl0 : l.stackTraces = false) (hL : LSt I R) (v1 : Int32) : StB l G bs cy I L R ML_rustiest [(0, 9, 12, 19)] 8 1 6 [.int v1] MX12_rustiest 4 := by
  obtain ⟨σ, k, n, b, U, o, β, q, γ, u, nw, hM, hC, hU⟩ := hL
  obtain ⟨m1, m2, m3, m4, m5, m6, m7, m8, m9, m10, m11, m12, m13⟩ := id hM
  obtain ⟨c1, c2, c3, c4, c5, c6, c7, c8, c9, c10, c11, c12, c13, c14, c15, c16, c17, c18⟩ := id hC
  refine ⟨_, WTn.up (w_rustiest v1 (c_X11_rustiest σ β q v1 hl0 m2 m3 c1 c12 c2 c13 c11 c7 c8) (fun E h => h.1)), fun r1 I1 L1 R1 h1 => ?_⟩
  rcases h1 with ⟨rfl, w1, L', ⟨⟨hc, hv⟩, rfl, rfl, rfl⟩, rfl⟩ | ⟨q9, hq9, rfl, hpx, rfl, rfl, rfl⟩
  · refine ⟨_, c_X12_rustiest σ v1 hM.1 m2, fun r2 I2 L2 R2 h2 => ?_⟩
    obtain ⟨f0, f1, f2, rfl, f4⟩ := h2
    exact ⟨by rw [f2, hc]; rfl, fun _ => by rw [f0 hc, ← hv]; exact u2L_at9, q_end hM hC hU f1 (SLT_68 f1 hM.1) OKM_SLT f4⟩
  · refine ⟨_, c_X12_rustiest σ v1 hM.1 m2, fun r2 I2 L2 R2 h2 => ?_⟩
    obtain ⟨f0, f1, f2, rfl, f4⟩ := h2
    rw [List.mem_singleton.mp hq9] at hpx ⊢
    exact ⟨by rw [f2, hpx.2]; rfl, fun h => absurd h (by decide), q_end hM hC hU f1 (SLT_68 f1 m1) OKM_SLT f4⟩
set_option maxHeartbeats 400000 in
set_option maxRecDepth 100000 in
theorem st_averageRust {l : Launch} {G : va_G} {bs : Nat} {cy : Nat → ClassId} {I : CI} {L : CL} {R : CR} (hl0 : l.stackTraces = false) (hL : LSt I R) (v1 : Int32) : StD l G bs cy I L R ML_averageRust [(0, 8, 11, 19)] 8 1 6 [.int v1] MX12_averageRust 4 := by
  obtain ⟨σ, k, n, b, U, o, β, q, γ, u, nw, hM, hC, hU⟩ := hL
  obtain ⟨m1, m2, m3, m4, m5, m6, m7, m8, m9, m10, m11, m12, m13⟩ := id hM
  obtain ⟨c1, c2, c3, c4, c5, c6, c7, c8, c9, c10, c11, c12, c13, c14, c15, c16, c17, c18⟩ := id hC
  refine ⟨_, WTn.up (w_averageRust v1 (c_X11_averageRust σ β q v1 hl0 m2 m3 c1 c12 c2 c13 c11 c7 c8) (fun E h => h.1)), fun r1 I1 L1 R1 h1 => ?_⟩
  rcases h1 with ⟨rfl, w1, L', ⟨⟨hc, hv⟩, rfl, rfl, rfl⟩, rfl⟩ | ⟨rfl, hpx, rfl, rfl, rfl⟩
  · refine ⟨_, c_X12_averageRust σ v1 hM.1 m2 m3, fun r2 I2 L2 R2 h2 => ?_⟩
    obtain ⟨f0, f1, f2, rfl, f4⟩ := h2
    exact ⟨by rw [f2, hc]; rfl, fun _ => by rw [f0 hc, ← hv]; exact u2L_dat, q_end hM hC hU f1 (SLT_68 f1 hM.1) OKM_SLT f4⟩
  · refine ⟨_, c_X12_averageRust σ v1 hM.1 m2 m3, fun r2 I2 L2 R2 h2 => ?_⟩
    obtain ⟨f0, f1, f2, rfl, f4⟩ := h2
    exact ⟨by rw [f2, hpx.2]; rfl, fun h => absurd h (by decide), q_end hM hC hU f1 (SLT_68 f1 m1) OKM_SLT f4⟩
set_option maxHeartbeats 400000 in
set_option maxRecDepth 100000 in
theorem st_urgent {l : Launch} {G : va_G} {bs : Nat} {cy : Nat → ClassId} {I : CI} {L : CL} {R : CR} (hl0 : l.stackTraces = false) (hL : LSt I R) (v1 : Int32) : StB l G bs cy I L R ML_urgent [(0, 9, 12, 19)] 8 1 6 [.int v1] MX12_urgent 5 := by
  obtain ⟨σ, k, n, b, U, o, β, q, γ, u, nw, hM, hC, hU⟩ := hL
  obtain ⟨m1, m2, m3, m4, m5, m6, m7, m8, m9, m10, m11, m12, m13⟩ := id hM
  obtain ⟨c1, c2, c3, c4, c5, c6, c7, c8, c9, c10, c11, c12, c13, c14, c15, c16, c17, c18⟩ := id hC
  refine ⟨_, WTn.up (w_urgent v1 (c_X11_urgent σ β q v1 hl0 m2 m3 c1 c12 c2 c13 c11 c7 c8) (fun E h => h.1)), fun r1 I1 L1 R1 h1 => ?_⟩
  rcases h1 with ⟨rfl, w1, L', ⟨⟨hc, hv⟩, e0, rfl, rfl⟩, rfl⟩ | ⟨q9, hq9, rfl, hpx, rfl, rfl, rfl⟩
  · have hM1 := hM.cl e0 (OK_SRk (β := β) (q := q)).1
    have hC1 := hC.fr e0 ((OK_SRk (β := β) (q := q)).2 c1 c2) RKp.rf
    refine ⟨_, c_X12_urgentU σ v1 hM1.1 m2, fun r2 I2 L2 R2 h2 => ?_⟩
    obtain ⟨f0, f1, f2, rfl, f4⟩ := h2
    exact ⟨by rw [f2, hc]; rfl, fun _ => by rw [f0 hc, ← hv]; exact u2L_at9, q_end hM1 hC1 hU f1 (SUr_68 f1 hM1.1) OKM_SUr f4⟩
  · refine ⟨_, c_X12_urgentU σ v1 hM.1 m2, fun r2 I2 L2 R2 h2 => ?_⟩
    obtain ⟨f0, f1, f2, rfl, f4⟩ := h2
    rw [List.mem_singleton.mp hq9] at hpx ⊢
    exact ⟨by rw [f2, hpx.2]; rfl, fun h => absurd h (by decide), q_end hM hC hU f1 (SUr_68 f1 m1) OKM_SUr f4⟩
set_option maxHeartbeats 400000 in
set_option maxRecDepth 100000 in
theorem st_unpaintedPast {l : Launch} {G : va_G} {bs : Nat} {cy : Nat → ClassId} {I : CI} {L : CL} {R : CR} (hl0 : l.stackTraces = false) (hL : LSt I R) (v1 : Int32) : StB l G bs cy I L R ML_unpaintedPast [(0, 9, 12, 19)] 8 1 6 [.int v1] MX12_unpaintedPast 4 := by
  obtain ⟨σ, k, n, b, U, o, β, q, γ, u, nw, hM, hC, hU⟩ := hL
  obtain ⟨m1, m2, m3, m4, m5, m6, m7, m8, m9, m10, m11, m12, m13⟩ := id hM
  obtain ⟨c1, c2, c3, c4, c5, c6, c7, c8, c9, c10, c11, c12, c13, c14, c15, c16, c17, c18⟩ := id hC
  refine ⟨_, WTn.up (w_unpaintedPast v1 (c_X11_unpaintedPast σ β q v1 hl0 m2 m3 c1 c12 c2 c13 c11 c7 c8) (fun E h => h.1)), fun r1 I1 L1 R1 h1 => ?_⟩
  rcases h1 with ⟨rfl, w1, L', ⟨⟨hc, hv⟩, rfl, rfl, rfl⟩, rfl⟩ | ⟨q9, hq9, rfl, hpx, rfl, rfl, rfl⟩
  · refine ⟨_, c_X12_unpaintedPast σ v1 hM.1 m2, fun r2 I2 L2 R2 h2 => ?_⟩
    obtain ⟨f0, f1, f2, rfl, f4⟩ := h2
    exact ⟨by rw [f2, hc]; rfl, fun _ => by rw [f0 hc, ← hv]; exact u2L_at9, q_end hM hC hU f1 (SLT_68 f1 hM.1) OKM_SLT f4⟩
  · refine ⟨_, c_X12_unpaintedPast σ v1 hM.1 m2, fun r2 I2 L2 R2 h2 => ?_⟩
    obtain ⟨f0, f1, f2, rfl, f4⟩ := h2
    rw [List.mem_singleton.mp hq9] at hpx ⊢
    exact ⟨by rw [f2, hpx.2]; rfl, fun h => absurd h (by decide), q_end hM hC hU f1 (SLT_68 f1 m1) OKM_SLT f4⟩
set_option maxHeartbeats 400000 in
set_option maxRecDepth 100000 in
theorem st_coatsNeeded {l : Launch} {G : va_G} {bs : Nat} {cy : Nat → ClassId} {I : CI} {L : CL} {R : CR} (hl0 : l.stackTraces = false) (hL : LSt I R) (v1 : Int32) : StB l G bs cy I L R ML_coatsNeeded [(0, 9, 12, 19)] 8 1 6 [.int v1] MX12_coatsNeeded 4 := by
  obtain ⟨σ, k, n, b, U, o, β, q, γ, u, nw, hM, hC, hU⟩ := hL
  obtain ⟨m1, m2, m3, m4, m5, m6, m7, m8, m9, m10, m11, m12, m13⟩ := id hM
  obtain ⟨c1, c2, c3, c4, c5, c6, c7, c8, c9, c10, c11, c12, c13, c14, c15, c16, c17, c18⟩ := id hC
  refine ⟨_, WTn.up (w_coatsNeeded v1 (c_X11_coatsNeeded σ β q v1 hl0 m2 m3 c1 c12 c2 c13 c11 c7 c8) (fun E h => h.1)), fun r1 I1 L1 R1 h1 => ?_⟩
  rcases h1 with ⟨rfl, w1, L', ⟨⟨hc, hv⟩, rfl, rfl, rfl⟩, rfl⟩ | ⟨q9, hq9, rfl, hpx, rfl, rfl, rfl⟩
  · refine ⟨_, c_X12_coatsNeeded σ v1 hM.1 m2 m3, fun r2 I2 L2 R2 h2 => ?_⟩
    obtain ⟨f0, f1, f2, rfl, f4⟩ := h2
    exact ⟨by rw [f2, hc]; rfl, fun _ => by rw [f0 hc, ← hv]; exact u2L_at9, q_end hM hC hU f1 (SLT_68 f1 hM.1) OKM_SLT f4⟩
  · refine ⟨_, c_X12_coatsNeeded σ v1 hM.1 m2 m3, fun r2 I2 L2 R2 h2 => ?_⟩
    obtain ⟨f0, f1, f2, rfl, f4⟩ := h2
    rw [List.mem_singleton.mp hq9] at hpx ⊢
    exact ⟨by rw [f2, hpx.2]; rfl, fun h => absurd h (by decide), q_end hM hC hU f1 (SLT_68 f1 m1) OKM_SLT f4⟩
set_option maxHeartbeats 400000 in
set_option maxRecDepth 100000 in
theorem st_latestPainting {l : Launch} {G : va_G} {bs : Nat} {cy : Nat → ClassId} {I : CI} {L : CL} {R : CR} (hl0 : l.stackTraces = false) (hL : LSt I R) (v1 : Int32) (v2 : Int32) : StB l G bs cy I L R ML_latestPainting [(0, 10, 13, 19)] 8 1 6 [.int v1, .int v2] MX12_latestPainting 5 := by
  obtain ⟨σ, k, n, b, U, o, β, q, γ, u, nw, hM, hC, hU⟩ := hL
  obtain ⟨m1, m2, m3, m4, m5, m6, m7, m8, m9, m10, m11, m12, m13⟩ := id hM
  obtain ⟨c1, c2, c3, c4, c5, c6, c7, c8, c9, c10, c11, c12, c13, c14, c15, c16, c17, c18⟩ := id hC
  refine ⟨_, WTn.up (w_latestPainting v1 v2 (c_X11_latestPainting σ β q v1 v2 hl0 m2 m3 c1 c12 c2 c13 c11 c7 c8) (fun E h => h.1)), fun r1 I1 L1 R1 h1 => ?_⟩
  rcases h1 with ⟨rfl, w1, L', ⟨⟨hc, hv⟩, rfl, rfl, rfl⟩, rfl⟩ | ⟨q9, hq9, rfl, hpx, rfl, rfl, rfl⟩
  · refine ⟨_, c_X12_latestPainting σ v1 v2 hM.1 m2 m3, fun r2 I2 L2 R2 h2 => ?_⟩
    obtain ⟨f0, f1, f2, rfl, f4⟩ := h2
    exact ⟨by rw [f2, hc]; rfl, fun _ => by rw [f0 hc, ← hv]; exact u2L_at9, q_end hM hC hU f1 (SLT_68 f1 hM.1) OKM_SLT f4⟩
  · refine ⟨_, c_X12_latestPainting σ v1 v2 hM.1 m2 m3, fun r2 I2 L2 R2 h2 => ?_⟩
    obtain ⟨f0, f1, f2, rfl, f4⟩ := h2
    rw [List.mem_singleton.mp hq9] at hpx ⊢
    exact ⟨by rw [f2, hpx.2]; rfl, fun h => absurd h (by decide), q_end hM hC hU f1 (SLT_68 f1 m1) OKM_SLT f4⟩
set_option maxHeartbeats 400000 in
set_option maxRecDepth 100000 in
theorem st_harmlessRate {l : Launch} {G : va_G} {bs : Nat} {cy : Nat → ClassId} {I : CI} {L : CL} {R : CR} (hl0 : l.stackTraces = false) (hL : LSt I R) (v1 : Int32) : StB l G bs cy I L R ML_harmlessRate [(0, 9, 12, 19)] 8 1 6 [.int v1] MX12_harmlessRate 4 := by
  obtain ⟨σ, k, n, b, U, o, β, q, γ, u, nw, hM, hC, hU⟩ := hL
  obtain ⟨m1, m2, m3, m4, m5, m6, m7, m8, m9, m10, m11, m12, m13⟩ := id hM
  obtain ⟨c1, c2, c3, c4, c5, c6, c7, c8, c9, c10, c11, c12, c13, c14, c15, c16, c17, c18⟩ := id hC
  refine ⟨_, WTn.up (w_harmlessRate v1 (c_X11_harmlessRate σ β q v1 hl0 m2 m3 c1 c12 c2 c13 c11 c7 c8) (fun E h => h.1)), fun r1 I1 L1 R1 h1 => ?_⟩
  rcases h1 with ⟨rfl, w1, L', ⟨⟨hc, hv⟩, rfl, rfl, rfl⟩, rfl⟩ | ⟨q9, hq9, rfl, hpx, rfl, rfl, rfl⟩
  · refine ⟨_, c_X12_harmlessRate σ v1 hM.1 m2, fun r2 I2 L2 R2 h2 => ?_⟩
    obtain ⟨f0, f1, f2, f3, rfl, f5⟩ := h2
    exact ⟨by rw [f2, hc]; rfl, fun _ => by rw [f0 hc, ← hv]; exact u2L_at9, q_end hM hC hU f1 f3 OKM_SQ f5⟩
  · refine ⟨_, c_X12_harmlessRate σ v1 hM.1 m2, fun r2 I2 L2 R2 h2 => ?_⟩
    obtain ⟨f0, f1, f2, f3, rfl, f5⟩ := h2
    rw [List.mem_singleton.mp hq9] at hpx ⊢
    exact ⟨by rw [f2, hpx.2]; rfl, fun h => absurd h (by decide), q_end hM hC hU f1 f3 OKM_SQ f5⟩
set_option maxHeartbeats 400000 in
set_option maxRecDepth 100000 in
theorem st_effort {l : Launch} {G : va_G} {bs : Nat} {cy : Nat → ClassId} {I : CI} {L : CL} {R : CR} (hl0 : l.stackTraces = false) (hL : LSt I R) (v1 : Int32) (v2 : Int32) : StB l G bs cy I L R ML_effort [(0, 10, 13, 19)] 8 2 12 [.int v1, .int v2] MX12_effort 5 := by
  obtain ⟨σ, k, n, b, U, o, β, q, γ, u, nw, hM, hC, hU⟩ := hL
  obtain ⟨m1, m2, m3, m4, m5, m6, m7, m8, m9, m10, m11, m12, m13⟩ := id hM
  obtain ⟨c1, c2, c3, c4, c5, c6, c7, c8, c9, c10, c11, c12, c13, c14, c15, c16, c17, c18⟩ := id hC
  refine ⟨_, WTn.up (w_effort v1 v2 (c_X11_effort σ β q v1 v2 hl0 m2 m3 c1 c12 c2 c13 c11 c7 c8) (fun E h => h.1)), fun r1 I1 L1 R1 h1 => ?_⟩
  rcases h1 with ⟨rfl, w1, L', ⟨⟨hc, hv⟩, rfl, rfl, rfl⟩, rfl⟩ | ⟨q9, hq9, rfl, hpx, rfl, rfl, rfl⟩
  · refine ⟨_, c_X12_effort σ v1 v2 hM.1 m2, fun r2 I2 L2 R2 h2 => ?_⟩
    obtain ⟨f0, f1, f2, rfl, f4⟩ := h2
    exact ⟨by rw [f2, hc]; rfl, fun _ => by rw [f0 hc, ← hv]; exact u2L_at9, q_end hM hC hU f1 (SLT_68 f1 hM.1) OKM_SLT f4⟩
  · refine ⟨_, c_X12_effort σ v1 v2 hM.1 m2, fun r2 I2 L2 R2 h2 => ?_⟩
    obtain ⟨f0, f1, f2, rfl, f4⟩ := h2
    rw [List.mem_singleton.mp hq9] at hpx ⊢
    exact ⟨by rw [f2, hpx.2]; rfl, fun h => absurd h (by decide), q_end hM hC hU f1 (SLT_68 f1 m1) OKM_SLT f4⟩
set_option maxHeartbeats 400000 in
set_option maxRecDepth 100000 in
theorem st_capacity {l : Launch} {G : va_G} {bs : Nat} {cy : Nat → ClassId} {I : CI} {L : CL} {R : CR} (hl0 : l.stackTraces = false) (hL : LSt I R) (v1 : Int32) (v2 : Int32) : StB l G bs cy I L R ML_capacity [(0, 10, 13, 19)] 8 2 12 [.int v1, .int v2] MX12_capacity 4 := by
  obtain ⟨σ, k, n, b, U, o, β, q, γ, u, nw, hM, hC, hU⟩ := hL
  obtain ⟨m1, m2, m3, m4, m5, m6, m7, m8, m9, m10, m11, m12, m13⟩ := id hM
  obtain ⟨c1, c2, c3, c4, c5, c6, c7, c8, c9, c10, c11, c12, c13, c14, c15, c16, c17, c18⟩ := id hC
  refine ⟨_, WTn.up (w_capacity v1 v2 (c_X11_capacity σ β q v1 v2 hl0 m2 m3 c1 c12 c2 c13 c11 c7 c8) (fun E h => h.1)), fun r1 I1 L1 R1 h1 => ?_⟩
  rcases h1 with ⟨rfl, w1, L', ⟨⟨hc, hv⟩, rfl, rfl, rfl⟩, rfl⟩ | ⟨q9, hq9, rfl, hpx, rfl, rfl, rfl⟩
  · refine ⟨_, c_X12_capacity σ v1 v2 hM.1 m2, fun r2 I2 L2 R2 h2 => ?_⟩
    obtain ⟨f0, f1, f2, rfl, f4⟩ := h2
    exact ⟨by rw [f2, hc]; rfl, fun _ => by rw [f0 hc, ← hv]; exact u2L_at9, q_end hM hC hU f1 (SLT_68 f1 hM.1) OKM_SLT f4⟩
  · refine ⟨_, c_X12_capacity σ v1 v2 hM.1 m2, fun r2 I2 L2 R2 h2 => ?_⟩
    obtain ⟨f0, f1, f2, rfl, f4⟩ := h2
    rw [List.mem_singleton.mp hq9] at hpx ⊢
    exact ⟨by rw [f2, hpx.2]; rfl, fun h => absurd h (by decide), q_end hM hC hU f1 (SLT_68 f1 m1) OKM_SLT f4⟩
set_option maxHeartbeats 400000 in
set_option maxRecDepth 100000 in
theorem st_loadOf {l : Launch} {G : va_G} {bs : Nat} {cy : Nat → ClassId} {I : CI} {L : CL} {R : CR} (hl0 : l.stackTraces = false) (hL : LSt I R) (v1 : Int32) (v2 : Int32) : StB l G bs cy I L R ML_loadOf [(0, 10, 13, 19)] 8 2 12 [.int v1, .int v2] MX12_loadOf 6 := by
  obtain ⟨σ, k, n, b, U, o, β, q, γ, u, nw, hM, hC, hU⟩ := hL
  obtain ⟨m1, m2, m3, m4, m5, m6, m7, m8, m9, m10, m11, m12, m13⟩ := id hM
  obtain ⟨c1, c2, c3, c4, c5, c6, c7, c8, c9, c10, c11, c12, c13, c14, c15, c16, c17, c18⟩ := id hC
  refine ⟨_, WTn.up (w_loadOf v1 v2 (c_X11_loadOf σ β q v1 v2 hl0 m2 m3 c1 c12 c2 c13 c11 c7 c8) (fun E h => h.1)), fun r1 I1 L1 R1 h1 => ?_⟩
  rcases h1 with ⟨rfl, w1, L', ⟨⟨hc, hv⟩, rfl, rfl, rfl⟩, rfl⟩ | ⟨q9, hq9, rfl, hpx, rfl, rfl, rfl⟩
  · refine ⟨_, c_X12_loadOf σ v1 v2 hM.1 m2, fun r2 I2 L2 R2 h2 => ?_⟩
    obtain ⟨f0, f1, f2, rfl, f4⟩ := h2
    exact ⟨by rw [f2, hc]; rfl, fun _ => by rw [f0 hc, ← hv]; exact u2L_at9, q_end hM hC hU f1 (SLT_68 f1 hM.1) OKM_SLT f4⟩
  · refine ⟨_, c_X12_loadOf σ v1 v2 hM.1 m2, fun r2 I2 L2 R2 h2 => ?_⟩
    obtain ⟨f0, f1, f2, rfl, f4⟩ := h2
    rw [List.mem_singleton.mp hq9] at hpx ⊢
    exact ⟨by rw [f2, hpx.2]; rfl, fun h => absurd h (by decide), q_end hM hC hU f1 (SLT_68 f1 m1) OKM_SLT f4⟩
set_option maxHeartbeats 400000 in
set_option maxRecDepth 100000 in
theorem st_gangOf {l : Launch} {G : va_G} {bs : Nat} {cy : Nat → ClassId} {I : CI} {L : CL} {R : CR} (hl0 : l.stackTraces = false) (hL : LSt I R) (v1 : Int32) (v2 : Int32) : StB l G bs cy I L R ML_gangOf [(0, 10, 13, 19)] 8 2 12 [.int v1, .int v2] MX12_gangOf 4 := by
  obtain ⟨σ, k, n, b, U, o, β, q, γ, u, nw, hM, hC, hU⟩ := hL
  obtain ⟨m1, m2, m3, m4, m5, m6, m7, m8, m9, m10, m11, m12, m13⟩ := id hM
  obtain ⟨c1, c2, c3, c4, c5, c6, c7, c8, c9, c10, c11, c12, c13, c14, c15, c16, c17, c18⟩ := id hC
  refine ⟨_, WTn.up (w_gangOf v1 v2 (c_X11_gangOf σ β q v1 v2 hl0 m2 m3 c1 c12 c2 c13 c11 c7 c8) (fun E h => h.1)), fun r1 I1 L1 R1 h1 => ?_⟩
  rcases h1 with ⟨rfl, w1, L', ⟨⟨hc, hv⟩, rfl, rfl, rfl⟩, rfl⟩ | ⟨q9, hq9, rfl, hpx, rfl, rfl, rfl⟩
  · refine ⟨_, c_X12_gangOf σ v1 v2 hM.1 m2, fun r2 I2 L2 R2 h2 => ?_⟩
    obtain ⟨f0, f1, f2, rfl, f4⟩ := h2
    exact ⟨by rw [f2, hc]; rfl, fun _ => by rw [f0 hc, ← hv]; exact u2L_at9, q_end hM hC hU f1 (SLT_68 f1 hM.1) OKM_SLT f4⟩
  · refine ⟨_, c_X12_gangOf σ v1 v2 hM.1 m2, fun r2 I2 L2 R2 h2 => ?_⟩
    obtain ⟨f0, f1, f2, rfl, f4⟩ := h2
    rw [List.mem_singleton.mp hq9] at hpx ⊢
    exact ⟨by rw [f2, hpx.2]; rfl, fun h => absurd h (by decide), q_end hM hC hU f1 (SLT_68 f1 m1) OKM_SLT f4⟩
set_option maxHeartbeats 400000 in
set_option maxRecDepth 100000 in
theorem st_paintedSpans {l : Launch} {G : va_G} {bs : Nat} {cy : Nat → ClassId} {I : CI} {L : CL} {R : CR} (hl0 : l.stackTraces = false) (hL : LSt I R) (v1 : Int32) : StB l G bs cy I L R ML_paintedSpans [(0, 9, 12, 19)] 8 1 6 [.int v1] MX12_paintedSpans 3 := by
  obtain ⟨σ, k, n, b, U, o, β, q, γ, u, nw, hM, hC, hU⟩ := hL
  obtain ⟨m1, m2, m3, m4, m5, m6, m7, m8, m9, m10, m11, m12, m13⟩ := id hM
  obtain ⟨c1, c2, c3, c4, c5, c6, c7, c8, c9, c10, c11, c12, c13, c14, c15, c16, c17, c18⟩ := id hC
  refine ⟨_, WTn.up (w_paintedSpans v1 (c_X11_paintedSpans σ β q v1 hl0 m2 m3 c1 c12 c2 c13 c11 c7 c8) (fun E h => h.1)), fun r1 I1 L1 R1 h1 => ?_⟩
  rcases h1 with ⟨rfl, w1, L', ⟨⟨hc, hv⟩, rfl, rfl, rfl⟩, rfl⟩ | ⟨q9, hq9, rfl, hpx, rfl, rfl, rfl⟩
  · refine ⟨_, c_X12_paintedSpans σ v1 hM.1 m2, fun r2 I2 L2 R2 h2 => ?_⟩
    obtain ⟨f0, f1, f2, rfl, f4⟩ := h2
    exact ⟨by rw [f2, hc]; rfl, fun _ => by rw [f0 hc, ← hv]; exact u2L_at9, q_end hM hC hU f1 (SLT_68 f1 hM.1) OKM_SLT f4⟩
  · refine ⟨_, c_X12_paintedSpans σ v1 hM.1 m2, fun r2 I2 L2 R2 h2 => ?_⟩
    obtain ⟨f0, f1, f2, rfl, f4⟩ := h2
    rw [List.mem_singleton.mp hq9] at hpx ⊢
    exact ⟨by rw [f2, hpx.2]; rfl, fun h => absurd h (by decide), q_end hM hC hU f1 (SLT_68 f1 m1) OKM_SLT f4⟩
set_option maxHeartbeats 400000 in
set_option maxRecDepth 100000 in
theorem st_lanesShut {l : Launch} {G : va_G} {bs : Nat} {cy : Nat → ClassId} {I : CI} {L : CL} {R : CR} (hl0 : l.stackTraces = false) (hL : LSt I R) (v1 : Int32) : StB l G bs cy I L R ML_lanesShut [(0, 9, 12, 19)] 8 1 6 [.int v1] MX12_lanesShut 3 := by
  obtain ⟨σ, k, n, b, U, o, β, q, γ, u, nw, hM, hC, hU⟩ := hL
  obtain ⟨m1, m2, m3, m4, m5, m6, m7, m8, m9, m10, m11, m12, m13⟩ := id hM
  obtain ⟨c1, c2, c3, c4, c5, c6, c7, c8, c9, c10, c11, c12, c13, c14, c15, c16, c17, c18⟩ := id hC
  refine ⟨_, WTn.up (w_lanesShut v1 (c_X11_lanesShut σ β q v1 hl0 m2 m3 c1 c12 c2 c13 c11 c7 c8) (fun E h => h.1)), fun r1 I1 L1 R1 h1 => ?_⟩
  rcases h1 with ⟨rfl, w1, L', ⟨⟨hc, hv⟩, rfl, rfl, rfl⟩, rfl⟩ | ⟨q9, hq9, rfl, hpx, rfl, rfl, rfl⟩
  · refine ⟨_, c_X12_lanesShut σ v1 hM.1 m2, fun r2 I2 L2 R2 h2 => ?_⟩
    obtain ⟨f0, f1, f2, rfl, f4⟩ := h2
    exact ⟨by rw [f2, hc]; rfl, fun _ => by rw [f0 hc, ← hv]; exact u2L_at9, q_end hM hC hU f1 (SLT_68 f1 hM.1) OKM_SLT f4⟩
  · refine ⟨_, c_X12_lanesShut σ v1 hM.1 m2, fun r2 I2 L2 R2 h2 => ?_⟩
    obtain ⟨f0, f1, f2, rfl, f4⟩ := h2
    rw [List.mem_singleton.mp hq9] at hpx ⊢
    exact ⟨by rw [f2, hpx.2]; rfl, fun h => absurd h (by decide), q_end hM hC hU f1 (SLT_68 f1 m1) OKM_SLT f4⟩
set_option maxHeartbeats 400000 in
set_option maxRecDepth 100000 in
theorem st_paintings {l : Launch} {G : va_G} {bs : Nat} {cy : Nat → ClassId} {I : CI} {L : CL} {R : CR} (hl0 : l.stackTraces = false) (hL : LSt I R) : StA l G bs cy I L R MX11_paintings 2 [] MX12_paintings 3 := by
  obtain ⟨σ, k, n, b, U, o, β, q, γ, u, nw, hM, hC, hU⟩ := hL
  obtain ⟨m1, m2, m3, m4, m5, m6, m7, m8, m9, m10, m11, m12, m13⟩ := id hM
  obtain ⟨c1, c2, c3, c4, c5, c6, c7, c8, c9, c10, c11, c12, c13, c14, c15, c16, c17, c18⟩ := id hC
  refine ⟨_, c_X11_paintings σ β q hl0 m2 m3 c1 c12 c2 c13 c11 c7 c8, fun r1 I1 L1 R1 h1 => ?_⟩
  obtain ⟨e9, rfl, rfl, rfl⟩ := h1
  refine ⟨_, c_X12_paintings σ hM.1 m2, fun r2 I2 L2 R2 h2 => ?_⟩
  obtain ⟨f0, f1, f2, rfl, f4⟩ := h2
  exact ⟨e9.symm.trans f0, q_end hM hC hU f1 (SLT_68 f1 hM.1) OKM_SLT f4⟩
set_option maxHeartbeats 400000 in
set_option maxRecDepth 100000 in
theorem st_daysUsed {l : Launch} {G : va_G} {bs : Nat} {cy : Nat → ClassId} {I : CI} {L : CL} {R : CR} (hl0 : l.stackTraces = false) (hL : LSt I R) (v1 : Int32) (v2 : Int32) : StB l G bs cy I L R ML_daysUsed [(0, 10, 13, 19)] 8 2 12 [.int v1, .int v2] MX12_daysUsed 7 := by
  obtain ⟨σ, k, n, b, U, o, β, q, γ, u, nw, hM, hC, hU⟩ := hL
  obtain ⟨m1, m2, m3, m4, m5, m6, m7, m8, m9, m10, m11, m12, m13⟩ := id hM
  obtain ⟨c1, c2, c3, c4, c5, c6, c7, c8, c9, c10, c11, c12, c13, c14, c15, c16, c17, c18⟩ := id hC
  refine ⟨_, WTn.up (w_daysUsed v1 v2 (c_X11_daysUsed σ β q v1 v2 hl0 m2 m3 c1 c12 c2 c13 c11 c7 c8) (fun E h => h.1)), fun r1 I1 L1 R1 h1 => ?_⟩
  rcases h1 with ⟨rfl, w1, L', ⟨⟨hc, hv⟩, rfl, rfl, rfl⟩, rfl⟩ | ⟨q9, hq9, rfl, hpx, rfl, rfl, rfl⟩
  · refine ⟨_, c_X12_daysUsed σ v1 v2 hM.1 m2 m3, fun r2 I2 L2 R2 h2 => ?_⟩
    obtain ⟨f0, f1, f2, rfl, f4⟩ := h2
    exact ⟨by rw [f2, hc]; rfl, fun _ => by rw [f0 hc, ← hv]; exact u2L_at9, q_end hM hC hU f1 (SLT_68 f1 hM.1) OKM_SLT f4⟩
  · refine ⟨_, c_X12_daysUsed σ v1 v2 hM.1 m2 m3, fun r2 I2 L2 R2 h2 => ?_⟩
    obtain ⟨f0, f1, f2, rfl, f4⟩ := h2
    rw [List.mem_singleton.mp hq9] at hpx ⊢
    exact ⟨by rw [f2, hpx.2]; rfl, fun h => absurd h (by decide), q_end hM hC hU f1 (SLT_68 f1 m1) OKM_SLT f4⟩
set_option maxHeartbeats 400000 in
set_option maxRecDepth 100000 in
theorem st_laneDays {l : Launch} {G : va_G} {bs : Nat} {cy : Nat → ClassId} {I : CI} {L : CL} {R : CR} (hl0 : l.stackTraces = false) (hL : LSt I R) (v1 : Int32) (v2 : Int32) : StB l G bs cy I L R ML_laneDays [(0, 10, 13, 19)] 8 2 12 [.int v1, .int v2] MX12_laneDays 7 := by
  obtain ⟨σ, k, n, b, U, o, β, q, γ, u, nw, hM, hC, hU⟩ := hL
  obtain ⟨m1, m2, m3, m4, m5, m6, m7, m8, m9, m10, m11, m12, m13⟩ := id hM
  obtain ⟨c1, c2, c3, c4, c5, c6, c7, c8, c9, c10, c11, c12, c13, c14, c15, c16, c17, c18⟩ := id hC
  refine ⟨_, WTn.up (w_laneDays v1 v2 (c_X11_laneDays σ β q v1 v2 hl0 m2 m3 c1 c12 c2 c13 c11 c7 c8) (fun E h => h.1)), fun r1 I1 L1 R1 h1 => ?_⟩
  rcases h1 with ⟨rfl, w1, L', ⟨⟨hc, hv⟩, rfl, rfl, rfl⟩, rfl⟩ | ⟨q9, hq9, rfl, hpx, rfl, rfl, rfl⟩
  · refine ⟨_, c_X12_laneDays σ v1 v2 hM.1 m2 m3, fun r2 I2 L2 R2 h2 => ?_⟩
    obtain ⟨f0, f1, f2, rfl, f4⟩ := h2
    exact ⟨by rw [f2, hc]; rfl, fun _ => by rw [f0 hc, ← hv]; exact u2L_at9, q_end hM hC hU f1 (SLT_68 f1 hM.1) OKM_SLT f4⟩
  · refine ⟨_, c_X12_laneDays σ v1 v2 hM.1 m2 m3, fun r2 I2 L2 R2 h2 => ?_⟩
    obtain ⟨f0, f1, f2, rfl, f4⟩ := h2
    rw [List.mem_singleton.mp hq9] at hpx ⊢
    exact ⟨by rw [f2, hpx.2]; rfl, fun h => absurd h (by decide), q_end hM hC hU f1 (SLT_68 f1 m1) OKM_SLT f4⟩
set_option maxHeartbeats 400000 in
set_option maxRecDepth 100000 in
theorem st_trafficLoss {l : Launch} {G : va_G} {bs : Nat} {cy : Nat → ClassId} {I : CI} {L : CL} {R : CR} (hl0 : l.stackTraces = false) (hL : LSt I R) (v1 : Int32) : StB l G bs cy I L R ML_trafficLoss [(0, 9, 12, 19)] 8 1 6 [.int v1] MX12_trafficLoss 8 := by
  obtain ⟨σ, k, n, b, U, o, β, q, γ, u, nw, hM, hC, hU⟩ := hL
  obtain ⟨m1, m2, m3, m4, m5, m6, m7, m8, m9, m10, m11, m12, m13⟩ := id hM
  obtain ⟨c1, c2, c3, c4, c5, c6, c7, c8, c9, c10, c11, c12, c13, c14, c15, c16, c17, c18⟩ := id hC
  refine ⟨_, WTn.up (w_trafficLoss v1 (c_X11_trafficLoss σ β q v1 hl0 m2 m3 c1 c12 c2 c13 c11 c7 c8) (fun E h => h.1)), fun r1 I1 L1 R1 h1 => ?_⟩
  rcases h1 with ⟨rfl, w1, L', ⟨⟨hc, hv⟩, rfl, rfl, rfl⟩, rfl⟩ | ⟨q9, hq9, rfl, hpx, rfl, rfl, rfl⟩
  · refine ⟨_, c_X12_trafficLoss σ v1 hM.1 m2 m3, fun r2 I2 L2 R2 h2 => ?_⟩
    obtain ⟨f0, f1, f2, rfl, f4⟩ := h2
    exact ⟨by rw [f2, hc]; rfl, fun _ => by rw [f0 hc, ← hv]; exact u2L_at9, q_end hM hC hU f1 (SLT_68 f1 hM.1) OKM_SLT f4⟩
  · refine ⟨_, c_X12_trafficLoss σ v1 hM.1 m2 m3, fun r2 I2 L2 R2 h2 => ?_⟩
    obtain ⟨f0, f1, f2, rfl, f4⟩ := h2
    rw [List.mem_singleton.mp hq9] at hpx ⊢
    exact ⟨by rw [f2, hpx.2]; rfl, fun h => absurd h (by decide), q_end hM hC hU f1 (SLT_68 f1 m1) OKM_SLT f4⟩
set_option maxHeartbeats 400000 in
set_option maxRecDepth 100000 in
theorem st_wages {l : Launch} {G : va_G} {bs : Nat} {cy : Nat → ClassId} {I : CI} {L : CL} {R : CR} (hl0 : l.stackTraces = false) (hL : LSt I R) (v1 : Int32) : StB l G bs cy I L R ML_wages [(0, 9, 12, 19)] 8 1 6 [.int v1] MX12_wages 8 := by
  obtain ⟨σ, k, n, b, U, o, β, q, γ, u, nw, hM, hC, hU⟩ := hL
  obtain ⟨m1, m2, m3, m4, m5, m6, m7, m8, m9, m10, m11, m12, m13⟩ := id hM
  obtain ⟨c1, c2, c3, c4, c5, c6, c7, c8, c9, c10, c11, c12, c13, c14, c15, c16, c17, c18⟩ := id hC
  refine ⟨_, WTn.up (w_wages v1 (c_X11_wages σ β q v1 hl0 m2 m3 c1 c12 c2 c13 c11 c7 c8) (fun E h => h.1)), fun r1 I1 L1 R1 h1 => ?_⟩
  rcases h1 with ⟨rfl, w1, L', ⟨⟨hc, hv⟩, rfl, rfl, rfl⟩, rfl⟩ | ⟨q9, hq9, rfl, hpx, rfl, rfl, rfl⟩
  · refine ⟨_, c_X12_wages σ v1 hM.1 m2 m3, fun r2 I2 L2 R2 h2 => ?_⟩
    obtain ⟨f0, f1, f2, rfl, f4⟩ := h2
    exact ⟨by rw [f2, hc]; rfl, fun _ => by rw [f0 hc, ← hv]; exact u2L_at9, q_end hM hC hU f1 (SLT_68 f1 hM.1) OKM_SLT f4⟩
  · refine ⟨_, c_X12_wages σ v1 hM.1 m2 m3, fun r2 I2 L2 R2 h2 => ?_⟩
    obtain ⟨f0, f1, f2, rfl, f4⟩ := h2
    rw [List.mem_singleton.mp hq9] at hpx ⊢
    exact ⟨by rw [f2, hpx.2]; rfl, fun h => absurd h (by decide), q_end hM hC hU f1 (SLT_68 f1 m1) OKM_SLT f4⟩
set_option maxHeartbeats 400000 in
set_option maxRecDepth 100000 in
theorem st_totalWages {l : Launch} {G : va_G} {bs : Nat} {cy : Nat → ClassId} {I : CI} {L : CL} {R : CR} (hl0 : l.stackTraces = false) (hL : LSt I R) : StA l G bs cy I L R MX11_totalWages 4 [] MX12_totalWages 8 := by
  obtain ⟨σ, k, n, b, U, o, β, q, γ, u, nw, hM, hC, hU⟩ := hL
  obtain ⟨m1, m2, m3, m4, m5, m6, m7, m8, m9, m10, m11, m12, m13⟩ := id hM
  obtain ⟨c1, c2, c3, c4, c5, c6, c7, c8, c9, c10, c11, c12, c13, c14, c15, c16, c17, c18⟩ := id hC
  refine ⟨_, c_X11_totalWages σ β q hl0 m2 m3 c1 c12 c2 c13 c11 c7 c8, fun r1 I1 L1 R1 h1 => ?_⟩
  obtain ⟨e9, rfl, rfl, rfl⟩ := h1
  refine ⟨_, c_X12_totalWages σ hM.1 m2 m3, fun r2 I2 L2 R2 h2 => ?_⟩
  obtain ⟨f0, f1, f2, rfl, f4⟩ := h2
  exact ⟨e9.symm.trans f0, q_end hM hC hU f1 (SLT_68 f1 hM.1) OKM_SLT f4⟩
set_option maxHeartbeats 400000 in
set_option maxRecDepth 100000 in
theorem st_totalLoss {l : Launch} {G : va_G} {bs : Nat} {cy : Nat → ClassId} {I : CI} {L : CL} {R : CR} (hl0 : l.stackTraces = false) (hL : LSt I R) : StA l G bs cy I L R MX11_totalLoss 4 [] MX12_totalLoss 8 := by
  obtain ⟨σ, k, n, b, U, o, β, q, γ, u, nw, hM, hC, hU⟩ := hL
  obtain ⟨m1, m2, m3, m4, m5, m6, m7, m8, m9, m10, m11, m12, m13⟩ := id hM
  obtain ⟨c1, c2, c3, c4, c5, c6, c7, c8, c9, c10, c11, c12, c13, c14, c15, c16, c17, c18⟩ := id hC
  refine ⟨_, c_X11_totalLoss σ β q hl0 m2 m3 c1 c12 c2 c13 c11 c7 c8, fun r1 I1 L1 R1 h1 => ?_⟩
  obtain ⟨e9, rfl, rfl, rfl⟩ := h1
  refine ⟨_, c_X12_totalLoss σ hM.1 m2 m3, fun r2 I2 L2 R2 h2 => ?_⟩
  obtain ⟨f0, f1, f2, rfl, f4⟩ := h2
  exact ⟨e9.symm.trans f0, q_end hM hC hU f1 (SLT_68 f1 hM.1) OKM_SLT f4⟩
set_option maxHeartbeats 400000 in
set_option maxRecDepth 100000 in
theorem st_busiestYear {l : Launch} {G : va_G} {bs : Nat} {cy : Nat → ClassId} {I : CI} {L : CL} {R : CR} (hl0 : l.stackTraces = false) (hL : LSt I R) : StA l G bs cy I L R MX11_busiestYear 3 [] MX12_busiestYear 6 := by
  obtain ⟨σ, k, n, b, U, o, β, q, γ, u, nw, hM, hC, hU⟩ := hL
  obtain ⟨m1, m2, m3, m4, m5, m6, m7, m8, m9, m10, m11, m12, m13⟩ := id hM
  obtain ⟨c1, c2, c3, c4, c5, c6, c7, c8, c9, c10, c11, c12, c13, c14, c15, c16, c17, c18⟩ := id hC
  refine ⟨_, c_X11_busiestYear σ β q hl0 m2 m3 c1 c12 c2 c13 c11 c7 c8, fun r1 I1 L1 R1 h1 => ?_⟩
  obtain ⟨e9, rfl, rfl, rfl⟩ := h1
  refine ⟨_, c_X12_busiestYear σ hM.1 m2, fun r2 I2 L2 R2 h2 => ?_⟩
  obtain ⟨f0, f1, f2, rfl, f4⟩ := h2
  exact ⟨e9.symm.trans f0, q_end hM hC hU f1 (SLT_68 f1 hM.1) OKM_SLT f4⟩
set_option maxHeartbeats 400000 in
set_option maxRecDepth 100000 in
theorem st_idleDays {l : Launch} {G : va_G} {bs : Nat} {cy : Nat → ClassId} {I : CI} {L : CL} {R : CR} (hl0 : l.stackTraces = false) (hL : LSt I R) (v1 : Int32) : StB l G bs cy I L R ML_idleDays [(0, 9, 12, 19)] 8 1 6 [.int v1] MX12_idleDays 7 := by
  obtain ⟨σ, k, n, b, U, o, β, q, γ, u, nw, hM, hC, hU⟩ := hL
  obtain ⟨m1, m2, m3, m4, m5, m6, m7, m8, m9, m10, m11, m12, m13⟩ := id hM
  obtain ⟨c1, c2, c3, c4, c5, c6, c7, c8, c9, c10, c11, c12, c13, c14, c15, c16, c17, c18⟩ := id hC
  refine ⟨_, WTn.up (w_idleDays v1 (c_X11_idleDays σ β q v1 hl0 m2 m3 c1 c12 c2 c13 c11 c7 c8) (fun E h => h.1)), fun r1 I1 L1 R1 h1 => ?_⟩
  rcases h1 with ⟨rfl, w1, L', ⟨⟨hc, hv⟩, rfl, rfl, rfl⟩, rfl⟩ | ⟨q9, hq9, rfl, hpx, rfl, rfl, rfl⟩
  · refine ⟨_, c_X12_idleDays σ v1 hM.1 m2 m3, fun r2 I2 L2 R2 h2 => ?_⟩
    obtain ⟨f0, f1, f2, rfl, f4⟩ := h2
    exact ⟨by rw [f2, hc]; rfl, fun _ => by rw [f0 hc, ← hv]; exact u2L_at9, q_end hM hC hU f1 (SLT_68 f1 hM.1) OKM_SLT f4⟩
  · refine ⟨_, c_X12_idleDays σ v1 hM.1 m2 m3, fun r2 I2 L2 R2 h2 => ?_⟩
    obtain ⟨f0, f1, f2, rfl, f4⟩ := h2
    rw [List.mem_singleton.mp hq9] at hpx ⊢
    exact ⟨by rw [f2, hpx.2]; rfl, fun h => absurd h (by decide), q_end hM hC hU f1 (SLT_68 f1 m1) OKM_SLT f4⟩
set_option maxHeartbeats 400000 in
set_option maxRecDepth 100000 in
theorem st_overloads {l : Launch} {G : va_G} {bs : Nat} {cy : Nat → ClassId} {I : CI} {L : CL} {R : CR} (hl0 : l.stackTraces = false) (hL : LSt I R) : StA l G bs cy I L R MX11_overloads 5 [] MX12_overloads 8 := by
  obtain ⟨σ, k, n, b, U, o, β, q, γ, u, nw, hM, hC, hU⟩ := hL
  obtain ⟨m1, m2, m3, m4, m5, m6, m7, m8, m9, m10, m11, m12, m13⟩ := id hM
  obtain ⟨c1, c2, c3, c4, c5, c6, c7, c8, c9, c10, c11, c12, c13, c14, c15, c16, c17, c18⟩ := id hC
  refine ⟨_, c_X11_overloads σ β q hl0 m2 m3 c1 c12 c2 c13 c11 c7 c8, fun r1 I1 L1 R1 h1 => ?_⟩
  obtain ⟨e9, rfl, rfl, rfl⟩ := h1
  refine ⟨_, c_X12_overloads σ hM.1 m2, fun r2 I2 L2 R2 h2 => ?_⟩
  obtain ⟨f0, f1, f2, rfl, f4⟩ := h2
  exact ⟨e9.symm.trans f0, q_end hM hC hU f1 (SLT_68 f1 hM.1) OKM_SLT f4⟩
set_option maxHeartbeats 400000 in
set_option maxRecDepth 100000 in
theorem st_firstOverload {l : Launch} {G : va_G} {bs : Nat} {cy : Nat → ClassId} {I : CI} {L : CL} {R : CR} (hl0 : l.stackTraces = false) (hL : LSt I R) : StA l G bs cy I L R MX11_firstOverload 4 [] MX12_firstOverload 7 := by
  obtain ⟨σ, k, n, b, U, o, β, q, γ, u, nw, hM, hC, hU⟩ := hL
  obtain ⟨m1, m2, m3, m4, m5, m6, m7, m8, m9, m10, m11, m12, m13⟩ := id hM
  obtain ⟨c1, c2, c3, c4, c5, c6, c7, c8, c9, c10, c11, c12, c13, c14, c15, c16, c17, c18⟩ := id hC
  refine ⟨_, c_X11_firstOverload σ β q hl0 m2 m3 c1 c12 c2 c13 c11 c7 c8, fun r1 I1 L1 R1 h1 => ?_⟩
  obtain ⟨e9, rfl, rfl, rfl⟩ := h1
  refine ⟨_, c_X12_firstOverload σ hM.1 m2, fun r2 I2 L2 R2 h2 => ?_⟩
  obtain ⟨f0, f1, f2, rfl, f4⟩ := h2
  exact ⟨e9.symm.trans f0, q_end hM hC hU f1 (SLT_68 f1 hM.1) OKM_SLT f4⟩
set_option maxHeartbeats 400000 in
set_option maxRecDepth 100000 in
theorem st_refusal {l : Launch} {G : va_G} {bs : Nat} {cy : Nat → ClassId} {I : CI} {L : CL} {R : CR} (hl0 : l.stackTraces = false) (hL : LSt I R) (v1 : Int32) (v2 : Int32) (v3 : Int32) : StB l G bs cy I L R ML_refusal [(0, 12, 15, 19)] 8 3 18 [.int v1, .int v2, .int v3] MX12_refusal 7 := by
  obtain ⟨σ, k, n, b, U, o, β, q, γ, u, nw, hM, hC, hU⟩ := hL
  obtain ⟨m1, m2, m3, m4, m5, m6, m7, m8, m9, m10, m11, m12, m13⟩ := id hM
  obtain ⟨c1, c2, c3, c4, c5, c6, c7, c8, c9, c10, c11, c12, c13, c14, c15, c16, c17, c18⟩ := id hC
  refine ⟨_, WTn.up (w_refusal v1 v2 v3 (c_X11_refusal σ β q v1 v2 v3 hl0 m2 m3 c1 c12 c2 c13 c11 c7 c8) (fun E h => h.1)), fun r1 I1 L1 R1 h1 => ?_⟩
  rcases h1 with ⟨rfl, w1, L', ⟨⟨hc, hv⟩, rfl, rfl, rfl⟩, rfl⟩ | ⟨q9, hq9, rfl, hpx, rfl, rfl, rfl⟩
  · refine ⟨_, c_X12_refusal σ v1 v2 v3 hM.1 m2, fun r2 I2 L2 R2 h2 => ?_⟩
    obtain ⟨f0, f1, f2, rfl, f4⟩ := h2
    exact ⟨by rw [f2, hc]; rfl, fun _ => by rw [f0 hc, ← hv]; exact u2L_at9, q_end hM hC hU f1 (SLT_68 f1 hM.1) OKM_SLT f4⟩
  · refine ⟨_, c_X12_refusal σ v1 v2 v3 hM.1 m2, fun r2 I2 L2 R2 h2 => ?_⟩
    obtain ⟨f0, f1, f2, rfl, f4⟩ := h2
    rw [List.mem_singleton.mp hq9] at hpx ⊢
    exact ⟨by rw [f2, hpx.2]; rfl, fun h => absurd h (by decide), q_end hM hC hU f1 (SLT_68 f1 m1) OKM_SLT f4⟩
set_option maxHeartbeats 400000 in
set_option maxRecDepth 100000 in
theorem st_possibleGangs {l : Launch} {G : va_G} {bs : Nat} {cy : Nat → ClassId} {I : CI} {L : CL} {R : CR} (hl0 : l.stackTraces = false) (hL : LSt I R) (v1 : Int32) (v2 : Int32) : StB l G bs cy I L R ML_possibleGangs [(0, 10, 13, 19)] 8 2 12 [.int v1, .int v2] MX12_possibleGangs 7 := by
  obtain ⟨σ, k, n, b, U, o, β, q, γ, u, nw, hM, hC, hU⟩ := hL
  obtain ⟨m1, m2, m3, m4, m5, m6, m7, m8, m9, m10, m11, m12, m13⟩ := id hM
  obtain ⟨c1, c2, c3, c4, c5, c6, c7, c8, c9, c10, c11, c12, c13, c14, c15, c16, c17, c18⟩ := id hC
  refine ⟨_, WTn.up (w_possibleGangs v1 v2 (c_X11_possibleGangs σ β q v1 v2 hl0 m2 m3 c1 c12 c2 c13 c11 c7 c8) (fun E h => h.1)), fun r1 I1 L1 R1 h1 => ?_⟩
  rcases h1 with ⟨rfl, w1, L', ⟨⟨hc, hv⟩, rfl, rfl, rfl⟩, rfl⟩ | ⟨q9, hq9, rfl, hpx, rfl, rfl, rfl⟩
  · refine ⟨_, c_X12_possibleGangs σ v1 v2 hM.1 m2, fun r2 I2 L2 R2 h2 => ?_⟩
    obtain ⟨f0, f1, f2, rfl, f4⟩ := h2
    exact ⟨by rw [f2, hc]; rfl, fun _ => by rw [f0 hc, ← hv]; exact u2L_at9, q_end hM hC hU f1 (SLT_68 f1 hM.1) OKM_SLT f4⟩
  · refine ⟨_, c_X12_possibleGangs σ v1 v2 hM.1 m2, fun r2 I2 L2 R2 h2 => ?_⟩
    obtain ⟨f0, f1, f2, rfl, f4⟩ := h2
    rw [List.mem_singleton.mp hq9] at hpx ⊢
    exact ⟨by rw [f2, hpx.2]; rfl, fun h => absurd h (by decide), q_end hM hC hU f1 (SLT_68 f1 m1) OKM_SLT f4⟩
set_option maxHeartbeats 400000 in
set_option maxRecDepth 100000 in
theorem st_firstPossible {l : Launch} {G : va_G} {bs : Nat} {cy : Nat → ClassId} {I : CI} {L : CL} {R : CR} (hl0 : l.stackTraces = false) (hL : LSt I R) (v1 : Int32) : StB l G bs cy I L R ML_firstPossible [(0, 9, 12, 19)] 8 1 6 [.int v1] MX12_firstPossible 7 := by
  obtain ⟨σ, k, n, b, U, o, β, q, γ, u, nw, hM, hC, hU⟩ := hL
  obtain ⟨m1, m2, m3, m4, m5, m6, m7, m8, m9, m10, m11, m12, m13⟩ := id hM
  obtain ⟨c1, c2, c3, c4, c5, c6, c7, c8, c9, c10, c11, c12, c13, c14, c15, c16, c17, c18⟩ := id hC
  refine ⟨_, WTn.up (w_firstPossible v1 (c_X11_firstPossible σ β q v1 hl0 m2 m3 c1 c12 c2 c13 c11 c7 c8) (fun E h => h.1)), fun r1 I1 L1 R1 h1 => ?_⟩
  rcases h1 with ⟨rfl, w1, L', ⟨⟨hc, hv⟩, rfl, rfl, rfl⟩, rfl⟩ | ⟨q9, hq9, rfl, hpx, rfl, rfl, rfl⟩
  · refine ⟨_, c_X12_firstPossible σ v1 hM.1 m2, fun r2 I2 L2 R2 h2 => ?_⟩
    obtain ⟨f0, f1, f2, rfl, f4⟩ := h2
    exact ⟨by rw [f2, hc]; rfl, fun _ => by rw [f0 hc, ← hv]; exact u2L_at9, q_end hM hC hU f1 (SLT_68 f1 hM.1) OKM_SLT f4⟩
  · refine ⟨_, c_X12_firstPossible σ v1 hM.1 m2, fun r2 I2 L2 R2 h2 => ?_⟩
    obtain ⟨f0, f1, f2, rfl, f4⟩ := h2
    rw [List.mem_singleton.mp hq9] at hpx ⊢
    exact ⟨by rw [f2, hpx.2]; rfl, fun h => absurd h (by decide), q_end hM hC hU f1 (SLT_68 f1 m1) OKM_SLT f4⟩
set_option maxHeartbeats 400000 in
set_option maxRecDepth 100000 in
theorem st_shutYears {l : Launch} {G : va_G} {bs : Nat} {cy : Nat → ClassId} {I : CI} {L : CL} {R : CR} (hl0 : l.stackTraces = false) (hL : LSt I R) (v1 : Int32) : StB l G bs cy I L R ML_shutYears [(0, 9, 12, 19)] 8 1 6 [.int v1] MX12_shutYears 3 := by
  obtain ⟨σ, k, n, b, U, o, β, q, γ, u, nw, hM, hC, hU⟩ := hL
  obtain ⟨m1, m2, m3, m4, m5, m6, m7, m8, m9, m10, m11, m12, m13⟩ := id hM
  obtain ⟨c1, c2, c3, c4, c5, c6, c7, c8, c9, c10, c11, c12, c13, c14, c15, c16, c17, c18⟩ := id hC
  refine ⟨_, WTn.up (w_shutYears v1 (c_X11_shutYears σ β q v1 hl0 m2 m3 c1 c12 c2 c13 c11 c7 c8) (fun E h => h.1)), fun r1 I1 L1 R1 h1 => ?_⟩
  rcases h1 with ⟨rfl, w1, L', ⟨⟨hc, hv⟩, rfl, rfl, rfl⟩, rfl⟩ | ⟨q9, hq9, rfl, hpx, rfl, rfl, rfl⟩
  · refine ⟨_, c_X12_shutYears σ v1 hM.1 m2, fun r2 I2 L2 R2 h2 => ?_⟩
    obtain ⟨f0, f1, f2, rfl, f4⟩ := h2
    exact ⟨by rw [f2, hc]; rfl, fun _ => by rw [f0 hc, ← hv]; exact u2L_at9, q_end hM hC hU f1 (SLT_68 f1 hM.1) OKM_SLT f4⟩
  · refine ⟨_, c_X12_shutYears σ v1 hM.1 m2, fun r2 I2 L2 R2 h2 => ?_⟩
    obtain ⟨f0, f1, f2, rfl, f4⟩ := h2
    rw [List.mem_singleton.mp hq9] at hpx ⊢
    exact ⟨by rw [f2, hpx.2]; rfl, fun h => absurd h (by decide), q_end hM hC hU f1 (SLT_68 f1 m1) OKM_SLT f4⟩
set_option maxHeartbeats 400000 in
set_option maxRecDepth 100000 in
theorem st_sufficientSpeed {l : Launch} {G : va_G} {bs : Nat} {cy : Nat → ClassId} {I : CI} {L : CL} {R : CR} (hl0 : l.stackTraces = false) (hL : LSt I R) (v1 : Int32) : StB l G bs cy I L R ML_sufficientSpeed [(0, 9, 12, 19)] 8 1 6 [.int v1] MX12_sufficientSpeed 6 := by
  obtain ⟨σ, k, n, b, U, o, β, q, γ, u, nw, hM, hC, hU⟩ := hL
  obtain ⟨m1, m2, m3, m4, m5, m6, m7, m8, m9, m10, m11, m12, m13⟩ := id hM
  obtain ⟨c1, c2, c3, c4, c5, c6, c7, c8, c9, c10, c11, c12, c13, c14, c15, c16, c17, c18⟩ := id hC
  refine ⟨_, WTn.up (w_sufficientSpeed v1 (c_X11_sufficientSpeed σ β q v1 hl0 m2 m3 c1 c12 c2 c13 c11 c7 c8) (fun E h => h.1)), fun r1 I1 L1 R1 h1 => ?_⟩
  rcases h1 with ⟨rfl, w1, L', ⟨⟨hc, hv⟩, rfl, rfl, rfl⟩, rfl⟩ | ⟨q9, hq9, rfl, hpx, rfl, rfl, rfl⟩
  · refine ⟨_, c_X12_sufficientSpeed σ v1 hM.1 m2, fun r2 I2 L2 R2 h2 => ?_⟩
    obtain ⟨f0, f1, f2, rfl, f4⟩ := h2
    exact ⟨by rw [f2, hc]; rfl, fun _ => by rw [f0 hc, ← hv]; exact u2L_at9, q_end hM hC hU f1 (SLT_68 f1 hM.1) OKM_SLT f4⟩
  · refine ⟨_, c_X12_sufficientSpeed σ v1 hM.1 m2, fun r2 I2 L2 R2 h2 => ?_⟩
    obtain ⟨f0, f1, f2, rfl, f4⟩ := h2
    rw [List.mem_singleton.mp hq9] at hpx ⊢
    exact ⟨by rw [f2, hpx.2]; rfl, fun h => absurd h (by decide), q_end hM hC hU f1 (SLT_68 f1 m1) OKM_SLT f4⟩
set_option maxHeartbeats 400000 in
set_option maxRecDepth 100000 in
theorem st_paint {l : Launch} {G : va_G} {bs : Nat} {cy : Nat → ClassId} {I : CI} {L : CL} {R : CR} (hl0 : l.stackTraces = false) (hL : LSt I R) (v1 : Int32) (v2 : Int32) (v3 : Int32) : StB l G bs cy I L R ML_paint [(0, 12, 15, 19)] 8 3 18 [.int v1, .int v2, .int v3] MX12_paint 7 := by
  obtain ⟨σ, k, n, b, U, o, β, q, γ, u, nw, hM, hC, hU⟩ := hL
  obtain ⟨m1, m2, m3, m4, m5, m6, m7, m8, m9, m10, m11, m12, m13⟩ := id hM
  obtain ⟨c1, c2, c3, c4, c5, c6, c7, c8, c9, c10, c11, c12, c13, c14, c15, c16, c17, c18⟩ := id hC
  refine ⟨_, WTn.up (w_paint v1 v2 v3 (c_X11_paint σ β q k U nw v1 v2 v3 hl0 m2 m3 c1 c12 c2 c13 c11 c7 c8 c14) (fun E h => h.1)), fun r1 I1 L1 R1 h1 => ?_⟩
  rcases h1 with ⟨rfl, w1, L', ⟨⟨hc, hv⟩, e1, e2, rfl, rfl⟩, rfl⟩ | ⟨q9, hq9, rfl, hpx, rfl, rfl, rfl⟩
  · obtain ⟨hM1, hC1⟩ := ec_end hM hC e1 e2 rfl
    refine ⟨_, c_X12_paint σ k U v1 v2 v3 hM1.1 m2 hM1.2.2.2.2.2.1 hM1.2.2.2.1, fun r2 I2 L2 R2 h2 => ?_⟩
    obtain ⟨f0, f1, f2, f3, rfl, f5⟩ := h2
    exact ⟨by rw [f2, hc]; rfl, fun _ => by rw [f0 hc, ← hv]; exact u2L_at9, em_end hM1 hC1 hU (paO_K m2 m3) f1 f3 OKE_SE f5⟩
  · refine ⟨_, c_X12_paint σ k U v1 v2 v3 hM.1 m2 hM.2.2.2.2.2.1 hM.2.2.2.1, fun r2 I2 L2 R2 h2 => ?_⟩
    obtain ⟨f0, f1, f2, f3, rfl, f5⟩ := h2
    rw [List.mem_singleton.mp hq9] at hpx ⊢
    exact ⟨by rw [f2, hpx.2]; rfl, fun h => absurd h (by decide), em_end hM (hC.none (paO_n hpx.2)) hU (paO_K m2 m3) f1 f3 OKE_SE f5⟩
set_option maxHeartbeats 400000 in
set_option maxRecDepth 100000 in
theorem st_unpaint {l : Launch} {G : va_G} {bs : Nat} {cy : Nat → ClassId} {I : CI} {L : CL} {R : CR} (hl0 : l.stackTraces = false) (hL : LSt I R) (v1 : Int32) (v2 : Int32) : StB l G bs cy I L R ML_unpaint [(0, 10, 13, 19)] 8 2 12 [.int v1, .int v2] MX12_unpaint 4 := by
  obtain ⟨σ, k, n, b, U, o, β, q, γ, u, nw, hM, hC, hU⟩ := hL
  obtain ⟨m1, m2, m3, m4, m5, m6, m7, m8, m9, m10, m11, m12, m13⟩ := id hM
  obtain ⟨c1, c2, c3, c4, c5, c6, c7, c8, c9, c10, c11, c12, c13, c14, c15, c16, c17, c18⟩ := id hC
  refine ⟨_, WTn.up (w_unpaint v1 v2 (c_X11_unpaint σ β q k U nw v1 v2 hl0 m2 m3 c1 c12 c2 c13 c11 c7 c8 c14) (fun E h => h.1)), fun r1 I1 L1 R1 h1 => ?_⟩
  rcases h1 with ⟨rfl, w1, L', ⟨⟨hc, hv⟩, e1, e2, rfl, rfl⟩, rfl⟩ | ⟨q9, hq9, rfl, hpx, rfl, rfl, rfl⟩
  · obtain ⟨hM1, hC1⟩ := ec_end hM hC e1 e2 rfl
    refine ⟨_, c_X12_unpaint σ k U v1 v2 hM1.1 m2 hM1.2.2.2.2.2.1 hM1.2.2.2.1, fun r2 I2 L2 R2 h2 => ?_⟩
    obtain ⟨f0, f1, f2, f3, rfl, f5⟩ := h2
    exact ⟨by rw [f2, hc]; rfl, fun _ => by rw [f0 hc, ← hv]; exact u2L_at9, em_end hM1 hC1 hU (unO_K m2 m3) f1 f3 OKE_SE f5⟩
  · refine ⟨_, c_X12_unpaint σ k U v1 v2 hM.1 m2 hM.2.2.2.2.2.1 hM.2.2.2.1, fun r2 I2 L2 R2 h2 => ?_⟩
    obtain ⟨f0, f1, f2, f3, rfl, f5⟩ := h2
    rw [List.mem_singleton.mp hq9] at hpx ⊢
    exact ⟨by rw [f2, hpx.2]; rfl, fun h => absurd h (by decide), em_end hM (hC.none (unO_n hpx.2)) hU (unO_K m2 m3) f1 f3 OKE_SE f5⟩
set_option maxHeartbeats 400000 in
set_option maxRecDepth 100000 in
theorem st_movePainting {l : Launch} {G : va_G} {bs : Nat} {cy : Nat → ClassId} {I : CI} {L : CL} {R : CR} (hl0 : l.stackTraces = false) (hL : LSt I R) (v1 : Int32) (v2 : Int32) (v3 : Int32) : StB l G bs cy I L R ML_movePainting [(0, 12, 15, 19)] 8 3 18 [.int v1, .int v2, .int v3] MX12_movePainting 7 := by
  obtain ⟨σ, k, n, b, U, o, β, q, γ, u, nw, hM, hC, hU⟩ := hL
  obtain ⟨m1, m2, m3, m4, m5, m6, m7, m8, m9, m10, m11, m12, m13⟩ := id hM
  obtain ⟨c1, c2, c3, c4, c5, c6, c7, c8, c9, c10, c11, c12, c13, c14, c15, c16, c17, c18⟩ := id hC
  refine ⟨_, WTn.up (w_movePainting v1 v2 v3 (c_X11_movePainting σ β q k U nw v1 v2 v3 hl0 m2 m3 c1 c12 c2 c13 c11 c7 c8 c14) (fun E h => h.1)), fun r1 I1 L1 R1 h1 => ?_⟩
  rcases h1 with ⟨rfl, w1, L', ⟨⟨hc, hv⟩, e1, e2, rfl, rfl⟩, rfl⟩ | ⟨q9, hq9, rfl, hpx, rfl, rfl, rfl⟩
  · obtain ⟨hM1, hC1⟩ := ec_end hM hC e1 e2 rfl
    refine ⟨_, c_X12_movePainting σ k U v1 v2 v3 hM1.1 m2 m3 hM1.2.2.2.2.2.1 hM1.2.2.2.1, fun r2 I2 L2 R2 h2 => ?_⟩
    obtain ⟨f0, f1, f2, f3, rfl, f5⟩ := h2
    exact ⟨by rw [f2, hc]; rfl, fun _ => by rw [f0 hc, ← hv]; exact u2L_at9, em_end hM1 hC1 hU (mvO_K m2 m3) f1 f3 OKE_SE f5⟩
  · refine ⟨_, c_X12_movePainting σ k U v1 v2 v3 hM.1 m2 m3 hM.2.2.2.2.2.1 hM.2.2.2.1, fun r2 I2 L2 R2 h2 => ?_⟩
    obtain ⟨f0, f1, f2, f3, rfl, f5⟩ := h2
    rw [List.mem_singleton.mp hq9] at hpx ⊢
    exact ⟨by rw [f2, hpx.2]; rfl, fun h => absurd h (by decide), em_end hM (hC.none (mvO_n hpx.2)) hU (mvO_K m2 m3) f1 f3 OKE_SE f5⟩
set_option maxHeartbeats 400000 in
set_option maxRecDepth 100000 in
theorem st_exchange {l : Launch} {G : va_G} {bs : Nat} {cy : Nat → ClassId} {I : CI} {L : CL} {R : CR} (hl0 : l.stackTraces = false) (hL : LSt I R) (v1 : Int32) (v2 : Int32) (v3 : Int32) : StB l G bs cy I L R ML_exchange [(0, 12, 15, 19)] 8 3 18 [.int v1, .int v2, .int v3] MX12_exchange 8 := by
  obtain ⟨σ, k, n, b, U, o, β, q, γ, u, nw, hM, hC, hU⟩ := hL
  obtain ⟨m1, m2, m3, m4, m5, m6, m7, m8, m9, m10, m11, m12, m13⟩ := id hM
  obtain ⟨c1, c2, c3, c4, c5, c6, c7, c8, c9, c10, c11, c12, c13, c14, c15, c16, c17, c18⟩ := id hC
  refine ⟨_, WTn.up (w_exchange v1 v2 v3 (c_X11_exchange σ β q k U nw v1 v2 v3 hl0 m2 m3 c1 c12 c2 c13 c11 c7 c8 c14) (fun E h => h.1)), fun r1 I1 L1 R1 h1 => ?_⟩
  rcases h1 with ⟨rfl, w1, L', ⟨⟨hc, hv⟩, e1, e2, rfl, rfl⟩, rfl⟩ | ⟨q9, hq9, rfl, hpx, rfl, rfl, rfl⟩
  · obtain ⟨hM1, hC1⟩ := ec_end hM hC e1 e2 rfl
    refine ⟨_, c_X12_exchange σ k U v1 v2 v3 hM1.1 m2 hM1.2.2.2.2.2.1 hM1.2.2.2.1, fun r2 I2 L2 R2 h2 => ?_⟩
    obtain ⟨f0, f1, f2, f3, rfl, f5⟩ := h2
    exact ⟨by rw [f2, hc]; rfl, fun _ => by rw [f0 hc, ← hv]; exact u2L_at9, em_end hM1 hC1 hU (exO_K m2 m3) f1 f3 OKE_SE f5⟩
  · refine ⟨_, c_X12_exchange σ k U v1 v2 v3 hM.1 m2 hM.2.2.2.2.2.1 hM.2.2.2.1, fun r2 I2 L2 R2 h2 => ?_⟩
    obtain ⟨f0, f1, f2, f3, rfl, f5⟩ := h2
    rw [List.mem_singleton.mp hq9] at hpx ⊢
    exact ⟨by rw [f2, hpx.2]; rfl, fun h => absurd h (by decide), em_end hM (hC.none (exO_n hpx.2)) hU (exO_K m2 m3) f1 f3 OKE_SE f5⟩
set_option maxHeartbeats 400000 in
set_option maxRecDepth 100000 in
theorem st_setWeather {l : Launch} {G : va_G} {bs : Nat} {cy : Nat → ClassId} {I : CI} {L : CL} {R : CR} (hl0 : l.stackTraces = false) (hL : LSt I R) (v1 : Int32) (v2 : Int32) : StB l G bs cy I L R ML_setWeather [(0, 10, 13, 19), (0, 10, 17, 13)] 8 2 12 [.int v1, .int v2] MX12_setWeather 4 := by
  obtain ⟨σ, k, n, b, U, o, β, q, γ, u, nw, hM, hC, hU⟩ := hL
  obtain ⟨m1, m2, m3, m4, m5, m6, m7, m8, m9, m10, m11, m12, m13⟩ := id hM
  obtain ⟨c1, c2, c3, c4, c5, c6, c7, c8, c9, c10, c11, c12, c13, c14, c15, c16, c17, c18⟩ := id hC
  refine ⟨_, (w_setWeather v1 v2 (c_X11_setWeather σ β q k U nw v1 v2 hl0 m2 m3 c1 c12 c2 c13 c11 c7 c8 c14) (fun E h => h.elim (fun h => Or.inl h.1) (fun h => Or.inr h.1))), fun r1 I1 L1 R1 h1 => ?_⟩
  rcases h1 with ⟨rfl, w1, L', ⟨⟨hc, hv⟩, e1, e2, rfl, rfl⟩, rfl⟩ | ⟨q9, hq9, rfl, hpx, rfl, rfl, rfl⟩
  · obtain ⟨hM1, hC1⟩ := ec_end hM hC e1 e2 rfl
    refine ⟨_, c_X12_setWeather σ k U v1 v2 hM1.1 m2 hM1.2.2.2.2.2.1 hM1.2.2.2.1, fun r2 I2 L2 R2 h2 => ?_⟩
    obtain ⟨f0, f1, f2, f3, rfl, f5⟩ := h2
    have hc2 := and2 hc
    exact ⟨by rw [f2, hc2.1, hc2.2]; rfl, fun _ => by rw [f0 hc, ← hv]; exact u2L_at9, em_end hM1 hC1 hU (swO_K m2 m3) f1 f3 OKE_SE f5⟩
  · refine ⟨_, c_X12_setWeather σ k U v1 v2 hM.1 m2 hM.2.2.2.2.2.1 hM.2.2.2.1, fun r2 I2 L2 R2 h2 => ?_⟩
    obtain ⟨f0, f1, f2, f3, rfl, f5⟩ := h2
    rcases List.mem_cons.mp hq9 with e9 | e9
    · rw [e9] at hpx ⊢
      rcases hpx with ⟨_, hp⟩ | ⟨h9, _⟩
      · exact ⟨by rw [f2, hp]; rfl, fun h => absurd h (by decide), em_end hM (hC.none (swO_n (by rw [hp, Bool.false_and]))) hU (swO_K m2 m3) f1 f3 OKE_SE f5⟩
      · exact absurd h9 (by decide)
    · rw [List.mem_singleton.mp e9] at hpx ⊢
      rcases hpx with ⟨h9, _⟩ | ⟨_, hp, hp2⟩
      · exact absurd h9 (by decide)
      · exact ⟨by rw [f2, hp, hp2]; rfl, fun h => absurd h (by decide), em_end hM (hC.none (swO_n (by rw [hp2, Bool.and_false]))) hU (swO_K m2 m3) f1 f3 OKE_SE f5⟩
set_option maxHeartbeats 400000 in
set_option maxRecDepth 100000 in
theorem st_setShut {l : Launch} {G : va_G} {bs : Nat} {cy : Nat → ClassId} {I : CI} {L : CL} {R : CR} (hl0 : l.stackTraces = false) (hL : LSt I R) (v1 : Int32) : StB l G bs cy I L R ML_setShut [(0, 9, 12, 13)] 8 1 6 [.int v1] MX12_setShut 4 := by
  obtain ⟨σ, k, n, b, U, o, β, q, γ, u, nw, hM, hC, hU⟩ := hL
  obtain ⟨m1, m2, m3, m4, m5, m6, m7, m8, m9, m10, m11, m12, m13⟩ := id hM
  obtain ⟨c1, c2, c3, c4, c5, c6, c7, c8, c9, c10, c11, c12, c13, c14, c15, c16, c17, c18⟩ := id hC
  refine ⟨_, WTn.up (w_setShut v1 (c_X11_setShut σ β q k U nw v1 hl0 m2 m3 c1 c12 c2 c13 c11 c7 c8 c14) (fun E h => h.1)), fun r1 I1 L1 R1 h1 => ?_⟩
  rcases h1 with ⟨rfl, w1, L', ⟨⟨hc, hv⟩, e1, e2, rfl, rfl⟩, rfl⟩ | ⟨q9, hq9, rfl, hpx, rfl, rfl, rfl⟩
  · obtain ⟨hM1, hC1⟩ := ec_end hM hC e1 e2 rfl
    refine ⟨_, c_X12_setShut σ k U v1 hM1.1 m2 hM1.2.2.2.2.2.1 hM1.2.2.2.1, fun r2 I2 L2 R2 h2 => ?_⟩
    obtain ⟨f0, f1, f2, f3, rfl, f5⟩ := h2
    exact ⟨by rw [f2, hc]; rfl, fun _ => by rw [f0 hc, ← hv]; exact u2L_at9, em_end hM1 hC1 hU (ssO_K m2 m3) f1 f3 OKE_SE f5⟩
  · refine ⟨_, c_X12_setShut σ k U v1 hM.1 m2 hM.2.2.2.2.2.1 hM.2.2.2.1, fun r2 I2 L2 R2 h2 => ?_⟩
    obtain ⟨f0, f1, f2, f3, rfl, f5⟩ := h2
    rw [List.mem_singleton.mp hq9] at hpx ⊢
    exact ⟨by rw [f2, hpx.2]; rfl, fun h => absurd h (by decide), em_end hM (hC.none (ssO_n hpx.2)) hU (ssO_K m2 m3) f1 f3 OKE_SE f5⟩
set_option maxHeartbeats 400000 in
set_option maxRecDepth 100000 in
theorem st_setClosed {l : Launch} {G : va_G} {bs : Nat} {cy : Nat → ClassId} {I : CI} {L : CL} {R : CR} (hl0 : l.stackTraces = false) (hL : LSt I R) (v1 : Int32) (v2 : Int32) (v3 : Bool) : StB l G bs cy I L R ML_setClosed [(0, 12, 15, 19)] 8 2 12 [.int v1, .int v2, .int (bI v3)] MX12_setClosed 3 := by
  obtain ⟨σ, k, n, b, U, o, β, q, γ, u, nw, hM, hC, hU⟩ := hL
  obtain ⟨m1, m2, m3, m4, m5, m6, m7, m8, m9, m10, m11, m12, m13⟩ := id hM
  obtain ⟨c1, c2, c3, c4, c5, c6, c7, c8, c9, c10, c11, c12, c13, c14, c15, c16, c17, c18⟩ := id hC
  refine ⟨_, WTn.up (w_setClosed v1 v2 (bI v3) (c_X11_setClosed σ β q k U nw v1 v2 v3 hl0 m2 m3 c1 c12 c2 c13 c11 c7 c8 c14) (fun E h => h.1)), fun r1 I1 L1 R1 h1 => ?_⟩
  rcases h1 with ⟨rfl, w1, L', ⟨⟨hc, hv⟩, e1, e2, rfl, rfl⟩, rfl⟩ | ⟨q9, hq9, rfl, hpx, rfl, rfl, rfl⟩
  · obtain ⟨hM1, hC1⟩ := ec_end hM hC e1 e2 rfl
    refine ⟨_, c_X12_setClosed σ k U v1 v2 v3 hM1.1 m2 hM1.2.2.2.2.2.1 hM1.2.2.2.1, fun r2 I2 L2 R2 h2 => ?_⟩
    obtain ⟨f0, f1, f2, f3, rfl, f5⟩ := h2
    exact ⟨by rw [f2, hc]; rfl, fun _ => by rw [f0 hc, ← hv]; exact u2L_at9, em_end hM1 hC1 hU (scO_K m2 m3) f1 f3 OKE_SE f5⟩
  · refine ⟨_, c_X12_setClosed σ k U v1 v2 v3 hM.1 m2 hM.2.2.2.2.2.1 hM.2.2.2.1, fun r2 I2 L2 R2 h2 => ?_⟩
    obtain ⟨f0, f1, f2, f3, rfl, f5⟩ := h2
    rw [List.mem_singleton.mp hq9] at hpx ⊢
    exact ⟨by rw [f2, hpx.2]; rfl, fun h => absurd h (by decide), em_end hM (hC.none (scO_n hpx.2)) hU (scO_K m2 m3) f1 f3 OKE_SE f5⟩
set_option maxHeartbeats 400000 in
set_option maxRecDepth 100000 in
theorem st_setRate {l : Launch} {G : va_G} {bs : Nat} {cy : Nat → ClassId} {I : CI} {L : CL} {R : CR} (hl0 : l.stackTraces = false) (hL : LSt I R) (v1 : Int32) (v2 : Int32) : StB l G bs cy I L R ML_setRate [(0, 10, 13, 19), (0, 10, 17, 13)] 8 2 12 [.int v1, .int v2] MX12_setRate 6 := by
  obtain ⟨σ, k, n, b, U, o, β, q, γ, u, nw, hM, hC, hU⟩ := hL
  obtain ⟨m1, m2, m3, m4, m5, m6, m7, m8, m9, m10, m11, m12, m13⟩ := id hM
  obtain ⟨c1, c2, c3, c4, c5, c6, c7, c8, c9, c10, c11, c12, c13, c14, c15, c16, c17, c18⟩ := id hC
  refine ⟨_, (w_setRate v1 v2 (c_X11_setRate σ β q k U nw v1 v2 hl0 m2 m3 c1 c12 c2 c13 c11 c7 c8 c14) (fun E h => h.elim (fun h => Or.inl h.1) (fun h => Or.inr h.1))), fun r1 I1 L1 R1 h1 => ?_⟩
  rcases h1 with ⟨rfl, w1, L', ⟨⟨hc, hv⟩, e1, e2, rfl, rfl⟩, rfl⟩ | ⟨q9, hq9, rfl, hpx, rfl, rfl, rfl⟩
  · obtain ⟨hM1, hC1⟩ := ec_end hM hC e1 e2 rfl
    refine ⟨_, c_X12_setRate σ k U v1 v2 hM1.1 m2 m3 hM1.2.2.2.2.2.1 hM1.2.2.2.1, fun r2 I2 L2 R2 h2 => ?_⟩
    obtain ⟨f0, f1, f2, f3, rfl, f5⟩ := h2
    have hc2 := and2 hc
    exact ⟨by rw [f2, hc2.1, hc2.2]; rfl, fun _ => by rw [f0 hc, ← hv]; exact u2L_at9, em_end hM1 hC1 hU (srO_K m2 m3) f1 f3 OKE_SE f5⟩
  · refine ⟨_, c_X12_setRate σ k U v1 v2 hM.1 m2 m3 hM.2.2.2.2.2.1 hM.2.2.2.1, fun r2 I2 L2 R2 h2 => ?_⟩
    obtain ⟨f0, f1, f2, f3, rfl, f5⟩ := h2
    rcases List.mem_cons.mp hq9 with e9 | e9
    · rw [e9] at hpx ⊢
      rcases hpx with ⟨_, hp⟩ | ⟨h9, _⟩
      · exact ⟨by rw [f2, hp]; rfl, fun h => absurd h (by decide), em_end hM (hC.none (srO_n (by rw [hp, Bool.false_and]))) hU (srO_K m2 m3) f1 f3 OKE_SE f5⟩
      · exact absurd h9 (by decide)
    · rw [List.mem_singleton.mp e9] at hpx ⊢
      rcases hpx with ⟨h9, _⟩ | ⟨_, hp, hp2⟩
      · exact absurd h9 (by decide)
      · exact ⟨by rw [f2, hp, hp2]; rfl, fun h => absurd h (by decide), em_end hM (hC.none (srO_n (by rw [hp2, Bool.and_false]))) hU (srO_K m2 m3) f1 f3 OKE_SE f5⟩
set_option maxHeartbeats 400000 in
set_option maxRecDepth 100000 in
theorem st_setSpeed {l : Launch} {G : va_G} {bs : Nat} {cy : Nat → ClassId} {I : CI} {L : CL} {R : CR} (hl0 : l.stackTraces = false) (hL : LSt I R) (v1 : Int32) (v2 : Int32) : StB l G bs cy I L R ML_setSpeed [(0, 10, 13, 19), (0, 10, 17, 13)] 8 2 12 [.int v1, .int v2] MX12_setSpeed 8 := by
  obtain ⟨σ, k, n, b, U, o, β, q, γ, u, nw, hM, hC, hU⟩ := hL
  obtain ⟨m1, m2, m3, m4, m5, m6, m7, m8, m9, m10, m11, m12, m13⟩ := id hM
  obtain ⟨c1, c2, c3, c4, c5, c6, c7, c8, c9, c10, c11, c12, c13, c14, c15, c16, c17, c18⟩ := id hC
  refine ⟨_, (w_setSpeed v1 v2 (c_X11_setSpeed σ β q k U nw v1 v2 hl0 m2 m3 c1 c12 c2 c13 c11 c7 c8 c14) (fun E h => h.elim (fun h => Or.inl h.1) (fun h => Or.inr h.1))), fun r1 I1 L1 R1 h1 => ?_⟩
  rcases h1 with ⟨rfl, w1, L', ⟨⟨hc, hv⟩, e1, e2, rfl, rfl⟩, rfl⟩ | ⟨q9, hq9, rfl, hpx, rfl, rfl, rfl⟩
  · obtain ⟨hM1, hC1⟩ := ec_end hM hC e1 e2 rfl
    refine ⟨_, c_X12_setSpeed σ k U v1 v2 hM1.1 m2 m3 hM1.2.2.2.2.2.1 hM1.2.2.2.1, fun r2 I2 L2 R2 h2 => ?_⟩
    obtain ⟨f0, f1, f2, f3, rfl, f5⟩ := h2
    have hc2 := and2 hc
    exact ⟨by rw [f2, hc2.1, hc2.2]; rfl, fun _ => by rw [f0 hc, ← hv]; exact u2L_at9, em_end hM1 hC1 hU (spO_K m2 m3) f1 f3 OKE_SE f5⟩
  · refine ⟨_, c_X12_setSpeed σ k U v1 v2 hM.1 m2 m3 hM.2.2.2.2.2.1 hM.2.2.2.1, fun r2 I2 L2 R2 h2 => ?_⟩
    obtain ⟨f0, f1, f2, f3, rfl, f5⟩ := h2
    rcases List.mem_cons.mp hq9 with e9 | e9
    · rw [e9] at hpx ⊢
      rcases hpx with ⟨_, hp⟩ | ⟨h9, _⟩
      · exact ⟨by rw [f2, hp]; rfl, fun h => absurd h (by decide), em_end hM (hC.none (spO_n (by rw [hp, Bool.false_and]))) hU (spO_K m2 m3) f1 f3 OKE_SE f5⟩
      · exact absurd h9 (by decide)
    · rw [List.mem_singleton.mp e9] at hpx ⊢
      rcases hpx with ⟨h9, _⟩ | ⟨_, hp, hp2⟩
      · exact absurd h9 (by decide)
      · exact ⟨by rw [f2, hp, hp2]; rfl, fun h => absurd h (by decide), em_end hM (hC.none (spO_n (by rw [hp2, Bool.and_false]))) hU (spO_K m2 m3) f1 f3 OKE_SE f5⟩
set_option maxHeartbeats 400000 in
set_option maxRecDepth 100000 in
theorem st_autoPlan {l : Launch} {G : va_G} {bs : Nat} {cy : Nat → ClassId} {I : CI} {L : CL} {R : CR} (hl0 : l.stackTraces = false) (hL : LSt I R) : StA l G bs cy I L R MX11_autoPlan 6 [] MX12_autoPlan 6 := by
  obtain ⟨σ, k, n, b, U, o, β, q, γ, u, nw, hM, hC, hU⟩ := hL
  obtain ⟨m1, m2, m3, m4, m5, m6, m7, m8, m9, m10, m11, m12, m13⟩ := id hM
  obtain ⟨c1, c2, c3, c4, c5, c6, c7, c8, c9, c10, c11, c12, c13, c14, c15, c16, c17, c18⟩ := id hC
  refine ⟨_, c_X11_autoPlan σ β q u k U nw m2 m3 c1 c12 c2 c13 c11 c7 c8 c4 c10 c6 c14, fun r1 I1 L1 R1 h1 => ?_⟩
  obtain ⟨e0, e1, e2, e3⟩ := h1
  obtain ⟨q9, u9, hM1, hC1⟩ := ad_end hM hC e1 e2
  refine ⟨_, c_X12_autoPlan σ k U hM1.1 m2 m3 hM1.2.2.2.2.2.1 hM1.2.2.2.1, fun r2 I2 L2 R2 h2 => ?_⟩
  obtain ⟨f0, f1, f2, f3, f4, f5⟩ := h2
  exact ⟨e0.symm.trans f0, em_end hM1 hC1 hU (auO_K m2 m3) f1 f3 OKE_SAU f5⟩
set_option maxHeartbeats 400000 in
set_option maxRecDepth 100000 in
theorem st_applySafePlan {l : Launch} {G : va_G} {bs : Nat} {cy : Nat → ClassId} {I : CI} {L : CL} {R : CR} (hl0 : l.stackTraces = false) (hL : LSt I R) : StA l G bs cy I L R MX11_applySafePlan 22 [] MX12_applySafePlan 22 := by
  obtain ⟨σ, k, n, b, U, o, β, q, γ, u, nw, hM, hC, hU⟩ := hL
  obtain ⟨m1, m2, m3, m4, m5, m6, m7, m8, m9, m10, m11, m12, m13⟩ := id hM
  obtain ⟨c1, c2, c3, c4, c5, c6, c7, c8, c9, c10, c11, c12, c13, c14, c15, c16, c17, c18⟩ := id hC
  refine ⟨_, c_X11_applySafePlan σ β q u k U nw m2 m3 c1 c12 c2 c13 c11 c7 c8 c4 c10 c6 c14, fun r1 I1 L1 R1 h1 => ?_⟩
  obtain ⟨e0, e1, e2, e3⟩ := h1
  obtain ⟨q9, u9, hM1, hC1⟩ := ad_end hM hC e1 e2
  refine ⟨_, c_X12_applySafePlan σ k U hM1.1 m2 m3 hM1.2.2.2.2.2.1 hM1.2.2.2.1, fun r2 I2 L2 R2 h2 => ?_⟩
  obtain ⟨f0, f1, f2, f3, f4, f5⟩ := h2
  exact ⟨e0.symm.trans f0, em_end hM1 hC1 hU (apO_K m2 m3) f1 f3 OKE_SSU f5⟩
set_option maxHeartbeats 400000 in
set_option maxRecDepth 100000 in
theorem st_hasSafePlan {l : Launch} {G : va_G} {bs : Nat} {cy : Nat → ClassId} {I : CI} {L : CL} {R : CR} (hl0 : l.stackTraces = false) (hL : LSt I R) : StA l G bs cy I L R MX11_hasSafePlan 22 [] MX12_hasSafePlan 22 := by
  obtain ⟨σ, k, n, b, U, o, β, q, γ, u, nw, hM, hC, hU⟩ := hL
  obtain ⟨m1, m2, m3, m4, m5, m6, m7, m8, m9, m10, m11, m12, m13⟩ := id hM
  obtain ⟨c1, c2, c3, c4, c5, c6, c7, c8, c9, c10, c11, c12, c13, c14, c15, c16, c17, c18⟩ := id hC
  refine ⟨_, c_X11_hasSafePlan σ β q u m2 m3 c1 c12 c2 c13 c11 c7 c8 c4 c10 c6, fun r1 I1 L1 R1 h1 => ?_⟩
  obtain ⟨e9, e0, rfl, e2⟩ := h1
  have hM1 := hM.cl e0 (OK_SSp (β := β) (q := q) c4).1
  have hC1 := hC.fr e0 ((OK_SSp (β := β) (q := q) c4).2 c1 c2 c6) (RKp.FR c4 c2 c6 e2)
  refine ⟨_, c_X12_hasSafePlan σ hM1.1 m2 m3, fun r2 I2 L2 R2 h2 => ?_⟩
  obtain ⟨f0, f1, f2, f3, rfl, f5⟩ := h2
  exact ⟨e9.symm.trans f0, q_end hM1 hC1 hU f1 f3 OKM_SST f5⟩
set_option maxHeartbeats 400000 in
set_option maxRecDepth 100000 in
theorem st_searchTries {l : Launch} {G : va_G} {bs : Nat} {cy : Nat → ClassId} {I : CI} {L : CL} {R : CR} (hl0 : l.stackTraces = false) (hL : LSt I R) : StA l G bs cy I L R MX11_searchTries 22 [] MX12_searchTries 22 := by
  obtain ⟨σ, k, n, b, U, o, β, q, γ, u, nw, hM, hC, hU⟩ := hL
  obtain ⟨m1, m2, m3, m4, m5, m6, m7, m8, m9, m10, m11, m12, m13⟩ := id hM
  obtain ⟨c1, c2, c3, c4, c5, c6, c7, c8, c9, c10, c11, c12, c13, c14, c15, c16, c17, c18⟩ := id hC
  refine ⟨_, c_X11_searchTries σ β q u m2 m3 c1 c12 c2 c13 c11 c7 c8 c4 c10 c6, fun r1 I1 L1 R1 h1 => ?_⟩
  obtain ⟨e9, e0, rfl, e2⟩ := h1
  have hM1 := hM.cl e0 (OK_SSp (β := β) (q := q) c4).1
  have hC1 := hC.fr e0 ((OK_SSp (β := β) (q := q) c4).2 c1 c2 c6) (RKp.FR c4 c2 c6 e2)
  refine ⟨_, c_X12_searchTries σ hM1.1 m2 m3, fun r2 I2 L2 R2 h2 => ?_⟩
  obtain ⟨f0, f1, f2, f3, rfl, f5⟩ := h2
  exact ⟨e9.symm.trans f0, q_end hM1 hC1 hU f1 f3 OKM_SST f5⟩
set_option maxHeartbeats 400000 in
set_option maxRecDepth 100000 in
theorem st_autoPast {l : Launch} {G : va_G} {bs : Nat} {cy : Nat → ClassId} {I : CI} {L : CL} {R : CR} (hl0 : l.stackTraces = false) (hL : LSt I R) : StA l G bs cy I L R MX11_autoPast 7 [] MX12_autoPast 7 := by
  obtain ⟨σ, k, n, b, U, o, β, q, γ, u, nw, hM, hC, hU⟩ := hL
  obtain ⟨m1, m2, m3, m4, m5, m6, m7, m8, m9, m10, m11, m12, m13⟩ := id hM
  obtain ⟨c1, c2, c3, c4, c5, c6, c7, c8, c9, c10, c11, c12, c13, c14, c15, c16, c17, c18⟩ := id hC
  refine ⟨_, c_X11_autoPast σ β q u m2 m3 c1 c12 c2 c13 c11 c7 c8 c4 c10 c6, fun r1 I1 L1 R1 h1 => ?_⟩
  obtain ⟨e9, e0, rfl, e2⟩ := h1
  have hM1 := hM.cl e0 (OK_SAp (β := β) (q := q) c4).1
  have hC1 := hC.fr e0 ((OK_SAp (β := β) (q := q) c4).2 c1 c2 c6) (RKp.FR c4 c2 c6 e2)
  refine ⟨_, c_X12_autoPast σ hM1.1 m2 m3, fun r2 I2 L2 R2 h2 => ?_⟩
  obtain ⟨f0, f1, f2, f3, rfl, f5⟩ := h2
  exact ⟨e9.symm.trans f0, q_end hM1 hC1 hU f1 f3 OKM_SAP f5⟩
set_option maxHeartbeats 400000 in
set_option maxRecDepth 100000 in
theorem st_criticalGang {l : Launch} {G : va_G} {bs : Nat} {cy : Nat → ClassId} {I : CI} {L : CL} {R : CR} (hl0 : l.stackTraces = false) (hL : LSt I R) : StA l G bs cy I L R MX11_criticalGang 7 [] MX12_criticalGang 7 := by
  obtain ⟨σ, k, n, b, U, o, β, q, γ, u, nw, hM, hC, hU⟩ := hL
  obtain ⟨m1, m2, m3, m4, m5, m6, m7, m8, m9, m10, m11, m12, m13⟩ := id hM
  obtain ⟨c1, c2, c3, c4, c5, c6, c7, c8, c9, c10, c11, c12, c13, c14, c15, c16, c17, c18⟩ := id hC
  refine ⟨_, c_X11_criticalGang σ β q u m2 m3 c1 c12 c2 c13 c11 c7 c8 c4 c10 c6, fun r1 I1 L1 R1 h1 => ?_⟩
  obtain ⟨e9, e0, rfl, e2⟩ := h1
  have hM1 := hM.cl e0 (OK_SAp (β := β) (q := q) c4).1
  have hC1 := hC.fr e0 ((OK_SAp (β := β) (q := q) c4).2 c1 c2 c6) (RKp.FR c4 c2 c6 e2)
  refine ⟨_, c_X12_criticalGang σ hM1.1 m2 m3, fun r2 I2 L2 R2 h2 => ?_⟩
  obtain ⟨f0, f1, f2, f3, rfl, f5⟩ := h2
  exact ⟨e9.symm.trans f0, q_end hM1 hC1 hU f1 f3 OKM_SAP f5⟩
set_option maxHeartbeats 400000 in
set_option maxRecDepth 100000 in
theorem st_worstYear {l : Launch} {G : va_G} {bs : Nat} {cy : Nat → ClassId} {I : CI} {L : CL} {R : CR} (hl0 : l.stackTraces = false) (hL : LSt I R) : StA l G bs cy I L R MX11_worstYear 7 [] MX12_worstYear 7 := by
  obtain ⟨σ, k, n, b, U, o, β, q, γ, u, nw, hM, hC, hU⟩ := hL
  obtain ⟨m1, m2, m3, m4, m5, m6, m7, m8, m9, m10, m11, m12, m13⟩ := id hM
  obtain ⟨c1, c2, c3, c4, c5, c6, c7, c8, c9, c10, c11, c12, c13, c14, c15, c16, c17, c18⟩ := id hC
  refine ⟨_, c_X11_worstYear σ β q γ u m2 m3 c1 c12 c2 c13 c11 c7 c8 c4 c10 c6 c3 c9 c5, fun r1 I1 L1 R1 h1 => ?_⟩
  obtain ⟨e9, e0, rfl, e2⟩ := h1
  have hM1 := hM.cl e0 (OK_SAs (β := β) (q := q) c3 c4).1
  have hC1 := hC.fr e0 ((OK_SAs (β := β) (q := q) c3 c4).2 c1 c2 c5 c6) (RKp.FR c4 c2 c6 e2)
  refine ⟨_, c_X12_worstYear σ hM1.1 m2 m3, fun r2 I2 L2 R2 h2 => ?_⟩
  obtain ⟨f0, f1, f2, f3, rfl, f5⟩ := h2
  exact ⟨e9.symm.trans f0, q_end hM1 hC1 hU f1 f3 OKM_SAP f5⟩
set_option maxHeartbeats 400000 in
set_option maxRecDepth 100000 in
theorem st_smallestShut {l : Launch} {G : va_G} {bs : Nat} {cy : Nat → ClassId} {I : CI} {L : CL} {R : CR} (hl0 : l.stackTraces = false) (hL : LSt I R) : StA l G bs cy I L R MX11_smallestShut 7 [] MX12_smallestShut 7 := by
  obtain ⟨σ, k, n, b, U, o, β, q, γ, u, nw, hM, hC, hU⟩ := hL
  obtain ⟨m1, m2, m3, m4, m5, m6, m7, m8, m9, m10, m11, m12, m13⟩ := id hM
  obtain ⟨c1, c2, c3, c4, c5, c6, c7, c8, c9, c10, c11, c12, c13, c14, c15, c16, c17, c18⟩ := id hC
  refine ⟨_, c_X11_smallestShut σ β q γ u m2 m3 c1 c12 c2 c13 c11 c7 c8 c4 c10 c6 c3 c9 c5, fun r1 I1 L1 R1 h1 => ?_⟩
  obtain ⟨e9, e0, rfl, e2⟩ := h1
  have hM1 := hM.cl e0 (OK_SAs (β := β) (q := q) c3 c4).1
  have hC1 := hC.fr e0 ((OK_SAs (β := β) (q := q) c3 c4).2 c1 c2 c5 c6) (RKp.FR c4 c2 c6 e2)
  refine ⟨_, c_X12_smallestShut σ hM1.1 m2 m3, fun r2 I2 L2 R2 h2 => ?_⟩
  obtain ⟨f0, f1, f2, f3, rfl, f5⟩ := h2
  exact ⟨e9.symm.trans f0, q_end hM1 hC1 hU f1 f3 OKM_SAP f5⟩
set_option maxHeartbeats 400000 in
set_option maxRecDepth 100000 in
theorem st_fewestGangs {l : Launch} {G : va_G} {bs : Nat} {cy : Nat → ClassId} {I : CI} {L : CL} {R : CR} (hl0 : l.stackTraces = false) (hL : LSt I R) : StA l G bs cy I L R MX11_fewestGangs 7 [] MX12_fewestGangs 7 := by
  obtain ⟨σ, k, n, b, U, o, β, q, γ, u, nw, hM, hC, hU⟩ := hL
  obtain ⟨m1, m2, m3, m4, m5, m6, m7, m8, m9, m10, m11, m12, m13⟩ := id hM
  obtain ⟨c1, c2, c3, c4, c5, c6, c7, c8, c9, c10, c11, c12, c13, c14, c15, c16, c17, c18⟩ := id hC
  refine ⟨_, c_X11_fewestGangs σ β q u m2 m3 c1 c12 c2 c13 c11 c7 c8 c4 c10 c6, fun r1 I1 L1 R1 h1 => ?_⟩
  obtain ⟨e9, e0, rfl, e2⟩ := h1
  have hM1 := hM.cl e0 (OK_SAp (β := β) (q := q) c4).1
  have hC1 := hC.fr e0 ((OK_SAp (β := β) (q := q) c4).2 c1 c2 c6) (RKp.FR c4 c2 c6 e2)
  refine ⟨_, c_X12_fewestGangs σ hM1.1 m2 m3, fun r2 I2 L2 R2 h2 => ?_⟩
  obtain ⟨f0, f1, f2, f3, rfl, f5⟩ := h2
  exact ⟨e9.symm.trans f0, q_end hM1 hC1 hU f1 f3 OKM_SAP f5⟩
set_option maxHeartbeats 400000 in
set_option maxRecDepth 100000 in
theorem st_extraDays {l : Launch} {G : va_G} {bs : Nat} {cy : Nat → ClassId} {I : CI} {L : CL} {R : CR} (hl0 : l.stackTraces = false) (hL : LSt I R) : StA l G bs cy I L R MX11_extraDays 7 [] MX12_extraDays 7 := by
  obtain ⟨σ, k, n, b, U, o, β, q, γ, u, nw, hM, hC, hU⟩ := hL
  obtain ⟨m1, m2, m3, m4, m5, m6, m7, m8, m9, m10, m11, m12, m13⟩ := id hM
  obtain ⟨c1, c2, c3, c4, c5, c6, c7, c8, c9, c10, c11, c12, c13, c14, c15, c16, c17, c18⟩ := id hC
  refine ⟨_, c_X11_extraDays σ β q γ u m2 m3 c1 c12 c2 c13 c11 c7 c8 c4 c10 c6 c3 c9 c5, fun r1 I1 L1 R1 h1 => ?_⟩
  obtain ⟨e9, e0, rfl, e2⟩ := h1
  have hM1 := hM.cl e0 (OK_SAs (β := β) (q := q) c3 c4).1
  have hC1 := hC.fr e0 ((OK_SAs (β := β) (q := q) c3 c4).2 c1 c2 c5 c6) (RKp.FR c4 c2 c6 e2)
  refine ⟨_, c_X12_extraDays σ hM1.1 m2 m3, fun r2 I2 L2 R2 h2 => ?_⟩
  obtain ⟨f0, f1, f2, f3, rfl, f5⟩ := h2
  exact ⟨e9.symm.trans f0, q_end hM1 hC1 hU f1 f3 OKM_SAP f5⟩
