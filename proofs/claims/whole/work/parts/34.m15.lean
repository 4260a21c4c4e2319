set_option maxHeartbeats 4000000 in
set_option maxRecDepth 100000 in
theorem c_X12_findEndangered {l : Launch} {G : va_G} {bs : Nat} {cy : Nat → ClassId} {I : CI} {L : CL} {R : CR} (σ : Row) (hs : I 68 = σ) (hi : Inv σ) : MTv l G bs cy MX12_findEndangered 4 [.ref (bs + 67)] I L R (fun I1 L1 R1 => Fr SEn I I1 ∧ I1 67 33 = nI (enM σ) ∧ rowP I1 83 (enM σ) (fun k => nI (enE σ k)) ∧ rowP I1 84 (enM σ) (fun k => fp0 σ (enE σ k)) ∧ L = L1 ∧ R = R1) := by
  refine MTv.of (own := RX12) pn_RX12 rfl (Nat.le_of_ble_eq_true rfl) ?_
  intro p e s m args below meth c Qf X hW hS fin ls hl
  have hx := X.1
  have hb := X.2.1
  have hR : RmOK (rmL 4 0 0) 4 := ⟨rfl, rfl⟩
  have hcs : 0 ≤ (rmL 4 0 0).cells ∧ 0 ≤ (rmL 4 0 0).slots := ⟨Nat.zero_le _, Nat.zero_le _⟩
  have hl : lv_has ls 3 [(0, .ref (bs + 67))] := hl
  have hF : Fr SEn I I := Fr.rf
  obtain ⟨hY, hY1, hY12, hLn, hL4, hSn, hS12, hGn, hG5⟩ := id hi
  refine lv_aload_n hx hb (dg D_X12_findEndangered (i := 0) rfl) rfl (lv_at hl 0 rfl) ?_
  refine n_iconst (a := 0) hx hb (dg D_X12_findEndangered (i := 1) rfl) rfl ?_
  refine r_puti (v := nI 0) (ty := .int) X hW hS FI_X12_385 rfl (by decide) rfl rfl (by decide +kernel) rfl rfl (dg D_X12_findEndangered (i := 2) rfl) (fun H locs hW hS => ?_)
  have hF : Fr SEn I (u2 I 67 33 (nI 0)) := Fr.put hF rfl
  have hs : (u2 I 67 33 (nI 0)) 68 = σ := hs
  obtain ⟨J2, eJ2⟩ : ∃ J, J = u2 I 67 33 (nI 0) := ⟨_, rfl⟩
  rw [← eJ2] at hW hF hs
  have hen : J2 67 33 = nI 0 := by rw [eJ2]; exact u2_at
  refine n_iconst (a := 0) hx hb (dg D_X12_findEndangered (i := 3) rfl) rfl ?_
  refine lv_istore_n (lv' := [(1, .int (nI 0)), (0, .ref (bs + 67))]) hx hb (dg D_X12_findEndangered (i := 4) rfl) rfl hl (by decide) rfl (fun ls hl => ?_)
  have loop7 := up_ind (P := fun y => ∀ (K7 : CI) (H : Heap) (locs : List Loc) (ls : Array Slot) (v1 : Int32), v1 = nI y → (Fr SEn I K7) → (K7 68 = σ) → (rowP K7 83 (enN σ y 0) (fun k => nI (enE σ k))) → (rowP K7 84 (enN σ y 0) (fun k => fp0 σ (enE σ k))) → (K7 67 33 = nI (enN σ y 0)) → Wd G bs cy K7 L R H → va_S (Aq bs) s.heap H locs → lv_has ls 3 [(0, .ref (bs + 67)), (1, .int v1)] → W p l e (rmL 4 0 0) s m args below meth c H locs 0 0 Qf (F0 m 7 ls [])) (Yn σ) (fun y hx7 ih7 => by
      intro K7 H locs ls v1 q1 hF hs hE hDl hen hW hS hl
      subst q1
      refine lv_iload_n hx hb (dg D_X12_findEndangered (i := 5) rfl) rfl (lv_at hl 1 rfl) ?_
      refine lv_aload_n hx hb (dg D_X12_findEndangered (i := 6) rfl) rfl (lv_at hl 0 rfl) ?_
      refine r_getc (t := 68) X hW FI_X12_7 rfl (by decide) rfl (dg D_X12_findEndangered (i := 7) rfl) ?_
      refine n_iconst (a := 0) hx hb (dg D_X12_findEndangered (i := 8) rfl) rfl ?_
      refine r_ald (j := 0) (v := nI (Yn σ)) X hW rfl (by decide) rfl (by omega) (by decide) ((congrFun hs _).trans hY) (dg D_X12_findEndangered (i := 9) rfl) ?_
      refine n_icmp_ge (tgt := 81) hx hb (by omega) (by omega) (dg D_X12_findEndangered (i := 10) rfl) (by decide) (fun c14 => ?_) (fun c14 => ?_)
      · exact fin (dg D_X12_findEndangered (i := 47) rfl) hW hS ⟨hF, by rw [hen, show y = Yn σ by omega, en_Y hY12], by rw [← en_Y hY12, ← show y = Yn σ by omega]; exact hE, by rw [← en_Y hY12, ← show y = Yn σ by omega]; exact hDl, rfl, rfl⟩
      · refine n_iconst (a := 0) hx hb (dg D_X12_findEndangered (i := 11) rfl) rfl ?_
        refine lv_istore_n (lv' := [(2, .int (nI 0)), (0, .ref (bs + 67)), (1, .int (nI y))]) hx hb (dg D_X12_findEndangered (i := 12) rfl) rfl hl (by decide) rfl (fun ls hl => ?_)
        have loop19 := up_ind (P := fun x => ∀ (K19 : CI) (H : Heap) (locs : List Loc) (ls : Array Slot) (v2 : Int32), v2 = nI x → (Fr SEn I K19) → (K19 68 = σ) → (rowP K19 83 (enN σ y x) (fun k => nI (enE σ k))) → (rowP K19 84 (enN σ y x) (fun k => fp0 σ (enE σ k))) → (K19 67 33 = nI (enN σ y x)) → Wd G bs cy K19 L R H → va_S (Aq bs) s.heap H locs → lv_has ls 3 [(0, .ref (bs + 67)), (1, .int (nI y)), (2, .int v2)] → W p l e (rmL 4 0 0) s m args below meth c H locs 0 0 Qf (F0 m 19 ls [])) (nS σ) (fun x hx19 ih19 => by
            intro K19 H locs ls v2 q2 hF hs hE hDl hen hW hS hl
            subst q2
            refine lv_iload_n hx hb (dg D_X12_findEndangered (i := 13) rfl) rfl (lv_at hl 2 rfl) ?_
            refine lv_aload_n hx hb (dg D_X12_findEndangered (i := 14) rfl) rfl (lv_at hl 0 rfl) ?_
            refine r_getc (t := 68) X hW FI_X12_7 rfl (by decide) rfl (dg D_X12_findEndangered (i := 15) rfl) ?_
            refine n_iconst (a := 4) hx hb (dg D_X12_findEndangered (i := 16) rfl) rfl ?_
            refine r_ald (j := 4) (v := nI (nS σ)) X hW rfl (by decide) rfl (by omega) (by decide) ((congrFun hs _).trans hSn) (dg D_X12_findEndangered (i := 17) rfl) ?_
            refine n_icmp_ge (tgt := 75) hx hb (by omega) (by omega) (dg D_X12_findEndangered (i := 18) rfl) (by decide) (fun c26 => ?_) (fun c26 => ?_)
            · refine lv_iinc (v := nI (y + 1)) (lv' := [(1, .int (nI (y + 1))), (0, .ref (bs + 67)), (2, .int (nI x))]) hx hb (dg D_X12_findEndangered (i := 45) rfl) hl (k := 1) rfl (nI_add _ _) (by decide) rfl (fun ls hl => ?_)
              refine lv_goto (tgt := 7) hx hb (dg D_X12_findEndangered (i := 46) rfl) (by decide) ?_
              exact ih7 (by omega) K19 _ _ _ _ (congrArg nI (by omega)) hF hs (by rw [← en_y hY12 (show y < 12 by omega), show nS σ = x by omega]; exact hE) (by rw [← en_y hY12 (show y < 12 by omega), show nS σ = x by omega]; exact hDl) (by rw [← en_y hY12 (show y < 12 by omega), show nS σ = x by omega]; exact hen) hW hS (lv_sub hl [1, 0] rfl)
            · refine lv_aload_n hx hb (dg D_X12_findEndangered (i := 19) rfl) rfl (lv_at hl 0 rfl) ?_
              refine lv_iload_n hx hb (dg D_X12_findEndangered (i := 20) rfl) rfl (lv_at hl 2 rfl) ?_
              refine n_iconst (a := 0) hx hb (dg D_X12_findEndangered (i := 21) rfl) rfl ?_
              refine callVi X hW hS hR (c_X12_pastBy (I := K19) σ x (nI 0) (by first | assumption | omega | decide | exact hP.1) (by first | assumption | omega | decide | exact hP.1) (by first | assumption | omega | decide | exact hP.1)) (by decide) UVX12_pastBy LK_X12_267 rfl (by decide) rfl rfl rfl (Nat.le_of_ble_eq_true rfl) hl hcs (dg D_X12_findEndangered (i := 22) rfl) (fun r32 I32 L1 R1 H locs hq hW hS => ?_)
              obtain ⟨rfl, hT32, rfl, rfl⟩ := hq
              rw [show fpB σ x (bitB (nI 0)) = fp0 σ x from fpB_0 hY12 x]
              have hF : Fr SEn I I32 := Fr.tr hF hT32 (by intro a j h; simp only [SL, SEn, Bool.or_eq_true, Bool.and_eq_true, beq_iff_eq, decide_eq_true_eq] at h ⊢; omega)
              have hs : I32 68 = σ := by rw [Fr.row hT32 (fun _ => rfl)]; exact hs
              have hE : rowP I32 83 (enN σ y x) (fun k => nI (enE σ k)) := hE.fr hT32 (fun _ => rfl)
              have hDl : rowP I32 84 (enN σ y x) (fun k => fp0 σ (enE σ k)) := hDl.fr hT32 (fun _ => rfl)
              have hen : I32 67 33 = nI (enN σ y x) := (hT32 67 33 rfl).trans hen
              refine lv_iload_n hx hb (dg D_X12_findEndangered (i := 23) rfl) rfl (lv_at hl 1 rfl) ?_
              refine lv_icmp_ne (tgt := 69) hx hb (dg D_X12_findEndangered (i := 24) rfl) (by decide) (fun c36 => ?_) (fun c36 => ?_)
              · refine lv_iinc (v := nI (x + 1)) (lv' := [(2, .int (nI (x + 1))), (0, .ref (bs + 67)), (1, .int (nI y))]) hx hb (dg D_X12_findEndangered (i := 43) rfl) hl (k := 2) rfl (nI_add _ _) (by decide) rfl (fun ls hl => ?_)
                refine lv_goto (tgt := 19) hx hb (dg D_X12_findEndangered (i := 44) rfl) (by decide) ?_
                exact ih19 (by omega) I32 _ _ _ _ (congrArg nI (by omega)) hF hs (by rw [en_s0 c36]; exact hE) (by rw [en_s0 c36]; exact hDl) (by rw [en_s0 c36]; exact hen) hW hS (lv_sub hl [1, 2, 0] rfl)
              · obtain ⟨hx1, hx2⟩ := en_hit hY12 (show x < nS σ by omega) (show y < 12 by omega) c36
                have hx3 := enM_le σ
                refine lv_aload_n hx hb (dg D_X12_findEndangered (i := 25) rfl) rfl (lv_at hl 0 rfl) ?_
                refine r_getc (t := 83) X hW FI_X12_61 rfl (by decide) rfl (dg D_X12_findEndangered (i := 26) rfl) ?_
                refine lv_aload_n hx hb (dg D_X12_findEndangered (i := 27) rfl) rfl (lv_at hl 0 rfl) ?_
                refine r_geti (v := nI (enN σ y x)) X hW FI_X12_385 rfl (by decide) rfl hen (dg D_X12_findEndangered (i := 28) rfl) ?_
                refine lv_iload_n hx hb (dg D_X12_findEndangered (i := 29) rfl) rfl (lv_at hl 2 rfl) ?_
                refine r_ast (j := enN σ y x) (v := nI x) X hW hS rfl (by decide) rfl (by omega) (by decide) (dg D_X12_findEndangered (i := 30) rfl) (fun H locs hW hS => ?_)
                have hF : Fr SEn I (u2 I32 83 (enN σ y x) (nI x)) := Fr.put hF rfl
                have hs : (u2 I32 83 (enN σ y x) (nI x)) 68 = σ := hs
                obtain ⟨J48, eJ48⟩ : ∃ J, J = u2 I32 83 (enN σ y x) (nI x) := ⟨_, rfl⟩
                rw [← eJ48] at hW hF hs
                have hen : J48 67 33 = nI (enN σ y x) := by rw [eJ48, u2_off (Or.inl (by decide))]; exact hen
                have hE : rowP J48 83 (enN σ y x + 1) (fun k => nI (enE σ k)) := by rw [eJ48]; exact rowP.ext hE (congrArg nI hx1.symm)
                have hDl : rowP J48 84 (enN σ y x) (fun k => fp0 σ (enE σ k)) := by rw [eJ48]; exact rowP.keep hDl (by decide)
                refine lv_aload_n hx hb (dg D_X12_findEndangered (i := 31) rfl) rfl (lv_at hl 0 rfl) ?_
                refine r_getc (t := 84) X hW FI_X12_64 rfl (by decide) rfl (dg D_X12_findEndangered (i := 32) rfl) ?_
                refine lv_aload_n hx hb (dg D_X12_findEndangered (i := 33) rfl) rfl (lv_at hl 0 rfl) ?_
                refine r_geti (v := nI (enN σ y x)) X hW FI_X12_385 rfl (by decide) rfl hen (dg D_X12_findEndangered (i := 34) rfl) ?_
                refine lv_iload_n hx hb (dg D_X12_findEndangered (i := 35) rfl) rfl (lv_at hl 1 rfl) ?_
                refine r_ast (j := enN σ y x) (v := nI y) X hW hS rfl (by decide) rfl (by omega) (by decide) (dg D_X12_findEndangered (i := 36) rfl) (fun H locs hW hS => ?_)
                have hF : Fr SEn I (u2 J48 84 (enN σ y x) (nI y)) := Fr.put hF rfl
                have hs : (u2 J48 84 (enN σ y x) (nI y)) 68 = σ := hs
                obtain ⟨J58, eJ58⟩ : ∃ J, J = u2 J48 84 (enN σ y x) (nI y) := ⟨_, rfl⟩
                rw [← eJ58] at hW hF hs
                have hen : J58 67 33 = nI (enN σ y x) := by rw [eJ58, u2_off (Or.inl (by decide))]; exact hen
                have hE : rowP J58 83 (enN σ y x + 1) (fun k => nI (enE σ k)) := by rw [eJ58]; exact rowP.keep hE (by decide)
                have hDl : rowP J58 84 (enN σ y x + 1) (fun k => fp0 σ (enE σ k)) := by rw [eJ58]; exact rowP.ext hDl (by show nI y = fp0 σ (enE σ (enN σ y x)); rw [hx1, c36])
                refine lv_aload_n hx hb (dg D_X12_findEndangered (i := 37) rfl) rfl (lv_at hl 0 rfl) ?_
                refine lv_dup hx hb (dg D_X12_findEndangered (i := 38) rfl) rfl ?_
                refine r_geti (v := nI (enN σ y x)) X hW FI_X12_385 rfl (by decide) rfl hen (dg D_X12_findEndangered (i := 39) rfl) ?_
                refine n_iconst (a := 1) hx hb (dg D_X12_findEndangered (i := 40) rfl) rfl ?_
                refine n_iadd hx hb (dg D_X12_findEndangered (i := 41) rfl) ?_
                refine r_puti (v := nI ((enN σ y x) + 1)) (ty := .int) X hW hS FI_X12_385 rfl (by decide) rfl rfl (by decide +kernel) rfl rfl (dg D_X12_findEndangered (i := 42) rfl) (fun H locs hW hS => ?_)
                have hF : Fr SEn I (u2 J58 67 33 (nI ((enN σ y x) + 1))) := Fr.put hF rfl
                have hs : (u2 J58 67 33 (nI ((enN σ y x) + 1))) 68 = σ := hs
                obtain ⟨J66, eJ66⟩ : ∃ J, J = u2 J58 67 33 (nI ((enN σ y x) + 1)) := ⟨_, rfl⟩
                rw [← eJ66] at hW hF hs
                have hen : J66 67 33 = nI ((enN σ y x) + 1) := by rw [eJ66]; exact u2_at
                have hE : rowP J66 83 (enN σ y x + 1) (fun k => nI (enE σ k)) := by rw [eJ66]; exact rowP.keep hE (by decide)
                have hDl : rowP J66 84 (enN σ y x + 1) (fun k => fp0 σ (enE σ k)) := by rw [eJ66]; exact rowP.keep hDl (by decide)
                refine lv_iinc (v := nI (x + 1)) (lv' := [(2, .int (nI (x + 1))), (0, .ref (bs + 67)), (1, .int (nI y))]) hx hb (dg D_X12_findEndangered (i := 43) rfl) hl (k := 2) rfl (nI_add _ _) (by decide) rfl (fun ls hl => ?_)
                refine lv_goto (tgt := 19) hx hb (dg D_X12_findEndangered (i := 44) rfl) (by decide) ?_
                exact ih19 (by omega) J66 _ _ _ _ (congrArg nI (by omega)) hF hs (by rw [en_s1 hY12 (show x < nS σ by omega) c36 (show y < 12 by omega)]; exact hE) (by rw [en_s1 hY12 (show x < nS σ by omega) c36 (show y < 12 by omega)]; exact hDl) (by rw [en_s1 hY12 (show x < nS σ by omega) c36 (show y < 12 by omega)]; exact hen) hW hS (lv_sub hl [1, 2, 0] rfl))
        exact loop19 0 (Nat.zero_le _) K7 _ _ _ _ (congrArg nI (by omega)) hF hs hE hDl hen hW hS (lv_sub hl [1, 2, 0] rfl))
  exact loop7 0 (Nat.zero_le _) J2 _ _ _ _ (congrArg nI (by omega)) hF hs (by rw [en_0 hY12]; exact rowP.zero) (by rw [en_0 hY12]; exact rowP.zero) (by rw [en_0 hY12]; exact hen) hW hS (lv_sub hl [1, 0] rfl)

