theorem a_X12_search {l : Launch} {G : va_G} {bs : Nat} {cy : Nat → ClassId} : ∀ (d : Nat) {I : CI} {L : CL} {R : CR} (σ : Row) (E : Nat → Nat) (D : Nat → Nat) (G9 : Nat) (k : Nat) (t : Nat) (hs : I 68 = σ) (hi : Inv σ) (hG9 : nG σ = G9) (hen : I 67 33 = nI (k + d)) (hE8 : rowP I 83 (k + d) (fun i => nI (E i))) (hD8 : rowP I 84 (k + d) (fun i => nI (D i))) (hED : ∀ i, i < k + d → E i < nS σ ∧ D i < Yn σ) (hkd : k + d ≤ 12) (htr : I 67 32 = nI t) (ht8 : t ≤ 20000) (hgu : I 67 34 = bI false), MTi l G bs cy MX12_search (8 + d) [.ref (bs + 67), .int (nI k)] I L R (fun r I1 L1 R1 => bI (decide ((srK E D G9 d k σ t).1 = 1)) = r ∧ Fr SSr I I1 ∧ (∀ j, 248 ≤ j → I1 68 j = σ j) ∧ ((srK E D G9 d k σ t).1 ≠ 2 → I1 68 = (srK E D G9 d k σ t).2.1) ∧ I1 67 32 = nI (srK E D G9 d k σ t).2.2 ∧ I1 67 34 = bI (decide ((srK E D G9 d k σ t).1 = 2)) ∧ L = L1 ∧ R = R1)
  | 0, _, _, _, σ, E, D, G9, k, t, hs, hi, hG9, hen, hE8, hD8, hED, hkd, htr, ht8, hgu => s_X12_search σ E D G9 0 k t hs hi hG9 hen hE8 hD8 hED hkd htr ht8 hgu (fun d9 h => absurd h (by omega))
  | d8 + 1, _, _, _, σ, E, D, G9, k, t, hs, hi, hG9, hen, hE8, hD8, hED, hkd, htr, ht8, hgu => s_X12_search σ E D G9 (d8 + 1) k t hs hi hG9 hen hE8 hD8 hED hkd htr ht8 hgu (fun d9 h => by
    have e : d9 = d8 := by omega
    rw [e]
    exact @a_X12_search l G bs cy d8)
theorem c_X12_search {l : Launch} {G : va_G} {bs : Nat} {cy : Nat → ClassId} {I : CI} {L : CL} {R : CR} (σ : Row) (E : Nat → Nat) (D : Nat → Nat) (G9 : Nat) (d : Nat) (k : Nat) (t : Nat) (hs : I 68 = σ) (hi : Inv σ) (hG9 : nG σ = G9) (hen : I 67 33 = nI (k + d)) (hE8 : rowP I 83 (k + d) (fun i => nI (E i))) (hD8 : rowP I 84 (k + d) (fun i => nI (D i))) (hED : ∀ i, i < k + d → E i < nS σ ∧ D i < Yn σ) (hkd : k + d ≤ 12) (htr : I 67 32 = nI t) (ht8 : t ≤ 20000) (hgu : I 67 34 = bI false) : MTi l G bs cy MX12_search (8 + d) [.ref (bs + 67), .int (nI k)] I L R (fun r I1 L1 R1 => bI (decide ((srK E D G9 d k σ t).1 = 1)) = r ∧ Fr SSr I I1 ∧ (∀ j, 248 ≤ j → I1 68 j = σ j) ∧ ((srK E D G9 d k σ t).1 ≠ 2 → I1 68 = (srK E D G9 d k σ t).2.1) ∧ I1 67 32 = nI (srK E D G9 d k σ t).2.2 ∧ I1 67 34 = bI (decide ((srK E D G9 d k σ t).1 = 2)) ∧ L = L1 ∧ R = R1) := a_X12_search d σ E D G9 k t hs hi hG9 hen hE8 hD8 hED hkd htr ht8 hgu

set_option maxHeartbeats 4000000 in
set_option maxRecDepth 100000 in
theorem c_X12_searchAll {l : Launch} {G : va_G} {bs : Nat} {cy : Nat → ClassId} {I : CI} {L : CL} {R : CR} (σ : Row) (hs : I 68 = σ) (hi : Inv σ) (hd : DR σ) : MTi l G bs cy MX12_searchAll 21 [.ref (bs + 67)] I L R (fun r I1 L1 R1 => bI (decide ((saR σ).1 = 1)) = r ∧ Fr SSA I I1 ∧ AsP I1 σ ∧ (∀ j, 248 ≤ j → I1 68 j = σ j) ∧ ((saR σ).1 ≠ 2 → I1 68 = (saR σ).2.1) ∧ I1 67 32 = nI (saR σ).2.2 ∧ I1 67 34 = bI (decide ((saR σ).1 = 2)) ∧ I1 67 33 = nI (enM (clP σ)) ∧ L = L1 ∧ R = R1) := by
  refine MTz.of (own := RX12) pn_RX12 rfl (Nat.le_of_ble_eq_true rfl) ?_
  intro p e s m args below meth c Qf X hW hS fin ls hl
  have hx := X.1
  have hb := X.2.1
  have hR : RmOK (rmL 21 0 0) 21 := ⟨rfl, rfl⟩
  have hcs : 0 ≤ (rmL 21 0 0).cells ∧ 0 ≤ (rmL 21 0 0).slots := ⟨Nat.zero_le _, Nat.zero_le _⟩
  have hl : lv_has ls 1 [(0, .ref (bs + 67))] := hl
  have hF : Fr SSA I I := Fr.rf
  obtain ⟨hY, hY1, hY12, hLn, hL4, hSn, hS12, hGn, hG5⟩ := id hi
  have hiC : Inv (clP σ) := Sm_Inv Sm_cl hi
  have hYC : Yn (clP σ) ≤ 12 := hiC.2.2.1
  have hMC : enM (clP σ) ≤ 12 := Nat.le_trans (enM_le _) hiC.2.2.2.2.2.2.1
  refine lv_aload_n hx hb (dg D_X12_searchAll (i := 0) rfl) rfl (lv_at hl 0 rfl) ?_
  refine callVv X hW hS hR (c_X12_putAside (I := I) σ (by first | assumption | omega | decide | exact hP.1)) (by decide) UVX12_putAside LK_X12_376 rfl (by decide) rfl rfl rfl (Nat.le_of_ble_eq_true rfl) hl hcs (dg D_X12_searchAll (i := 1) rfl) (fun I1 L1 R1 H locs hq hW hS => ?_)
  obtain ⟨hT1, hp1_0, rfl, rfl⟩ := hq
  have hF : Fr SSA I I1 := Fr.tr hF hT1 (by intro a j h; simp only [SC, SSA, Bool.or_eq_true, Bool.and_eq_true, beq_iff_eq, decide_eq_true_eq] at h ⊢; omega)
  have hs : I1 68 = σ := by rw [Fr.row hT1 (fun _ => rfl)]; exact hs
  have hA : AsP I1 σ := AsP.mix hp1_0
  refine lv_aload_n hx hb (dg D_X12_searchAll (i := 2) rfl) rfl (lv_at hl 0 rfl) ?_
  refine callVv X hW hS hR (c_X12_clearPlan (I := I1) σ (by first | assumption | omega | decide | exact hP.1)) (by decide) UVX12_clearPlan LK_X12_358 rfl (by decide) rfl rfl rfl (Nat.le_of_ble_eq_true rfl) hl hcs (dg D_X12_searchAll (i := 3) rfl) (fun I5 L1 R1 H locs hq hW hS => ?_)
  obtain ⟨hT5, hp5_0, rfl, rfl⟩ := hq
  have hF : Fr SSA I I5 := Fr.tr hF hT5 (by intro a j h; simp only [SP, SSA, Bool.or_eq_true, Bool.and_eq_true, beq_iff_eq, decide_eq_true_eq] at h ⊢; omega)
  have hs : I5 68 = clP σ := hp5_0
  have hA : AsP I5 σ := AsP.row hA (Fr.row hT5 (fun _ => rfl))
  refine lv_aload_n hx hb (dg D_X12_searchAll (i := 4) rfl) rfl (lv_at hl 0 rfl) ?_
  refine n_iconst (a := 0) hx hb (dg D_X12_searchAll (i := 5) rfl) rfl ?_
  refine r_puti (v := nI 0) (ty := .int) X hW hS FI_X12_388 rfl (by decide) rfl rfl (by decide +kernel) rfl rfl (dg D_X12_searchAll (i := 6) rfl) (fun H locs hW hS => ?_)
  have hF : Fr SSA I (u2 I5 67 32 (nI 0)) := Fr.put hF rfl
  have hs : (u2 I5 67 32 (nI 0)) 68 = clP σ := hs
  have hA : AsP (u2 I5 67 32 (nI 0)) σ := hA
  obtain ⟨J10, eJ10⟩ : ∃ J, J = u2 I5 67 32 (nI 0) := ⟨_, rfl⟩
  rw [← eJ10] at hW hF hs hA
  have htr : J10 67 32 = nI 0 := by rw [eJ10]; exact u2_at
  refine lv_aload_n hx hb (dg D_X12_searchAll (i := 7) rfl) rfl (lv_at hl 0 rfl) ?_
  refine n_iconst (a := 0) hx hb (dg D_X12_searchAll (i := 8) rfl) rfl ?_
  refine r_puti (v := nI 0) (ty := .boolean) X hW hS FI_X12_391 rfl (by decide) rfl rfl (by decide +kernel) rfl rfl (dg D_X12_searchAll (i := 9) rfl) (fun H locs hW hS => ?_)
  have hF : Fr SSA I (u2 J10 67 34 (nI 0)) := Fr.put hF rfl
  have hs : (u2 J10 67 34 (nI 0)) 68 = clP σ := hs
  have hA : AsP (u2 J10 67 34 (nI 0)) σ := hA
  obtain ⟨J15, eJ15⟩ : ∃ J, J = u2 J10 67 34 (nI 0) := ⟨_, rfl⟩
  rw [← eJ15] at hW hF hs hA
  have htr : J15 67 32 = nI 0 := by rw [eJ15, u2_off (Or.inr (by decide))]; exact htr
  have hgu : J15 67 34 = nI 0 := by rw [eJ15]; exact u2_at
  have hgu : J15 67 34 = bI false := hgu
  refine lv_aload_n hx hb (dg D_X12_searchAll (i := 10) rfl) rfl (lv_at hl 0 rfl) ?_
  refine callVv X hW hS hR (c_X12_findEndangered (I := J15) (clP σ) (by first | assumption | omega | decide | exact hP.1) (hiC)) (by decide) UVX12_findEndangered LK_X12_398 rfl (by decide) rfl rfl rfl (Nat.le_of_ble_eq_true rfl) hl hcs (dg D_X12_searchAll (i := 11) rfl) (fun I19 L1 R1 H locs hq hW hS => ?_)
  obtain ⟨hT19, hp19_0, hp19_1, hp19_2, rfl, rfl⟩ := hq
  have hF : Fr SSA I I19 := Fr.tr hF hT19 (by intro a j h; simp only [SEn, SSA, Bool.or_eq_true, Bool.and_eq_true, beq_iff_eq, decide_eq_true_eq] at h ⊢; omega)
  have hs : I19 68 = clP σ := by rw [Fr.row hT19 (fun _ => rfl)]; exact hs
  have hA : AsP I19 σ := AsP.row hA (Fr.row hT19 (fun _ => rfl))
  have htr : I19 67 32 = nI 0 := (hT19 67 32 rfl).trans htr
  have hgu : I19 67 34 = bI false := (hT19 67 34 rfl).trans hgu
  have hen : I19 67 33 = nI (enM (clP σ)) := hp19_0
  refine lv_aload_n hx hb (dg D_X12_searchAll (i := 12) rfl) rfl (lv_at hl 0 rfl) ?_
  refine n_iconst (a := 0) hx hb (dg D_X12_searchAll (i := 13) rfl) rfl ?_
  refine callVi X hW hS hR (c_X12_search (I := I19) (clP σ) (enE (clP σ)) (saD (clP σ)) (nG (clP σ)) (enM (clP σ)) 0 0 (by first | assumption | omega | decide | exact hP.1) (hiC) (rfl) (by rw [Nat.zero_add]; exact hp19_0) (by rw [Nat.zero_add]; exact hp19_1) (by rw [Nat.zero_add]; exact saD_row hYC hp19_2) (fun i hi9 => ⟨(enE_ok (by omega)).1, saD_lt hYC (by omega)⟩) (by first | assumption | omega | decide | exact hP.1) (by first | assumption | omega | decide | exact hP.1) (by first | assumption | omega | decide | exact hP.1) (by first | assumption | omega | decide | exact hP.1)) (by omega) UVX12_search LK_X12_395 rfl (by decide) rfl rfl rfl (Nat.le_of_ble_eq_true rfl) hl hcs (dg D_X12_searchAll (i := 14) rfl) (fun r24 I24 L1 R1 H locs hq hW hS => ?_)
  obtain ⟨rfl, hT24, hp24_0, hp24_1, hp24_2, hp24_3, rfl, rfl⟩ := hq
  have hF : Fr SSA I I24 := Fr.tr hF hT24 (by intro a j h; simp only [SSr, SSA, Bool.or_eq_true, Bool.and_eq_true, beq_iff_eq, decide_eq_true_eq] at h ⊢; omega)
  have hA : AsP I24 σ := AsP.row hA (Fr.row hT24 (fun _ => rfl))
  have hen : I24 67 33 = nI (enM (clP σ)) := (hT24 67 33 rfl).trans hen
  exact fin (dg D_X12_searchAll (i := 15) rfl) hW hS rfl ⟨rfl, hF, hA, fun j hj => (hp24_0 j hj).trans (cl_hi hj), hp24_1, hp24_2, hp24_3, hen, rfl, rfl⟩

set_option maxHeartbeats 4000000 in
set_option maxRecDepth 100000 in
theorem c_X12_hasSafePlan {l : Launch} {G : va_G} {bs : Nat} {cy : Nat → ClassId} {I : CI} {L : CL} {R : CR} (σ : Row) (hs : I 68 = σ) (hi : Inv σ) (hd : DR σ) : MTi l G bs cy MX12_hasSafePlan 22 [.ref (bs + 67)] I L R (fun r I1 L1 R1 => hsR σ = r ∧ Fr SST I I1 ∧ I1 67 6 = nI 0 ∧ I1 68 = σ ∧ L = L1 ∧ R = R1) := by
  refine MTi.of (own := RX12) pn_RX12 rfl (Nat.le_of_ble_eq_true rfl) ?_
  intro p e s m args below meth c Qf X hW hS fin ls hl
  have hx := X.1
  have hb := X.2.1
  have hR : RmOK (rmL 22 0 0) 22 := ⟨rfl, rfl⟩
  have hcs : 0 ≤ (rmL 22 0 0).cells ∧ 0 ≤ (rmL 22 0 0).slots := ⟨Nat.zero_le _, Nat.zero_le _⟩
  have hl : lv_has ls 2 [(0, .ref (bs + 67))] := hl
  have hF : Fr SST I I := Fr.rf
  obtain ⟨hY, hY1, hY12, hLn, hL4, hSn, hS12, hGn, hG5⟩ := id hi
  refine lv_aload_n hx hb (dg D_X12_hasSafePlan (i := 0) rfl) rfl (lv_at hl 0 rfl) ?_
  refine n_iconst (a := 0) hx hb (dg D_X12_hasSafePlan (i := 1) rfl) rfl ?_
  refine r_puti (v := nI 0) (ty := .int) X hW hS FI_X12_74 rfl (by decide) rfl rfl (by decide +kernel) rfl rfl (dg D_X12_hasSafePlan (i := 2) rfl) (fun H locs hW hS => ?_)
  have hF : Fr SST I (u2 I 67 6 (nI 0)) := Fr.put hF rfl
  have hs : (u2 I 67 6 (nI 0)) 68 = σ := hs
  obtain ⟨J2, eJ2⟩ : ∃ J, J = u2 I 67 6 (nI 0) := ⟨_, rfl⟩
  rw [← eJ2] at hW hF hs
  have hth : J2 67 6 = nI 0 := by rw [eJ2]; exact u2_at
  refine lv_aload_n hx hb (dg D_X12_hasSafePlan (i := 3) rfl) rfl (lv_at hl 0 rfl) ?_
  refine callVi X hW hS hR (c_X12_searchAll (I := J2) σ (by first | assumption | omega | decide | exact hP.1) (by first | assumption | omega | decide | exact hP.1) (by first | assumption | omega | decide | exact hP.1)) (by decide) UVX12_searchAll LK_X12_401 rfl (by decide) rfl rfl rfl (Nat.le_of_ble_eq_true rfl) hl hcs (dg D_X12_hasSafePlan (i := 4) rfl) (fun r6 I6 L1 R1 H locs hq hW hS => ?_)
  obtain ⟨rfl, hT6, hp6_0, hp6_1, hp6_2, hp6_3, hp6_4, hp6_5, rfl, rfl⟩ := hq
  have hF : Fr SST I I6 := Fr.tr hF hT6 (by intro a j h; simp only [SSA, SST, Bool.or_eq_true, Bool.and_eq_true, beq_iff_eq, decide_eq_true_eq] at h ⊢; omega)
  have hth : I6 67 6 = nI 0 := (hT6 67 6 rfl).trans hth
  have htr : I6 67 32 = nI (saR σ).2.2 := hp6_3
  have hgu : I6 67 34 = bI (decide ((saR σ).1 = 2)) := hp6_4
  have hen : I6 67 33 = nI (enM (clP σ)) := hp6_5
  have hA : AsP I6 σ := hp6_0
  have hh : mixR (I6 70) (I6 68) = σ := as_back hA hp6_1
  refine lv_istore_n (lv' := [(1, .int (bI (decide ((saR σ).1 = 1)))), (0, .ref (bs + 67))]) hx hb (dg D_X12_hasSafePlan (i := 5) rfl) rfl hl (by decide) rfl (fun ls hl => ?_)
  refine lv_aload_n hx hb (dg D_X12_hasSafePlan (i := 6) rfl) rfl (lv_at hl 1 rfl) ?_
  refine r_getc (t := 70) X hW FI_X12_16 rfl (by decide) rfl (dg D_X12_hasSafePlan (i := 7) rfl) ?_
  refine n_iconst (a := 0) hx hb (dg D_X12_hasSafePlan (i := 8) rfl) rfl ?_
  refine lv_aload_n hx hb (dg D_X12_hasSafePlan (i := 9) rfl) rfl (lv_at hl 1 rfl) ?_
  refine r_getc (t := 68) X hW FI_X12_7 rfl (by decide) rfl (dg D_X12_hasSafePlan (i := 10) rfl) ?_
  refine n_iconst (a := 0) hx hb (dg D_X12_hasSafePlan (i := 11) rfl) rfl ?_
  refine callSv X hW hS hR (c_X12_copy (I := I6) 70 248 0 68 248 0 (rfl) (by first | assumption | omega | decide | exact hP.1) (rfl) (by first | assumption | omega | decide | exact hP.1) (by first | assumption | omega | decide | exact hP.1) (by first | assumption | omega | decide | exact hP.1) (by first | assumption | omega | decide | exact hP.1) (by first | assumption | omega | decide | exact hP.1)) (by decide) USX12_copy LK_X12_80 rfl rfl (Nat.le_of_ble_eq_true rfl) hl hcs (dg D_X12_hasSafePlan (i := 12) rfl) (fun I20 L1 R1 H locs hq hW hS => ?_)
  obtain ⟨hT20, hp20_0, rfl, rfl⟩ := hq
  have hF : Fr SST I I20 := Fr.tr hF hT20 (by intro a j h; simp only [SC, SST, Bool.or_eq_true, Bool.and_eq_true, beq_iff_eq, decide_eq_true_eq] at h ⊢; omega)
  have hth : I20 67 6 = nI 0 := (hT20 67 6 rfl).trans hth
  have htr : I20 67 32 = nI (saR σ).2.2 := (hT20 67 32 rfl).trans htr
  have hgu : I20 67 34 = bI (decide ((saR σ).1 = 2)) := (hT20 67 34 rfl).trans hgu
  have hen : I20 67 33 = nI (enM (clP σ)) := (hT20 67 33 rfl).trans hen
  have hs : I20 68 = σ := by rw [hp20_0, cpR_mix]; exact hh
  refine lv_iload_n hx hb (dg D_X12_hasSafePlan (i := 13) rfl) rfl (lv_at hl 0 rfl) ?_
  refine z_if_eq (tgt := 31) hx hb (dg D_X12_hasSafePlan (i := 14) rfl) (by decide) (fun c24 => ?_) (fun c24 => ?_)
  · refine lv_aload_n hx hb (dg D_X12_hasSafePlan (i := 17) rfl) rfl (lv_at hl 1 rfl) ?_
    refine r_geti (v := bI (decide ((saR σ).1 = 2))) X hW FI_X12_391 rfl (by decide) rfl hgu (dg D_X12_hasSafePlan (i := 18) rfl) ?_
    refine z_if_eq (tgt := 44) hx hb (dg D_X12_hasSafePlan (i := 19) rfl) (by decide) (fun c35 => ?_) (fun c35 => ?_)
    · refine n_iconst (a := 0) hx hb (dg D_X12_hasSafePlan (i := 22) rfl) rfl ?_
      exact fin (dg D_X12_hasSafePlan (i := 23) rfl) hW hS ⟨by unfold hsR; rw [if_neg (of_decide_eq_false c24), if_neg (of_decide_eq_false c35)], hF, hth, hs, rfl, rfl⟩
    · refine r_ldcw X CK_X12_404 (dg D_X12_hasSafePlan (i := 20) rfl) ?_
      refine lv_goto (tgt := 45) hx hb (dg D_X12_hasSafePlan (i := 21) rfl) (by decide) ?_
      exact fin (dg D_X12_hasSafePlan (i := 23) rfl) hW hS ⟨by unfold hsR; rw [if_neg (of_decide_eq_false c24), if_pos (of_decide_eq_true c35)], hF, hth, hs, rfl, rfl⟩
  · refine n_iconst (a := 1) hx hb (dg D_X12_hasSafePlan (i := 15) rfl) rfl ?_
    refine lv_goto (tgt := 45) hx hb (dg D_X12_hasSafePlan (i := 16) rfl) (by decide) ?_
    exact fin (dg D_X12_hasSafePlan (i := 23) rfl) hW hS ⟨by unfold hsR; rw [if_pos (of_decide_eq_true c24)], hF, hth, hs, rfl, rfl⟩

set_option maxHeartbeats 4000000 in
set_option maxRecDepth 100000 in
theorem c_X12_searchTries {l : Launch} {G : va_G} {bs : Nat} {cy : Nat → ClassId} {I : CI} {L : CL} {R : CR} (σ : Row) (hs : I 68 = σ) (hi : Inv σ) (hd : DR σ) : MTi l G bs cy MX12_searchTries 22 [.ref (bs + 67)] I L R (fun r I1 L1 R1 => nI (saR σ).2.2 = r ∧ Fr SST I I1 ∧ I1 67 6 = nI 0 ∧ I1 68 = σ ∧ L = L1 ∧ R = R1) := by
  refine MTi.of (own := RX12) pn_RX12 rfl (Nat.le_of_ble_eq_true rfl) ?_
  intro p e s m args below meth c Qf X hW hS fin ls hl
  have hx := X.1
  have hb := X.2.1
  have hR : RmOK (rmL 22 0 0) 22 := ⟨rfl, rfl⟩
  have hcs : 0 ≤ (rmL 22 0 0).cells ∧ 0 ≤ (rmL 22 0 0).slots := ⟨Nat.zero_le _, Nat.zero_le _⟩
  have hl : lv_has ls 2 [(0, .ref (bs + 67))] := hl
  have hF : Fr SST I I := Fr.rf
  obtain ⟨hY, hY1, hY12, hLn, hL4, hSn, hS12, hGn, hG5⟩ := id hi
  refine lv_aload_n hx hb (dg D_X12_searchTries (i := 0) rfl) rfl (lv_at hl 0 rfl) ?_
  refine n_iconst (a := 0) hx hb (dg D_X12_searchTries (i := 1) rfl) rfl ?_
  refine r_puti (v := nI 0) (ty := .int) X hW hS FI_X12_74 rfl (by decide) rfl rfl (by decide +kernel) rfl rfl (dg D_X12_searchTries (i := 2) rfl) (fun H locs hW hS => ?_)
  have hF : Fr SST I (u2 I 67 6 (nI 0)) := Fr.put hF rfl
  have hs : (u2 I 67 6 (nI 0)) 68 = σ := hs
  obtain ⟨J2, eJ2⟩ : ∃ J, J = u2 I 67 6 (nI 0) := ⟨_, rfl⟩
  rw [← eJ2] at hW hF hs
  have hth : J2 67 6 = nI 0 := by rw [eJ2]; exact u2_at
  refine lv_aload_n hx hb (dg D_X12_searchTries (i := 3) rfl) rfl (lv_at hl 0 rfl) ?_
  refine callVi X hW hS hR (c_X12_searchAll (I := J2) σ (by first | assumption | omega | decide | exact hP.1) (by first | assumption | omega | decide | exact hP.1) (by first | assumption | omega | decide | exact hP.1)) (by decide) UVX12_searchAll LK_X12_401 rfl (by decide) rfl rfl rfl (Nat.le_of_ble_eq_true rfl) hl hcs (dg D_X12_searchTries (i := 4) rfl) (fun r6 I6 L1 R1 H locs hq hW hS => ?_)
  obtain ⟨rfl, hT6, hp6_0, hp6_1, hp6_2, hp6_3, hp6_4, hp6_5, rfl, rfl⟩ := hq
  have hF : Fr SST I I6 := Fr.tr hF hT6 (by intro a j h; simp only [SSA, SST, Bool.or_eq_true, Bool.and_eq_true, beq_iff_eq, decide_eq_true_eq] at h ⊢; omega)
  have hth : I6 67 6 = nI 0 := (hT6 67 6 rfl).trans hth
  have htr : I6 67 32 = nI (saR σ).2.2 := hp6_3
  have hgu : I6 67 34 = bI (decide ((saR σ).1 = 2)) := hp6_4
  have hen : I6 67 33 = nI (enM (clP σ)) := hp6_5
  have hA : AsP I6 σ := hp6_0
  have hh : mixR (I6 70) (I6 68) = σ := as_back hA hp6_1
  refine lv_istore_n (lv' := [(1, .int (bI (decide ((saR σ).1 = 1)))), (0, .ref (bs + 67))]) hx hb (dg D_X12_searchTries (i := 5) rfl) rfl hl (by decide) rfl (fun ls hl => ?_)
  refine lv_aload_n hx hb (dg D_X12_searchTries (i := 6) rfl) rfl (lv_at hl 1 rfl) ?_
  refine r_getc (t := 70) X hW FI_X12_16 rfl (by decide) rfl (dg D_X12_searchTries (i := 7) rfl) ?_
  refine n_iconst (a := 0) hx hb (dg D_X12_searchTries (i := 8) rfl) rfl ?_
  refine lv_aload_n hx hb (dg D_X12_searchTries (i := 9) rfl) rfl (lv_at hl 1 rfl) ?_
  refine r_getc (t := 68) X hW FI_X12_7 rfl (by decide) rfl (dg D_X12_searchTries (i := 10) rfl) ?_
  refine n_iconst (a := 0) hx hb (dg D_X12_searchTries (i := 11) rfl) rfl ?_
  refine callSv X hW hS hR (c_X12_copy (I := I6) 70 248 0 68 248 0 (rfl) (by first | assumption | omega | decide | exact hP.1) (rfl) (by first | assumption | omega | decide | exact hP.1) (by first | assumption | omega | decide | exact hP.1) (by first | assumption | omega | decide | exact hP.1) (by first | assumption | omega | decide | exact hP.1) (by first | assumption | omega | decide | exact hP.1)) (by decide) USX12_copy LK_X12_80 rfl rfl (Nat.le_of_ble_eq_true rfl) hl hcs (dg D_X12_searchTries (i := 12) rfl) (fun I20 L1 R1 H locs hq hW hS => ?_)
  obtain ⟨hT20, hp20_0, rfl, rfl⟩ := hq
  have hF : Fr SST I I20 := Fr.tr hF hT20 (by intro a j h; simp only [SC, SST, Bool.or_eq_true, Bool.and_eq_true, beq_iff_eq, decide_eq_true_eq] at h ⊢; omega)
  have hth : I20 67 6 = nI 0 := (hT20 67 6 rfl).trans hth
  have htr : I20 67 32 = nI (saR σ).2.2 := (hT20 67 32 rfl).trans htr
  have hgu : I20 67 34 = bI (decide ((saR σ).1 = 2)) := (hT20 67 34 rfl).trans hgu
  have hen : I20 67 33 = nI (enM (clP σ)) := (hT20 67 33 rfl).trans hen
  have hs : I20 68 = σ := by rw [hp20_0, cpR_mix]; exact hh
  refine lv_aload_n hx hb (dg D_X12_searchTries (i := 13) rfl) rfl (lv_at hl 1 rfl) ?_
  refine r_geti (v := nI (saR σ).2.2) X hW FI_X12_388 rfl (by decide) rfl htr (dg D_X12_searchTries (i := 14) rfl) ?_
  exact fin (dg D_X12_searchTries (i := 15) rfl) hW hS ⟨rfl, hF, hth, hs, rfl, rfl⟩

set_option maxHeartbeats 4000000 in
set_option maxRecDepth 100000 in
theorem c_X12_applySafePlan {l : Launch} {G : va_G} {bs : Nat} {cy : Nat → ClassId} {I : CI} {L : CL} {R : CR} (σ : Row) (k : Nat) (U : Nat → Row) (hs : I 68 = σ) (hi : Inv σ) (hd : DR σ) (hU : HisM I k U) (hed : I 67 5 = nI k) : MTi l G bs cy MX12_applySafePlan 22 [.ref (bs + 67)] I L R (fun r I1 L1 R1 => apR σ = r ∧ Fr SSU I I1 ∧ I1 67 6 = nI 0 ∧ EdP I1 (apO σ) σ k U ∧ L = L1 ∧ R = R1) := by
  refine MTi.of (own := RX12) pn_RX12 rfl (Nat.le_of_ble_eq_true rfl) ?_
  intro p e s m args below meth c Qf X hW hS fin ls hl
  have hx := X.1
  have hb := X.2.1
  have hR : RmOK (rmL 22 0 0) 22 := ⟨rfl, rfl⟩
  have hcs : 0 ≤ (rmL 22 0 0).cells ∧ 0 ≤ (rmL 22 0 0).slots := ⟨Nat.zero_le _, Nat.zero_le _⟩
  have hl : lv_has ls 1 [(0, .ref (bs + 67))] := hl
  have hF : Fr SSU I I := Fr.rf
  obtain ⟨hY, hY1, hY12, hLn, hL4, hSn, hS12, hGn, hG5⟩ := id hi
  refine lv_aload_n hx hb (dg D_X12_applySafePlan (i := 0) rfl) rfl (lv_at hl 0 rfl) ?_
  refine n_iconst (a := 0) hx hb (dg D_X12_applySafePlan (i := 1) rfl) rfl ?_
  refine r_puti (v := nI 0) (ty := .int) X hW hS FI_X12_74 rfl (by decide) rfl rfl (by decide +kernel) rfl rfl (dg D_X12_applySafePlan (i := 2) rfl) (fun H locs hW hS => ?_)
  have hF : Fr SSU I (u2 I 67 6 (nI 0)) := Fr.put hF rfl
  have hs : (u2 I 67 6 (nI 0)) 68 = σ := hs
  have hU : HisM (u2 I 67 6 (nI 0)) k U := hU
  obtain ⟨J2, eJ2⟩ : ∃ J, J = u2 I 67 6 (nI 0) := ⟨_, rfl⟩
  rw [← eJ2] at hW hF hs hU
  have hed : J2 67 5 = nI k := by rw [eJ2, u2_off (Or.inr (by decide))]; exact hed
  have hth : J2 67 6 = nI 0 := by rw [eJ2]; exact u2_at
  refine lv_aload_n hx hb (dg D_X12_applySafePlan (i := 3) rfl) rfl (lv_at hl 0 rfl) ?_
  refine callVi X hW hS hR (c_X12_searchAll (I := J2) σ (by first | assumption | omega | decide | exact hP.1) (by first | assumption | omega | decide | exact hP.1) (by first | assumption | omega | decide | exact hP.1)) (by decide) UVX12_searchAll LK_X12_401 rfl (by decide) rfl rfl rfl (Nat.le_of_ble_eq_true rfl) hl hcs (dg D_X12_applySafePlan (i := 4) rfl) (fun r6 I6 L1 R1 H locs hq hW hS => ?_)
  obtain ⟨rfl, hT6, hp6_0, hp6_1, hp6_2, hp6_3, hp6_4, hp6_5, rfl, rfl⟩ := hq
  have hF : Fr SSU I I6 := Fr.tr hF hT6 (by intro a j h; simp only [SSA, SSU, Bool.or_eq_true, Bool.and_eq_true, beq_iff_eq, decide_eq_true_eq] at h ⊢; omega)
  have hU : HisM I6 k U := HisM.row hU (Fr.row hT6 (fun _ => rfl))
  have hed : I6 67 5 = nI k := (hT6 67 5 rfl).trans hed
  have hth : I6 67 6 = nI 0 := (hT6 67 6 rfl).trans hth
  have htr : I6 67 32 = nI (saR σ).2.2 := hp6_3
  have hgu : I6 67 34 = bI (decide ((saR σ).1 = 2)) := hp6_4
  have hen : I6 67 33 = nI (enM (clP σ)) := hp6_5
  have hA : AsP I6 σ := hp6_0
  have hh : mixR (I6 70) (I6 68) = σ := as_back hA hp6_1
  refine z_if_ne (tgt := 41) hx hb (dg D_X12_applySafePlan (i := 5) rfl) (by decide) (fun c9 => ?_) (fun c9 => ?_)
  · have hc1 : (saR σ).1 = 1 := of_decide_eq_true c9
    have hs : I6 68 = (saR σ).2.1 := hp6_2 (by omega)
    have hh2 : mixR (I6 70) ((saR σ).2.1) = σ := by rw [← hs]; exact hh
    have hX8 : eqPl (saR σ).2.1 (I6 70) = eqPl (saR σ).2.1 σ := eqPl_as hA
    refine lv_aload_n hx hb (dg D_X12_applySafePlan (i := 20) rfl) rfl (lv_at hl 0 rfl) ?_
    refine callVi X hW hS hR (c_X12_adopt (I := I6) ((saR σ).2.1) (I6 70) k U (by first | assumption | omega | decide | exact hP.1) (rfl) (by first | assumption | omega | decide | exact hP.1) (by first | assumption | omega | decide | exact hP.1)) (by decide) UVX12_adopt LK_X12_379 rfl (by decide) rfl rfl rfl (Nat.le_of_ble_eq_true rfl) hl hcs (dg D_X12_applySafePlan (i := 21) rfl) (fun r42 I42 L1 R1 H locs hq hW hS => ?_)
    obtain ⟨rfl, hT42, hp42_0, rfl, rfl⟩ := hq
    have hF : Fr SSU I I42 := Fr.tr hF hT42 (by intro a j h; simp only [SA, SSU, Bool.or_eq_true, Bool.and_eq_true, beq_iff_eq, decide_eq_true_eq] at h ⊢; omega)
    have hth : I42 67 6 = nI 0 := (hT42 67 6 rfl).trans hth
    have htr : I42 67 32 = nI (saR σ).2.2 := (hT42 67 32 rfl).trans htr
    have hgu : I42 67 34 = bI (decide ((saR σ).1 = 2)) := (hT42 67 34 rfl).trans hgu
    have hen : I42 67 33 = nI (enM (clP σ)) := (hT42 67 33 rfl).trans hen
    refine r_ldcw X CK_X12_339 (dg D_X12_applySafePlan (i := 22) rfl) ?_
    refine lv_icmp_ne (tgt := 57) hx hb (dg D_X12_applySafePlan (i := 23) rfl) (by decide) (fun c48 => ?_) (fun c48 => ?_)
    · have he : eqPl (saR σ).2.1 (I6 70) = false := (Bool.eq_false_or_eq_true _).resolve_left (fun q => c48 (by rw [q]; rfl))
      rw [if_neg (by rw [he]; decide)] at hp42_0
      rw [hX8] at he
      obtain ⟨h1, h2, h3⟩ := hp42_0
      rw [hh2] at h2
      refine lv_aload_n hx hb (dg D_X12_applySafePlan (i := 26) rfl) rfl (lv_at hl 0 rfl) ?_
      refine r_geti (v := nI (enM (clP σ))) X hW FI_X12_385 rfl (by decide) rfl hen (dg D_X12_applySafePlan (i := 27) rfl) ?_
      exact fin (dg D_X12_applySafePlan (i := 28) rfl) hW hS ⟨by unfold apR; rw [if_pos hc1, if_neg (by rw [he]; decide)], hF, hth, EdP.ok (by unfold apO; rw [if_pos hc1, if_neg (by rw [he]; decide)]) h1 h2 h3, rfl, rfl⟩
    · have he : eqPl (saR σ).2.1 (I6 70) = true := (Bool.eq_false_or_eq_true _).resolve_right (fun q => absurd c48 (by rw [q]; decide))
      rw [if_pos he] at hp42_0
      rw [hX8] at he
      obtain ⟨h1, h2, h3⟩ := hp42_0
      rw [hh2] at h1
      refine r_ldcw X CK_X12_339 (dg D_X12_applySafePlan (i := 24) rfl) ?_
      refine lv_goto (tgt := 61) hx hb (dg D_X12_applySafePlan (i := 25) rfl) (by decide) ?_
      exact fin (dg D_X12_applySafePlan (i := 28) rfl) hW hS ⟨by unfold apR; rw [if_pos hc1, if_pos he], hF, hth, EdP.no (by unfold apO; rw [if_pos hc1, if_pos he]) h1 h2 h3, rfl, rfl⟩
  · refine lv_aload_n hx hb (dg D_X12_applySafePlan (i := 6) rfl) rfl (lv_at hl 0 rfl) ?_
    refine r_getc (t := 70) X hW FI_X12_16 rfl (by decide) rfl (dg D_X12_applySafePlan (i := 7) rfl) ?_
    refine n_iconst (a := 0) hx hb (dg D_X12_applySafePlan (i := 8) rfl) rfl ?_
    refine lv_aload_n hx hb (dg D_X12_applySafePlan (i := 9) rfl) rfl (lv_at hl 0 rfl) ?_
    refine r_getc (t := 68) X hW FI_X12_7 rfl (by decide) rfl (dg D_X12_applySafePlan (i := 10) rfl) ?_
    refine n_iconst (a := 0) hx hb (dg D_X12_applySafePlan (i := 11) rfl) rfl ?_
    refine callSv X hW hS hR (c_X12_copy (I := I6) 70 248 0 68 248 0 (rfl) (by first | assumption | omega | decide | exact hP.1) (rfl) (by first | assumption | omega | decide | exact hP.1) (by first | assumption | omega | decide | exact hP.1) (by first | assumption | omega | decide | exact hP.1) (by first | assumption | omega | decide | exact hP.1) (by first | assumption | omega | decide | exact hP.1)) (by decide) USX12_copy LK_X12_80 rfl rfl (Nat.le_of_ble_eq_true rfl) hl hcs (dg D_X12_applySafePlan (i := 12) rfl) (fun I22 L1 R1 H locs hq hW hS => ?_)
    obtain ⟨hT22, hp22_0, rfl, rfl⟩ := hq
    have hF : Fr SSU I I22 := Fr.tr hF hT22 (by intro a j h; simp only [SC, SSU, Bool.or_eq_true, Bool.and_eq_true, beq_iff_eq, decide_eq_true_eq] at h ⊢; omega)
    have hU : HisM I22 k U := HisM.row hU (Fr.row hT22 (fun _ => rfl))
    have hed : I22 67 5 = nI k := (hT22 67 5 rfl).trans hed
    have hth : I22 67 6 = nI 0 := (hT22 67 6 rfl).trans hth
    have htr : I22 67 32 = nI (saR σ).2.2 := (hT22 67 32 rfl).trans htr
    have hgu : I22 67 34 = bI (decide ((saR σ).1 = 2)) := (hT22 67 34 rfl).trans hgu
    have hen : I22 67 33 = nI (enM (clP σ)) := (hT22 67 33 rfl).trans hen
    have hs : I22 68 = σ := by rw [hp22_0, cpR_mix]; exact hh
    refine lv_aload_n hx hb (dg D_X12_applySafePlan (i := 13) rfl) rfl (lv_at hl 0 rfl) ?_
    refine r_geti (v := bI (decide ((saR σ).1 = 2))) X hW FI_X12_391 rfl (by decide) rfl hgu (dg D_X12_applySafePlan (i := 14) rfl) ?_
    refine z_if_eq (tgt := 38) hx hb (dg D_X12_applySafePlan (i := 15) rfl) (by decide) (fun c29 => ?_) (fun c29 => ?_)
    · refine r_ldc X CK_X12_28 (dg D_X12_applySafePlan (i := 18) rfl) ?_
      have hc0 := of_decide_eq_false c9
      exact fin (dg D_X12_applySafePlan (i := 19) rfl) hW hS ⟨by unfold apR; rw [if_neg hc0, if_neg (of_decide_eq_false c29)], hF, hth, EdP.no (by unfold apO; rw [if_neg hc0]) hs hU hed, rfl, rfl⟩
    · refine r_ldcw X CK_X12_404 (dg D_X12_applySafePlan (i := 16) rfl) ?_
      refine lv_goto (tgt := 40) hx hb (dg D_X12_applySafePlan (i := 17) rfl) (by decide) ?_
      have hc0 := of_decide_eq_false c9
      exact fin (dg D_X12_applySafePlan (i := 19) rfl) hW hS ⟨by unfold apR; rw [if_neg hc0, if_pos (of_decide_eq_true c29)], hF, hth, EdP.no (by unfold apO; rw [if_neg hc0]) hs hU hed, rfl, rfl⟩

