set_option maxHeartbeats 8000000 in
set_option maxRecDepth 100000 in
theorem s_X12_search {l : Launch} {G : va_G} {bs : Nat} {cy : Nat → ClassId} {I : CI} {L : CL} {R : CR} (σ : Row) (E : Nat → Nat) (D : Nat → Nat) (G9 : Nat) (d : Nat) (k : Nat) (t : Nat) (hs : I 68 = σ) (hi : Inv σ) (hG9 : nG σ = G9) (hen : I 67 33 = nI (k + d)) (hE8 : rowP I 83 (k + d) (fun i => nI (E i))) (hD8 : rowP I 84 (k + d) (fun i => nI (D i))) (hED : ∀ i, i < k + d → E i < nS σ ∧ D i < Yn σ) (hkd : k + d ≤ 12) (htr : I 67 32 = nI t) (ht8 : t ≤ 20000) (hgu : I 67 34 = bI false) (ihS : ∀ d9 : Nat, d = d9 + 1 → ∀ {I : CI} {L : CL} {R : CR} (σ : Row) (E : Nat → Nat) (D : Nat → Nat) (G9 : Nat) (k : Nat) (t : Nat) (hs : I 68 = σ) (hi : Inv σ) (hG9 : nG σ = G9) (hen : I 67 33 = nI (k + d9)) (hE8 : rowP I 83 (k + d9) (fun i => nI (E i))) (hD8 : rowP I 84 (k + d9) (fun i => nI (D i))) (hED : ∀ i, i < k + d9 → E i < nS σ ∧ D i < Yn σ) (hkd : k + d9 ≤ 12) (htr : I 67 32 = nI t) (ht8 : t ≤ 20000) (hgu : I 67 34 = bI false), MTi l G bs cy MX12_search (8 + d9) [.ref (bs + 67), .int (nI k)] I L R (fun r I1 L1 R1 => bI (decide ((srK E D G9 d9 k σ t).1 = 1)) = r ∧ Fr SSr I I1 ∧ (∀ j, 248 ≤ j → I1 68 j = σ j) ∧ ((srK E D G9 d9 k σ t).1 ≠ 2 → I1 68 = (srK E D G9 d9 k σ t).2.1) ∧ I1 67 32 = nI (srK E D G9 d9 k σ t).2.2 ∧ I1 67 34 = bI (decide ((srK E D G9 d9 k σ t).1 = 2)) ∧ L = L1 ∧ R = R1)) : MTi l G bs cy MX12_search (8 + d) [.ref (bs + 67), .int (nI k)] I L R (fun r I1 L1 R1 => bI (decide ((srK E D G9 d k σ t).1 = 1)) = r ∧ Fr SSr I I1 ∧ (∀ j, 248 ≤ j → I1 68 j = σ j) ∧ ((srK E D G9 d k σ t).1 ≠ 2 → I1 68 = (srK E D G9 d k σ t).2.1) ∧ I1 67 32 = nI (srK E D G9 d k σ t).2.2 ∧ I1 67 34 = bI (decide ((srK E D G9 d k σ t).1 = 2)) ∧ L = L1 ∧ R = R1) := by
  refine MTz.of (own := RX12) pn_RX12 rfl (Nat.le_of_ble_eq_true rfl) ?_
  intro p e s m args below meth c Qf X hW hS fin ls hl
  have hx := X.1
  have hb := X.2.1
  have hR : RmOK (rmL (8 + d) 0 0) (8 + d) := ⟨rfl, rfl⟩
  have hcs : 0 ≤ (rmL (8 + d) 0 0).cells ∧ 0 ≤ (rmL (8 + d) 0 0).slots := ⟨Nat.zero_le _, Nat.zero_le _⟩
  have hl : lv_has ls 5 [(0, .ref (bs + 67)), (1, .int (nI k))] := hl
  have hF : Fr SSr I I := Fr.rf
  obtain ⟨hY, hY1, hY12, hLn, hL4, hSn, hS12, hGn, hG5⟩ := id hi
  refine lv_iload_n hx hb (dg D_X12_search (i := 0) rfl) rfl (lv_at hl 1 rfl) ?_
  refine lv_aload_n hx hb (dg D_X12_search (i := 1) rfl) rfl (lv_at hl 0 rfl) ?_
  refine r_geti (v := nI (k + d)) X hW FI_X12_385 rfl (by decide) rfl hen (dg D_X12_search (i := 2) rfl) ?_
  refine n_icmp_ne (tgt := 10) hx hb (by omega) (by omega) (dg D_X12_search (i := 3) rfl) (by decide) (fun c5 => ?_) (fun c5 => ?_)
  · obtain ⟨d9, hd9⟩ : ∃ d9, d = d9 + 1 := ⟨d - 1, by omega⟩
    obtain ⟨hEk, hDk⟩ := hED k (by omega)
    have hF9 : ∀ (σ : Row) t, t ≤ 20000 → ((fun σ t => srK E D G9 d9 (k + 1) σ t) σ t).2.2 ≤ 20000 := fun σ t h => srK_le d9 (k + 1) σ t h
    refine lv_aload_n hx hb (dg D_X12_search (i := 6) rfl) rfl (lv_at hl 0 rfl) ?_
    refine r_getc (t := 83) X hW FI_X12_61 rfl (by decide) rfl (dg D_X12_search (i := 7) rfl) ?_
    refine lv_iload_n hx hb (dg D_X12_search (i := 8) rfl) rfl (lv_at hl 1 rfl) ?_
    refine r_ald (j := k) (v := nI (E k)) X hW rfl (by decide) rfl (by omega) (by decide) (hE8 _ (by omega)) (dg D_X12_search (i := 9) rfl) ?_
    refine lv_istore_n (lv' := [(2, .int (nI (E k))), (0, .ref (bs + 67)), (1, .int (nI k))]) hx hb (dg D_X12_search (i := 10) rfl) rfl hl (by decide) rfl (fun ls hl => ?_)
    refine n_iconst (a := 0) hx hb (dg D_X12_search (i := 11) rfl) rfl ?_
    refine lv_istore_n (lv' := [(3, .int (nI 0)), (2, .int (nI (E k))), (0, .ref (bs + 67)), (1, .int (nI k))]) hx hb (dg D_X12_search (i := 12) rfl) rfl hl (by decide) rfl (fun ls hl => ?_)
    have loop19 := up_ind (P := fun y => ∀ (K19 : CI) (H : Heap) (locs : List Loc) (ls : Array Slot) (v3 : Int32), v3 = nI y → (Fr SSr I K19) → (K19 68 = σ) → (rowP K19 83 (k + d) (fun i => nI (E i))) → (rowP K19 84 (k + d) (fun i => nI (D i))) → (K19 67 32 = nI (syL (fun σ t => srK E D G9 d9 (k + 1) σ t) (E k) G9 (0, σ, t) y).2.2) → (K19 67 33 = nI (k + d)) → (K19 67 34 = bI false) → ((syL (fun σ t => srK E D G9 d9 (k + 1) σ t) (E k) G9 (0, σ, t) y).1 = 0) → Wd G bs cy K19 L R H → va_S (Aq bs) s.heap H locs → lv_has ls 5 [(0, .ref (bs + 67)), (1, .int (nI k)), (2, .int (nI (E k))), (3, .int v3)] → W p l e (rmL (8 + d) 0 0) s m args below meth c H locs 0 0 Qf (F0 m 19 ls [])) (D k + 1) (fun y hx19 ih19 => by
        intro K19 H locs ls v3 q3 hF hs hE8 hD8 htr hen hgu hc hW hS hl
        subst q3
        obtain ⟨r9, hr9⟩ : ∃ r9, r9 = syL (fun σ t => srK E D G9 d9 (k + 1) σ t) (E k) G9 (0, σ, t) y := ⟨_, rfl⟩
        have hr1 : r9.2.1 = σ := by rw [hr9]; exact (syL_row y hc).2
        have hr2 : r9.2.2 ≤ 20000 := by rw [hr9]; exact syL_le hF9 ht8 y
        rw [← hr9] at hc htr
        refine lv_iload_n hx hb (dg D_X12_search (i := 13) rfl) rfl (lv_at hl 3 rfl) ?_
        refine lv_aload_n hx hb (dg D_X12_search (i := 14) rfl) rfl (lv_at hl 0 rfl) ?_
        refine r_getc (t := 84) X hW FI_X12_64 rfl (by decide) rfl (dg D_X12_search (i := 15) rfl) ?_
        refine lv_iload_n hx hb (dg D_X12_search (i := 16) rfl) rfl (lv_at hl 1 rfl) ?_
        refine r_ald (j := k) (v := nI (D k)) X hW rfl (by decide) rfl (by omega) (by decide) (hD8 _ (by omega)) (dg D_X12_search (i := 17) rfl) ?_
        refine n_icmp_gt (tgt := 145) hx hb (by omega) (by omega) (dg D_X12_search (i := 18) rfl) (by decide) (fun c26 => ?_) (fun c26 => ?_)
        · refine n_iconst (a := 0) hx hb (dg D_X12_search (i := 84) rfl) rfl ?_
          have hsr : srK E D G9 d k σ t = syL (fun σ t => srK E D G9 d9 (k + 1) σ t) (E k) G9 (0, σ, t) (D k + 1) := by rw [hd9]; rfl
          have hyD : y = D k + 1 := by omega
          rw [hyD] at hr9
          rw [← hr9] at hsr
          exact fin (dg D_X12_search (i := 85) rfl) hW hS (show _ = bI false from rfl) ⟨by rw [hsr, hc]; rfl, hF, fun j _ => congrFun hs j, fun _ => by rw [hsr, hr1]; exact hs, by rw [hsr]; exact htr, by rw [hsr, hc]; exact hgu, rfl, rfl⟩
        · refine n_iconst (a := 0) hx hb (dg D_X12_search (i := 19) rfl) rfl ?_
          refine lv_istore (lv' := [(4, .int (nI 0)), (0, .ref (bs + 67)), (1, .int (nI k)), (2, .int (nI (E k))), (3, .int (nI y))]) hx hb (dg D_X12_search (i := 20) rfl) hl (by decide) rfl (fun ls hl => ?_)
          have loop32 := up_ind (P := fun g => ∀ (K32 : CI) (H : Heap) (locs : List Loc) (ls : Array Slot) (v4 : Int32), v4 = nI g → (Fr SSr I K32) → (K32 68 = σ) → (rowP K32 83 (k + d) (fun i => nI (E i))) → (rowP K32 84 (k + d) (fun i => nI (D i))) → (K32 67 32 = nI (sgL (fun σ t => srK E D G9 d9 (k + 1) σ t) (E k) y r9 g).2.2) → (K32 67 33 = nI (k + d)) → (K32 67 34 = bI false) → ((sgL (fun σ t => srK E D G9 d9 (k + 1) σ t) (E k) y r9 g).1 = 0) → Wd G bs cy K32 L R H → va_S (Aq bs) s.heap H locs → lv_has ls 5 [(0, .ref (bs + 67)), (1, .int (nI k)), (2, .int (nI (E k))), (3, .int (nI y)), (4, .int v4)] → W p l e (rmL (8 + d) 0 0) s m args below meth c H locs 0 0 Qf (F0 m 32 ls [])) G9 (fun g hx32 ih32 => by
              intro K32 H locs ls v4 q4 hF hs hE8 hD8 htr hen hgu hc2 hW hS hl
              subst q4
              obtain ⟨q9, hq9⟩ : ∃ q9, q9 = sgL (fun σ t => srK E D G9 d9 (k + 1) σ t) (E k) y r9 g := ⟨_, rfl⟩
              have hq1 : q9.2.1 = σ := by rw [hq9]; exact ((sgL_row g hc2).2).trans hr1
              have hq2 : q9.2.2 ≤ 20000 := by rw [hq9]; exact sgL_le hF9 hr2 g
              rw [← hq9] at hc2 htr
              refine lv_iload hx hb (dg D_X12_search (i := 21) rfl) (lv_at hl 4 rfl) ?_
              refine lv_aload_n hx hb (dg D_X12_search (i := 22) rfl) rfl (lv_at hl 0 rfl) ?_
              refine r_getc (t := 68) X hW FI_X12_7 rfl (by decide) rfl (dg D_X12_search (i := 23) rfl) ?_
              refine n_iconst (a := 5) hx hb (dg D_X12_search (i := 24) rfl) rfl ?_
              refine r_ald (j := 5) (v := nI (nG σ)) X hW rfl (by decide) rfl (by omega) (by decide) ((congrFun hs _).trans hGn) (dg D_X12_search (i := 25) rfl) ?_
              refine n_icmp_ge (tgt := 139) hx hb (by omega) (by omega) (dg D_X12_search (i := 26) rfl) (by decide) (fun c40 => ?_) (fun c40 => ?_)
              · have hgG : g = G9 := by omega
                rw [hgG] at hq9
                refine lv_iinc (v := nI (y + 1)) (lv' := [(3, .int (nI (y + 1))), (0, .ref (bs + 67)), (1, .int (nI k)), (2, .int (nI (E k))), (4, .int (nI g))]) hx hb (dg D_X12_search (i := 82) rfl) hl (k := 3) rfl (nI_add _ _) (by decide) rfl (fun ls hl => ?_)
                refine lv_goto (tgt := 19) hx hb (dg D_X12_search (i := 83) rfl) (by decide) ?_
                exact ih19 (by omega) K32 _ _ _ _ (congrArg nI (by omega)) hF hs hE8 hD8 (by show _ = nI (sgL _ _ y (syL (fun σ t => srK E D G9 d9 (k + 1) σ t) (E k) G9 (0, σ, t) y) G9).2.2; rw [← hr9, ← hq9]; exact htr) hen hgu (by show (sgL _ _ y (syL (fun σ t => srK E D G9 d9 (k + 1) σ t) (E k) G9 (0, σ, t) y) G9).1 = 0; rw [← hr9, ← hq9]; exact hc2) hW hS (lv_sub hl [1, 2, 3, 0] rfl)
              · refine lv_aload_n hx hb (dg D_X12_search (i := 27) rfl) rfl (lv_at hl 0 rfl) ?_
                refine r_geti (v := nI q9.2.2) X hW FI_X12_388 rfl (by decide) rfl htr (dg D_X12_search (i := 28) rfl) ?_
                refine lv_sipush (v := nI 20000) hx hb (dg D_X12_search (i := 29) rfl) (by decide) ?_
                refine n_icmp_ne (tgt := 60) hx hb (by omega) (by omega) (dg D_X12_search (i := 30) rfl) (by decide) (fun c50 => ?_) (fun c50 => ?_)
                · refine lv_aload_n hx hb (dg D_X12_search (i := 36) rfl) rfl (lv_at hl 0 rfl) ?_
                  refine lv_dup hx hb (dg D_X12_search (i := 37) rfl) rfl ?_
                  refine r_geti (v := nI q9.2.2) X hW FI_X12_388 rfl (by decide) rfl htr (dg D_X12_search (i := 38) rfl) ?_
                  refine n_iconst (a := 1) hx hb (dg D_X12_search (i := 39) rfl) rfl ?_
                  refine n_iadd hx hb (dg D_X12_search (i := 40) rfl) ?_
                  refine r_puti (v := nI (q9.2.2 + 1)) (ty := .int) X hW hS FI_X12_388 rfl (by decide) rfl rfl (by decide +kernel) rfl rfl (dg D_X12_search (i := 41) rfl) (fun H locs hW hS => ?_)
                  have hF : Fr SSr I (u2 K32 67 32 (nI (q9.2.2 + 1))) := Fr.put hF rfl
                  have hs : (u2 K32 67 32 (nI (q9.2.2 + 1))) 68 = σ := hs
                  have hE8 : rowP (u2 K32 67 32 (nI (q9.2.2 + 1))) 83 (k + d) (fun i => nI (E i)) := hE8
                  have hD8 : rowP (u2 K32 67 32 (nI (q9.2.2 + 1))) 84 (k + d) (fun i => nI (D i)) := hD8
                  obtain ⟨J67, eJ67⟩ : ∃ J, J = u2 K32 67 32 (nI (q9.2.2 + 1)) := ⟨_, rfl⟩
                  rw [← eJ67] at hW hF hs hE8 hD8
                  have hen : J67 67 33 = nI (k + d) := by rw [eJ67, u2_off (Or.inr (by decide))]; exact hen
                  have hgu : J67 67 34 = bI false := by rw [eJ67, u2_off (Or.inr (by decide))]; exact hgu
                  have htr : J67 67 32 = nI (q9.2.2 + 1) := by rw [eJ67]; exact u2_at
                  refine lv_aload_n hx hb (dg D_X12_search (i := 42) rfl) rfl (lv_at hl 0 rfl) ?_
                  refine lv_iload_n hx hb (dg D_X12_search (i := 43) rfl) rfl (lv_at hl 3 rfl) ?_
                  refine lv_iload_n hx hb (dg D_X12_search (i := 44) rfl) rfl (lv_at hl 2 rfl) ?_
                  refine lv_iload hx hb (dg D_X12_search (i := 45) rfl) (lv_at hl 4 rfl) ?_
                  refine callVi X hW hS hR (c_X12_refusalOf (I := J67) σ y (E k) g (by first | assumption | omega | decide | exact hP.1) (by first | assumption | omega | decide | exact hP.1) (by first | assumption | omega | decide | exact hP.1) (by first | assumption | omega | decide | exact hP.1) (by first | assumption | omega | decide | exact hP.1)) (by omega) UVX12_refusalOf LK_X12_327 rfl (by decide) rfl rfl rfl (Nat.le_of_ble_eq_true rfl) hl hcs (dg D_X12_search (i := 46) rfl) (fun r75 I75 L1 R1 H locs hq hW hS => ?_)
                  obtain ⟨rfl, hT75, rfl, rfl⟩ := hq
                  have hF : Fr SSr I I75 := Fr.tr hF hT75 (by intro a j h; simp only [SL, SSr, Bool.or_eq_true, Bool.and_eq_true, beq_iff_eq, decide_eq_true_eq] at h ⊢; omega)
                  have hs : I75 68 = σ := by rw [Fr.row hT75 (fun _ => rfl)]; exact hs
                  have hE8 : rowP I75 83 (k + d) (fun i => nI (E i)) := hE8.fr hT75 (fun _ => rfl)
                  have hD8 : rowP I75 84 (k + d) (fun i => nI (D i)) := hD8.fr hT75 (fun _ => rfl)
                  have hen : I75 67 33 = nI (k + d) := (hT75 67 33 rfl).trans hen
                  have hgu : I75 67 34 = bI false := (hT75 67 34 rfl).trans hgu
                  have htr : I75 67 32 = nI (q9.2.2 + 1) := (hT75 67 32 rfl).trans htr
                  refine lv_if_ne (tgt := 133) hx hb (dg D_X12_search (i := 47) rfl) (by decide) (fun c78 => ?_) (fun c78 => ?_)
                  · refine lv_iinc (v := nI (g + 1)) (lv' := [(4, .int (nI (g + 1))), (0, .ref (bs + 67)), (1, .int (nI k)), (2, .int (nI (E k))), (3, .int (nI y))]) hx hb (dg D_X12_search (i := 80) rfl) hl (k := 4) rfl (nI_add _ _) (by decide) rfl (fun ls hl => ?_)
                    refine lv_goto (tgt := 32) hx hb (dg D_X12_search (i := 81) rfl) (by decide) ?_
                    have hst : sgL (fun σ t => srK E D G9 d9 (k + 1) σ t) (E k) y r9 (g + 1) = (0, σ, q9.2.2 + 1) := by show sgS _ _ _ g (sgL _ _ _ r9 g) = _; rw [← hq9, sgS_no hc2 c50 (by rw [hq1]; exact fun z => c78 (of_decide_eq_true z).1), hq1]
                    exact ih32 (by omega) I75 _ _ _ _ (congrArg nI (by omega)) hF hs hE8 hD8 (by rw [hst]; exact htr) hen hgu (by rw [hst]) hW hS (lv_sub hl [1, 2, 3, 4, 0] rfl)
                  · refine lv_aload_n hx hb (dg D_X12_search (i := 48) rfl) rfl (lv_at hl 0 rfl) ?_
                    refine lv_iload_n hx hb (dg D_X12_search (i := 49) rfl) rfl (lv_at hl 2 rfl) ?_
                    refine n_iconst (a := 1) hx hb (dg D_X12_search (i := 50) rfl) rfl ?_
                    refine lv_iload_n hx hb (dg D_X12_search (i := 51) rfl) rfl (lv_at hl 3 rfl) ?_
                    refine lv_ishl hx hb (dg D_X12_search (i := 52) rfl) ?_
                    refine callVi X hW hS hR (c_X12_pastBy (I := I75) σ (E k) ((nI 1) <<< ((nI y) &&& 31)) (by first | assumption | omega | decide | exact hP.1) (by first | assumption | omega | decide | exact hP.1) (by first | assumption | omega | decide | exact hP.1)) (by omega) UVX12_pastBy LK_X12_267 rfl (by decide) rfl rfl rfl (Nat.le_of_ble_eq_true rfl) hl hcs (dg D_X12_search (i := 53) rfl) (fun r86 I86 L1 R1 H locs hq hW hS => ?_)
                    obtain ⟨rfl, hT86, rfl, rfl⟩ := hq
                    have hF : Fr SSr I I86 := Fr.tr hF hT86 (by intro a j h; simp only [SL, SSr, Bool.or_eq_true, Bool.and_eq_true, beq_iff_eq, decide_eq_true_eq] at h ⊢; omega)
                    have hs : I86 68 = σ := by rw [Fr.row hT86 (fun _ => rfl)]; exact hs
                    have hE8 : rowP I86 83 (k + d) (fun i => nI (E i)) := hE8.fr hT86 (fun _ => rfl)
                    have hD8 : rowP I86 84 (k + d) (fun i => nI (D i)) := hD8.fr hT86 (fun _ => rfl)
                    have hen : I86 67 33 = nI (k + d) := (hT86 67 33 rfl).trans hen
                    have hgu : I86 67 34 = bI false := (hT86 67 34 rfl).trans hgu
                    have htr : I86 67 32 = nI (q9.2.2 + 1) := (hT86 67 32 rfl).trans htr
                    refine r_ldc X CK_X12_28 (dg D_X12_search (i := 54) rfl) ?_
                    refine lv_icmp_eq (tgt := 97) hx hb (dg D_X12_search (i := 55) rfl) (by decide) (fun c91 => ?_) (fun c91 => ?_)
                    · refine lv_aload_n hx hb (dg D_X12_search (i := 57) rfl) rfl (lv_at hl 0 rfl) ?_
                      refine lv_iload_n hx hb (dg D_X12_search (i := 58) rfl) rfl (lv_at hl 2 rfl) ?_
                      refine lv_iload_n hx hb (dg D_X12_search (i := 59) rfl) rfl (lv_at hl 3 rfl) ?_
                      refine lv_iload hx hb (dg D_X12_search (i := 60) rfl) (lv_at hl 4 rfl) ?_
                      refine callVv X hW hS hR (c_X12_setPainter (I := I86) (E k) y (nI g) (by first | assumption | omega | decide | exact hP.1) (by first | assumption | omega | decide | exact hP.1)) (by omega) UVX12_setPainter LK_X12_331 rfl (by decide) rfl rfl rfl (Nat.le_of_ble_eq_true rfl) hl hcs (dg D_X12_search (i := 61) rfl) (fun I102 L1 R1 H locs hq hW hS => ?_)
                      obtain ⟨hT102, hp102_0, rfl, rfl⟩ := hq
                      have hF : Fr SSr I I102 := Fr.tr hF hT102 (by intro a j h; simp only [SP, SSr, Bool.or_eq_true, Bool.and_eq_true, beq_iff_eq, decide_eq_true_eq] at h ⊢; omega)
                      have hs : I102 68 = setP σ (E k) y (nI g) := by rw [hp102_0, hs]; rfl
                      have hE8 : rowP I102 83 (k + d) (fun i => nI (E i)) := hE8.fr hT102 (fun _ => rfl)
                      have hD8 : rowP I102 84 (k + d) (fun i => nI (D i)) := hD8.fr hT102 (fun _ => rfl)
                      have hen : I102 67 33 = nI (k + d) := (hT102 67 33 rfl).trans hen
                      have hgu : I102 67 34 = bI false := (hT102 67 34 rfl).trans hgu
                      have htr : I102 67 32 = nI (q9.2.2 + 1) := (hT102 67 32 rfl).trans htr
                      obtain ⟨p9, hp9⟩ : ∃ p9, p9 = srK E D G9 d9 (k + 1) (setP σ (E k) y (nI g)) (q9.2.2 + 1) := ⟨_, rfl⟩
                      have hsc : sgC q9.2.1 (E k) y g = true := by rw [hq1]; exact decide_eq_true (And.intro c78 c91)
                      have hp2 : p9.1 ≤ 2 := by rw [hp9]; exact srK_c2 d9 (k + 1) _ _
                      have hp3 : p9.1 = 0 → p9.2.1 = setP σ (E k) y (nI g) := by rw [hp9]; exact srK_row d9 (k + 1) _ _
                      have hux : pnt σ (E k) y = -1 := rfs_pn c78
                      have hsi : ¬ p9.1 = 0 → srK E D G9 d k σ t = p9 := fun hz => sr_end (E := E) (D := D) (G := G9) (k := k) (y := y) (g := g) (v := p9) hd9 (by omega) (by omega) (by rw [← hr9]; show sgS _ _ _ g (sgL _ _ _ r9 g) = _; rw [← hq9, sgS_in hc2 c50 hsc (by rw [hq1, ← hp9]; exact hz), hq1, hp9]) hz
                      refine lv_aload_n hx hb (dg D_X12_search (i := 62) rfl) rfl (lv_at hl 0 rfl) ?_
                      refine lv_iload_n hx hb (dg D_X12_search (i := 63) rfl) rfl (lv_at hl 1 rfl) ?_
                      refine n_iconst (a := 1) hx hb (dg D_X12_search (i := 64) rfl) rfl ?_
                      refine n_iadd hx hb (dg D_X12_search (i := 65) rfl) ?_
                      refine callVi X hW hS hR (ihS d9 hd9 (I := I102) (setP σ (E k) y (nI g)) E D G9 (k + 1) (q9.2.2 + 1) (by first | assumption | omega | decide | exact hP.1) (Inv_setP hi) (by rw [nG_setP]; exact hG9) (by rw [hen]; exact congrArg nI (by omega)) (by rw [show k + 1 + d9 = k + d by omega]; exact hE8) (by rw [show k + 1 + d9 = k + d by omega]; exact hD8) (fun i hi9 => by rw [nS_setP, Yn_setP]; exact hED i (by omega)) (by first | assumption | omega | decide | exact hP.1) (by first | assumption | omega | decide | exact hP.1) (by first | assumption | omega | decide | exact hP.1) (by first | assumption | omega | decide | exact hP.1)) (by omega) UVX12_search LK_X12_395 rfl (by decide) rfl rfl rfl (Nat.le_of_ble_eq_true rfl) hl hcs (dg D_X12_search (i := 66) rfl) (fun r109 I109 L1 R1 H locs hq hW hS => ?_)
                      obtain ⟨rfl, hT109, hp109_0, hp109_1, hp109_2, hp109_3, rfl, rfl⟩ := hq
                      rw [show bI (decide ((srK E D G9 d9 (k + 1) (setP σ (E k) y (nI g)) (q9.2.2 + 1)).1 = 1)) = bI (decide (p9.1 = 1)) from by rw [hp9]]
                      have hF : Fr SSr I I109 := Fr.tr hF hT109 (fun _ _ h => h)
                      have hE8 : rowP I109 83 (k + d) (fun i => nI (E i)) := hE8.fr hT109 (fun _ => rfl)
                      have hD8 : rowP I109 84 (k + d) (fun i => nI (D i)) := hD8.fr hT109 (fun _ => rfl)
                      have hen : I109 67 33 = nI (k + d) := (hT109 67 33 rfl).trans hen
                      have htr : I109 67 32 = nI p9.2.2 := by rw [hp9]; exact hp109_2
                      have hgu : I109 67 34 = bI (decide (p9.1 = 2)) := by rw [hp9]; exact hp109_3
                      have h248 : ∀ j, 248 ≤ j → I109 68 j = σ j := fun j hj => (hp109_0 j hj).trans (upd_ne (by omega))
                      have h68 : p9.1 = 1 → I109 68 = p9.2.1 := fun hz => by rw [hp9] at hz ⊢; exact hp109_1 (by omega)
                      have h69 : p9.1 = 0 → I109 68 = p9.2.1 := fun hz => by rw [hp9] at hz ⊢; exact hp109_1 (by omega)
                      refine z_if_eq (tgt := 117) hx hb (dg D_X12_search (i := 67) rfl) (by decide) (fun c112 => ?_) (fun c112 => ?_)
                      · have hz3 : ¬ p9.1 = 1 := of_decide_eq_false c112
                        refine lv_aload_n hx hb (dg D_X12_search (i := 70) rfl) rfl (lv_at hl 0 rfl) ?_
                        refine lv_iload_n hx hb (dg D_X12_search (i := 71) rfl) rfl (lv_at hl 2 rfl) ?_
                        refine lv_iload_n hx hb (dg D_X12_search (i := 72) rfl) rfl (lv_at hl 3 rfl) ?_
                        refine lv_iconst (v := -1) hx hb (dg D_X12_search (i := 73) rfl) (by decide) ?_
                        refine callVv X hW hS hR (c_X12_setPainter (I := I109) (E k) y ((-1)) (by first | assumption | omega | decide | exact hP.1) (by first | assumption | omega | decide | exact hP.1)) (by omega) UVX12_setPainter LK_X12_331 rfl (by decide) rfl rfl rfl (Nat.le_of_ble_eq_true rfl) hl hcs (dg D_X12_search (i := 74) rfl) (fun I121 L1 R1 H locs hq hW hS => ?_)
                        obtain ⟨hT121, hp121_0, rfl, rfl⟩ := hq
                        have hF : Fr SSr I I121 := Fr.tr hF hT121 (by intro a j h; simp only [SP, SSr, Bool.or_eq_true, Bool.and_eq_true, beq_iff_eq, decide_eq_true_eq] at h ⊢; omega)
                        have hE8 : rowP I121 83 (k + d) (fun i => nI (E i)) := hE8.fr hT121 (fun _ => rfl)
                        have hD8 : rowP I121 84 (k + d) (fun i => nI (D i)) := hD8.fr hT121 (fun _ => rfl)
                        have hen : I121 67 33 = nI (k + d) := (hT121 67 33 rfl).trans hen
                        have htr : I121 67 32 = nI p9.2.2 := (hT121 67 32 rfl).trans htr
                        have hgu : I121 67 34 = bI (decide (p9.1 = 2)) := (hT121 67 34 rfl).trans hgu
                        have h248b : ∀ j, 248 ≤ j → I121 68 j = σ j := fun j hj => by rw [hp121_0, upd_ne (by omega)]; exact h248 j hj
                        have hs0 : p9.1 = 0 → I121 68 = σ := fun hz => by rw [hp121_0]; exact setP_un ((h69 hz).trans (hp3 hz)) hux
                        refine lv_aload_n hx hb (dg D_X12_search (i := 75) rfl) rfl (lv_at hl 0 rfl) ?_
                        refine r_geti (v := bI (decide (p9.1 = 2))) X hW FI_X12_391 rfl (by decide) rfl hgu (dg D_X12_search (i := 76) rfl) ?_
                        refine z_if_eq (tgt := 133) hx hb (dg D_X12_search (i := 77) rfl) (by decide) (fun c128 => ?_) (fun c128 => ?_)
                        · have hz0 : p9.1 = 0 := by have := of_decide_eq_false c128; omega
                          have hs : I121 68 = σ := hs0 hz0
                          have hgu : I121 67 34 = bI false := by rw [hgu, c128]
                          refine lv_iinc (v := nI (g + 1)) (lv' := [(4, .int (nI (g + 1))), (0, .ref (bs + 67)), (1, .int (nI k)), (2, .int (nI (E k))), (3, .int (nI y))]) hx hb (dg D_X12_search (i := 80) rfl) hl (k := 4) rfl (nI_add _ _) (by decide) rfl (fun ls hl => ?_)
                          refine lv_goto (tgt := 32) hx hb (dg D_X12_search (i := 81) rfl) (by decide) ?_
                          have hst : sgL (fun σ t => srK E D G9 d9 (k + 1) σ t) (E k) y r9 (g + 1) = (0, σ, p9.2.2) := by show sgS _ _ _ g (sgL _ _ _ r9 g) = _; rw [← hq9, sgS_bk hc2 c50 hsc (by rw [hq1, ← hp9]; exact hz0), hq1, ← hp9]
                          exact ih32 (by omega) I121 _ _ _ _ (congrArg nI (by omega)) hF hs hE8 hD8 (by rw [hst]; exact htr) hen hgu (by rw [hst]) hW hS (lv_sub hl [1, 2, 3, 4, 0] rfl)
                        · have hz1 : ¬ p9.1 = 0 := fun z => by rw [z] at c128; exact absurd c128 (by decide)
                          refine n_iconst (a := 0) hx hb (dg D_X12_search (i := 78) rfl) rfl ?_
                          exact fin (dg D_X12_search (i := 79) rfl) hW hS (show _ = bI false from rfl) ⟨by rw [hsi hz1, c112], hF, h248b, fun z => absurd (by rw [hsi hz1]; exact of_decide_eq_true c128) z, by rw [hsi hz1]; exact htr, by rw [hsi hz1]; exact hgu, rfl, rfl⟩
                      · have hz2 : p9.1 = 1 := of_decide_eq_true c112
                        have hz1 : ¬ p9.1 = 0 := by omega
                        refine n_iconst (a := 1) hx hb (dg D_X12_search (i := 68) rfl) rfl ?_
                        exact fin (dg D_X12_search (i := 69) rfl) hW hS (show _ = bI true from rfl) ⟨by rw [hsi hz1, c112], hF, h248, fun _ => by rw [hsi hz1]; exact h68 hz2, by rw [hsi hz1]; exact htr, by rw [hsi hz1]; exact hgu, rfl, rfl⟩
                    · refine lv_goto (tgt := 133) hx hb (dg D_X12_search (i := 56) rfl) (by decide) ?_
                      refine lv_iinc (v := nI (g + 1)) (lv' := [(4, .int (nI (g + 1))), (0, .ref (bs + 67)), (1, .int (nI k)), (2, .int (nI (E k))), (3, .int (nI y))]) hx hb (dg D_X12_search (i := 80) rfl) hl (k := 4) rfl (nI_add _ _) (by decide) rfl (fun ls hl => ?_)
                      refine lv_goto (tgt := 32) hx hb (dg D_X12_search (i := 81) rfl) (by decide) ?_
                      have hst : sgL (fun σ t => srK E D G9 d9 (k + 1) σ t) (E k) y r9 (g + 1) = (0, σ, q9.2.2 + 1) := by show sgS _ _ _ g (sgL _ _ _ r9 g) = _; rw [← hq9, sgS_no hc2 c50 (by rw [hq1]; exact fun z => c91 (of_decide_eq_true z).2), hq1]
                      exact ih32 (by omega) I86 _ _ _ _ (congrArg nI (by omega)) hF hs hE8 hD8 (by rw [hst]; exact htr) hen hgu (by rw [hst]) hW hS (lv_sub hl [1, 2, 3, 4, 0] rfl)
                · have hst : sgL (fun σ t => srK E D G9 d9 (k + 1) σ t) (E k) y r9 (g + 1) = (2, σ, q9.2.2) := by show sgS _ _ _ g (sgL _ _ _ r9 g) = _; rw [← hq9, sgS_up hc2 c50, hq1]
                  have hsr : srK E D G9 d k σ t = (2, σ, q9.2.2) := sr_end (E := E) (D := D) (G := G9) (k := k) (y := y) (g := g) (v := (2, σ, q9.2.2)) hd9 (by omega) (by omega) (by rw [← hr9]; exact hst) (by show (2 : Nat) ≠ 0; decide)
                  refine lv_aload_n hx hb (dg D_X12_search (i := 31) rfl) rfl (lv_at hl 0 rfl) ?_
                  refine n_iconst (a := 1) hx hb (dg D_X12_search (i := 32) rfl) rfl ?_
                  refine r_puti (v := nI 1) (ty := .boolean) X hW hS FI_X12_391 rfl (by decide) rfl rfl (by decide +kernel) rfl rfl (dg D_X12_search (i := 33) rfl) (fun H locs hW hS => ?_)
                  have hF : Fr SSr I (u2 K32 67 34 (nI 1)) := Fr.put hF rfl
                  have hs : (u2 K32 67 34 (nI 1)) 68 = σ := hs
                  have hE8 : rowP (u2 K32 67 34 (nI 1)) 83 (k + d) (fun i => nI (E i)) := hE8
                  have hD8 : rowP (u2 K32 67 34 (nI 1)) 84 (k + d) (fun i => nI (D i)) := hD8
                  obtain ⟨J55, eJ55⟩ : ∃ J, J = u2 K32 67 34 (nI 1) := ⟨_, rfl⟩
                  rw [← eJ55] at hW hF hs hE8 hD8
                  have hen : J55 67 33 = nI (k + d) := by rw [eJ55, u2_off (Or.inr (by decide))]; exact hen
                  have hgu : J55 67 34 = nI 1 := by rw [eJ55]; exact u2_at
                  have htr : J55 67 32 = nI q9.2.2 := by rw [eJ55, u2_off (Or.inr (by decide))]; exact htr
                  refine n_iconst (a := 0) hx hb (dg D_X12_search (i := 34) rfl) rfl ?_
                  exact fin (dg D_X12_search (i := 35) rfl) hW hS (show _ = bI false from rfl) ⟨by rw [hsr]; rfl, hF, fun j _ => congrFun hs j, fun z => absurd (by rw [hsr]) z, by rw [hsr]; exact htr, by rw [hsr]; exact hgu, rfl, rfl⟩)
          exact loop32 0 (Nat.zero_le _) K19 _ _ _ _ (congrArg nI (by omega)) hF hs hE8 hD8 htr hen hgu hc hW hS (lv_sub hl [1, 2, 3, 4, 0] rfl))
    exact loop19 0 (Nat.zero_le _) I _ _ _ _ (congrArg nI (by omega)) hF hs hE8 hD8 htr hen hgu rfl hW hS (lv_sub hl [2, 3, 1, 0] rfl)
  · refine n_iconst (a := 1) hx hb (dg D_X12_search (i := 4) rfl) rfl ?_
    have hd0 : d = 0 := by omega
    subst hd0
    exact fin (dg D_X12_search (i := 5) rfl) hW hS (show _ = bI true from rfl) ⟨rfl, hF, fun j _ => congrFun hs j, fun _ => hs, htr, hgu, rfl, rfl⟩

