set_option maxHeartbeats 4000000 in
set_option maxRecDepth 100000 in
theorem c_X8_triesMade {l : Launch} {G : va_G} {bs : Nat} {cy : Nat → ClassId} {I : CI} {L : CL} {R : CR} (t : Nat) (htr : I 4 1 = nI t) : MTi l G bs cy MX8_triesMade 1 [.ref (bs + 4)] I L R (fun r I1 L1 R1 => nI t = r ∧ I = I1 ∧ L = L1 ∧ R = R1) := by
  refine MTi.of (own := RX8) pn_RX8 rfl (Nat.le_of_ble_eq_true rfl) ?_
  intro p e s m args below meth c Qf X hW hS fin ls hl
  have hx := X.1
  have hb := X.2.1
  have hR : RmOK (rmL 1 0 0) 1 := ⟨rfl, rfl⟩
  have hcs : 0 ≤ (rmL 1 0 0).cells ∧ 0 ≤ (rmL 1 0 0).slots := ⟨Nat.zero_le _, Nat.zero_le _⟩
  have hl : lv_has ls 1 [(0, .ref (bs + 4))] := hl
  refine lv_aload_n hx hb (dg D_X8_triesMade (i := 0) rfl) rfl (lv_at hl 0 rfl) ?_
  refine r_geti (v := nI t) X hW FI_X8_18 rfl (by decide) rfl htr (dg D_X8_triesMade (i := 1) rfl) ?_
  exact fin (dg D_X8_triesMade (i := 2) rfl) hW hS ⟨rfl, rfl, rfl, rfl⟩

set_option maxHeartbeats 8000000 in
set_option maxRecDepth 100000 in
theorem s_X8_placeFrom {l : Launch} {G : va_G} {bs : Nat} {cy : Nat → ClassId} {I : CI} {L : CL} {R : CR} (σ : Row) (β : Nat) (q : Nat) (E : Nat → Nat) (D : Nat → Nat) (G9 : Nat) (d : Nat) (k : Nat) (t : Nat) (hi : Inv σ) (hd : DR σ) (hβ : isBr β) (hB : BrAt I β σ) (hq : isPl q) (hP : PlAt I q σ) (hRb : R q 0 = β) (hG9 : nG σ = G9) (hsz : I 5 1 = nI (k + d)) (hKr : rowP I 6 (k + d) (fun i => nI (kN (D i) 0 (E i)))) (hED : ∀ i, i < k + d → E i < nS σ ∧ D i < Yn σ) (hEi : ∀ i j, i < k + d → j < k + d → E i = E j → i = j) (hux : ∀ i, k ≤ i → i < k + d → UX σ (E i)) (hkd : k + d ≤ 12) (htr : I 4 1 = nI t) (ht8 : t ≤ 20000) (ihS : ∀ d9 : Nat, d = d9 + 1 → ∀ {I : CI} {L : CL} {R : CR} (σ : Row) (β : Nat) (q : Nat) (E : Nat → Nat) (D : Nat → Nat) (G9 : Nat) (k : Nat) (t : Nat) (hi : Inv σ) (hd : DR σ) (hβ : isBr β) (hB : BrAt I β σ) (hq : isPl q) (hP : PlAt I q σ) (hRb : R q 0 = β) (hG9 : nG σ = G9) (hsz : I 5 1 = nI (k + d9)) (hKr : rowP I 6 (k + d9) (fun i => nI (kN (D i) 0 (E i)))) (hED : ∀ i, i < k + d9 → E i < nS σ ∧ D i < Yn σ) (hEi : ∀ i j, i < k + d9 → j < k + d9 → E i = E j → i = j) (hux : ∀ i, k ≤ i → i < k + d9 → UX σ (E i)) (hkd : k + d9 ≤ 12) (htr : I 4 1 = nI t) (ht8 : t ≤ 20000), MTi l G bs cy MX8_placeFrom (8 + d9) [.ref (bs + 4), .ref (bs + β), .ref (bs + q), .int (nI k)] I L R (fun r I1 L1 R1 => cdI (srK E D G9 d9 k σ t).1 = r ∧ Fr (SPf q) I I1 ∧ ((srK E D G9 d9 k σ t).1 ≠ 2 → PlAt I1 q (srK E D G9 d9 k σ t).2.1) ∧ I1 4 1 = nI (srK E D G9 d9 k σ t).2.2 ∧ L = L1 ∧ R = R1)) : MTi l G bs cy MX8_placeFrom (8 + d) [.ref (bs + 4), .ref (bs + β), .ref (bs + q), .int (nI k)] I L R (fun r I1 L1 R1 => cdI (srK E D G9 d k σ t).1 = r ∧ Fr (SPf q) I I1 ∧ ((srK E D G9 d k σ t).1 ≠ 2 → PlAt I1 q (srK E D G9 d k σ t).2.1) ∧ I1 4 1 = nI (srK E D G9 d k σ t).2.2 ∧ L = L1 ∧ R = R1) := by
  refine MTi.of (own := RX8) pn_RX8 rfl (Nat.le_of_ble_eq_true rfl) ?_
  intro p e s m args below meth c Qf X hW hS fin ls hl
  have hx := X.1
  have hb := X.2.1
  have hR : RmOK (rmL (8 + d) 0 0) (8 + d) := ⟨rfl, rfl⟩
  have hcs : 0 ≤ (rmL (8 + d) 0 0).cells ∧ 0 ≤ (rmL (8 + d) 0 0).slots := ⟨Nat.zero_le _, Nat.zero_le _⟩
  have hl : lv_has ls 9 [(0, .ref (bs + 4)), (1, .ref (bs + β)), (2, .ref (bs + q)), (3, .int (nI k))] := hl
  have hF : Fr (SPf q) I I := Fr.rf
  obtain ⟨hY, hY1, hY12, hLn, hL4, hSn, hS12, hGn, hG5⟩ := id hi
  have hbq := br_pl hβ hq
  refine lv_iload_n hx hb (dg D_X8_placeFrom (i := 0) rfl) rfl (lv_at hl 3 rfl) ?_
  refine lv_aload_n hx hb (dg D_X8_placeFrom (i := 1) rfl) rfl (lv_at hl 0 rfl) ?_
  refine r_getc (t := 5) X hW FI_X8_12 rfl (by decide) rfl (dg D_X8_placeFrom (i := 2) rfl) ?_
  refine callVi X hW hS hR (c_X7_size (I := I) 5 (k + d) (Or.inr (Or.inl rfl)) (by first | assumption | omega | decide | exact hP.1)) (by omega) UVX7_size LK_X8_49 rfl (by decide) rfl rfl rfl (Nat.le_of_ble_eq_true rfl) hl hcs (dg D_X8_placeFrom (i := 3) rfl) (fun r5 I5 L1 R1 H locs hq hW hS => ?_)
  obtain ⟨rfl, rfl, rfl, rfl⟩ := hq
  refine n_icmp_lt (tgt := 13) hx hb (by omega) (by omega) (dg D_X8_placeFrom (i := 4) rfl) (by decide) (fun c8 => ?_) (fun c8 => ?_)
  · obtain ⟨d9, hd9⟩ : ∃ d9, d = d9 + 1 := ⟨d - 1, by omega⟩
    obtain ⟨hEk, hDk⟩ := hED k (by omega)
    have hF9 : ∀ (σ : Row) t, t ≤ 20000 → ((fun σ t => srK E D G9 d9 (k + 1) σ t) σ t).2.2 ≤ 20000 := fun σ t h => srK_le d9 (k + 1) σ t h
    have huk : UX σ (E k) := hux k (Nat.le_refl _) (by omega)
    refine lv_aload_n hx hb (dg D_X8_placeFrom (i := 7) rfl) rfl (lv_at hl 0 rfl) ?_
    refine r_getc (t := 5) X hW FI_X8_12 rfl (by decide) rfl (dg D_X8_placeFrom (i := 8) rfl) ?_
    refine lv_iload_n hx hb (dg D_X8_placeFrom (i := 9) rfl) rfl (lv_at hl 3 rfl) ?_
    refine callVi X hW hS hR (c_X7_spanAt (I := I) 5 (k + d) (fun i => kN (D i) 0 (E i)) k (Or.inr (Or.inl rfl)) (hKr) (by first | assumption | omega | decide | exact hP.1) (by first | assumption | omega | decide | exact hP.1)) (by omega) UVX7_spanAt LK_X8_53 rfl (by decide) rfl rfl rfl (Nat.le_of_ble_eq_true rfl) hl hcs (dg D_X8_placeFrom (i := 10) rfl) (fun r18 I18 L1 R1 H locs hq hW hS => ?_)
    obtain ⟨rfl, rfl, rfl, rfl⟩ := hq
    rw [show nI ((fun i => kN (D i) 0 (E i)) k % 16) = nI (E k) from congrArg nI (kN_x (by omega))]
    refine lv_istore (lv' := [(4, .int (nI (E k))), (0, .ref (bs + 4)), (1, .ref (bs + β)), (2, .ref (bs + q)), (3, .int (nI k))]) hx hb (dg D_X8_placeFrom (i := 11) rfl) hl (by decide) rfl (fun ls hl => ?_)
    refine lv_aload_n hx hb (dg D_X8_placeFrom (i := 12) rfl) rfl (lv_at hl 1 rfl) ?_
    refine r_getc (t := 5) X hW FI_X8_12 rfl (by decide) rfl (dg D_X8_placeFrom (i := 13) rfl) ?_
    refine lv_iload_n hx hb (dg D_X8_placeFrom (i := 14) rfl) rfl (lv_at hl 4 rfl) ?_
    refine callVi X hW hS hR (c_X7_yearAt (I := I) 5 (k + d) (fun i => kN (D i) 0 (E i)) k (Or.inr (Or.inl rfl)) (hKr) (by first | assumption | omega | decide | exact hP.1) (by first | assumption | omega | decide | exact hP.1) (kN_b (by omega) (by omega))) (by omega) UVX7_yearAt LK_X8_56 rfl (by decide) rfl rfl rfl (Nat.le_of_ble_eq_true rfl) hl hcs (dg D_X8_placeFrom (i := 15) rfl) (fun r28 I28 L1 R1 H locs hq hW hS => ?_)
    obtain ⟨rfl, rfl, rfl, rfl⟩ := hq
    rw [show nI ((fun i => kN (D i) 0 (E i)) k / 2048) = nI (D k) from congrArg nI (kN_f (by omega) (Nat.zero_le _))]
    refine lv_istore (lv' := [(5, .int (nI (D k))), (4, .int (nI (E k))), (0, .ref (bs + 4)), (1, .ref (bs + β)), (2, .ref (bs + q)), (3, .int (nI k))]) hx hb (dg D_X8_placeFrom (i := 16) rfl) hl (by decide) rfl (fun ls hl => ?_)
    refine n_iconst (a := 0) hx hb (dg D_X8_placeFrom (i := 17) rfl) rfl ?_
    refine lv_istore (lv' := [(6, .int (nI 0)), (5, .int (nI (D k))), (4, .int (nI (E k))), (0, .ref (bs + 4)), (1, .ref (bs + β)), (2, .ref (bs + q)), (3, .int (nI k))]) hx hb (dg D_X8_placeFrom (i := 18) rfl) hl (by decide) rfl (fun ls hl => ?_)
    have loop36 := up_ind (P := fun y => ∀ (K36 : CI) (H : Heap) (locs : List Loc) (ls : Array Slot) (v6 : Int32), v6 = nI y → (Fr (SPf q) I K36) → (BrAt K36 β σ) → (PlAt K36 q σ) → (rowP K36 6 (k + d) (fun i => nI (kN (D i) 0 (E i)))) → (K36 5 1 = nI (k + d)) → (K36 4 1 = nI (syL (fun σ t => srK E D G9 d9 (k + 1) σ t) (E k) G9 (0, σ, t) y).2.2) → ((syL (fun σ t => srK E D G9 d9 (k + 1) σ t) (E k) G9 (0, σ, t) y).1 = 0) → Wd G bs cy K36 L R H → va_S (Aq bs) s.heap H locs → lv_has ls 9 [(0, .ref (bs + 4)), (1, .ref (bs + β)), (2, .ref (bs + q)), (3, .int (nI k)), (4, .int (nI (E k))), (5, .int (nI (D k))), (6, .int v6)] → W p l e (rmL (8 + d) 0 0) s m args below meth c H locs 0 0 Qf (F0 m 36 ls [])) (D k + 1) (fun y hx36 ih36 => by
        intro K36 H locs ls v6 q6 hF hB hP hKr hsz htr hc hW hS hl
        subst q6
        obtain ⟨r9, hr9⟩ : ∃ r9, r9 = syL (fun σ t => srK E D G9 d9 (k + 1) σ t) (E k) G9 (0, σ, t) y := ⟨_, rfl⟩
        have hr1 : r9.2.1 = σ := by rw [hr9]; exact (syL_row y hc).2
        have hr2 : r9.2.2 ≤ 20000 := by rw [hr9]; exact syL_le hF9 ht8 y
        rw [← hr9] at hc htr
        refine lv_iload hx hb (dg D_X8_placeFrom (i := 19) rfl) (lv_at hl 6 rfl) ?_
        refine lv_iload hx hb (dg D_X8_placeFrom (i := 20) rfl) (lv_at hl 5 rfl) ?_
        refine n_icmp_gt (tgt := 156) hx hb (by omega) (by omega) (dg D_X8_placeFrom (i := 21) rfl) (by decide) (fun c40 => ?_) (fun c40 => ?_)
        · refine n_iconst (a := 0) hx hb (dg D_X8_placeFrom (i := 79) rfl) rfl ?_
          have hsr : srK E D G9 d k σ t = syL (fun σ t => srK E D G9 d9 (k + 1) σ t) (E k) G9 (0, σ, t) (D k + 1) := by rw [hd9]; rfl
          have hyD : y = D k + 1 := by omega
          rw [hyD] at hr9
          rw [← hr9] at hsr
          exact fin (dg D_X8_placeFrom (i := 80) rfl) hW hS ⟨by rw [hsr, hc]; rfl, hF, fun _ => by rw [hsr, hr1]; exact hP, by rw [hsr]; exact htr, rfl, rfl⟩
        · refine n_iconst (a := 0) hx hb (dg D_X8_placeFrom (i := 22) rfl) rfl ?_
          refine lv_istore (lv' := [(7, .int (nI 0)), (0, .ref (bs + 4)), (1, .ref (bs + β)), (2, .ref (bs + q)), (3, .int (nI k)), (4, .int (nI (E k))), (5, .int (nI (D k))), (6, .int (nI y))]) hx hb (dg D_X8_placeFrom (i := 23) rfl) hl (by decide) rfl (fun ls hl => ?_)
          have loop46 := up_ind (P := fun g => ∀ (K46 : CI) (H : Heap) (locs : List Loc) (ls : Array Slot) (v7 : Int32), v7 = nI g → (Fr (SPf q) I K46) → (BrAt K46 β σ) → (PlAt K46 q σ) → (rowP K46 6 (k + d) (fun i => nI (kN (D i) 0 (E i)))) → (K46 5 1 = nI (k + d)) → (K46 4 1 = nI (sgL (fun σ t => srK E D G9 d9 (k + 1) σ t) (E k) y r9 g).2.2) → ((sgL (fun σ t => srK E D G9 d9 (k + 1) σ t) (E k) y r9 g).1 = 0) → Wd G bs cy K46 L R H → va_S (Aq bs) s.heap H locs → lv_has ls 9 [(0, .ref (bs + 4)), (1, .ref (bs + β)), (2, .ref (bs + q)), (3, .int (nI k)), (4, .int (nI (E k))), (5, .int (nI (D k))), (6, .int (nI y)), (7, .int v7)] → W p l e (rmL (8 + d) 0 0) s m args below meth c H locs 0 0 Qf (F0 m 46 ls [])) G9 (fun g hx46 ih46 => by
              intro K46 H locs ls v7 q7 hF hB hP hKr hsz htr hc2 hW hS hl
              subst q7
              obtain ⟨q9, hq9⟩ : ∃ q9, q9 = sgL (fun σ t => srK E D G9 d9 (k + 1) σ t) (E k) y r9 g := ⟨_, rfl⟩
              have hq1 : q9.2.1 = σ := by rw [hq9]; exact ((sgL_row g hc2).2).trans hr1
              have hq2 : q9.2.2 ≤ 20000 := by rw [hq9]; exact sgL_le hF9 hr2 g
              rw [← hq9] at hc2 htr
              refine lv_iload hx hb (dg D_X8_placeFrom (i := 24) rfl) (lv_at hl 7 rfl) ?_
              refine lv_aload_n hx hb (dg D_X8_placeFrom (i := 25) rfl) rfl (lv_at hl 1 rfl) ?_
              refine rn_geti (v := nI (nG σ)) X hW FN_X8_59 (shB hβ) (ncB0 hβ) rfl (hB.c5 hi) (dg D_X8_placeFrom (i := 26) rfl) ?_
              refine n_icmp_ge (tgt := 150) hx hb (by omega) (by omega) (dg D_X8_placeFrom (i := 27) rfl) (by decide) (fun c52 => ?_) (fun c52 => ?_)
              · refine lv_iinc (v := nI (y + 1)) (lv' := [(6, .int (nI (y + 1))), (0, .ref (bs + 4)), (1, .ref (bs + β)), (2, .ref (bs + q)), (3, .int (nI k)), (4, .int (nI (E k))), (5, .int (nI (D k))), (7, .int (nI g))]) hx hb (dg D_X8_placeFrom (i := 77) rfl) hl (k := 6) rfl (nI_add _ _) (by decide) rfl (fun ls hl => ?_)
                refine lv_goto (tgt := 36) hx hb (dg D_X8_placeFrom (i := 78) rfl) (by decide) ?_
                exact ih36 (by omega) K46 _ _ _ _ (congrArg nI (by omega)) hF hB hP hKr hsz (by rw [show g = G9 by omega] at hq9; show _ = nI (sgL _ _ y (syL (fun σ t => srK E D G9 d9 (k + 1) σ t) (E k) G9 (0, σ, t) y) G9).2.2; rw [← hr9, ← hq9]; exact htr) (by rw [show g = G9 by omega] at hq9; show (sgL _ _ y (syL (fun σ t => srK E D G9 d9 (k + 1) σ t) (E k) G9 (0, σ, t) y) G9).1 = 0; rw [← hr9, ← hq9]; exact hc2) hW hS (lv_sub hl [1, 2, 3, 4, 5, 6, 0] rfl)
              · refine lv_aload_n hx hb (dg D_X8_placeFrom (i := 28) rfl) rfl (lv_at hl 0 rfl) ?_
                refine r_geti (v := nI q9.2.2) X hW FI_X8_18 rfl (by decide) rfl htr (dg D_X8_placeFrom (i := 29) rfl) ?_
                refine lv_sipush (v := nI 20000) hx hb (dg D_X8_placeFrom (i := 30) rfl) (by decide) ?_
                refine n_icmp_lt (tgt := 68) hx hb (by omega) (by omega) (dg D_X8_placeFrom (i := 31) rfl) (by decide) (fun c62 => ?_) (fun c62 => ?_)
                · have hne2 : ¬ q9.2.2 = 20000 := by omega
                  refine lv_aload_n hx hb (dg D_X8_placeFrom (i := 34) rfl) rfl (lv_at hl 0 rfl) ?_
                  refine lv_dup hx hb (dg D_X8_placeFrom (i := 35) rfl) rfl ?_
                  refine r_geti (v := nI q9.2.2) X hW FI_X8_18 rfl (by decide) rfl htr (dg D_X8_placeFrom (i := 36) rfl) ?_
                  refine n_iconst (a := 1) hx hb (dg D_X8_placeFrom (i := 37) rfl) rfl ?_
                  refine n_iadd hx hb (dg D_X8_placeFrom (i := 38) rfl) ?_
                  refine r_puti (v := nI (q9.2.2 + 1)) (ty := .int) X hW hS FI_X8_18 rfl (by decide) rfl rfl (by decide +kernel) rfl rfl (dg D_X8_placeFrom (i := 39) rfl) (fun H locs hW hS => ?_)
                  have hF : Fr (SPf q) I (u2 K46 4 1 (nI (q9.2.2 + 1))) := Fr.put hF SPf_4
                  have hB : BrAt (u2 K46 4 1 (nI (q9.2.2 + 1))) β σ := BrAt.pu hB (by omega)
                  have hP : PlAt (u2 K46 4 1 (nI (q9.2.2 + 1))) q σ := PlAt.pu hP (by omega)
                  have hKr : rowP (u2 K46 4 1 (nI (q9.2.2 + 1))) 6 (k + d) (fun i => nI (kN (D i) 0 (E i))) := hKr.keep (by decide)
                  have hsz : (u2 K46 4 1 (nI (q9.2.2 + 1))) 5 1 = nI (k + d) := by rw [u2_off (by omega)]; exact hsz
                  obtain ⟨J75, eJ75⟩ : ∃ J, J = u2 K46 4 1 (nI (q9.2.2 + 1)) := ⟨_, rfl⟩
                  rw [← eJ75] at hW hF hB hP hKr hsz
                  have htr : J75 4 1 = nI (q9.2.2 + 1) := by rw [eJ75]; exact u2_at
                  refine lv_aload_n hx hb (dg D_X8_placeFrom (i := 40) rfl) rfl (lv_at hl 2 rfl) ?_
                  refine lv_iload hx hb (dg D_X8_placeFrom (i := 41) rfl) (lv_at hl 6 rfl) ?_
                  refine lv_iload hx hb (dg D_X8_placeFrom (i := 42) rfl) (lv_at hl 4 rfl) ?_
                  refine lv_iload hx hb (dg D_X8_placeFrom (i := 43) rfl) (lv_at hl 7 rfl) ?_
                  refine callVi X hW hS hR (c_X6_reasonAgainst (I := J75) σ β q y (E k) g (by first | assumption | omega | decide | exact hP.1) (by first | assumption | omega | decide | exact hP.1) (by first | assumption | omega | decide | exact hP.1) (by first | assumption | omega | decide | exact hP.1) (by first | assumption | omega | decide | exact hP.1) (by first | assumption | omega | decide | exact hP.1) (by first | assumption | omega | decide | exact hP.1) (by first | assumption | omega | decide | exact hP.1) (by first | assumption | omega | decide | exact hP.1) (by first | assumption | omega | decide | exact hP.1)) (by omega) UVX6_reasonAgainst LK_X8_63 (shP hq) (ncP0 hq) rfl rfl rfl (Nat.le_of_ble_eq_true rfl) hl hcs (dg D_X8_placeFrom (i := 44) rfl) (fun r85 I85 L1 R1 H locs hq hW hS => ?_)
                  obtain ⟨rfl, rfl, rfl, rfl⟩ := hq
                  refine lv_if_ne (tgt := 144) hx hb (dg D_X8_placeFrom (i := 45) rfl) (by decide) (fun c88 => ?_) (fun c88 => ?_)
                  · refine lv_iinc (v := nI (g + 1)) (lv' := [(7, .int (nI (g + 1))), (0, .ref (bs + 4)), (1, .ref (bs + β)), (2, .ref (bs + q)), (3, .int (nI k)), (4, .int (nI (E k))), (5, .int (nI (D k))), (6, .int (nI y))]) hx hb (dg D_X8_placeFrom (i := 75) rfl) hl (k := 7) rfl (nI_add _ _) (by decide) rfl (fun ls hl => ?_)
                    refine lv_goto (tgt := 46) hx hb (dg D_X8_placeFrom (i := 76) rfl) (by decide) ?_
                    have hst : sgL (fun σ t => srK E D G9 d9 (k + 1) σ t) (E k) y r9 (g + 1) = (0, σ, q9.2.2 + 1) := by show sgS _ _ _ g (sgL _ _ _ r9 g) = _; rw [← hq9, sgS_no hc2 hne2 (by rw [hq1]; exact fun z => c88 (of_decide_eq_true z).1), hq1]
                    exact ih46 (by omega) J75 _ _ _ _ (congrArg nI (by omega)) hF hB hP hKr hsz (by rw [hst]; exact htr) (by rw [hst]) hW hS (lv_sub hl [1, 2, 3, 4, 5, 6, 7, 0] rfl)
                  · have h88 : rfs σ y (E k) g = 0 := by first | exact c88 | exact Classical.not_not.mp c88
                    refine lv_aload_n hx hb (dg D_X8_placeFrom (i := 46) rfl) rfl (lv_at hl 2 rfl) ?_
                    refine lv_iload hx hb (dg D_X8_placeFrom (i := 47) rfl) (lv_at hl 6 rfl) ?_
                    refine lv_iload hx hb (dg D_X8_placeFrom (i := 48) rfl) (lv_at hl 4 rfl) ?_
                    refine lv_iload hx hb (dg D_X8_placeFrom (i := 49) rfl) (lv_at hl 7 rfl) ?_
                    refine callVv X hW hS hR (cP_X6_put (I := J75) σ β q y (E k) (nI g) (by first | assumption | omega | decide | exact hP.1) (by first | assumption | omega | decide | exact hP.1) (by first | assumption | omega | decide | exact hP.1) (by first | assumption | omega | decide | exact hP.1) (by first | assumption | omega | decide | exact hP.1) (by first | assumption | omega | decide | exact hP.1) (by first | assumption | omega | decide | exact hP.1) (by first | assumption | omega | decide | exact hP.1) (by first | assumption | omega | decide | exact hP.1)) (by omega) UVX6_put LK_X8_67 (shP hq) (ncP0 hq) rfl rfl rfl (Nat.le_of_ble_eq_true rfl) hl hcs (dg D_X8_placeFrom (i := 50) rfl) (fun I98 L1 R1 H locs hq hW hS => ?_)
                    obtain ⟨hT98, hp98_0, rfl, rfl⟩ := hq
                    have hF : Fr (SPf q) I I98 := Fr.tr hF hT98 (by intro a j h; simp only [SPu, SPf, Bool.or_eq_true, Bool.and_eq_true, beq_iff_eq, decide_eq_true_eq] at h ⊢; omega)
                    have hB : BrAt I98 β σ := BrAt.fr hB hT98 (fun a j h1 h2 => Bool.eq_false_iff.mpr (fun h => by simp only [SPu, Bool.or_eq_true, Bool.and_eq_true, beq_iff_eq, decide_eq_true_eq] at h; omega))
                    have hP : PlAt I98 q (setP σ (E k) y (nI g)) := hp98_0
                    have hKr : rowP I98 6 (k + d) (fun i => nI (kN (D i) 0 (E i))) := hKr.fr hT98 (fun j => (Bool.eq_false_iff.mpr (fun h => by simp only [SPu, Bool.or_eq_true, Bool.and_eq_true, beq_iff_eq, decide_eq_true_eq] at h; omega)))
                    have hsz : I98 5 1 = nI (k + d) := (hT98 5 1 (Bool.eq_false_iff.mpr (fun h => by simp only [SPu, Bool.or_eq_true, Bool.and_eq_true, beq_iff_eq, decide_eq_true_eq] at h; omega))).trans hsz
                    have htr : I98 4 1 = nI (q9.2.2 + 1) := (hT98 4 1 (SPu_in.no (by omega) _)).trans htr
                    refine lv_aload_n hx hb (dg D_X8_placeFrom (i := 51) rfl) rfl (lv_at hl 2 rfl) ?_
                    refine lv_iload hx hb (dg D_X8_placeFrom (i := 52) rfl) (lv_at hl 4 rfl) ?_
                    refine callVi X hW hS hR (c_X6_firstPast (I := I98) (setP σ (E k) y (nI g)) β q (E k) (Inv_setP hi) (by first | assumption | omega | decide | exact hP.1) (BrAt_Sm hB Sm_setP hi) (by first | assumption | omega | decide | exact hP.1) (by first | assumption | omega | decide | exact hP.1) (by first | assumption | omega | decide | exact hP.1) (by rw [nS_setP]; exact hEk)) (by omega) UVX6_firstPast LK_X8_36 (shP hq) (ncP0 hq) rfl rfl rfl (Nat.le_of_ble_eq_true rfl) hl hcs (dg D_X8_placeFrom (i := 53) rfl) (fun r104 I104 L1 R1 H locs hq hW hS => ?_)
                    obtain ⟨rfl, rfl, rfl, rfl⟩ := hq
                    rw [show fp (setP σ (E k) y (nI g)) (E k) = fpB σ (E k) (bitB (nI 1 <<< (nI y &&& 31))) from (fp_one hY12 (by omega) (by omega) (by omega) huk)]
                    refine r_ldc X CK_X8_40 (dg D_X8_placeFrom (i := 54) rfl) ?_
                    refine lv_icmp_ne (tgt := 124) hx hb (dg D_X8_placeFrom (i := 55) rfl) (by decide) (fun c109 => ?_) (fun c109 => ?_)
                    · refine n_iconst (a := 0) hx hb (dg D_X8_placeFrom (i := 64) rfl) rfl ?_
                      refine lv_istore (lv' := [(8, .int (nI 0)), (0, .ref (bs + 4)), (1, .ref (bs + β)), (2, .ref (bs + q)), (3, .int (nI k)), (4, .int (nI (E k))), (5, .int (nI (D k))), (6, .int (nI y)), (7, .int (nI g))]) hx hb (dg D_X8_placeFrom (i := 65) rfl) hl (by decide) rfl (fun ls hl => ?_)
                      refine lv_iload hx hb (dg D_X8_placeFrom (i := 66) rfl) (lv_at hl 0 rfl) ?_
                      refine n_if_eq (tgt := 135) hx hb (by omega) (dg D_X8_placeFrom (i := 67) rfl) (by decide) (fun c129 => ?_) (fun c129 => ?_)
                      · refine lv_aload_n hx hb (dg D_X8_placeFrom (i := 70) rfl) rfl (lv_at hl 3 rfl) ?_
                        refine lv_iload hx hb (dg D_X8_placeFrom (i := 71) rfl) (lv_at hl 7 rfl) ?_
                        refine lv_iload hx hb (dg D_X8_placeFrom (i := 72) rfl) (lv_at hl 5 rfl) ?_
                        refine lv_iconst (v := -1) hx hb (dg D_X8_placeFrom (i := 73) rfl) (by decide) ?_
                        refine callVv X hW hS hR (cP_X6_put (I := I98) (setP σ (E k) y (nI g)) β q y (E k) ((-1)) (Inv_setP hi) (by first | assumption | omega | decide | exact hP.1) (BrAt_Sm hB Sm_setP hi) (by first | assumption | omega | decide | exact hP.1) (by first | assumption | omega | decide | exact hP.1) (by first | assumption | omega | decide | exact hP.1) (by rw [nS_setP]; exact hEk) (by first | assumption | omega | decide | exact hP.1) (by first | assumption | omega | decide | exact hP.1)) (by omega) UVX6_put LK_X8_67 (shP hq) (ncP0 hq) rfl rfl rfl (Nat.le_of_ble_eq_true rfl) hl hcs (dg D_X8_placeFrom (i := 74) rfl) (fun I141 L1 R1 H locs hq hW hS => ?_)
                        obtain ⟨hT141, hp141_0, rfl, rfl⟩ := hq
                        have hF : Fr (SPf q) I I141 := Fr.tr hF hT141 (by intro a j h; simp only [SPu, SPf, Bool.or_eq_true, Bool.and_eq_true, beq_iff_eq, decide_eq_true_eq] at h ⊢; omega)
                        have hB : BrAt I141 β σ := BrAt.fr hB hT141 (fun a j h1 h2 => Bool.eq_false_iff.mpr (fun h => by simp only [SPu, Bool.or_eq_true, Bool.and_eq_true, beq_iff_eq, decide_eq_true_eq] at h; omega))
                        have hP : PlAt I141 q σ := by have h := hp141_0; rw [setP_un rfl (huk y (by omega))] at h; exact h
                        have hKr : rowP I141 6 (k + d) (fun i => nI (kN (D i) 0 (E i))) := hKr.fr hT141 (fun j => (Bool.eq_false_iff.mpr (fun h => by simp only [SPu, Bool.or_eq_true, Bool.and_eq_true, beq_iff_eq, decide_eq_true_eq] at h; omega)))
                        have hsz : I141 5 1 = nI (k + d) := (hT141 5 1 (Bool.eq_false_iff.mpr (fun h => by simp only [SPu, Bool.or_eq_true, Bool.and_eq_true, beq_iff_eq, decide_eq_true_eq] at h; omega))).trans hsz
                        have htr : I141 4 1 = nI (q9.2.2 + 1) := (hT141 4 1 (SPu_in.no (by omega) _)).trans htr
                        refine lv_iinc (v := nI (g + 1)) (lv' := [(7, .int (nI (g + 1))), (8, .int (nI 0)), (0, .ref (bs + 4)), (1, .ref (bs + β)), (2, .ref (bs + q)), (3, .int (nI k)), (4, .int (nI (E k))), (5, .int (nI (D k))), (6, .int (nI y))]) hx hb (dg D_X8_placeFrom (i := 75) rfl) hl (k := 8) rfl (nI_add _ _) (by decide) rfl (fun ls hl => ?_)
                        refine lv_goto (tgt := 46) hx hb (dg D_X8_placeFrom (i := 76) rfl) (by decide) ?_
                        have hst : sgL (fun σ t => srK E D G9 d9 (k + 1) σ t) (E k) y r9 (g + 1) = (0, σ, q9.2.2 + 1) := by show sgS _ _ _ g (sgL _ _ _ r9 g) = _; rw [← hq9, sgS_no hc2 hne2 (by rw [hq1]; exact fun z => c109 (of_decide_eq_true z).2), hq1]
                        exact ih46 (by omega) I141 _ _ _ _ (congrArg nI (by omega)) hF hB hP hKr hsz (by rw [hst]; exact htr) (by rw [hst]) hW hS (lv_sub hl [2, 3, 4, 5, 6, 7, 8, 0] rfl)
                      · exact absurd c129 (by decide)
                    · have h109 : fpB σ (E k) (bitB (nI 1 <<< (nI y &&& 31))) = NOTF := by first | exact c109 | exact Classical.not_not.mp c109
                      obtain ⟨p9, hp9⟩ : ∃ p9, p9 = srK E D G9 d9 (k + 1) (setP σ (E k) y (nI g)) (q9.2.2 + 1) := ⟨_, rfl⟩
                      have hsc : sgC q9.2.1 (E k) y g = true := by rw [hq1]; exact decide_eq_true (And.intro h88 h109)
                      have hp2 : p9.1 ≤ 2 := by rw [hp9]; exact srK_c2 d9 (k + 1) _ _
                      have hp3 : p9.1 = 0 → p9.2.1 = setP σ (E k) y (nI g) := by rw [hp9]; exact srK_row d9 (k + 1) _ _
                      have hsi : ¬ p9.1 = 0 → srK E D G9 d k σ t = p9 := fun hz => sr_end (E := E) (D := D) (G := G9) (k := k) (y := y) (g := g) (v := p9) hd9 (by omega) (by omega) (by rw [← hr9]; show sgS _ _ _ g (sgL _ _ _ r9 g) = _; rw [← hq9, sgS_in hc2 hne2 hsc (by rw [hq1, ← hp9]; exact hz), hq1, hp9]) hz
                      refine lv_aload_n hx hb (dg D_X8_placeFrom (i := 56) rfl) rfl (lv_at hl 0 rfl) ?_
                      refine lv_aload_n hx hb (dg D_X8_placeFrom (i := 57) rfl) rfl (lv_at hl 1 rfl) ?_
                      refine lv_aload_n hx hb (dg D_X8_placeFrom (i := 58) rfl) rfl (lv_at hl 2 rfl) ?_
                      refine lv_iload_n hx hb (dg D_X8_placeFrom (i := 59) rfl) rfl (lv_at hl 3 rfl) ?_
                      refine n_iconst (a := 1) hx hb (dg D_X8_placeFrom (i := 60) rfl) rfl ?_
                      refine n_iadd hx hb (dg D_X8_placeFrom (i := 61) rfl) ?_
                      refine callSi X hW hS hR (ihS d9 hd9 (I := I98) (setP σ (E k) y (nI g)) β q E D G9 (k + 1) (q9.2.2 + 1) (Inv_setP hi) (DR_setP hi hd hEk (by omega) (by omega)) (by first | assumption | omega | decide | exact hP.1) (BrAt_Sm hB Sm_setP hi) (by first | assumption | omega | decide | exact hP.1) (by first | assumption | omega | decide | exact hP.1) (by first | assumption | omega | decide | exact hP.1) (by rw [nG_setP]; exact hG9) (by rw [hsz]; exact congrArg nI (by omega)) (by rw [show k + 1 + d9 = k + d by omega]; exact hKr) (fun i hi9 => by rw [nS_setP, Yn_setP]; exact hED i (by omega)) (fun i j h1 h2 e => hEi i j (by omega) (by omega) e) (fun i h1 h2 => UX_setP (by omega) (by have := hED i (by omega); omega) (fun z => by have := hEi i k (by omega) (by omega) z; omega) (hux i (by omega) (by omega))) (by first | assumption | omega | decide | exact hP.1) (by first | assumption | omega | decide | exact hP.1) (by first | assumption | omega | decide | exact hP.1)) (by omega) USX8_placeFrom LK_X8_45 rfl rfl (Nat.le_of_ble_eq_true rfl) hl hcs (dg D_X8_placeFrom (i := 62) rfl) (fun r118 I118 L1 R1 H locs hq hW hS => ?_)
                      obtain ⟨rfl, hT118, hp118_0, hp118_1, rfl, rfl⟩ := hq
                      rw [show cdI (srK E D G9 d9 (k + 1) (setP σ (E k) y (nI g)) (q9.2.2 + 1)).1 = cdI p9.1 from by rw [hp9]]
                      have hF : Fr (SPf q) I I118 := Fr.tr hF hT118 (fun _ _ h => h)
                      have hB : BrAt I118 β σ := BrAt.fr hB hT118 (fun a j h1 h2 => Bool.eq_false_iff.mpr (fun h => by simp only [SPf, Bool.or_eq_true, Bool.and_eq_true, beq_iff_eq, decide_eq_true_eq] at h; omega))
                      have hKr : rowP I118 6 (k + d) (fun i => nI (kN (D i) 0 (E i))) := hKr.fr hT118 (fun j => (Bool.eq_false_iff.mpr (fun h => by simp only [SPf, Bool.or_eq_true, Bool.and_eq_true, beq_iff_eq, decide_eq_true_eq] at h; omega)))
                      have hsz : I118 5 1 = nI (k + d) := (hT118 5 1 (Bool.eq_false_iff.mpr (fun h => by simp only [SPf, Bool.or_eq_true, Bool.and_eq_true, beq_iff_eq, decide_eq_true_eq] at h; omega))).trans hsz
                      have htr : I118 4 1 = nI p9.2.2 := by rw [hp9]; exact hp118_1
                      have hP9 : p9.1 ≠ 2 → PlAt I118 q p9.2.1 := by rw [hp9]; exact hp118_0
                      refine lv_goto (tgt := 125) hx hb (dg D_X8_placeFrom (i := 63) rfl) (by decide) ?_
                      refine lv_istore (lv' := [(8, .int (cdI p9.1)), (0, .ref (bs + 4)), (1, .ref (bs + β)), (2, .ref (bs + q)), (3, .int (nI k)), (4, .int (nI (E k))), (5, .int (nI (D k))), (6, .int (nI y)), (7, .int (nI g))]) hx hb (dg D_X8_placeFrom (i := 65) rfl) hl (by decide) rfl (fun ls hl => ?_)
                      refine lv_iload hx hb (dg D_X8_placeFrom (i := 66) rfl) (lv_at hl 0 rfl) ?_
                      refine lv_if_eq (tgt := 135) hx hb (dg D_X8_placeFrom (i := 67) rfl) (by decide) (fun c129 => ?_) (fun c129 => ?_)
                      · have hz0 : p9.1 = 0 := cdI_0 c129 hp2
                        have hP : PlAt I118 q (setP σ (E k) y (nI g)) := by rw [← hp3 hz0]; exact hP9 (by omega)
                        refine lv_aload_n hx hb (dg D_X8_placeFrom (i := 70) rfl) rfl (lv_at hl 3 rfl) ?_
                        refine lv_iload hx hb (dg D_X8_placeFrom (i := 71) rfl) (lv_at hl 7 rfl) ?_
                        refine lv_iload hx hb (dg D_X8_placeFrom (i := 72) rfl) (lv_at hl 5 rfl) ?_
                        refine lv_iconst (v := -1) hx hb (dg D_X8_placeFrom (i := 73) rfl) (by decide) ?_
                        refine callVv X hW hS hR (cP_X6_put (I := I118) (setP σ (E k) y (nI g)) β q y (E k) ((-1)) (Inv_setP hi) (by first | assumption | omega | decide | exact hP.1) (BrAt_Sm hB Sm_setP hi) (by first | assumption | omega | decide | exact hP.1) (by first | assumption | omega | decide | exact hP.1) (by first | assumption | omega | decide | exact hP.1) (by rw [nS_setP]; exact hEk) (by first | assumption | omega | decide | exact hP.1) (by first | assumption | omega | decide | exact hP.1)) (by omega) UVX6_put LK_X8_67 (shP hq) (ncP0 hq) rfl rfl rfl (Nat.le_of_ble_eq_true rfl) hl hcs (dg D_X8_placeFrom (i := 74) rfl) (fun I141 L1 R1 H locs hq hW hS => ?_)
                        obtain ⟨hT141, hp141_0, rfl, rfl⟩ := hq
                        have hF : Fr (SPf q) I I141 := Fr.tr hF hT141 (by intro a j h; simp only [SPu, SPf, Bool.or_eq_true, Bool.and_eq_true, beq_iff_eq, decide_eq_true_eq] at h ⊢; omega)
                        have hB : BrAt I141 β σ := BrAt.fr hB hT141 (fun a j h1 h2 => Bool.eq_false_iff.mpr (fun h => by simp only [SPu, Bool.or_eq_true, Bool.and_eq_true, beq_iff_eq, decide_eq_true_eq] at h; omega))
                        have hP : PlAt I141 q σ := by have h := hp141_0; rw [setP_un rfl (huk y (by omega))] at h; exact h
                        have hKr : rowP I141 6 (k + d) (fun i => nI (kN (D i) 0 (E i))) := hKr.fr hT141 (fun j => (Bool.eq_false_iff.mpr (fun h => by simp only [SPu, Bool.or_eq_true, Bool.and_eq_true, beq_iff_eq, decide_eq_true_eq] at h; omega)))
                        have hsz : I141 5 1 = nI (k + d) := (hT141 5 1 (Bool.eq_false_iff.mpr (fun h => by simp only [SPu, Bool.or_eq_true, Bool.and_eq_true, beq_iff_eq, decide_eq_true_eq] at h; omega))).trans hsz
                        have htr : I141 4 1 = nI p9.2.2 := (hT141 4 1 (SPu_in.no (by omega) _)).trans htr
                        refine lv_iinc (v := nI (g + 1)) (lv' := [(7, .int (nI (g + 1))), (8, .int (cdI p9.1)), (0, .ref (bs + 4)), (1, .ref (bs + β)), (2, .ref (bs + q)), (3, .int (nI k)), (4, .int (nI (E k))), (5, .int (nI (D k))), (6, .int (nI y))]) hx hb (dg D_X8_placeFrom (i := 75) rfl) hl (k := 8) rfl (nI_add _ _) (by decide) rfl (fun ls hl => ?_)
                        refine lv_goto (tgt := 46) hx hb (dg D_X8_placeFrom (i := 76) rfl) (by decide) ?_
                        have hst : sgL (fun σ t => srK E D G9 d9 (k + 1) σ t) (E k) y r9 (g + 1) = (0, σ, p9.2.2) := by show sgS _ _ _ g (sgL _ _ _ r9 g) = _; rw [← hq9, sgS_bk hc2 hne2 hsc (by rw [hq1, ← hp9]; exact hz0), hq1, ← hp9]
                        exact ih46 (by omega) I141 _ _ _ _ (congrArg nI (by omega)) hF hB hP hKr hsz (by rw [hst]; exact htr) (by rw [hst]) hW hS (lv_sub hl [2, 3, 4, 5, 6, 7, 8, 0] rfl)
                      · refine lv_iload hx hb (dg D_X8_placeFrom (i := 68) rfl) (lv_at hl 0 rfl) ?_
                        have hz1 := cdI_n c129
                        exact fin (dg D_X8_placeFrom (i := 69) rfl) hW hS ⟨by rw [hsi hz1], hF, fun z => by rw [hsi hz1] at z ⊢; exact hP9 z, by rw [hsi hz1]; exact htr, rfl, rfl⟩
                · have hst : sgL (fun σ t => srK E D G9 d9 (k + 1) σ t) (E k) y r9 (g + 1) = (2, σ, q9.2.2) := by show sgS _ _ _ g (sgL _ _ _ r9 g) = _; rw [← hq9, sgS_up hc2 (by omega), hq1]
                  have hsr : srK E D G9 d k σ t = (2, σ, q9.2.2) := sr_end (E := E) (D := D) (G := G9) (k := k) (y := y) (g := g) (v := (2, σ, q9.2.2)) hd9 (by omega) (by omega) (by rw [← hr9]; exact hst) (by show (2 : Nat) ≠ 0; decide)
                  refine r_ldc X CK_X8_62 (dg D_X8_placeFrom (i := 32) rfl) ?_
                  exact fin (dg D_X8_placeFrom (i := 33) rfl) hW hS ⟨by rw [hsr]; rfl, hF, fun z => absurd (by rw [hsr]) z, by rw [hsr]; exact htr, rfl, rfl⟩)
          exact loop46 0 (Nat.zero_le _) K36 _ _ _ _ (congrArg nI (by omega)) hF hB hP hKr hsz htr hc hW hS (lv_sub hl [1, 2, 3, 4, 5, 6, 7, 0] rfl))
    exact loop36 0 (Nat.zero_le _) I _ _ _ _ (congrArg nI (by omega)) hF hB hP hKr hsz htr rfl hW hS (lv_sub hl [3, 4, 5, 6, 2, 1, 0] rfl)
  · refine n_iconst (a := 1) hx hb (dg D_X8_placeFrom (i := 5) rfl) rfl ?_
    have hd0 : d = 0 := by omega
    subst hd0
    exact fin (dg D_X8_placeFrom (i := 6) rfl) hW hS ⟨rfl, hF, fun _ => hP, htr, rfl, rfl⟩

theorem a_X8_placeFrom {l : Launch} {G : va_G} {bs : Nat} {cy : Nat → ClassId} : ∀ (d : Nat) {I : CI} {L : CL} {R : CR} (σ : Row) (β : Nat) (q : Nat) (E : Nat → Nat) (D : Nat → Nat) (G9 : Nat) (k : Nat) (t : Nat) (hi : Inv σ) (hd : DR σ) (hβ : isBr β) (hB : BrAt I β σ) (hq : isPl q) (hP : PlAt I q σ) (hRb : R q 0 = β) (hG9 : nG σ = G9) (hsz : I 5 1 = nI (k + d)) (hKr : rowP I 6 (k + d) (fun i => nI (kN (D i) 0 (E i)))) (hED : ∀ i, i < k + d → E i < nS σ ∧ D i < Yn σ) (hEi : ∀ i j, i < k + d → j < k + d → E i = E j → i = j) (hux : ∀ i, k ≤ i → i < k + d → UX σ (E i)) (hkd : k + d ≤ 12) (htr : I 4 1 = nI t) (ht8 : t ≤ 20000), MTi l G bs cy MX8_placeFrom (8 + d) [.ref (bs + 4), .ref (bs + β), .ref (bs + q), .int (nI k)] I L R (fun r I1 L1 R1 => cdI (srK E D G9 d k σ t).1 = r ∧ Fr (SPf q) I I1 ∧ ((srK E D G9 d k σ t).1 ≠ 2 → PlAt I1 q (srK E D G9 d k σ t).2.1) ∧ I1 4 1 = nI (srK E D G9 d k σ t).2.2 ∧ L = L1 ∧ R = R1)
  | 0, _, _, _, σ, β, q, E, D, G9, k, t, hi, hd, hβ, hB, hq, hP, hRb, hG9, hsz, hKr, hED, hEi, hux, hkd, htr, ht8 => s_X8_placeFrom σ β q E D G9 0 k t hi hd hβ hB hq hP hRb hG9 hsz hKr hED hEi hux hkd htr ht8 (fun d9 h => absurd h (by omega))
  | d8 + 1, _, _, _, σ, β, q, E, D, G9, k, t, hi, hd, hβ, hB, hq, hP, hRb, hG9, hsz, hKr, hED, hEi, hux, hkd, htr, ht8 => s_X8_placeFrom σ β q E D G9 (d8 + 1) k t hi hd hβ hB hq hP hRb hG9 hsz hKr hED hEi hux hkd htr ht8 (fun d9 h => by
    have e : d9 = d8 := by omega
    rw [e]
    exact @a_X8_placeFrom l G bs cy d8)
theorem c_X8_placeFrom {l : Launch} {G : va_G} {bs : Nat} {cy : Nat → ClassId} {I : CI} {L : CL} {R : CR} (σ : Row) (β : Nat) (q : Nat) (E : Nat → Nat) (D : Nat → Nat) (G9 : Nat) (d : Nat) (k : Nat) (t : Nat) (hi : Inv σ) (hd : DR σ) (hβ : isBr β) (hB : BrAt I β σ) (hq : isPl q) (hP : PlAt I q σ) (hRb : R q 0 = β) (hG9 : nG σ = G9) (hsz : I 5 1 = nI (k + d)) (hKr : rowP I 6 (k + d) (fun i => nI (kN (D i) 0 (E i)))) (hED : ∀ i, i < k + d → E i < nS σ ∧ D i < Yn σ) (hEi : ∀ i j, i < k + d → j < k + d → E i = E j → i = j) (hux : ∀ i, k ≤ i → i < k + d → UX σ (E i)) (hkd : k + d ≤ 12) (htr : I 4 1 = nI t) (ht8 : t ≤ 20000) : MTi l G bs cy MX8_placeFrom (8 + d) [.ref (bs + 4), .ref (bs + β), .ref (bs + q), .int (nI k)] I L R (fun r I1 L1 R1 => cdI (srK E D G9 d k σ t).1 = r ∧ Fr (SPf q) I I1 ∧ ((srK E D G9 d k σ t).1 ≠ 2 → PlAt I1 q (srK E D G9 d k σ t).2.1) ∧ I1 4 1 = nI (srK E D G9 d k σ t).2.2 ∧ L = L1 ∧ R = R1) := a_X8_placeFrom d σ β q E D G9 k t hi hd hβ hB hq hP hRb hG9 hsz hKr hED hEi hux hkd htr ht8

set_option maxHeartbeats 4000000 in
set_option maxRecDepth 100000 in
theorem c_X8_makePlan {l : Launch} {G : va_G} {bs : Nat} {cy : Nat → ClassId} {I : CI} {L : CL} {R : CR} (σ : Row) (β : Nat) (q : Nat) (hi : Inv σ) (hd : DR σ) (hβ : isBr β) (hB : BrAt I β σ) (hq : isPl q) : MTi l G bs cy MX8_makePlan 21 [.ref (bs + 4), .ref (bs + β), .ref (bs + q)] I L R (fun r I1 L1 R1 => cdI (saR σ).1 = r ∧ Fr (SSp q) I I1 ∧ ((saR σ).1 ≠ 2 → PlAt I1 q (saR σ).2.1) ∧ I1 4 1 = nI (saR σ).2.2 ∧ L = L1 ∧ R1 = u2R R q 0 β) := by
  refine MTi.of (own := RX8) pn_RX8 rfl (Nat.le_of_ble_eq_true rfl) ?_
  intro p e s m args below meth c Qf X hW hS fin ls hl
  have hx := X.1
  have hb := X.2.1
  have hR : RmOK (rmL 21 0 0) 21 := ⟨rfl, rfl⟩
  have hcs : 0 ≤ (rmL 21 0 0).cells ∧ 0 ≤ (rmL 21 0 0).slots := ⟨Nat.zero_le _, Nat.zero_le _⟩
  have hl : lv_has ls 5 [(0, .ref (bs + 4)), (1, .ref (bs + β)), (2, .ref (bs + q))] := hl
  have hF : Fr (SSp q) I I := Fr.rf
  obtain ⟨hY, hY1, hY12, hLn, hL4, hSn, hS12, hGn, hG5⟩ := id hi
  have hbq := br_pl hβ hq
  have hiC : Inv (clP σ) := Sm_Inv Sm_cl hi
  have hdC : DR (clP σ) := Sm_DR Sm_cl hi hd PD_cl
  have hYC : Yn (clP σ) ≤ 12 := hiC.2.2.1
  have hSC : nS (clP σ) = nS σ := Sm_cl.S
  have hMC : enM (clP σ) ≤ nS (clP σ) := enM_le _
  refine lv_aload_n hx hb (dg D_X8_makePlan (i := 0) rfl) rfl (lv_at hl 2 rfl) ?_
  refine lv_aload_n hx hb (dg D_X8_makePlan (i := 1) rfl) rfl (lv_at hl 1 rfl) ?_
  refine callVv X hW hS hR (c_X6_start (I := I) σ β q (by first | assumption | omega | decide | exact hP.1) (by first | assumption | omega | decide | exact hP.1) (by first | assumption | omega | decide | exact hP.1) (by first | assumption | omega | decide | exact hP.1)) (by decide) UVX6_start LK_X8_22 (shP hq) (ncP0 hq) rfl rfl rfl (Nat.le_of_ble_eq_true rfl) hl hcs (dg D_X8_makePlan (i := 2) rfl) (fun I2 L1 R1 H locs hq hW hS => ?_)
  obtain ⟨hT2, hp2_0, rfl, rfl⟩ := hq
  have hF : Fr (SSp q) I I2 := Fr.tr hF hT2 (by intro a j h; simp only [SPu, SSp, Bool.or_eq_true, Bool.and_eq_true, beq_iff_eq, decide_eq_true_eq] at h ⊢; omega)
  have hB : BrAt I2 β σ := BrAt.fr hB hT2 (fun a j h1 h2 => Bool.eq_false_iff.mpr (fun h => by simp only [SPu, Bool.or_eq_true, Bool.and_eq_true, beq_iff_eq, decide_eq_true_eq] at h; omega))
  have hP := hp2_0
  refine lv_aload_n hx hb (dg D_X8_makePlan (i := 3) rfl) rfl (lv_at hl 0 rfl) ?_
  refine n_iconst (a := 0) hx hb (dg D_X8_makePlan (i := 4) rfl) rfl ?_
  refine r_puti (v := nI 0) (ty := .int) X hW hS FI_X8_18 rfl (by decide) rfl rfl (by decide +kernel) rfl rfl (dg D_X8_makePlan (i := 5) rfl) (fun H locs hW hS => ?_)
  have hF : Fr (SSp q) I (u2 I2 4 1 (nI 0)) := Fr.put hF SSp_4
  have hB : BrAt (u2 I2 4 1 (nI 0)) β σ := BrAt.pu hB (by omega)
  have hP : PlAt (u2 I2 4 1 (nI 0)) q (clP σ) := PlAt.pu hP (by omega)
  obtain ⟨J7, eJ7⟩ : ∃ J, J = u2 I2 4 1 (nI 0) := ⟨_, rfl⟩
  rw [← eJ7] at hW hF hB hP
  have htr : J7 4 1 = nI 0 := by rw [eJ7]; exact u2_at
  refine lv_aload_n hx hb (dg D_X8_makePlan (i := 6) rfl) rfl (lv_at hl 0 rfl) ?_
  refine r_getc (t := 5) X hW FI_X8_12 rfl (by decide) rfl (dg D_X8_makePlan (i := 7) rfl) ?_
  refine callVv X hW hS hR (c_X7_clear (I := J7) 5 (Or.inr (Or.inl rfl))) (by decide) UVX7_clear LK_X8_28 rfl (by decide) rfl rfl rfl (Nat.le_of_ble_eq_true rfl) hl hcs (dg D_X8_makePlan (i := 8) rfl) (fun I14 L1 R1 H locs hq hW hS => ?_)
  obtain ⟨hT14, hp14_0, rfl, rfl⟩ := hq
  have hF : Fr (SSp q) I I14 := Fr.tr hF hT14 (by intro a j h; simp only [SRk, SSp, Bool.or_eq_true, Bool.and_eq_true, beq_iff_eq, decide_eq_true_eq] at h ⊢; omega)
  have hB : BrAt I14 β σ := BrAt.fr hB hT14 (fun a j h1 h2 => Bool.eq_false_iff.mpr (fun h => by simp only [SRk, Bool.or_eq_true, Bool.and_eq_true, beq_iff_eq, decide_eq_true_eq] at h; omega))
  have hP : PlAt I14 q (clP σ) := PlAt.fr hP hT14 (fun a j h1 h2 => Bool.eq_false_iff.mpr (fun h => by simp only [SRk, Bool.or_eq_true, Bool.and_eq_true, beq_iff_eq, decide_eq_true_eq] at h; omega))
  have htr : I14 4 1 = nI 0 := (hT14 4 1 (SRk_in.no (by omega) _)).trans htr
  refine n_iconst (a := 0) hx hb (dg D_X8_makePlan (i := 9) rfl) rfl ?_
  refine lv_istore_n (lv' := [(3, .int (nI 0)), (0, .ref (bs + 4)), (1, .ref (bs + β)), (2, .ref (bs + q))]) hx hb (dg D_X8_makePlan (i := 10) rfl) rfl hl (by decide) rfl (fun ls hl => ?_)
  have loop19 := up_ind (P := fun x => ∀ (K19 : CI) (H : Heap) (locs : List Loc) (ls : Array Slot) (v3 : Int32), v3 = nI x → (Fr (SSp q) I K19) → (BrAt K19 β σ) → (PlAt K19 q (clP σ)) → (RkAt K19 5 (enC (clP σ)) (enL (clP σ)) (kE (clP σ)) x) → (K19 4 1 = nI 0) → Wd G bs cy K19 L (u2R R q 0 β) H → va_S (Aq bs) s.heap H locs → lv_has ls 5 [(0, .ref (bs + 4)), (1, .ref (bs + β)), (2, .ref (bs + q)), (3, .int v3)] → W p l e (rmL 21 0 0) s m args below meth c H locs 0 0 Qf (F0 m 19 ls [])) (nS σ) (fun x hx19 ih19 => by
      intro K19 H locs ls v3 q3 hF hB hP hRk htr hW hS hl
      subst q3
      refine lv_iload_n hx hb (dg D_X8_makePlan (i := 11) rfl) rfl (lv_at hl 3 rfl) ?_
      refine lv_aload_n hx hb (dg D_X8_makePlan (i := 12) rfl) rfl (lv_at hl 1 rfl) ?_
      refine rn_geti (v := nI (nS σ)) X hW FN_X8_31 (shB hβ) (ncB0 hβ) rfl (hB.c4 hi) (dg D_X8_makePlan (i := 13) rfl) ?_
      refine n_icmp_ge (tgt := 58) hx hb (by omega) (by omega) (dg D_X8_makePlan (i := 14) rfl) (by decide) (fun c24 => ?_) (fun c24 => ?_)
      · have hRk : RkAt K19 5 (enC (clP σ)) (enL (clP σ)) (kE (clP σ)) (nS (clP σ)) := by rw [hSC, show nS σ = x by omega]; exact hRk
        refine lv_aload_n hx hb (dg D_X8_makePlan (i := 30) rfl) rfl (lv_at hl 0 rfl) ?_
        refine lv_aload_n hx hb (dg D_X8_makePlan (i := 31) rfl) rfl (lv_at hl 1 rfl) ?_
        refine lv_aload_n hx hb (dg D_X8_makePlan (i := 32) rfl) rfl (lv_at hl 2 rfl) ?_
        refine n_iconst (a := 0) hx hb (dg D_X8_makePlan (i := 33) rfl) rfl ?_
        refine callSi X hW hS hR (c_X8_placeFrom (I := K19) (clP σ) β q (enE (clP σ)) (saD (clP σ)) (nG (clP σ)) (enM (clP σ)) 0 0 (hiC) (hdC) (by first | assumption | omega | decide | exact hP.1) (BrAt_Sm hB Sm_cl hi) (by first | assumption | omega | decide | exact hP.1) (by first | assumption | omega | decide | exact hP.1) (u2R_at) (rfl) (by rw [Nat.zero_add]; exact hRk.1) (by rw [Nat.zero_add]; exact hRk.2) (fun i hi9 => ⟨(enE_ok (by omega)).1, saD_lt hYC (by omega)⟩) (fun i j h1 h2 e => elK_inj (enL_St (clP σ)) (show i < enM (clP σ) by omega) (show j < enM (clP σ) by omega) e) (fun i h1 h2 => UX_cl (by have := (enE_ok (σ := clP σ) (k := i) (by omega)).1; omega)) (by first | assumption | omega | decide | exact hP.1) (by first | assumption | omega | decide | exact hP.1) (by first | assumption | omega | decide | exact hP.1)) (by omega) USX8_placeFrom LK_X8_45 rfl rfl (Nat.le_of_ble_eq_true rfl) hl hcs (dg D_X8_makePlan (i := 34) rfl) (fun r62 I62 L1 R1 H locs hq hW hS => ?_)
        obtain ⟨rfl, hT62, hp62_0, hp62_1, rfl, rfl⟩ := hq
        have hF : Fr (SSp q) I I62 := Fr.tr hF hT62 (by intro a j h; simp only [SPf, SSp, Bool.or_eq_true, Bool.and_eq_true, beq_iff_eq, decide_eq_true_eq] at h ⊢; omega)
        have hB : BrAt I62 β σ := BrAt.fr hB hT62 (fun a j h1 h2 => Bool.eq_false_iff.mpr (fun h => by simp only [SPf, Bool.or_eq_true, Bool.and_eq_true, beq_iff_eq, decide_eq_true_eq] at h; omega))
        exact fin (dg D_X8_makePlan (i := 35) rfl) hW hS ⟨rfl, hF, hp62_0, hp62_1, rfl, rfl⟩
      · refine lv_aload_n hx hb (dg D_X8_makePlan (i := 15) rfl) rfl (lv_at hl 2 rfl) ?_
        refine lv_iload_n hx hb (dg D_X8_makePlan (i := 16) rfl) rfl (lv_at hl 3 rfl) ?_
        refine callVi X hW hS hR (c_X6_firstPast (I := K19) (clP σ) β q x (hiC) (by first | assumption | omega | decide | exact hP.1) (BrAt_Sm hB Sm_cl hi) (by first | assumption | omega | decide | exact hP.1) (by first | assumption | omega | decide | exact hP.1) (u2R_at) (by rw [hSC]; omega)) (by decide) UVX6_firstPast LK_X8_36 (shP hq) (ncP0 hq) rfl rfl rfl (Nat.le_of_ble_eq_true rfl) hl hcs (dg D_X8_makePlan (i := 17) rfl) (fun r29 I29 L1 R1 H locs hq hW hS => ?_)
        obtain ⟨rfl, rfl, rfl, rfl⟩ := hq
        rw [show fp (clP σ) x = fp0 (clP σ) x from (fp_clean hYC (by omega) (UX_cl (by omega)))]
        refine lv_istore (lv' := [(4, .int (fp0 (clP σ) x)), (0, .ref (bs + 4)), (1, .ref (bs + β)), (2, .ref (bs + q)), (3, .int (nI x))]) hx hb (dg D_X8_makePlan (i := 18) rfl) hl (by decide) rfl (fun ls hl => ?_)
        refine lv_iload hx hb (dg D_X8_makePlan (i := 19) rfl) (lv_at hl 0 rfl) ?_
        refine r_ldc X CK_X8_40 (dg D_X8_makePlan (i := 20) rfl) ?_
        refine lv_icmp_eq (tgt := 52) hx hb (dg D_X8_makePlan (i := 21) rfl) (by decide) (fun c38 => ?_) (fun c38 => ?_)
        · refine lv_iinc (v := nI (x + 1)) (lv' := [(3, .int (nI (x + 1))), (4, .int (fp0 (clP σ) x)), (0, .ref (bs + 4)), (1, .ref (bs + β)), (2, .ref (bs + q))]) hx hb (dg D_X8_makePlan (i := 28) rfl) hl (k := 4) rfl (nI_add _ _) (by decide) rfl (fun ls hl => ?_)
          refine lv_goto (tgt := 19) hx hb (dg D_X8_makePlan (i := 29) rfl) (by decide) ?_
          exact ih19 (by omega) K19 _ _ _ _ (congrArg nI (by omega)) hF hB hP (RkAt.skip (enL_St (clP σ)) hRk (decide_eq_false (fun z => z c38))) htr hW hS (lv_sub hl [2, 3, 4, 0] rfl)
        · have hfe := fp0_N hYC c38
          rw [hfe.1] at hl
          refine lv_aload_n hx hb (dg D_X8_makePlan (i := 22) rfl) rfl (lv_at hl 1 rfl) ?_
          refine r_getc (t := 5) X hW FI_X8_12 rfl (by decide) rfl (dg D_X8_makePlan (i := 23) rfl) ?_
          refine lv_iload_n hx hb (dg D_X8_makePlan (i := 24) rfl) rfl (lv_at hl 4 rfl) ?_
          refine lv_iload hx hb (dg D_X8_makePlan (i := 25) rfl) (lv_at hl 0 rfl) ?_
          refine n_iconst (a := 0) hx hb (dg D_X8_makePlan (i := 26) rfl) rfl ?_
          refine callVv X hW hS hR (c_X7_add (I := K19) 5 (cntB (enC (clP σ)) x) (fun j => kE (clP σ) (elK (enC (clP σ)) (enL (clP σ)) x j)) x (tN (fp0 (clP σ) x)) 0 (Or.inr (Or.inl rfl)) (hRk.1) (Nat.lt_of_le_of_lt (cntB_le _ _) (by omega)) (hRk.2) (fun j hj => kE_b hiC (Nat.lt_of_lt_of_le (elK_is (enL_St (clP σ)) hj).1 (by omega)) (elK_is (enL_St (clP σ)) hj).2.1) (by first | assumption | omega | decide | exact hP.1) (by omega) (by first | assumption | omega | decide | exact hP.1)) (by decide) UVX7_add LK_X8_41 rfl (by decide) rfl rfl rfl (Nat.le_of_ble_eq_true rfl) hl hcs (dg D_X8_makePlan (i := 27) rfl) (fun I49 L1 R1 H locs hq hW hS => ?_)
          obtain ⟨hT49, hp49_0, hp49_1, rfl, rfl⟩ := hq
          have hF : Fr (SSp q) I I49 := Fr.tr hF hT49 (by intro a j h; simp only [SRk, SSp, Bool.or_eq_true, Bool.and_eq_true, beq_iff_eq, decide_eq_true_eq] at h ⊢; omega)
          have hB : BrAt I49 β σ := BrAt.fr hB hT49 (fun a j h1 h2 => Bool.eq_false_iff.mpr (fun h => by simp only [SRk, Bool.or_eq_true, Bool.and_eq_true, beq_iff_eq, decide_eq_true_eq] at h; omega))
          have hP : PlAt I49 q (clP σ) := PlAt.fr hP hT49 (fun a j h1 h2 => Bool.eq_false_iff.mpr (fun h => by simp only [SRk, Bool.or_eq_true, Bool.and_eq_true, beq_iff_eq, decide_eq_true_eq] at h; omega))
          have htr : I49 4 1 = nI 0 := (hT49 4 1 (SRk_in.no (by omega) _)).trans htr
          refine lv_iinc (v := nI (x + 1)) (lv' := [(3, .int (nI (x + 1))), (4, .int (nI (tN (fp0 (clP σ) x)))), (0, .ref (bs + 4)), (1, .ref (bs + β)), (2, .ref (bs + q))]) hx hb (dg D_X8_makePlan (i := 28) rfl) hl (k := 4) rfl (nI_add _ _) (by decide) rfl (fun ls hl => ?_)
          refine lv_goto (tgt := 19) hx hb (dg D_X8_makePlan (i := 29) rfl) (by decide) ?_
          exact ih19 (by omega) I49 _ _ _ _ (congrArg nI (by omega)) hF hB hP (RkAt.add (enL_St (clP σ)) (show x < nS (clP σ) by omega) (decide_eq_true c38) (kE_ahd hiC) hp49_0 hp49_1) htr hW hS (lv_sub hl [2, 3, 4, 0] rfl))
  exact loop19 0 (Nat.zero_le _) I14 _ _ _ _ (congrArg nI (by omega)) hF hB hP (RkAt.nil hp14_0) htr hW hS (lv_sub hl [1, 2, 3, 0] rfl)

