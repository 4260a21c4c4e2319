set_option maxHeartbeats 4000000 in
set_option maxRecDepth 100000 in
theorem c_X11_worstYear {l : Launch} {G : va_G} {bs : Nat} {cy : Nat → ClassId} {I : CI} {L : CL} {R : CR} (σ : Row) (β : Nat) (q : Nat) (γ : Nat) (u : Nat) (hi : Inv σ) (hd : DR σ) (hβ : isBr β) (hB : BrAt I β σ) (hq : isPl q) (hP : PlAt I q σ) (hRb : R q 0 = β) (hR7 : R 0 7 = β) (hR8 : R 0 8 = q) (hu9 : isPl u) (hR10 : R 0 10 = u) (huq9 : u ≠ q) (hγ : isBr γ) (hR9 : R 0 9 = γ) (hne9 : γ ≠ β) : MTi l G bs cy MX11_worstYear 7 [.ref (bs + 0)] I L R (fun r I1 L1 R1 => wyR σ = r ∧ Fr (SAs γ u) I I1 ∧ L = L1 ∧ FR u R R1) := by
  refine MTi.of (own := RX11) pn_RX11 rfl (Nat.le_of_ble_eq_true rfl) ?_
  intro p e s m args below meth c Qf X hW hS fin ls hl
  have hx := X.1
  have hb := X.2.1
  have hR : RmOK (rmL 7 0 0) 7 := ⟨rfl, rfl⟩
  have hcs : 0 ≤ (rmL 7 0 0).cells ∧ 0 ≤ (rmL 7 0 0).slots := ⟨Nat.zero_le _, Nat.zero_le _⟩
  have hl : lv_has ls 5 [(0, .ref (bs + 0))] := hl
  have hF : Fr (SAs γ u) I I := Fr.rf
  have hFR : FR u R R := FR.rf
  obtain ⟨hY, hY1, hY12, hLn, hL4, hSn, hS12, hGn, hG5⟩ := id hi
  have hbq := br_pl hβ hq
  have huq : 53 ≤ u := by rcases hu9 with rfl | rfl <;> omega
  have hpp := pl_pl hq hu9 huq9
  have hbu := br_pl hβ hu9
  have hbb := br_br hβ hγ hne9
  have hgu := br_pl hγ hu9
  have hgq := br_pl hγ hq
  refine n_iconst (a := 0) hx hb (dg D_X11_worstYear (i := 0) rfl) rfl ?_
  refine lv_istore_n (lv' := [(1, .int (nI 0)), (0, .ref (bs + 0))]) hx hb (dg D_X11_worstYear (i := 1) rfl) rfl hl (by decide) rfl (fun ls hl => ?_)
  refine lv_iconst (v := -1) hx hb (dg D_X11_worstYear (i := 2) rfl) (by decide) ?_
  refine lv_istore_n (lv' := [(2, .int ((-1))), (1, .int (nI 0)), (0, .ref (bs + 0))]) hx hb (dg D_X11_worstYear (i := 3) rfl) rfl hl (by decide) rfl (fun ls hl => ?_)
  refine lv_aload_n hx hb (dg D_X11_worstYear (i := 4) rfl) rfl (lv_at hl 2 rfl) ?_
  refine r_getr (v := γ) X hW FI_X11_75 rfl (by decide) rfl hR9 (dg D_X11_worstYear (i := 5) rfl) ?_
  refine lv_aload_n hx hb (dg D_X11_worstYear (i := 6) rfl) rfl (lv_at hl 2 rfl) ?_
  refine r_getr (v := β) X hW FI_X11_67 rfl (by decide) rfl hR7 (dg D_X11_worstYear (i := 7) rfl) ?_
  refine callVv X hW hS hR (c_X1_copyFrom (I := I) σ γ β (by first | assumption | omega | decide | exact hP.1) (by first | assumption | omega | decide | exact hP.1) (by first | assumption | omega | decide | exact hP.1) (hne9) (by first | assumption | omega | decide | exact hP.1)) (by decide) UVX1_copyFrom LK_X11_307 (shB hγ) (ncB0 hγ) rfl rfl rfl (Nat.le_of_ble_eq_true rfl) hl hcs (dg D_X11_worstYear (i := 8) rfl) (fun I12 L1 R1 H locs hq hW hS => ?_)
  obtain ⟨hT12, hp12_0, rfl, rfl⟩ := hq
  have hF : Fr (SAs γ u) I I12 := Fr.tr hF hT12 (by intro a j h; simp only [SB9, SAs, Bool.or_eq_true, Bool.and_eq_true, beq_iff_eq, decide_eq_true_eq] at h ⊢; omega)
  have hB : BrAt I12 β σ := BrAt.fr hB hT12 (fun a j h1 h2 => Bool.eq_false_iff.mpr (fun h => by simp only [SB9, Bool.or_eq_true, Bool.and_eq_true, beq_iff_eq, decide_eq_true_eq] at h; omega))
  have hBg := hp12_0
  refine n_iconst (a := 0) hx hb (dg D_X11_worstYear (i := 9) rfl) rfl ?_
  refine lv_istore_n (lv' := [(3, .int (nI 0)), (2, .int ((-1))), (1, .int (nI 0)), (0, .ref (bs + 0))]) hx hb (dg D_X11_worstYear (i := 10) rfl) rfl hl (by decide) rfl (fun ls hl => ?_)
  have loop17 := up_ind (P := fun y => ∀ (K17 : CI) (KR17 : CR) (H : Heap) (locs : List Loc) (ls : Array Slot) (v1 : Int32) (v2 : Int32) (v3 : Int32), v1 = (amx (fun y => cntP (auto (upd σ (80 + y) (nI 0)) ALLG)) (nI 0) (-1) y).1 → v2 = (amx (fun y => cntP (auto (upd σ (80 + y) (nI 0)) ALLG)) (nI 0) (-1) y).2 → v3 = nI y → (Fr (SAs γ u) I K17) → (BrAt K17 β σ) → (BrAt K17 γ σ) → (FR u R KR17) → Wd G bs cy K17 L KR17 H → va_S (Aq bs) s.heap H locs → lv_has ls 5 [(0, .ref (bs + 0)), (1, .int v1), (2, .int v2), (3, .int v3)] → W p l e (rmL 7 0 0) s m args below meth c H locs 0 0 Qf (F0 m 17 ls [])) (Yn σ) (fun y hx17 ih17 => by
      intro K17 KR17 H locs ls v1 v2 v3 q1 q2 q3 hF hB hBg hFR hW hS hl
      subst q1
      subst q2
      subst q3
      refine lv_iload_n hx hb (dg D_X11_worstYear (i := 11) rfl) rfl (lv_at hl 3 rfl) ?_
      refine lv_aload_n hx hb (dg D_X11_worstYear (i := 12) rfl) rfl (lv_at hl 0 rfl) ?_
      refine r_getr (v := β) X hW FI_X11_67 rfl (by decide) rfl ((hFR _ _ (by omega)).trans hR7) (dg D_X11_worstYear (i := 13) rfl) ?_
      refine rn_geti (v := nI (Yn σ)) X hW FN_X11_168 (shB hβ) (ncB0 hβ) rfl (hB.c0 hi) (dg D_X11_worstYear (i := 14) rfl) ?_
      refine n_icmp_ge (tgt := 85) hx hb (by omega) (by omega) (dg D_X11_worstYear (i := 15) rfl) (by decide) (fun c25 => ?_) (fun c25 => ?_)
      · refine lv_iload_n hx hb (dg D_X11_worstYear (i := 47) rfl) rfl (lv_at hl 1 rfl) ?_
        exact fin (dg D_X11_worstYear (i := 48) rfl) hW hS ⟨by rw [show y = Yn σ by omega]; rfl, hF, rfl, hFR⟩
      · refine lv_aload_n hx hb (dg D_X11_worstYear (i := 16) rfl) rfl (lv_at hl 0 rfl) ?_
        refine r_getr (v := γ) X hW FI_X11_75 rfl (by decide) rfl ((hFR _ _ (by omega)).trans hR9) (dg D_X11_worstYear (i := 17) rfl) ?_
        refine rn_getc (t := γ + 9) X hW FN_X11_229 (shB hγ) (ncB0 hγ) rfl (dg D_X11_worstYear (i := 18) rfl) ?_
        refine lv_iload_n hx hb (dg D_X11_worstYear (i := 19) rfl) rfl (lv_at hl 3 rfl) ?_
        refine n_iconst (a := 0) hx hb (dg D_X11_worstYear (i := 20) rfl) rfl ?_
        refine r_ast (j := y) (v := nI 0) X hW hS (shB9 hγ) (ncB hγ (by decide)) rfl (by omega) (by omega) (dg D_X11_worstYear (i := 21) rfl) (fun H locs hW hS => ?_)
        have hF : Fr (SAs γ u) I (u2 K17 (γ + 9) y (nI 0)) := Fr.put hF (SAs_b (by decide))
        have hB : BrAt (u2 K17 (γ + 9) y (nI 0)) β σ := BrAt.pu hB (by omega)
        have hBg : BrAt (u2 K17 (γ + 9) y (nI 0)) γ (upd σ (80 + y) (nI 0)) := BrAt_day hi hBg (by omega)
        obtain ⟨J37, eJ37⟩ : ∃ J, J = u2 K17 (γ + 9) y (nI 0) := ⟨_, rfl⟩
        rw [← eJ37] at hW hF hB hBg
        refine lv_aload_n hx hb (dg D_X11_worstYear (i := 22) rfl) rfl (lv_at hl 0 rfl) ?_
        refine lv_aload_n hx hb (dg D_X11_worstYear (i := 23) rfl) rfl (lv_at hl 0 rfl) ?_
        refine r_getr (v := γ) X hW FI_X11_75 rfl (by decide) rfl ((hFR _ _ (by omega)).trans hR9) (dg D_X11_worstYear (i := 24) rfl) ?_
        refine lv_bipush (v := nI 31) hx hb (dg D_X11_worstYear (i := 25) rfl) (by decide) ?_
        refine callVi X hW hS hR (c_X11_autoPastOf (I := J37) (upd σ (80 + y) (nI 0)) γ u (nI 31) (Inv_u (by omega) hi) (DR_day hi hd (by omega) (Nat.zero_le _)) (hγ) (hBg) (by first | assumption | omega | decide | exact hP.1) ((hFR _ _ (by omega)).trans hR10)) (by decide) UVX11_autoPastOf LK_X11_303 rfl (by decide) rfl rfl rfl (Nat.le_of_ble_eq_true rfl) hl hcs (dg D_X11_worstYear (i := 26) rfl) (fun r45 I45 L1 Rc45 H locs hq hW hS => ?_)
        obtain ⟨rfl, hT45, rfl, hRF45⟩ := hq
        have hF : Fr (SAs γ u) I I45 := Fr.tr hF hT45 (by intro a j h; simp only [SAp, SAs, Bool.or_eq_true, Bool.and_eq_true, beq_iff_eq, decide_eq_true_eq] at h ⊢; omega)
        have hB : BrAt I45 β σ := BrAt.fr hB hT45 (fun a j h1 h2 => Bool.eq_false_iff.mpr (fun h => by simp only [SAp, Bool.or_eq_true, Bool.and_eq_true, beq_iff_eq, decide_eq_true_eq] at h; omega))
        have hBg : BrAt I45 γ (upd σ (80 + y) (nI 0)) := BrAt.fr hBg hT45 (fun a j h1 h2 => Bool.eq_false_iff.mpr (fun h => by simp only [SAp, Bool.or_eq_true, Bool.and_eq_true, beq_iff_eq, decide_eq_true_eq] at h; omega))
        have hFR : FR u R Rc45 := hFR.tr hRF45
        refine lv_istore (lv' := [(4, .int (cntP (auto (upd σ (80 + y) (nI 0)) (nI 31)))), (0, .ref (bs + 0)), (1, .int ((amx (fun y => cntP (auto (upd σ (80 + y) (nI 0)) ALLG)) (nI 0) (-1) y).1)), (2, .int ((amx (fun y => cntP (auto (upd σ (80 + y) (nI 0)) ALLG)) (nI 0) (-1) y).2)), (3, .int (nI y))]) hx hb (dg D_X11_worstYear (i := 27) rfl) hl (by decide) rfl (fun ls hl => ?_)
        refine lv_aload_n hx hb (dg D_X11_worstYear (i := 28) rfl) rfl (lv_at hl 1 rfl) ?_
        refine r_getr (v := γ) X hW FI_X11_75 rfl (by decide) rfl ((hFR _ _ (by omega)).trans hR9) (dg D_X11_worstYear (i := 29) rfl) ?_
        refine rn_getc (t := γ + 9) X hW FN_X11_229 (shB hγ) (ncB0 hγ) rfl (dg D_X11_worstYear (i := 30) rfl) ?_
        refine lv_iload_n hx hb (dg D_X11_worstYear (i := 31) rfl) rfl (lv_at hl 4 rfl) ?_
        refine lv_aload_n hx hb (dg D_X11_worstYear (i := 32) rfl) rfl (lv_at hl 1 rfl) ?_
        refine r_getr (v := β) X hW FI_X11_67 rfl (by decide) rfl ((hFR _ _ (by omega)).trans hR7) (dg D_X11_worstYear (i := 33) rfl) ?_
        refine rn_getc (t := β + 9) X hW FN_X11_229 (shB hβ) (ncB0 hβ) rfl (dg D_X11_worstYear (i := 34) rfl) ?_
        refine lv_iload_n hx hb (dg D_X11_worstYear (i := 35) rfl) rfl (lv_at hl 4 rfl) ?_
        refine r_ald (j := y) (v := σ (80 + y)) X hW (shB9 hβ) (ncB hβ (by decide)) rfl (by omega) (by omega) (hB.da (by omega)) (dg D_X11_worstYear (i := 36) rfl) ?_
        refine r_ast (j := y) (v := σ (80 + y)) X hW hS (shB9 hγ) (ncB hγ (by decide)) rfl (by omega) (by omega) (dg D_X11_worstYear (i := 37) rfl) (fun H locs hW hS => ?_)
        have hF : Fr (SAs γ u) I (u2 I45 (γ + 9) y (σ (80 + y))) := Fr.put hF (SAs_b (by decide))
        have hB : BrAt (u2 I45 (γ + 9) y (σ (80 + y))) β σ := BrAt.pu hB (by omega)
        have hBg : BrAt (u2 I45 (γ + 9) y (σ (80 + y))) γ σ := by have h := BrAt_day (v := σ (80 + y)) (Inv_u (k := 80 + y) (v := nI 0) (by omega) hi) hBg (y := y) (by omega); rw [upd_back rfl] at h; exact h
        obtain ⟨J67, eJ67⟩ : ∃ J, J = u2 I45 (γ + 9) y (σ (80 + y)) := ⟨_, rfl⟩
        rw [← eJ67] at hW hF hB hBg
        refine lv_iload hx hb (dg D_X11_worstYear (i := 38) rfl) (lv_at hl 0 rfl) ?_
        refine lv_iload_n hx hb (dg D_X11_worstYear (i := 39) rfl) rfl (lv_at hl 3 rfl) ?_
        refine lv_icmp_le (tgt := 79) hx hb (dg D_X11_worstYear (i := 40) rfl) (by decide) (fun c71 => ?_) (fun c71 => ?_)
        · refine lv_iinc (v := nI (y + 1)) (lv' := [(3, .int (nI (y + 1))), (4, .int (cntP (auto (upd σ (80 + y) (nI 0)) (nI 31)))), (0, .ref (bs + 0)), (1, .int ((amx (fun y => cntP (auto (upd σ (80 + y) (nI 0)) ALLG)) (nI 0) (-1) y).1)), (2, .int ((amx (fun y => cntP (auto (upd σ (80 + y) (nI 0)) ALLG)) (nI 0) (-1) y).2))]) hx hb (dg D_X11_worstYear (i := 45) rfl) hl (k := 4) rfl (nI_add _ _) (by decide) rfl (fun ls hl => ?_)
          refine lv_goto (tgt := 17) hx hb (dg D_X11_worstYear (i := 46) rfl) (by decide) ?_
          exact ih17 (by omega) J67 Rc45 _ _ _ _ _ _ (by rw [amx_n (f := fun y => cntP (auto (upd σ (80 + y) (nI 0)) ALLG)) c71]) (by rw [amx_n (f := fun y => cntP (auto (upd σ (80 + y) (nI 0)) ALLG)) c71]) (congrArg nI (by omega)) hF hB hBg hFR hW hS (lv_sub hl [2, 3, 4, 0] rfl)
        · refine lv_iload hx hb (dg D_X11_worstYear (i := 41) rfl) (lv_at hl 0 rfl) ?_
          refine lv_istore_n (lv' := [(2, .int (cntP (auto (upd σ (80 + y) (nI 0)) (nI 31)))), (4, .int (cntP (auto (upd σ (80 + y) (nI 0)) (nI 31)))), (0, .ref (bs + 0)), (1, .int ((amx (fun y => cntP (auto (upd σ (80 + y) (nI 0)) ALLG)) (nI 0) (-1) y).1)), (3, .int (nI y))]) hx hb (dg D_X11_worstYear (i := 42) rfl) rfl hl (by decide) rfl (fun ls hl => ?_)
          refine lv_iload_n hx hb (dg D_X11_worstYear (i := 43) rfl) rfl (lv_at hl 4 rfl) ?_
          refine lv_istore_n (lv' := [(1, .int (nI y)), (2, .int (cntP (auto (upd σ (80 + y) (nI 0)) (nI 31)))), (4, .int (cntP (auto (upd σ (80 + y) (nI 0)) (nI 31)))), (0, .ref (bs + 0)), (3, .int (nI y))]) hx hb (dg D_X11_worstYear (i := 44) rfl) rfl hl (by decide) rfl (fun ls hl => ?_)
          refine lv_iinc (v := nI (y + 1)) (lv' := [(3, .int (nI (y + 1))), (1, .int (nI y)), (2, .int (cntP (auto (upd σ (80 + y) (nI 0)) (nI 31)))), (4, .int (cntP (auto (upd σ (80 + y) (nI 0)) (nI 31)))), (0, .ref (bs + 0))]) hx hb (dg D_X11_worstYear (i := 45) rfl) hl (k := 4) rfl (nI_add _ _) (by decide) rfl (fun ls hl => ?_)
          refine lv_goto (tgt := 17) hx hb (dg D_X11_worstYear (i := 46) rfl) (by decide) ?_
          exact ih17 (by omega) J67 Rc45 _ _ _ _ _ _ (by rw [amx_y (f := fun y => cntP (auto (upd σ (80 + y) (nI 0)) ALLG)) c71]) (by rw [amx_y (f := fun y => cntP (auto (upd σ (80 + y) (nI 0)) ALLG)) c71]) (congrArg nI (by omega)) hF hB hBg hFR hW hS (lv_sub hl [4, 1, 2, 0] rfl))
  exact loop17 0 (Nat.zero_le _) I12 R _ _ _ _ _ _ (rfl) (rfl) (congrArg nI (by omega)) hF hB hBg hFR hW hS (lv_sub hl [3, 2, 1, 0] rfl)

set_option maxHeartbeats 4000000 in
set_option maxRecDepth 100000 in
theorem c_X11_smallestShut {l : Launch} {G : va_G} {bs : Nat} {cy : Nat → ClassId} {I : CI} {L : CL} {R : CR} (σ : Row) (β : Nat) (q : Nat) (γ : Nat) (u : Nat) (hi : Inv σ) (hd : DR σ) (hβ : isBr β) (hB : BrAt I β σ) (hq : isPl q) (hP : PlAt I q σ) (hRb : R q 0 = β) (hR7 : R 0 7 = β) (hR8 : R 0 8 = q) (hu9 : isPl u) (hR10 : R 0 10 = u) (huq9 : u ≠ q) (hγ : isBr γ) (hR9 : R 0 9 = γ) (hne9 : γ ≠ β) : MTi l G bs cy MX11_smallestShut 7 [.ref (bs + 0)] I L R (fun r I1 L1 R1 => smR σ = r ∧ Fr (SAs γ u) I I1 ∧ L = L1 ∧ FR u R R1) := by
  refine MTi.of (own := RX11) pn_RX11 rfl (Nat.le_of_ble_eq_true rfl) ?_
  intro p e s m args below meth c Qf X hW hS fin ls hl
  have hx := X.1
  have hb := X.2.1
  have hR : RmOK (rmL 7 0 0) 7 := ⟨rfl, rfl⟩
  have hcs : 0 ≤ (rmL 7 0 0).cells ∧ 0 ≤ (rmL 7 0 0).slots := ⟨Nat.zero_le _, Nat.zero_le _⟩
  have hl : lv_has ls 2 [(0, .ref (bs + 0))] := hl
  have hF : Fr (SAs γ u) I I := Fr.rf
  have hFR : FR u R R := FR.rf
  obtain ⟨hY, hY1, hY12, hLn, hL4, hSn, hS12, hGn, hG5⟩ := id hi
  have hbq := br_pl hβ hq
  have huq : 53 ≤ u := by rcases hu9 with rfl | rfl <;> omega
  have hpp := pl_pl hq hu9 huq9
  have hbu := br_pl hβ hu9
  have hbb := br_br hβ hγ hne9
  have hgu := br_pl hγ hu9
  have hgq := br_pl hγ hq
  refine lv_aload_n hx hb (dg D_X11_smallestShut (i := 0) rfl) rfl (lv_at hl 0 rfl) ?_
  refine r_getr (v := γ) X hW FI_X11_75 rfl (by decide) rfl hR9 (dg D_X11_smallestShut (i := 1) rfl) ?_
  refine lv_aload_n hx hb (dg D_X11_smallestShut (i := 2) rfl) rfl (lv_at hl 0 rfl) ?_
  refine r_getr (v := β) X hW FI_X11_67 rfl (by decide) rfl hR7 (dg D_X11_smallestShut (i := 3) rfl) ?_
  refine callVv X hW hS hR (c_X1_copyFrom (I := I) σ γ β (by first | assumption | omega | decide | exact hP.1) (by first | assumption | omega | decide | exact hP.1) (by first | assumption | omega | decide | exact hP.1) (hne9) (by first | assumption | omega | decide | exact hP.1)) (by decide) UVX1_copyFrom LK_X11_307 (shB hγ) (ncB0 hγ) rfl rfl rfl (Nat.le_of_ble_eq_true rfl) hl hcs (dg D_X11_smallestShut (i := 4) rfl) (fun I8 L1 R1 H locs hq hW hS => ?_)
  obtain ⟨hT8, hp8_0, rfl, rfl⟩ := hq
  have hF : Fr (SAs γ u) I I8 := Fr.tr hF hT8 (by intro a j h; simp only [SB9, SAs, Bool.or_eq_true, Bool.and_eq_true, beq_iff_eq, decide_eq_true_eq] at h ⊢; omega)
  have hB : BrAt I8 β σ := BrAt.fr hB hT8 (fun a j h1 h2 => Bool.eq_false_iff.mpr (fun h => by simp only [SB9, Bool.or_eq_true, Bool.and_eq_true, beq_iff_eq, decide_eq_true_eq] at h; omega))
  have hBg := hp8_0
  have hBv : ∃ v, BrAt I8 γ (upd σ 1 v) := ⟨σ 1, by rw [upd_same _ rfl]; exact hBg⟩
  refine n_iconst (a := 1) hx hb (dg D_X11_smallestShut (i := 5) rfl) rfl ?_
  refine lv_istore_n (lv' := [(1, .int (nI 1)), (0, .ref (bs + 0))]) hx hb (dg D_X11_smallestShut (i := 6) rfl) rfl hl (by decide) rfl (fun ls hl => ?_)
  have loop13 := up_ind (P := fun k => ∀ (K13 : CI) (KR13 : CR) (H : Heap) (locs : List Loc) (ls : Array Slot) (v1 : Int32), v1 = nI k → (Fr (SAs γ u) I K13) → (BrAt K13 β σ) → (∃ v, BrAt K13 γ (upd σ 1 v)) → (FR u R KR13) → (1 ≤ k) → (∀ z, z < k → (fun k => decide (1 ≤ k) && decide (cntP (auto (upd σ 1 (nI k)) ALLG) = 0)) z = false) → Wd G bs cy K13 L KR13 H → va_S (Aq bs) s.heap H locs → lv_has ls 2 [(0, .ref (bs + 0)), (1, .int v1)] → W p l e (rmL 7 0 0) s m args below meth c H locs 0 0 Qf (F0 m 13 ls [])) 5 (fun k hx13 ih13 => by
      intro K13 KR13 H locs ls v1 q1 hF hB hBv hFR hk1 hn hW hS hl
      subst q1
      refine lv_iload_n hx hb (dg D_X11_smallestShut (i := 7) rfl) rfl (lv_at hl 1 rfl) ?_
      refine n_iconst (a := 4) hx hb (dg D_X11_smallestShut (i := 8) rfl) rfl ?_
      refine n_icmp_gt (tgt := 47) hx hb (by omega) (by omega) (dg D_X11_smallestShut (i := 9) rfl) (by decide) (fun c15 => ?_) (fun c15 => ?_)
      · refine r_ldc X CK_X11_48 (dg D_X11_smallestShut (i := 24) rfl) ?_
        exact fin (dg D_X11_smallestShut (i := 25) rfl) hW hS ⟨(fstI_none (p := fun k => decide (1 ≤ k) && decide (cntP (auto (upd σ 1 (nI k)) ALLG) = 0)) (n := 5) (fun z hz => hn z (by omega))), hF, rfl, hFR⟩
      · obtain ⟨v9, hBg⟩ := hBv
        refine lv_aload_n hx hb (dg D_X11_smallestShut (i := 10) rfl) rfl (lv_at hl 0 rfl) ?_
        refine r_getr (v := γ) X hW FI_X11_75 rfl (by decide) rfl ((hFR _ _ (by omega)).trans hR9) (dg D_X11_smallestShut (i := 11) rfl) ?_
        refine lv_iload_n hx hb (dg D_X11_smallestShut (i := 12) rfl) rfl (lv_at hl 1 rfl) ?_
        refine rn_puti (v := nI k) (ty := .int) X hW hS FN_X11_264 (shB hγ) (ncB0 hγ) rfl rfl (by decide +kernel) rfl rfl (dg D_X11_smallestShut (i := 13) rfl) (fun H locs hW hS => ?_)
        have hF : Fr (SAs γ u) I (u2 K13 γ 1 (nI k)) := Fr.put hF SAs_b0
        have hB : BrAt (u2 K13 γ 1 (nI k)) β σ := BrAt.pu hB (by omega)
        have hBg : BrAt (u2 K13 γ 1 (nI k)) γ (upd σ 1 (nI k)) := by have h := BrAt_sht (v := nI k) (Inv_u (k := 1) (v := v9) (Or.inl rfl) hi) hBg; rw [upd_upd] at h; exact h
        obtain ⟨J23, eJ23⟩ : ∃ J, J = u2 K13 γ 1 (nI k) := ⟨_, rfl⟩
        rw [← eJ23] at hW hF hB hBg
        refine lv_aload_n hx hb (dg D_X11_smallestShut (i := 14) rfl) rfl (lv_at hl 0 rfl) ?_
        refine lv_aload_n hx hb (dg D_X11_smallestShut (i := 15) rfl) rfl (lv_at hl 0 rfl) ?_
        refine r_getr (v := γ) X hW FI_X11_75 rfl (by decide) rfl ((hFR _ _ (by omega)).trans hR9) (dg D_X11_smallestShut (i := 16) rfl) ?_
        refine lv_bipush (v := nI 31) hx hb (dg D_X11_smallestShut (i := 17) rfl) (by decide) ?_
        refine callVi X hW hS hR (c_X11_autoPastOf (I := J23) (upd σ 1 (nI k)) γ u (nI 31) (Inv_u (Or.inl rfl) hi) (DR_shut hi hd (by omega) (by omega)) (hγ) (hBg) (by first | assumption | omega | decide | exact hP.1) ((hFR _ _ (by omega)).trans hR10)) (by decide) UVX11_autoPastOf LK_X11_303 rfl (by decide) rfl rfl rfl (Nat.le_of_ble_eq_true rfl) hl hcs (dg D_X11_smallestShut (i := 18) rfl) (fun r33 I33 L1 Rc33 H locs hq hW hS => ?_)
        obtain ⟨rfl, hT33, rfl, hRF33⟩ := hq
        have hF : Fr (SAs γ u) I I33 := Fr.tr hF hT33 (by intro a j h; simp only [SAp, SAs, Bool.or_eq_true, Bool.and_eq_true, beq_iff_eq, decide_eq_true_eq] at h ⊢; omega)
        have hB : BrAt I33 β σ := BrAt.fr hB hT33 (fun a j h1 h2 => Bool.eq_false_iff.mpr (fun h => by simp only [SAp, Bool.or_eq_true, Bool.and_eq_true, beq_iff_eq, decide_eq_true_eq] at h; omega))
        have hBg : BrAt I33 γ (upd σ 1 (nI k)) := BrAt.fr hBg hT33 (fun a j h1 h2 => Bool.eq_false_iff.mpr (fun h => by simp only [SAp, Bool.or_eq_true, Bool.and_eq_true, beq_iff_eq, decide_eq_true_eq] at h; omega))
        have hFR : FR u R Rc33 := hFR.tr hRF33
        refine lv_if_ne (tgt := 41) hx hb (dg D_X11_smallestShut (i := 19) rfl) (by decide) (fun c36 => ?_) (fun c36 => ?_)
        · refine lv_iinc (v := nI (k + 1)) (lv' := [(1, .int (nI (k + 1))), (0, .ref (bs + 0))]) hx hb (dg D_X11_smallestShut (i := 22) rfl) hl (k := 1) rfl (nI_add _ _) (by decide) rfl (fun ls hl => ?_)
          refine lv_goto (tgt := 13) hx hb (dg D_X11_smallestShut (i := 23) rfl) (by decide) ?_
          exact ih13 (by omega) I33 Rc33 _ _ _ _ (congrArg nI (by omega)) hF hB ⟨_, hBg⟩ hFR (by omega) (all_lt_succ (p := fun k => decide (1 ≤ k) && decide (cntP (auto (upd σ 1 (nI k)) ALLG) = 0)) hn (by show (decide (1 ≤ k) && _) = false; rw [decide_eq_false (show ¬ cntP (auto (upd σ 1 (nI k)) ALLG) = 0 from c36), Bool.and_false])) hW hS (lv_sub hl [1, 0] rfl)
        · refine lv_iload_n hx hb (dg D_X11_smallestShut (i := 20) rfl) rfl (lv_at hl 1 rfl) ?_
          exact fin (dg D_X11_smallestShut (i := 21) rfl) hW hS ⟨(fstI_hit (p := fun k => decide (1 ≤ k) && decide (cntP (auto (upd σ 1 (nI k)) ALLG) = 0)) (n := 5) (by omega) (by show (decide (1 ≤ k) && _) = true; rw [decide_eq_true hk1, decide_eq_true (show cntP (auto (upd σ 1 (nI k)) ALLG) = 0 from (by first | exact c36 | exact Classical.not_not.mp c36))]; rfl) hn), hF, rfl, hFR⟩)
  exact loop13 1 (by decide) I8 R _ _ _ _ (congrArg nI (by omega)) hF hB hBv hFR (Nat.le_refl 1) (fun z hz => by rw [show z = 0 by omega]; rfl) hW hS (lv_sub hl [1, 0] rfl)

set_option maxHeartbeats 4000000 in
set_option maxRecDepth 100000 in
theorem c_X11_extraDays {l : Launch} {G : va_G} {bs : Nat} {cy : Nat → ClassId} {I : CI} {L : CL} {R : CR} (σ : Row) (β : Nat) (q : Nat) (γ : Nat) (u : Nat) (hi : Inv σ) (hd : DR σ) (hβ : isBr β) (hB : BrAt I β σ) (hq : isPl q) (hP : PlAt I q σ) (hRb : R q 0 = β) (hR7 : R 0 7 = β) (hR8 : R 0 8 = q) (hu9 : isPl u) (hR10 : R 0 10 = u) (huq9 : u ≠ q) (hγ : isBr γ) (hR9 : R 0 9 = γ) (hne9 : γ ≠ β) : MTi l G bs cy MX11_extraDays 7 [.ref (bs + 0)] I L R (fun r I1 L1 R1 => exDR σ = r ∧ Fr (SAs γ u) I I1 ∧ L = L1 ∧ FR u R R1) := by
  refine MTi.of (own := RX11) pn_RX11 rfl (Nat.le_of_ble_eq_true rfl) ?_
  intro p e s m args below meth c Qf X hW hS fin ls hl
  have hx := X.1
  have hb := X.2.1
  have hR : RmOK (rmL 7 0 0) 7 := ⟨rfl, rfl⟩
  have hcs : 0 ≤ (rmL 7 0 0).cells ∧ 0 ≤ (rmL 7 0 0).slots := ⟨Nat.zero_le _, Nat.zero_le _⟩
  have hl : lv_has ls 3 [(0, .ref (bs + 0))] := hl
  have hF : Fr (SAs γ u) I I := Fr.rf
  have hFR : FR u R R := FR.rf
  obtain ⟨hY, hY1, hY12, hLn, hL4, hSn, hS12, hGn, hG5⟩ := id hi
  have hbq := br_pl hβ hq
  have huq : 53 ≤ u := by rcases hu9 with rfl | rfl <;> omega
  have hpp := pl_pl hq hu9 huq9
  have hbu := br_pl hβ hu9
  have hbb := br_br hβ hγ hne9
  have hgu := br_pl hγ hu9
  have hgq := br_pl hγ hq
  refine lv_aload_n hx hb (dg D_X11_extraDays (i := 0) rfl) rfl (lv_at hl 0 rfl) ?_
  refine r_getr (v := γ) X hW FI_X11_75 rfl (by decide) rfl hR9 (dg D_X11_extraDays (i := 1) rfl) ?_
  refine lv_aload_n hx hb (dg D_X11_extraDays (i := 2) rfl) rfl (lv_at hl 0 rfl) ?_
  refine r_getr (v := β) X hW FI_X11_67 rfl (by decide) rfl hR7 (dg D_X11_extraDays (i := 3) rfl) ?_
  refine callVv X hW hS hR (c_X1_copyFrom (I := I) σ γ β (by first | assumption | omega | decide | exact hP.1) (by first | assumption | omega | decide | exact hP.1) (by first | assumption | omega | decide | exact hP.1) (hne9) (by first | assumption | omega | decide | exact hP.1)) (by decide) UVX1_copyFrom LK_X11_307 (shB hγ) (ncB0 hγ) rfl rfl rfl (Nat.le_of_ble_eq_true rfl) hl hcs (dg D_X11_extraDays (i := 4) rfl) (fun I8 L1 R1 H locs hq hW hS => ?_)
  obtain ⟨hT8, hp8_0, rfl, rfl⟩ := hq
  have hF : Fr (SAs γ u) I I8 := Fr.tr hF hT8 (by intro a j h; simp only [SB9, SAs, Bool.or_eq_true, Bool.and_eq_true, beq_iff_eq, decide_eq_true_eq] at h ⊢; omega)
  have hB : BrAt I8 β σ := BrAt.fr hB hT8 (fun a j h1 h2 => Bool.eq_false_iff.mpr (fun h => by simp only [SB9, Bool.or_eq_true, Bool.and_eq_true, beq_iff_eq, decide_eq_true_eq] at h; omega))
  have hBg := hp8_0
  have hBv : ∃ ρ, OtD σ ρ ∧ BrAt I8 γ ρ := ⟨σ, fun _ _ => rfl, hBg⟩
  refine n_iconst (a := 0) hx hb (dg D_X11_extraDays (i := 5) rfl) rfl ?_
  refine lv_istore_n (lv' := [(1, .int (nI 0)), (0, .ref (bs + 0))]) hx hb (dg D_X11_extraDays (i := 6) rfl) rfl hl (by decide) rfl (fun ls hl => ?_)
  have loop13 := up_ind (P := fun n => ∀ (K13 : CI) (KR13 : CR) (H : Heap) (locs : List Loc) (ls : Array Slot) (v1 : Int32), v1 = nI n → (Fr (SAs γ u) I K13) → (BrAt K13 β σ) → (∃ ρ, OtD σ ρ ∧ BrAt K13 γ ρ) → (FR u R KR13) → (∀ z, z < n → (fun n => decide (cntP (auto (edD σ n (Yn σ)) ALLG) = 0)) z = false) → Wd G bs cy K13 L KR13 H → va_S (Aq bs) s.heap H locs → lv_has ls 3 [(0, .ref (bs + 0)), (1, .int v1)] → W p l e (rmL 7 0 0) s m args below meth c H locs 0 0 Qf (F0 m 13 ls [])) 101 (fun n hx13 ih13 => by
      intro K13 KR13 H locs ls v1 q1 hF hB hBv hFR hn hW hS hl
      subst q1
      refine lv_iload_n hx hb (dg D_X11_extraDays (i := 7) rfl) rfl (lv_at hl 1 rfl) ?_
      refine lv_bipush (v := nI 100) hx hb (dg D_X11_extraDays (i := 8) rfl) (by decide) ?_
      refine n_icmp_gt (tgt := 85) hx hb (by omega) (by omega) (dg D_X11_extraDays (i := 9) rfl) (by decide) (fun c16 => ?_) (fun c16 => ?_)
      · refine r_ldc X CK_X11_48 (dg D_X11_extraDays (i := 43) rfl) ?_
        exact fin (dg D_X11_extraDays (i := 44) rfl) hW hS ⟨(fstI_none (p := fun n => decide (cntP (auto (edD σ n (Yn σ)) ALLG) = 0)) (n := 101) (fun z hz => hn z (by omega))), hF, rfl, hFR⟩
      · obtain ⟨ρ, hot, hBr⟩ := hBv
        refine n_iconst (a := 0) hx hb (dg D_X11_extraDays (i := 10) rfl) rfl ?_
        refine lv_istore_n (lv' := [(2, .int (nI 0)), (0, .ref (bs + 0)), (1, .int (nI n))]) hx hb (dg D_X11_extraDays (i := 11) rfl) rfl hl (by decide) rfl (fun ls hl => ?_)
        have loop21 := up_ind (P := fun y => ∀ (K21 : CI) (KR21 : CR) (H : Heap) (locs : List Loc) (ls : Array Slot) (v2 : Int32), v2 = nI y → (Fr (SAs γ u) I K21) → (BrAt K21 β σ) → (BrAt K21 γ (edX σ ρ n y)) → (FR u R KR21) → Wd G bs cy K21 L KR21 H → va_S (Aq bs) s.heap H locs → lv_has ls 3 [(0, .ref (bs + 0)), (1, .int (nI n)), (2, .int v2)] → W p l e (rmL 7 0 0) s m args below meth c H locs 0 0 Qf (F0 m 21 ls [])) (Yn σ) (fun y hx21 ih21 => by
            intro K21 KR21 H locs ls v2 q2 hF hB hBy hFR hW hS hl
            subst q2
            refine lv_iload_n hx hb (dg D_X11_extraDays (i := 12) rfl) rfl (lv_at hl 2 rfl) ?_
            refine lv_aload_n hx hb (dg D_X11_extraDays (i := 13) rfl) rfl (lv_at hl 0 rfl) ?_
            refine r_getr (v := β) X hW FI_X11_67 rfl (by decide) rfl ((hFR _ _ (by omega)).trans hR7) (dg D_X11_extraDays (i := 14) rfl) ?_
            refine rn_geti (v := nI (Yn σ)) X hW FN_X11_168 (shB hβ) (ncB0 hβ) rfl (hB.c0 hi) (dg D_X11_extraDays (i := 15) rfl) ?_
            refine n_icmp_ge (tgt := 64) hx hb (by omega) (by omega) (dg D_X11_extraDays (i := 16) rfl) (by decide) (fun c29 => ?_) (fun c29 => ?_)
            · have hBg : BrAt K21 γ (edD σ n (Yn σ)) := by rw [show y = Yn σ by omega, edX_fin hot] at hBy; exact hBy
              refine lv_aload_n hx hb (dg D_X11_extraDays (i := 33) rfl) rfl (lv_at hl 0 rfl) ?_
              refine lv_aload_n hx hb (dg D_X11_extraDays (i := 34) rfl) rfl (lv_at hl 0 rfl) ?_
              refine r_getr (v := γ) X hW FI_X11_75 rfl (by decide) rfl ((hFR _ _ (by omega)).trans hR9) (dg D_X11_extraDays (i := 35) rfl) ?_
              refine lv_bipush (v := nI 31) hx hb (dg D_X11_extraDays (i := 36) rfl) (by decide) ?_
              refine callVi X hW hS hR (c_X11_autoPastOf (I := K21) (edD σ n (Yn σ)) γ u (nI 31) ((edD_ok hi hd (by omega) _ hY12).1) ((edD_ok hi hd (by omega) _ hY12).2) (hγ) (hBg) (by first | assumption | omega | decide | exact hP.1) ((hFR _ _ (by omega)).trans hR10)) (by decide) UVX11_autoPastOf LK_X11_303 rfl (by decide) rfl rfl rfl (Nat.le_of_ble_eq_true rfl) hl hcs (dg D_X11_extraDays (i := 37) rfl) (fun r71 I71 L1 Rc71 H locs hq hW hS => ?_)
              obtain ⟨rfl, hT71, rfl, hRF71⟩ := hq
              have hF : Fr (SAs γ u) I I71 := Fr.tr hF hT71 (by intro a j h; simp only [SAp, SAs, Bool.or_eq_true, Bool.and_eq_true, beq_iff_eq, decide_eq_true_eq] at h ⊢; omega)
              have hB : BrAt I71 β σ := BrAt.fr hB hT71 (fun a j h1 h2 => Bool.eq_false_iff.mpr (fun h => by simp only [SAp, Bool.or_eq_true, Bool.and_eq_true, beq_iff_eq, decide_eq_true_eq] at h; omega))
              have hBg : BrAt I71 γ (edD σ n (Yn σ)) := BrAt.fr hBg hT71 (fun a j h1 h2 => Bool.eq_false_iff.mpr (fun h => by simp only [SAp, Bool.or_eq_true, Bool.and_eq_true, beq_iff_eq, decide_eq_true_eq] at h; omega))
              have hFR : FR u R Rc71 := hFR.tr hRF71
              refine lv_if_ne (tgt := 79) hx hb (dg D_X11_extraDays (i := 38) rfl) (by decide) (fun c74 => ?_) (fun c74 => ?_)
              · refine lv_iinc (v := nI (n + 1)) (lv' := [(1, .int (nI (n + 1))), (0, .ref (bs + 0)), (2, .int (nI y))]) hx hb (dg D_X11_extraDays (i := 41) rfl) hl (k := 1) rfl (nI_add _ _) (by decide) rfl (fun ls hl => ?_)
                refine lv_goto (tgt := 13) hx hb (dg D_X11_extraDays (i := 42) rfl) (by decide) ?_
                exact ih13 (by omega) I71 Rc71 _ _ _ _ (congrArg nI (by omega)) hF hB ⟨_, edD_Ot, hBg⟩ hFR (all_lt_succ (p := fun n => decide (cntP (auto (edD σ n (Yn σ)) ALLG) = 0)) hn (decide_eq_false (show ¬ cntP (auto (edD σ n (Yn σ)) ALLG) = 0 from c74))) hW hS (lv_sub hl [1, 0] rfl)
              · refine lv_iload_n hx hb (dg D_X11_extraDays (i := 39) rfl) rfl (lv_at hl 1 rfl) ?_
                exact fin (dg D_X11_extraDays (i := 40) rfl) hW hS ⟨(fstI_hit (p := fun n => decide (cntP (auto (edD σ n (Yn σ)) ALLG) = 0)) (n := 101) (by omega) (decide_eq_true (show cntP (auto (edD σ n (Yn σ)) ALLG) = 0 from (by first | exact c74 | exact Classical.not_not.mp c74))) hn), hF, rfl, hFR⟩
            · have hBg := hBy
              refine lv_aload_n hx hb (dg D_X11_extraDays (i := 17) rfl) rfl (lv_at hl 0 rfl) ?_
              refine r_getr (v := γ) X hW FI_X11_75 rfl (by decide) rfl ((hFR _ _ (by omega)).trans hR9) (dg D_X11_extraDays (i := 18) rfl) ?_
              refine rn_getc (t := γ + 9) X hW FN_X11_229 (shB hγ) (ncB0 hγ) rfl (dg D_X11_extraDays (i := 19) rfl) ?_
              refine lv_iload_n hx hb (dg D_X11_extraDays (i := 20) rfl) rfl (lv_at hl 2 rfl) ?_
              refine lv_sipush (v := nI 200) hx hb (dg D_X11_extraDays (i := 21) rfl) (by decide) ?_
              refine lv_aload_n hx hb (dg D_X11_extraDays (i := 22) rfl) rfl (lv_at hl 0 rfl) ?_
              refine r_getr (v := β) X hW FI_X11_67 rfl (by decide) rfl ((hFR _ _ (by omega)).trans hR7) (dg D_X11_extraDays (i := 23) rfl) ?_
              refine rn_getc (t := β + 9) X hW FN_X11_229 (shB hβ) (ncB0 hβ) rfl (dg D_X11_extraDays (i := 24) rfl) ?_
              refine lv_iload_n hx hb (dg D_X11_extraDays (i := 25) rfl) rfl (lv_at hl 2 rfl) ?_
              refine r_ald (j := y) (v := σ (80 + y)) X hW (shB9 hβ) (ncB hβ (by decide)) rfl (by omega) (by omega) (hB.da (by omega)) (dg D_X11_extraDays (i := 26) rfl) ?_
              refine lv_iload_n hx hb (dg D_X11_extraDays (i := 27) rfl) rfl (lv_at hl 1 rfl) ?_
              refine lv_iadd hx hb (dg D_X11_extraDays (i := 28) rfl) ?_
              refine r_min (v := mn (nI 200) (σ (80 + y) + nI n)) X hR (by decide) LK_X11_315 (Nat.le_of_ble_eq_true rfl) hl hcs rfl (dg D_X11_extraDays (i := 29) rfl) ?_
              refine r_ast (j := y) (v := mn (nI 200) (σ (80 + y) + nI n)) X hW hS (shB9 hγ) (ncB hγ (by decide)) rfl (by omega) (by omega) (dg D_X11_extraDays (i := 30) rfl) (fun H locs hW hS => ?_)
              have hF : Fr (SAs γ u) I (u2 K21 (γ + 9) y (mn (nI 200) (σ (80 + y) + nI n))) := Fr.put hF (SAs_b (by decide))
              have hB : BrAt (u2 K21 (γ + 9) y (mn (nI 200) (σ (80 + y) + nI n))) β σ := BrAt.pu hB (by omega)
              have hBg : BrAt (u2 K21 (γ + 9) y (mn (nI 200) (σ (80 + y) + nI n))) γ (edX σ ρ n (y + 1)) := by rw [← edX_s]; exact BrAt_day (edX_Inv hi hot) hBg (by omega)
              obtain ⟨J57, eJ57⟩ : ∃ J, J = u2 K21 (γ + 9) y (mn (nI 200) (σ (80 + y) + nI n)) := ⟨_, rfl⟩
              rw [← eJ57] at hW hF hB hBg
              have hBy := hBg
              refine lv_iinc (v := nI (y + 1)) (lv' := [(2, .int (nI (y + 1))), (0, .ref (bs + 0)), (1, .int (nI n))]) hx hb (dg D_X11_extraDays (i := 31) rfl) hl (k := 2) rfl (nI_add _ _) (by decide) rfl (fun ls hl => ?_)
              refine lv_goto (tgt := 21) hx hb (dg D_X11_extraDays (i := 32) rfl) (by decide) ?_
              exact ih21 (by omega) J57 KR21 _ _ _ _ (congrArg nI (by omega)) hF hB hBy hFR hW hS (lv_sub hl [1, 2, 0] rfl))
        exact loop21 0 (Nat.zero_le _) K13 KR13 _ _ _ _ (congrArg nI (by omega)) hF hB (by rw [edX_0]; exact hBr) hFR hW hS (lv_sub hl [1, 2, 0] rfl))
  exact loop13 0 (Nat.zero_le _) I8 R _ _ _ _ (congrArg nI (by omega)) hF hB hBv hFR (fun z hz => absurd hz (Nat.not_lt_zero z)) hW hS (lv_sub hl [1, 0] rfl)

set_option maxHeartbeats 4000000 in
set_option maxRecDepth 100000 in
theorem c_X11_fewestGangs {l : Launch} {G : va_G} {bs : Nat} {cy : Nat → ClassId} {I : CI} {L : CL} {R : CR} (σ : Row) (β : Nat) (q : Nat) (u : Nat) (hi : Inv σ) (hd : DR σ) (hβ : isBr β) (hB : BrAt I β σ) (hq : isPl q) (hP : PlAt I q σ) (hRb : R q 0 = β) (hR7 : R 0 7 = β) (hR8 : R 0 8 = q) (hu9 : isPl u) (hR10 : R 0 10 = u) (huq9 : u ≠ q) : MTi l G bs cy MX11_fewestGangs 7 [.ref (bs + 0)] I L R (fun r I1 L1 R1 => fgR σ = r ∧ Fr (SAp u) I I1 ∧ L = L1 ∧ FR u R R1) := by
  refine MTi.of (own := RX11) pn_RX11 rfl (Nat.le_of_ble_eq_true rfl) ?_
  intro p e s m args below meth c Qf X hW hS fin ls hl
  have hx := X.1
  have hb := X.2.1
  have hR : RmOK (rmL 7 0 0) 7 := ⟨rfl, rfl⟩
  have hcs : 0 ≤ (rmL 7 0 0).cells ∧ 0 ≤ (rmL 7 0 0).slots := ⟨Nat.zero_le _, Nat.zero_le _⟩
  have hl : lv_has ls 5 [(0, .ref (bs + 0))] := hl
  have hF : Fr (SAp u) I I := Fr.rf
  have hFR : FR u R R := FR.rf
  obtain ⟨hY, hY1, hY12, hLn, hL4, hSn, hS12, hGn, hG5⟩ := id hi
  have hbq := br_pl hβ hq
  have huq : 53 ≤ u := by rcases hu9 with rfl | rfl <;> omega
  have hpp := pl_pl hq hu9 huq9
  have hbu := br_pl hβ hu9
  have hpw := two_Gle hi
  refine n_iconst (a := 1) hx hb (dg D_X11_fewestGangs (i := 0) rfl) rfl ?_
  refine lv_aload_n hx hb (dg D_X11_fewestGangs (i := 1) rfl) rfl (lv_at hl 0 rfl) ?_
  refine r_getr (v := β) X hW FI_X11_67 rfl (by decide) rfl hR7 (dg D_X11_fewestGangs (i := 2) rfl) ?_
  refine rn_geti (v := nI (nG σ)) X hW FN_X11_226 (shB hβ) (ncB0 hβ) rfl (hB.c5 hi) (dg D_X11_fewestGangs (i := 3) rfl) ?_
  refine lv_ishl hx hb (dg D_X11_fewestGangs (i := 4) rfl) ?_
  rw [show (nI 1) <<< ((nI (nG σ)) &&& 31) = nI (2 ^ nG σ) from (two_G hi)]
  refine n_iconst (a := 1) hx hb (dg D_X11_fewestGangs (i := 5) rfl) rfl ?_
  refine n_isub hx hb (dg D_X11_fewestGangs (i := 6) rfl) (by omega) ?_
  refine lv_istore_n (lv' := [(1, .int (nI ((2 ^ nG σ) - 1))), (0, .ref (bs + 0))]) hx hb (dg D_X11_fewestGangs (i := 7) rfl) rfl hl (by decide) rfl (fun ls hl => ?_)
  refine lv_aload_n hx hb (dg D_X11_fewestGangs (i := 8) rfl) rfl (lv_at hl 1 rfl) ?_
  refine lv_aload_n hx hb (dg D_X11_fewestGangs (i := 9) rfl) rfl (lv_at hl 1 rfl) ?_
  refine r_getr (v := β) X hW FI_X11_67 rfl (by decide) rfl hR7 (dg D_X11_fewestGangs (i := 10) rfl) ?_
  refine lv_iload_n hx hb (dg D_X11_fewestGangs (i := 11) rfl) rfl (lv_at hl 0 rfl) ?_
  refine callVi X hW hS hR (c_X11_autoPastOf (I := I) σ β u (nI (2 ^ nG σ - 1)) (by first | assumption | omega | decide | exact hP.1) (by first | assumption | omega | decide | exact hP.1) (by first | assumption | omega | decide | exact hP.1) (by first | assumption | omega | decide | exact hP.1) (by first | assumption | omega | decide | exact hP.1) (by first | assumption | omega | decide | exact hP.1)) (by decide) UVX11_autoPastOf LK_X11_303 rfl (by decide) rfl rfl rfl (Nat.le_of_ble_eq_true rfl) hl hcs (dg D_X11_fewestGangs (i := 12) rfl) (fun r18 I18 L1 Rc18 H locs hq hW hS => ?_)
  obtain ⟨rfl, hT18, rfl, hRF18⟩ := hq
  have hF : Fr (SAp u) I I18 := Fr.tr hF hT18 (fun _ _ h => h)
  have hB : BrAt I18 β σ := BrAt.fr hB hT18 (fun a j h1 h2 => Bool.eq_false_iff.mpr (fun h => by simp only [SAp, Bool.or_eq_true, Bool.and_eq_true, beq_iff_eq, decide_eq_true_eq] at h; omega))
  have hFR : FR u R Rc18 := hFR.tr hRF18
  refine lv_istore_n (lv' := [(2, .int (cntP (auto σ (nI (2 ^ nG σ - 1))))), (1, .int (nI ((2 ^ nG σ) - 1))), (0, .ref (bs + 0))]) hx hb (dg D_X11_fewestGangs (i := 13) rfl) rfl hl (by decide) rfl (fun ls hl => ?_)
  refine lv_iload_n hx hb (dg D_X11_fewestGangs (i := 14) rfl) rfl (lv_at hl 1 rfl) ?_
  refine lv_istore_n (lv' := [(3, .int (nI ((2 ^ nG σ) - 1))), (2, .int (cntP (auto σ (nI (2 ^ nG σ - 1))))), (1, .int (nI ((2 ^ nG σ) - 1))), (0, .ref (bs + 0))]) hx hb (dg D_X11_fewestGangs (i := 15) rfl) rfl hl (by decide) rfl (fun ls hl => ?_)
  refine lv_iload_n hx hb (dg D_X11_fewestGangs (i := 16) rfl) rfl (lv_at hl 2 rfl) ?_
  refine n_iconst (a := 1) hx hb (dg D_X11_fewestGangs (i := 17) rfl) rfl ?_
  refine lv_isub hx hb (dg D_X11_fewestGangs (i := 18) rfl) ?_
  rw [show (nI ((2 ^ nG σ) - 1)) - (nI 1) = nI (2 ^ nG σ - 1) - nI 1 from rfl]
  refine lv_istore (lv' := [(4, .int (nI (2 ^ nG σ - 1) - nI 1)), (3, .int (nI ((2 ^ nG σ) - 1))), (2, .int (cntP (auto σ (nI (2 ^ nG σ - 1))))), (1, .int (nI ((2 ^ nG σ) - 1))), (0, .ref (bs + 0))]) hx hb (dg D_X11_fewestGangs (i := 19) rfl) hl (by decide) rfl (fun ls hl => ?_)
  have loop29 := up_ind (P := fun t => ∀ (K29 : CI) (KR29 : CR) (H : Heap) (locs : List Loc) (ls : Array Slot) (v3 : Int32) (v4 : Int32), v3 = nI (fgB σ t) → v4 = nI (2 ^ nG σ - 1 - t) - nI 1 → (Fr (SAp u) I K29) → (BrAt K29 β σ) → (FR u R KR29) → Wd G bs cy K29 L KR29 H → va_S (Aq bs) s.heap H locs → lv_has ls 5 [(0, .ref (bs + 0)), (1, .int (nI ((2 ^ nG σ) - 1))), (2, .int (cntP (auto σ (nI (2 ^ nG σ - 1))))), (3, .int v3), (4, .int v4)] → W p l e (rmL 7 0 0) s m args below meth c H locs 0 0 Qf (F0 m 29 ls [])) (2 ^ nG σ - 1) (fun t hx29 ih29 => by
      intro K29 KR29 H locs ls v3 v4 q3 q4 hF hB hFR hW hS hl
      subst q3
      subst q4
      refine lv_iload hx hb (dg D_X11_fewestGangs (i := 20) rfl) (lv_at hl 4 rfl) ?_
      refine lv_if_lt (tgt := 69) hx hb (dg D_X11_fewestGangs (i := 21) rfl) (by decide) (fun c31 => ?_) (fun c31 => ?_)
      · refine lv_iload_n hx hb (dg D_X11_fewestGangs (i := 38) rfl) rfl (lv_at hl 3 rfl) ?_
        exact fin (dg D_X11_fewestGangs (i := 39) rfl) hW hS ⟨(fgB_fin (t := t) hi (by rcases Nat.lt_or_ge t (2 ^ nG σ - 1) with h | h; exact absurd c31 (by rw [nI_sub (show 1 ≤ 2 ^ nG σ - 1 - t by omega)]; exact nI_pos (by omega)); omega)).symm, hF, rfl, hFR⟩
      · have hm0 : t < 2 ^ nG σ - 1 := by rcases Nat.lt_or_ge t (2 ^ nG σ - 1) with h | h; exact h; exact absurd (by rw [show 2 ^ nG σ - 1 - t = 0 by omega]; decide) c31
        have hge : nI (2 ^ nG σ - 1 - t) - nI 1 = nI (2 ^ nG σ - 1 - (t + 1)) := by rw [nI_sub (by omega)]; exact congrArg nI (by omega)
        rw [hge] at hl
        obtain ⟨hb1, hb2, _, _⟩ := fgB_ok hi t (by omega)
        refine lv_iload hx hb (dg D_X11_fewestGangs (i := 22) rfl) (lv_at hl 4 rfl) ?_
        refine callSi X hW hS hR (c_J6_bitCount_0f7a4 (I := K29) (2 ^ nG σ - 1 - (t + 1)) (by first | assumption | omega | decide | exact hP.1)) (by decide) USJ6_bitCount_0f7a4 LK_X11_310 rfl rfl (Nat.le_of_ble_eq_true rfl) hl hcs (dg D_X11_fewestGangs (i := 23) rfl) (fun r36 I36 L1 R1 H locs hq hW hS => ?_)
        obtain ⟨rfl, rfl, rfl, rfl⟩ := hq
        refine lv_iload_n hx hb (dg D_X11_fewestGangs (i := 24) rfl) rfl (lv_at hl 3 rfl) ?_
        refine callSi X hW hS hR (c_J6_bitCount_0f7a4 (I := K29) (fgB σ t) (by first | assumption | omega | decide | exact hP.1)) (by decide) USJ6_bitCount_0f7a4 LK_X11_310 rfl rfl (Nat.le_of_ble_eq_true rfl) hl hcs (dg D_X11_fewestGangs (i := 25) rfl) (fun r40 I40 L1 R1 H locs hq hW hS => ?_)
        obtain ⟨rfl, rfl, rfl, rfl⟩ := hq
        refine lv_icmp_gt (tgt := 63) hx hb (dg D_X11_fewestGangs (i := 26) rfl) (by decide) (fun c43 => ?_) (fun c43 => ?_)
        · refine lv_iinc (v := nI (2 ^ nG σ - 1 - (t + 1)) - nI 1) (lv' := [(4, .int (nI (2 ^ nG σ - 1 - (t + 1)) - nI 1)), (0, .ref (bs + 0)), (1, .int (nI ((2 ^ nG σ) - 1))), (2, .int (cntP (auto σ (nI (2 ^ nG σ - 1))))), (3, .int (nI (fgB σ t)))]) hx hb (dg D_X11_fewestGangs (i := 36) rfl) hl (k := 4) rfl (show nI (2 ^ nG σ - 1 - (t + 1)) + Int32.ofInt (-1) = nI (2 ^ nG σ - 1 - (t + 1)) - nI 1 by rw [Int32.sub_eq_add_neg]; rfl) (by decide) rfl (fun ls hl => ?_)
          refine lv_goto (tgt := 29) hx hb (dg D_X11_fewestGangs (i := 37) rfl) (by decide) ?_
          have hfb : fgB σ (t + 1) = _ := if_neg (fun z => (fg_1 (by omega) (by omega)).mp c43 z.1)
          exact ih29 (by omega) K29 KR29 _ _ _ _ _ (by rw [hfb]) rfl hF hB hFR hW hS (lv_sub hl [1, 2, 3, 4, 0] rfl)
        · refine lv_aload_n hx hb (dg D_X11_fewestGangs (i := 27) rfl) rfl (lv_at hl 0 rfl) ?_
          refine lv_aload_n hx hb (dg D_X11_fewestGangs (i := 28) rfl) rfl (lv_at hl 0 rfl) ?_
          refine r_getr (v := β) X hW FI_X11_67 rfl (by decide) rfl ((hFR _ _ (by omega)).trans hR7) (dg D_X11_fewestGangs (i := 29) rfl) ?_
          refine lv_iload hx hb (dg D_X11_fewestGangs (i := 30) rfl) (lv_at hl 4 rfl) ?_
          refine callVi X hW hS hR (c_X11_autoPastOf (I := K29) σ β u (nI (2 ^ nG σ - 1 - (t + 1))) (by first | assumption | omega | decide | exact hP.1) (by first | assumption | omega | decide | exact hP.1) (by first | assumption | omega | decide | exact hP.1) (by first | assumption | omega | decide | exact hP.1) (by first | assumption | omega | decide | exact hP.1) ((hFR _ _ (by omega)).trans hR10)) (by decide) UVX11_autoPastOf LK_X11_303 rfl (by decide) rfl rfl rfl (Nat.le_of_ble_eq_true rfl) hl hcs (dg D_X11_fewestGangs (i := 31) rfl) (fun r53 I53 L1 Rc53 H locs hq hW hS => ?_)
          obtain ⟨rfl, hT53, rfl, hRF53⟩ := hq
          have hF : Fr (SAp u) I I53 := Fr.tr hF hT53 (fun _ _ h => h)
          have hB : BrAt I53 β σ := BrAt.fr hB hT53 (fun a j h1 h2 => Bool.eq_false_iff.mpr (fun h => by simp only [SAp, Bool.or_eq_true, Bool.and_eq_true, beq_iff_eq, decide_eq_true_eq] at h; omega))
          have hFR : FR u R Rc53 := hFR.tr hRF53
          refine lv_iload_n hx hb (dg D_X11_fewestGangs (i := 32) rfl) rfl (lv_at hl 2 rfl) ?_
          refine lv_icmp_gt (tgt := 63) hx hb (dg D_X11_fewestGangs (i := 33) rfl) (by decide) (fun c57 => ?_) (fun c57 => ?_)
          · refine lv_iinc (v := nI (2 ^ nG σ - 1 - (t + 1)) - nI 1) (lv' := [(4, .int (nI (2 ^ nG σ - 1 - (t + 1)) - nI 1)), (0, .ref (bs + 0)), (1, .int (nI ((2 ^ nG σ) - 1))), (2, .int (cntP (auto σ (nI (2 ^ nG σ - 1))))), (3, .int (nI (fgB σ t)))]) hx hb (dg D_X11_fewestGangs (i := 36) rfl) hl (k := 4) rfl (show nI (2 ^ nG σ - 1 - (t + 1)) + Int32.ofInt (-1) = nI (2 ^ nG σ - 1 - (t + 1)) - nI 1 by rw [Int32.sub_eq_add_neg]; rfl) (by decide) rfl (fun ls hl => ?_)
            refine lv_goto (tgt := 29) hx hb (dg D_X11_fewestGangs (i := 37) rfl) (by decide) ?_
            have hfb : fgB σ (t + 1) = _ := if_neg (fun z => Int32.not_lt.mpr (of_decide_eq_true z.2) (by rw [← all_gs hi]; exact c57))
            exact ih29 (by omega) I53 Rc53 _ _ _ _ _ (by rw [hfb]) rfl hF hB hFR hW hS (lv_sub hl [1, 2, 3, 4, 0] rfl)
          · refine lv_iload hx hb (dg D_X11_fewestGangs (i := 34) rfl) (lv_at hl 4 rfl) ?_
            refine lv_istore_n (lv' := [(3, .int (nI (2 ^ nG σ - 1 - (t + 1)))), (0, .ref (bs + 0)), (1, .int (nI ((2 ^ nG σ) - 1))), (2, .int (cntP (auto σ (nI (2 ^ nG σ - 1))))), (4, .int (nI (2 ^ nG σ - 1 - (t + 1))))]) hx hb (dg D_X11_fewestGangs (i := 35) rfl) rfl hl (by decide) rfl (fun ls hl => ?_)
            refine lv_iinc (v := nI (2 ^ nG σ - 1 - (t + 1)) - nI 1) (lv' := [(4, .int (nI (2 ^ nG σ - 1 - (t + 1)) - nI 1)), (3, .int (nI (2 ^ nG σ - 1 - (t + 1)))), (0, .ref (bs + 0)), (1, .int (nI ((2 ^ nG σ) - 1))), (2, .int (cntP (auto σ (nI (2 ^ nG σ - 1)))))]) hx hb (dg D_X11_fewestGangs (i := 36) rfl) hl (k := 4) rfl (show nI (2 ^ nG σ - 1 - (t + 1)) + Int32.ofInt (-1) = nI (2 ^ nG σ - 1 - (t + 1)) - nI 1 by rw [Int32.sub_eq_add_neg]; rfl) (by decide) rfl (fun ls hl => ?_)
            refine lv_goto (tgt := 29) hx hb (dg D_X11_fewestGangs (i := 37) rfl) (by decide) ?_
            have hfb : fgB σ (t + 1) = _ := if_pos ⟨Classical.not_not.mp (fun z => c43 ((fg_1 (by omega) (by omega)).mpr z)), decide_eq_true (by rw [← all_gs hi]; exact Int32.not_lt.mp c57)⟩
            exact ih29 (by omega) I53 Rc53 _ _ _ _ _ (by rw [hfb]) rfl hF hB hFR hW hS (lv_sub hl [2, 3, 4, 1, 0] rfl))
  exact loop29 0 (Nat.zero_le _) I18 Rc18 _ _ _ _ _ (rfl) (rfl) hF hB hFR hW hS (lv_sub hl [4, 3, 2, 1, 0] rfl)

set_option maxHeartbeats 4000000 in
set_option maxRecDepth 100000 in
theorem c_X11_write {l : Launch} {G : va_G} {bs : Nat} {cy : Nat → ClassId} {I : CI} {L : CL} {R : CR} (σ : Row) (β : Nat) (q : Nat) (f : Nat → Int32) (hi : Inv σ) (hd : DR σ) (hβ : isBr β) (hB : BrAt I β σ) (hq : isPl q) (hP : PlAt I q σ) (hRb : R q 0 = β) (hR7 : R 0 7 = β) (hR8 : R 0 8 = q) : MTi l G bs cy MX11_write 3 [.ref (bs + 0)] I L R (fun r I1 L1 R1 => nI (wrO σ f).2 = r ∧ Fr SOu I I1 ∧ OuAt I1 (wrO σ f) ∧ L = L1 ∧ R = R1) := by
  refine MTi.of (own := RX11) pn_RX11 rfl (Nat.le_of_ble_eq_true rfl) ?_
  intro p e s m args below meth c Qf X hW hS fin ls hl
  have hx := X.1
  have hb := X.2.1
  have hR : RmOK (rmL 3 0 0) 3 := ⟨rfl, rfl⟩
  have hcs : 0 ≤ (rmL 3 0 0).cells ∧ 0 ≤ (rmL 3 0 0).slots := ⟨Nat.zero_le _, Nat.zero_le _⟩
  have hl : lv_has ls 3 [(0, .ref (bs + 0))] := hl
  have hF : Fr SOu I I := Fr.rf
  obtain ⟨hY, hY1, hY12, hLn, hL4, hSn, hS12, hGn, hG5⟩ := id hi
  have hbq := br_pl hβ hq
  refine lv_aload_n hx hb (dg D_X11_write (i := 0) rfl) rfl (lv_at hl 0 rfl) ?_
  refine r_getc (t := 27) X hW FI_X11_40 rfl (by decide) rfl (dg D_X11_write (i := 1) rfl) ?_
  refine callVv X hW hS hR (c_X4_clear (I := I) f) (by decide) UVX4_clear LK_X11_318 rfl (by decide) rfl rfl rfl (Nat.le_of_ble_eq_true rfl) hl hcs (dg D_X11_write (i := 2) rfl) (fun I4 L1 R1 H locs hq hW hS => ?_)
  obtain ⟨hT4, hp4_0, rfl, rfl⟩ := hq
  have hF : Fr SOu I I4 := Fr.tr hF hT4 (fun _ _ h => h)
  have hB : BrAt I4 β σ := BrAt.fr hB hT4 (fun a j h1 h2 => Bool.eq_false_iff.mpr (fun h => by simp only [SOu, Bool.or_eq_true, Bool.and_eq_true, beq_iff_eq, decide_eq_true_eq] at h; omega))
  have hP : PlAt I4 q σ := PlAt.fr hP hT4 (fun a j h1 h2 => Bool.eq_false_iff.mpr (fun h => by simp only [SOu, Bool.or_eq_true, Bool.and_eq_true, beq_iff_eq, decide_eq_true_eq] at h; omega))
  refine n_iconst (a := 0) hx hb (dg D_X11_write (i := 3) rfl) rfl ?_
  refine lv_istore_n (lv' := [(1, .int (nI 0)), (0, .ref (bs + 0))]) hx hb (dg D_X11_write (i := 4) rfl) rfl hl (by decide) rfl (fun ls hl => ?_)
  have loop9 := up_ind (P := fun y => ∀ (K9 : CI) (H : Heap) (locs : List Loc) (ls : Array Slot) (v1 : Int32), v1 = nI y → (Fr SOu I K9) → (BrAt K9 β σ) → (PlAt K9 q σ) → (OuAt K9 (oY σ (f, 0) y)) → Wd G bs cy K9 L R H → va_S (Aq bs) s.heap H locs → lv_has ls 3 [(0, .ref (bs + 0)), (1, .int v1)] → W p l e (rmL 3 0 0) s m args below meth c H locs 0 0 Qf (F0 m 9 ls [])) (Yn σ) (fun y hx9 ih9 => by
      intro K9 H locs ls v1 q1 hF hB hP hoY hW hS hl
      subst q1
      refine lv_iload_n hx hb (dg D_X11_write (i := 5) rfl) rfl (lv_at hl 1 rfl) ?_
      refine lv_aload_n hx hb (dg D_X11_write (i := 6) rfl) rfl (lv_at hl 0 rfl) ?_
      refine r_getr (v := β) X hW FI_X11_67 rfl (by decide) rfl hR7 (dg D_X11_write (i := 7) rfl) ?_
      refine rn_geti (v := nI (Yn σ)) X hW FN_X11_168 (shB hβ) (ncB0 hβ) rfl (hB.c0 hi) (dg D_X11_write (i := 8) rfl) ?_
      refine n_icmp_ge (tgt := 116) hx hb (by omega) (by omega) (dg D_X11_write (i := 9) rfl) (by decide) (fun c17 => ?_) (fun c17 => ?_)
      · refine lv_aload_n hx hb (dg D_X11_write (i := 55) rfl) rfl (lv_at hl 0 rfl) ?_
        refine r_getc (t := 27) X hW FI_X11_40 rfl (by decide) rfl (dg D_X11_write (i := 56) rfl) ?_
        refine callVi X hW hS hR (c_X4_size (I := K9) (wrO σ f) (by rw [show y = Yn σ by omega] at hoY; exact hoY)) (by decide) UVX4_size LK_X11_326 rfl (by decide) rfl rfl rfl (Nat.le_of_ble_eq_true rfl) hl hcs (dg D_X11_write (i := 57) rfl) (fun r120 I120 L1 R1 H locs hq hW hS => ?_)
        obtain ⟨rfl, rfl, rfl, rfl⟩ := hq
        exact fin (dg D_X11_write (i := 58) rfl) hW hS ⟨rfl, hF, by rw [show y = Yn σ by omega] at hoY; exact hoY, rfl, rfl⟩
      · refine n_iconst (a := 0) hx hb (dg D_X11_write (i := 10) rfl) rfl ?_
        refine lv_istore_n (lv' := [(2, .int (nI 0)), (0, .ref (bs + 0)), (1, .int (nI y))]) hx hb (dg D_X11_write (i := 11) rfl) rfl hl (by decide) rfl (fun ls hl => ?_)
        have loop22 := up_ind (P := fun x => ∀ (K22 : CI) (H : Heap) (locs : List Loc) (ls : Array Slot) (v2 : Int32), v2 = nI x → (Fr SOu I K22) → (BrAt K22 β σ) → (PlAt K22 q σ) → (OuAt K22 (oS σ y (oY σ (f, 0) y) x)) → Wd G bs cy K22 L R H → va_S (Aq bs) s.heap H locs → lv_has ls 3 [(0, .ref (bs + 0)), (1, .int (nI y)), (2, .int v2)] → W p l e (rmL 3 0 0) s m args below meth c H locs 0 0 Qf (F0 m 22 ls [])) (nS σ) (fun x hx22 ih22 => by
            intro K22 H locs ls v2 q2 hF hB hP ho hW hS hl
            subst q2
            refine lv_iload_n hx hb (dg D_X11_write (i := 12) rfl) rfl (lv_at hl 2 rfl) ?_
            refine lv_aload_n hx hb (dg D_X11_write (i := 13) rfl) rfl (lv_at hl 0 rfl) ?_
            refine r_getr (v := β) X hW FI_X11_67 rfl (by decide) rfl hR7 (dg D_X11_write (i := 14) rfl) ?_
            refine rn_geti (v := nI (nS σ)) X hW FN_X11_128 (shB hβ) (ncB0 hβ) rfl (hB.c4 hi) (dg D_X11_write (i := 15) rfl) ?_
            refine n_icmp_ge (tgt := 110) hx hb (by omega) (by omega) (dg D_X11_write (i := 16) rfl) (by decide) (fun c30 => ?_) (fun c30 => ?_)
            · refine lv_iinc (v := nI (y + 1)) (lv' := [(1, .int (nI (y + 1))), (0, .ref (bs + 0)), (2, .int (nI x))]) hx hb (dg D_X11_write (i := 53) rfl) hl (k := 1) rfl (nI_add _ _) (by decide) rfl (fun ls hl => ?_)
              refine lv_goto (tgt := 9) hx hb (dg D_X11_write (i := 54) rfl) (by decide) ?_
              exact ih9 (by omega) K22 _ _ _ _ (congrArg nI (by omega)) hF hB hP (by rw [show x = nS σ by omega] at ho; exact ho) hW hS (lv_sub hl [1, 0] rfl)
            · refine lv_aload_n hx hb (dg D_X11_write (i := 17) rfl) rfl (lv_at hl 0 rfl) ?_
              refine r_getr (v := q) X hW FI_X11_71 rfl (by decide) rfl hR8 (dg D_X11_write (i := 18) rfl) ?_
              refine lv_iload_n hx hb (dg D_X11_write (i := 19) rfl) rfl (lv_at hl 1 rfl) ?_
              refine lv_iload_n hx hb (dg D_X11_write (i := 20) rfl) rfl (lv_at hl 2 rfl) ?_
              refine callVi X hW hS hR (c_X6_isPainted (I := K22) σ q y x (by first | assumption | omega | decide | exact hP.1) (by first | assumption | omega | decide | exact hP.1) (by first | assumption | omega | decide | exact hP.1) (by first | assumption | omega | decide | exact hP.1)) (by decide) UVX6_isPainted LK_X11_199 (shP hq) (ncP0 hq) rfl rfl rfl (Nat.le_of_ble_eq_true rfl) hl hcs (dg D_X11_write (i := 21) rfl) (fun r39 I39 L1 R1 H locs hq hW hS => ?_)
              obtain ⟨rfl, rfl, rfl, rfl⟩ := hq
              refine z_if_eq (tgt := 104) hx hb (dg D_X11_write (i := 22) rfl) (by decide) (fun c42 => ?_) (fun c42 => ?_)
              · refine lv_iinc (v := nI (x + 1)) (lv' := [(2, .int (nI (x + 1))), (0, .ref (bs + 0)), (1, .int (nI y))]) hx hb (dg D_X11_write (i := 51) rfl) hl (k := 2) rfl (nI_add _ _) (by decide) rfl (fun ls hl => ?_)
                refine lv_goto (tgt := 22) hx hb (dg D_X11_write (i := 52) rfl) (by decide) ?_
                exact ih22 (by omega) K22 _ _ _ _ (congrArg nI (by omega)) hF hB hP (by show OuAt _ (oX σ y x (oS σ y (oY σ (f, 0) y) x)); rw [oX_n (Classical.not_not.mp (of_decide_eq_false c42))]; exact ho) hW hS (lv_sub hl [1, 2, 0] rfl)
              · have hl8 := oS_le (y := y) (oY σ (f, 0) y) hd hi (by omega) x (by omega)
                have hl9 := oY_le (f, 0) hd hi y (by omega)
                obtain ⟨g0, hg0l, _, _, hg0⟩ := (hd.2.1 x y (by omega) (by omega)).resolve_left (of_decide_eq_true c42)
                have hxy := oX_y (o := oS σ y (oY σ (f, 0) y) x) hg0 (by omega)
                obtain ⟨o, hoD⟩ : ∃ o : Out, o = oS σ y (oY σ (f, 0) y) x := ⟨_, rfl⟩
                rw [← hoD] at ho hl8 hxy
                have hl7 : o.2 ≤ 1144 := Nat.le_trans hl8 (Nat.le_trans (Nat.add_le_add_right hl9 _) (by show 0 + 96 * y + 8 * x ≤ 1144; omega))
                refine lv_aload_n hx hb (dg D_X11_write (i := 23) rfl) rfl (lv_at hl 0 rfl) ?_
                refine r_getc (t := 27) X hW FI_X11_40 rfl (by decide) rfl (dg D_X11_write (i := 24) rfl) ?_
                refine lv_iload_n hx hb (dg D_X11_write (i := 25) rfl) rfl (lv_at hl 1 rfl) ?_
                refine callVv X hW hS hR (c_X4_addNumber (I := K22) o y (ho) (by omega) (by first | assumption | omega | decide | exact hP.1)) (by decide) UVX4_addNumber LK_X11_319 rfl (by decide) rfl rfl rfl (Nat.le_of_ble_eq_true rfl) hl hcs (dg D_X11_write (i := 26) rfl) (fun I50 L1 R1 H locs hq hW hS => ?_)
                obtain ⟨hT50, hp50_0, rfl, rfl⟩ := hq
                have hF : Fr SOu I I50 := Fr.tr hF hT50 (fun _ _ h => h)
                have hB : BrAt I50 β σ := BrAt.fr hB hT50 (fun a j h1 h2 => Bool.eq_false_iff.mpr (fun h => by simp only [SOu, Bool.or_eq_true, Bool.and_eq_true, beq_iff_eq, decide_eq_true_eq] at h; omega))
                have hP : PlAt I50 q σ := PlAt.fr hP hT50 (fun a j h1 h2 => Bool.eq_false_iff.mpr (fun h => by simp only [SOu, Bool.or_eq_true, Bool.and_eq_true, beq_iff_eq, decide_eq_true_eq] at h; omega))
                have q1 := oN_le o y
                have q2 : (oP (oN o y) (nI 58)).2 = (oN o y).2 + 1 := rfl
                refine lv_aload_n hx hb (dg D_X11_write (i := 27) rfl) rfl (lv_at hl 0 rfl) ?_
                refine r_getc (t := 27) X hW FI_X11_40 rfl (by decide) rfl (dg D_X11_write (i := 28) rfl) ?_
                refine lv_bipush (v := nI 58) hx hb (dg D_X11_write (i := 29) rfl) (by decide) ?_
                refine callVv X hW hS hR (c_X4_addSign (I := I50) (oN o y) (nI 58) (hp50_0) (by omega) (by decide)) (by decide) UVX4_addSign LK_X11_322 rfl (by decide) rfl rfl rfl (Nat.le_of_ble_eq_true rfl) hl hcs (dg D_X11_write (i := 30) rfl) (fun I59 L1 R1 H locs hq hW hS => ?_)
                obtain ⟨hT59, hp59_0, rfl, rfl⟩ := hq
                have hF : Fr SOu I I59 := Fr.tr hF hT59 (fun _ _ h => h)
                have hB : BrAt I59 β σ := BrAt.fr hB hT59 (fun a j h1 h2 => Bool.eq_false_iff.mpr (fun h => by simp only [SOu, Bool.or_eq_true, Bool.and_eq_true, beq_iff_eq, decide_eq_true_eq] at h; omega))
                have hP : PlAt I59 q σ := PlAt.fr hP hT59 (fun a j h1 h2 => Bool.eq_false_iff.mpr (fun h => by simp only [SOu, Bool.or_eq_true, Bool.and_eq_true, beq_iff_eq, decide_eq_true_eq] at h; omega))
                have q3 := oN_le (oP (oN o y) (nI 58)) x
                refine lv_aload_n hx hb (dg D_X11_write (i := 31) rfl) rfl (lv_at hl 0 rfl) ?_
                refine r_getc (t := 27) X hW FI_X11_40 rfl (by decide) rfl (dg D_X11_write (i := 32) rfl) ?_
                refine lv_iload_n hx hb (dg D_X11_write (i := 33) rfl) rfl (lv_at hl 2 rfl) ?_
                refine callVv X hW hS hR (c_X4_addNumber (I := I59) (oP (oN o y) (nI 58)) x (hp59_0) (by omega) (by first | assumption | omega | decide | exact hP.1)) (by decide) UVX4_addNumber LK_X11_319 rfl (by decide) rfl rfl rfl (Nat.le_of_ble_eq_true rfl) hl hcs (dg D_X11_write (i := 34) rfl) (fun I67 L1 R1 H locs hq hW hS => ?_)
                obtain ⟨hT67, hp67_0, rfl, rfl⟩ := hq
                have hF : Fr SOu I I67 := Fr.tr hF hT67 (fun _ _ h => h)
                have hB : BrAt I67 β σ := BrAt.fr hB hT67 (fun a j h1 h2 => Bool.eq_false_iff.mpr (fun h => by simp only [SOu, Bool.or_eq_true, Bool.and_eq_true, beq_iff_eq, decide_eq_true_eq] at h; omega))
                have hP : PlAt I67 q σ := PlAt.fr hP hT67 (fun a j h1 h2 => Bool.eq_false_iff.mpr (fun h => by simp only [SOu, Bool.or_eq_true, Bool.and_eq_true, beq_iff_eq, decide_eq_true_eq] at h; omega))
                have q4 : (oP (oN (oP (oN o y) (nI 58)) x) (nI 47)).2 = (oN (oP (oN o y) (nI 58)) x).2 + 1 := rfl
                refine lv_aload_n hx hb (dg D_X11_write (i := 35) rfl) rfl (lv_at hl 0 rfl) ?_
                refine r_getc (t := 27) X hW FI_X11_40 rfl (by decide) rfl (dg D_X11_write (i := 36) rfl) ?_
                refine lv_bipush (v := nI 47) hx hb (dg D_X11_write (i := 37) rfl) (by decide) ?_
                refine callVv X hW hS hR (c_X4_addSign (I := I67) (oN (oP (oN o y) (nI 58)) x) (nI 47) (hp67_0) (by omega) (by decide)) (by decide) UVX4_addSign LK_X11_322 rfl (by decide) rfl rfl rfl (Nat.le_of_ble_eq_true rfl) hl hcs (dg D_X11_write (i := 38) rfl) (fun I76 L1 R1 H locs hq hW hS => ?_)
                obtain ⟨hT76, hp76_0, rfl, rfl⟩ := hq
                have hF : Fr SOu I I76 := Fr.tr hF hT76 (fun _ _ h => h)
                have hB : BrAt I76 β σ := BrAt.fr hB hT76 (fun a j h1 h2 => Bool.eq_false_iff.mpr (fun h => by simp only [SOu, Bool.or_eq_true, Bool.and_eq_true, beq_iff_eq, decide_eq_true_eq] at h; omega))
                have hP : PlAt I76 q σ := PlAt.fr hP hT76 (fun a j h1 h2 => Bool.eq_false_iff.mpr (fun h => by simp only [SOu, Bool.or_eq_true, Bool.and_eq_true, beq_iff_eq, decide_eq_true_eq] at h; omega))
                have q5 : (oN (oP (oN (oP (oN o y) (nI 58)) x) (nI 47)) g0).2 = (oP (oN (oP (oN o y) (nI 58)) x) (nI 47)).2 + 1 := oN_s (by omega)
                refine lv_aload_n hx hb (dg D_X11_write (i := 39) rfl) rfl (lv_at hl 0 rfl) ?_
                refine r_getc (t := 27) X hW FI_X11_40 rfl (by decide) rfl (dg D_X11_write (i := 40) rfl) ?_
                refine lv_aload_n hx hb (dg D_X11_write (i := 41) rfl) rfl (lv_at hl 0 rfl) ?_
                refine r_getr (v := q) X hW FI_X11_71 rfl (by decide) rfl hR8 (dg D_X11_write (i := 42) rfl) ?_
                refine lv_iload_n hx hb (dg D_X11_write (i := 43) rfl) rfl (lv_at hl 1 rfl) ?_
                refine lv_iload_n hx hb (dg D_X11_write (i := 44) rfl) rfl (lv_at hl 2 rfl) ?_
                refine callVi X hW hS hR (c_X6_painter (I := I76) σ q y x (by first | assumption | omega | decide | exact hP.1) (by first | assumption | omega | decide | exact hP.1) (by first | assumption | omega | decide | exact hP.1) (by first | assumption | omega | decide | exact hP.1)) (by decide) UVX6_painter LK_X11_202 (shP hq) (ncP0 hq) rfl rfl rfl (Nat.le_of_ble_eq_true rfl) hl hcs (dg D_X11_write (i := 45) rfl) (fun r89 I89 L1 R1 H locs hq hW hS => ?_)
                obtain ⟨rfl, rfl, rfl, rfl⟩ := hq
                rw [show pnt σ x y = nI g0 from hg0]
                refine callVv X hW hS hR (c_X4_addNumber (I := I76) (oP (oN (oP (oN o y) (nI 58)) x) (nI 47)) g0 (hp76_0) (by omega) (by first | assumption | omega | decide | exact hP.1)) (by decide) UVX4_addNumber LK_X11_319 rfl (by decide) rfl rfl rfl (Nat.le_of_ble_eq_true rfl) hl hcs (dg D_X11_write (i := 46) rfl) (fun I92 L1 R1 H locs hq hW hS => ?_)
                obtain ⟨hT92, hp92_0, rfl, rfl⟩ := hq
                have hF : Fr SOu I I92 := Fr.tr hF hT92 (fun _ _ h => h)
                have hB : BrAt I92 β σ := BrAt.fr hB hT92 (fun a j h1 h2 => Bool.eq_false_iff.mpr (fun h => by simp only [SOu, Bool.or_eq_true, Bool.and_eq_true, beq_iff_eq, decide_eq_true_eq] at h; omega))
                have hP : PlAt I92 q σ := PlAt.fr hP hT92 (fun a j h1 h2 => Bool.eq_false_iff.mpr (fun h => by simp only [SOu, Bool.or_eq_true, Bool.and_eq_true, beq_iff_eq, decide_eq_true_eq] at h; omega))
                refine lv_aload_n hx hb (dg D_X11_write (i := 47) rfl) rfl (lv_at hl 0 rfl) ?_
                refine r_getc (t := 27) X hW FI_X11_40 rfl (by decide) rfl (dg D_X11_write (i := 48) rfl) ?_
                refine lv_bipush (v := nI 59) hx hb (dg D_X11_write (i := 49) rfl) (by decide) ?_
                refine callVv X hW hS hR (c_X4_addSign (I := I92) (oN (oP (oN (oP (oN o y) (nI 58)) x) (nI 47)) g0) (nI 59) (hp92_0) (by omega) (by decide)) (by decide) UVX4_addSign LK_X11_322 rfl (by decide) rfl rfl rfl (Nat.le_of_ble_eq_true rfl) hl hcs (dg D_X11_write (i := 50) rfl) (fun I101 L1 R1 H locs hq hW hS => ?_)
                obtain ⟨hT101, hp101_0, rfl, rfl⟩ := hq
                have hF : Fr SOu I I101 := Fr.tr hF hT101 (fun _ _ h => h)
                have hB : BrAt I101 β σ := BrAt.fr hB hT101 (fun a j h1 h2 => Bool.eq_false_iff.mpr (fun h => by simp only [SOu, Bool.or_eq_true, Bool.and_eq_true, beq_iff_eq, decide_eq_true_eq] at h; omega))
                have hP : PlAt I101 q σ := PlAt.fr hP hT101 (fun a j h1 h2 => Bool.eq_false_iff.mpr (fun h => by simp only [SOu, Bool.or_eq_true, Bool.and_eq_true, beq_iff_eq, decide_eq_true_eq] at h; omega))
                refine lv_iinc (v := nI (x + 1)) (lv' := [(2, .int (nI (x + 1))), (0, .ref (bs + 0)), (1, .int (nI y))]) hx hb (dg D_X11_write (i := 51) rfl) hl (k := 2) rfl (nI_add _ _) (by decide) rfl (fun ls hl => ?_)
                refine lv_goto (tgt := 22) hx hb (dg D_X11_write (i := 52) rfl) (by decide) ?_
                exact ih22 (by omega) I101 _ _ _ _ (congrArg nI (by omega)) hF hB hP (by show OuAt _ (oX σ y x (oS σ y (oY σ (f, 0) y) x)); rw [← hoD, hxy]; exact hp101_0) hW hS (lv_sub hl [1, 2, 0] rfl))
        exact loop22 0 (Nat.zero_le _) K9 _ _ _ _ (congrArg nI (by omega)) hF hB hP hoY hW hS (lv_sub hl [1, 2, 0] rfl))
  exact loop9 0 (Nat.zero_le _) I4 _ _ _ _ (congrArg nI (by omega)) hF hB hP hp4_0 hW hS (lv_sub hl [1, 0] rfl)

set_option maxHeartbeats 4000000 in
set_option maxRecDepth 100000 in
theorem c_X11_outputByte {l : Launch} {G : va_G} {bs : Nat} {cy : Nat → ClassId} {I : CI} {L : CL} {R : CR} (o : Out) (v : Int32) (hl0 : l.stackTraces = false) (hO : OuAt I o) (ho9 : o.2 ≤ 1152) : XTi l G bs cy MX11_outputByte 6 [.ref (bs + 0), .int v] I L R (fun r I1 L1 R1 => (inB v o.2 = true ∧ r = o.1 (tN v)) ∧ I = I1 ∧ L = L1 ∧ R = R1) (fun E => E = IOE ∧ inB v o.2 = false) 1 6 := by
  refine XTi.of (own := RX11) pn_RX11 rfl (Nat.le_of_ble_eq_true rfl) ?_
  intro p e s m args below meth c Qc Qf X hW hS htab hlk hQf fin ls hl
  have hx := X.1
  have hb := X.2.1
  have hR : RmOK (rmL 6 1 6) 6 := ⟨rfl, rfl⟩
  have hcs : 0 ≤ (rmL 6 1 6).cells ∧ 0 ≤ (rmL 6 1 6).slots := ⟨Nat.zero_le _, Nat.zero_le _⟩
  have hl : lv_has ls 2 [(0, .ref (bs + 0)), (1, .int v)] := hl
  refine lv_iload_n hx hb (dg D_X11_outputByte (i := 0) rfl) rfl (lv_at hl 1 rfl) ?_
  refine lv_if_lt (tgt := 15) hx hb (dg D_X11_outputByte (i := 1) rfl) (by decide) (fun c1 => ?_) (fun c1 => ?_)
  · exact r_th0W X hl0 htab hlk hQf ⟨rfl, inB_lo c1⟩ hW hS hR (Nat.le_of_ble_eq_true rfl) (List.mem_of_getElem? (i := 7) rfl) hl (Nat.le_of_ble_eq_true rfl) (Nat.le_of_ble_eq_true rfl) (Nat.le_of_ble_eq_true rfl) (Nat.le_of_ble_eq_true rfl) (Nat.le_of_ble_eq_true rfl) (dg D_X11_outputByte (i := 7) rfl) (dg D_X11_outputByte (i := 8) rfl) (dg D_X11_outputByte (i := 9) rfl) (dg D_X11_outputByte (i := 10) rfl) (dg D_X11_outputByte (i := 11) rfl)
  · refine lv_iload_n hx hb (dg D_X11_outputByte (i := 2) rfl) rfl (lv_at hl 1 rfl) ?_
    refine lv_aload_n hx hb (dg D_X11_outputByte (i := 3) rfl) rfl (lv_at hl 0 rfl) ?_
    refine r_getc (t := 27) X hW FI_X11_40 rfl (by decide) rfl (dg D_X11_outputByte (i := 4) rfl) ?_
    refine callVi X hW hS hR (c_X4_size (I := I) o (by first | assumption | omega | decide | exact hP.1)) (by decide) UVX4_size LK_X11_326 rfl (by decide) rfl rfl rfl (Nat.le_of_ble_eq_true rfl) hl hcs (dg D_X11_outputByte (i := 5) rfl) (fun r9 I9 L1 R1 H locs hq hW hS => ?_)
    obtain ⟨rfl, rfl, rfl, rfl⟩ := hq
    refine lv_icmp_lt (tgt := 26) hx hb (dg D_X11_outputByte (i := 6) rfl) (by decide) (fun c12 => ?_) (fun c12 => ?_)
    · have hok : inB v o.2 = true := inB_ok c1 c12 (by omega)
      obtain ⟨jv, hjv, rfl⟩ := inB_of hok (by omega)
      refine lv_aload_n hx hb (dg D_X11_outputByte (i := 12) rfl) rfl (lv_at hl 0 rfl) ?_
      refine r_getc (t := 27) X hW FI_X11_40 rfl (by decide) rfl (dg D_X11_outputByte (i := 13) rfl) ?_
      refine lv_iload_n hx hb (dg D_X11_outputByte (i := 14) rfl) rfl (lv_at hl 1 rfl) ?_
      refine callVi X hW hS hR (c_X4_byteAt (I := I) o jv (by first | assumption | omega | decide | exact hP.1) (by first | assumption | omega | decide | exact hP.1) (by first | assumption | omega | decide | exact hP.1)) (by decide) UVX4_byteAt LK_X11_329 rfl (by decide) rfl rfl rfl (Nat.le_of_ble_eq_true rfl) hl hcs (dg D_X11_outputByte (i := 15) rfl) (fun r31 I31 L1 R1 H locs hq hW hS => ?_)
      obtain ⟨rfl, rfl, rfl, rfl⟩ := hq
      exact fin (dg D_X11_outputByte (i := 16) rfl) (Nat.le_of_ble_eq_true rfl) (Nat.le_of_ble_eq_true rfl) hW hS ⟨⟨hok, by rw [tN_nI (show jv < 2 ^ 31 by omega)]⟩, rfl, rfl, rfl⟩
    · exact r_th0W X hl0 htab hlk hQf ⟨rfl, inB_hi c12 (by omega)⟩ hW hS hR (Nat.le_of_ble_eq_true rfl) (List.mem_of_getElem? (i := 7) rfl) hl (Nat.le_of_ble_eq_true rfl) (Nat.le_of_ble_eq_true rfl) (Nat.le_of_ble_eq_true rfl) (Nat.le_of_ble_eq_true rfl) (Nat.le_of_ble_eq_true rfl) (dg D_X11_outputByte (i := 7) rfl) (dg D_X11_outputByte (i := 8) rfl) (dg D_X11_outputByte (i := 9) rfl) (dg D_X11_outputByte (i := 10) rfl) (dg D_X11_outputByte (i := 11) rfl)

set_option maxHeartbeats 4000000 in
set_option maxRecDepth 100000 in
theorem c_X11_feed {l : Launch} {G : va_G} {bs : Nat} {cy : Nat → ClassId} {I : CI} {L : CL} {R : CR} (n : Nat) (b : Nat → Int32) (va : Int32) (vb : Int32) (vc : Int32) (vd : Int32) (ve : Int32) (hT : TxAt I n b) (hn9 : n ≤ 900) : MTi l G bs cy MX11_feed 2 [.ref (bs + 0), .int va, .int vb, .int vc, .int vd, .int ve] I L R (fun r I1 L1 R1 => (if n + 20 ≤ 900 then nI (n + 20) else FULLI) = r ∧ Fr STx I I1 ∧ (if n + 20 ≤ 900 then TxAt I1 (n + 20) (fdT b n va vb vc vd ve) else TxAt I1 n b) ∧ L = L1 ∧ R = R1) := by
  refine MTi.of (own := RX11) pn_RX11 rfl (Nat.le_of_ble_eq_true rfl) ?_
  intro p e s m args below meth c Qf X hW hS fin ls hl
  have hx := X.1
  have hb := X.2.1
  have hR : RmOK (rmL 2 0 0) 2 := ⟨rfl, rfl⟩
  have hcs : 0 ≤ (rmL 2 0 0).cells ∧ 0 ≤ (rmL 2 0 0).slots := ⟨Nat.zero_le _, Nat.zero_le _⟩
  have hl : lv_has ls 6 [(0, .ref (bs + 0)), (1, .int va), (2, .int vb), (3, .int vc), (4, .int vd), (5, .int ve)] := hl
  have hF : Fr STx I I := Fr.rf
  refine lv_aload_n hx hb (dg D_X11_feed (i := 0) rfl) rfl (lv_at hl 0 rfl) ?_
  refine r_getc (t := 29) X hW FI_X11_63 rfl (by decide) rfl (dg D_X11_feed (i := 1) rfl) ?_
  refine lv_bipush (v := nI 20) hx hb (dg D_X11_feed (i := 2) rfl) (by decide) ?_
  refine callVi X hW hS hR (c_X9_hasRoomFor (I := I) n b 20 (by first | assumption | omega | decide | exact hP.1) (by first | assumption | omega | decide | exact hP.1) (by first | assumption | omega | decide | exact hP.1)) (by decide) UVX9_hasRoomFor LK_X11_90 rfl (by decide) rfl rfl rfl (Nat.le_of_ble_eq_true rfl) hl hcs (dg D_X11_feed (i := 3) rfl) (fun r6 I6 L1 R1 H locs hq hW hS => ?_)
  obtain ⟨rfl, rfl, rfl, rfl⟩ := hq
  refine z_if_ne (tgt := 15) hx hb (dg D_X11_feed (i := 4) rfl) (by decide) (fun c9 => ?_) (fun c9 => ?_)
  · refine lv_aload_n hx hb (dg D_X11_feed (i := 7) rfl) rfl (lv_at hl 0 rfl) ?_
    have hle : n + 20 ≤ 900 := of_decide_eq_true c9
    refine r_getc (t := 29) X hW FI_X11_63 rfl (by decide) rfl (dg D_X11_feed (i := 8) rfl) ?_
    refine lv_iload_n hx hb (dg D_X11_feed (i := 9) rfl) rfl (lv_at hl 1 rfl) ?_
    refine callVv X hW hS hR (c_X9_append (I := I) n b va (hT) (by first | assumption | omega | decide | exact hP.1)) (by decide) UVX9_append LK_X11_95 rfl (by decide) rfl rfl rfl (Nat.le_of_ble_eq_true rfl) hl hcs (dg D_X11_feed (i := 10) rfl) (fun I20 L1 R1 H locs hq hW hS => ?_)
    obtain ⟨hT20, hp20_0, rfl, rfl⟩ := hq
    have hF : Fr STx I I20 := Fr.tr hF hT20 (fun _ _ h => h)
    refine lv_aload_n hx hb (dg D_X11_feed (i := 11) rfl) rfl (lv_at hl 0 rfl) ?_
    refine r_getc (t := 29) X hW FI_X11_63 rfl (by decide) rfl (dg D_X11_feed (i := 12) rfl) ?_
    refine lv_iload_n hx hb (dg D_X11_feed (i := 13) rfl) rfl (lv_at hl 2 rfl) ?_
    refine callVv X hW hS hR (c_X9_append (I := I20) (n + 4) (ap4 (b) (n) va) vb (hp20_0) (by first | assumption | omega | decide | exact hP.1)) (by decide) UVX9_append LK_X11_95 rfl (by decide) rfl rfl rfl (Nat.le_of_ble_eq_true rfl) hl hcs (dg D_X11_feed (i := 14) rfl) (fun I28 L1 R1 H locs hq hW hS => ?_)
    obtain ⟨hT28, hp28_0, rfl, rfl⟩ := hq
    have hF : Fr STx I I28 := Fr.tr hF hT28 (fun _ _ h => h)
    refine lv_aload_n hx hb (dg D_X11_feed (i := 15) rfl) rfl (lv_at hl 0 rfl) ?_
    refine r_getc (t := 29) X hW FI_X11_63 rfl (by decide) rfl (dg D_X11_feed (i := 16) rfl) ?_
    refine lv_iload_n hx hb (dg D_X11_feed (i := 17) rfl) rfl (lv_at hl 3 rfl) ?_
    refine callVv X hW hS hR (c_X9_append (I := I28) (n + 4 + 4) (ap4 (ap4 (b) (n) va) (n + 4) vb) vc (hp28_0) (by first | assumption | omega | decide | exact hP.1)) (by decide) UVX9_append LK_X11_95 rfl (by decide) rfl rfl rfl (Nat.le_of_ble_eq_true rfl) hl hcs (dg D_X11_feed (i := 18) rfl) (fun I36 L1 R1 H locs hq hW hS => ?_)
    obtain ⟨hT36, hp36_0, rfl, rfl⟩ := hq
    have hF : Fr STx I I36 := Fr.tr hF hT36 (fun _ _ h => h)
    refine lv_aload_n hx hb (dg D_X11_feed (i := 19) rfl) rfl (lv_at hl 0 rfl) ?_
    refine r_getc (t := 29) X hW FI_X11_63 rfl (by decide) rfl (dg D_X11_feed (i := 20) rfl) ?_
    refine lv_iload hx hb (dg D_X11_feed (i := 21) rfl) (lv_at hl 4 rfl) ?_
    refine callVv X hW hS hR (c_X9_append (I := I36) (n + 4 + 4 + 4) (ap4 (ap4 (ap4 (b) (n) va) (n + 4) vb) (n + 4 + 4) vc) vd (hp36_0) (by first | assumption | omega | decide | exact hP.1)) (by decide) UVX9_append LK_X11_95 rfl (by decide) rfl rfl rfl (Nat.le_of_ble_eq_true rfl) hl hcs (dg D_X11_feed (i := 22) rfl) (fun I45 L1 R1 H locs hq hW hS => ?_)
    obtain ⟨hT45, hp45_0, rfl, rfl⟩ := hq
    have hF : Fr STx I I45 := Fr.tr hF hT45 (fun _ _ h => h)
    refine lv_aload_n hx hb (dg D_X11_feed (i := 23) rfl) rfl (lv_at hl 0 rfl) ?_
    refine r_getc (t := 29) X hW FI_X11_63 rfl (by decide) rfl (dg D_X11_feed (i := 24) rfl) ?_
    refine lv_iload hx hb (dg D_X11_feed (i := 25) rfl) (lv_at hl 5 rfl) ?_
    refine callVv X hW hS hR (c_X9_append (I := I45) (n + 4 + 4 + 4 + 4) (ap4 (ap4 (ap4 (ap4 (b) (n) va) (n + 4) vb) (n + 4 + 4) vc) (n + 4 + 4 + 4) vd) ve (hp45_0) (by first | assumption | omega | decide | exact hP.1)) (by decide) UVX9_append LK_X11_95 rfl (by decide) rfl rfl rfl (Nat.le_of_ble_eq_true rfl) hl hcs (dg D_X11_feed (i := 26) rfl) (fun I54 L1 R1 H locs hq hW hS => ?_)
    obtain ⟨hT54, hp54_0, rfl, rfl⟩ := hq
    have hF : Fr STx I I54 := Fr.tr hF hT54 (fun _ _ h => h)
    refine lv_aload_n hx hb (dg D_X11_feed (i := 27) rfl) rfl (lv_at hl 0 rfl) ?_
    refine r_getc (t := 29) X hW FI_X11_63 rfl (by decide) rfl (dg D_X11_feed (i := 28) rfl) ?_
    refine callVi X hW hS hR (c_X9_size (I := I54) (n + 20) (fdT b n va vb vc vd ve) (hp54_0)) (by decide) UVX9_size LK_X11_99 rfl (by decide) rfl rfl rfl (Nat.le_of_ble_eq_true rfl) hl hcs (dg D_X11_feed (i := 29) rfl) (fun r61 I61 L1 R1 H locs hq hW hS => ?_)
    obtain ⟨rfl, rfl, rfl, rfl⟩ := hq
    exact fin (dg D_X11_feed (i := 30) rfl) hW hS ⟨by rw [if_pos (of_decide_eq_true c9)], hF, by rw [if_pos (of_decide_eq_true c9)]; exact hp54_0, rfl, rfl⟩
  · refine r_ldc X CK_X11_94 (dg D_X11_feed (i := 5) rfl) ?_
    exact fin (dg D_X11_feed (i := 6) rfl) hW hS ⟨by rw [if_neg (of_decide_eq_false c9)], hF, by rw [if_neg (of_decide_eq_false c9)]; exact hT, rfl, rfl⟩

set_option maxHeartbeats 4000000 in
set_option maxRecDepth 100000 in
theorem c_X11_errorKind {l : Launch} {G : va_G} {bs : Nat} {cy : Nat → ClassId} {I : CI} {L : CL} {R : CR} (v : Int32) (hv : I 0 11 = v) : MTi l G bs cy MX11_errorKind 1 [.ref (bs + 0)] I L R (fun r I1 L1 R1 => v = r ∧ I = I1 ∧ L = L1 ∧ R = R1) := by
  refine MTi.of (own := RX11) pn_RX11 rfl (Nat.le_of_ble_eq_true rfl) ?_
  intro p e s m args below meth c Qf X hW hS fin ls hl
  have hx := X.1
  have hb := X.2.1
  have hR : RmOK (rmL 1 0 0) 1 := ⟨rfl, rfl⟩
  have hcs : 0 ≤ (rmL 1 0 0).cells ∧ 0 ≤ (rmL 1 0 0).slots := ⟨Nat.zero_le _, Nat.zero_le _⟩
  have hl : lv_has ls 1 [(0, .ref (bs + 0))] := hl
  refine lv_aload_n hx hb (dg D_X11_errorKind (i := 0) rfl) rfl (lv_at hl 0 rfl) ?_
  refine r_geti (v := v) X hW FI_X11_44 rfl (by decide) rfl hv (dg D_X11_errorKind (i := 1) rfl) ?_
  exact fin (dg D_X11_errorKind (i := 2) rfl) hW hS ⟨rfl, rfl, rfl, rfl⟩

set_option maxHeartbeats 4000000 in
set_option maxRecDepth 100000 in
theorem c_X11_errorPosition {l : Launch} {G : va_G} {bs : Nat} {cy : Nat → ClassId} {I : CI} {L : CL} {R : CR} (v : Int32) (hv : I 0 12 = v) : MTi l G bs cy MX11_errorPosition 1 [.ref (bs + 0)] I L R (fun r I1 L1 R1 => v = r ∧ I = I1 ∧ L = L1 ∧ R = R1) := by
  refine MTi.of (own := RX11) pn_RX11 rfl (Nat.le_of_ble_eq_true rfl) ?_
  intro p e s m args below meth c Qf X hW hS fin ls hl
  have hx := X.1
  have hb := X.2.1
  have hR : RmOK (rmL 1 0 0) 1 := ⟨rfl, rfl⟩
  have hcs : 0 ≤ (rmL 1 0 0).cells ∧ 0 ≤ (rmL 1 0 0).slots := ⟨Nat.zero_le _, Nat.zero_le _⟩
  have hl : lv_has ls 1 [(0, .ref (bs + 0))] := hl
  refine lv_aload_n hx hb (dg D_X11_errorPosition (i := 0) rfl) rfl (lv_at hl 0 rfl) ?_
  refine r_geti (v := v) X hW FI_X11_49 rfl (by decide) rfl hv (dg D_X11_errorPosition (i := 1) rfl) ?_
  exact fin (dg D_X11_errorPosition (i := 2) rfl) hW hS ⟨rfl, rfl, rfl, rfl⟩

