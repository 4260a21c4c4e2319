set_option maxHeartbeats 1000000 in
set_option maxRecDepth 100000 in
theorem c_X11_load {l : Launch} {G : va_G} {bs : Nat} {cy : Nat → ClassId} {I : CI} {L : CL} {R : CR} (b : Nat → Int32) (ρ : Row) (m9 : Nat) (β : Nat) (γ : Nat) (q : Nat) (u : Nat) (v : Int32) (hl0 : l.stackTraces = false) (hTx : TxAt I m9 b) (hT : TB b m9) (hm9 : m9 ≤ 900) (hγ : isBr γ) (hu : isPl u) (hR7 : R 0 7 = β) (hR8 : R 0 8 = q) (hR9 : R 0 9 = γ) (hR10 : R 0 10 = u) : XTi l G bs cy MX11_load 7 [.ref (bs + 0), .int v] I L R (fun r I1 L1 R1 => (inB v (m9 + 1) = true ∧ r = if okP (prs b (tN v) ρ) = true then nI (nS (rOf (prs b (tN v) ρ))) else -1000006) ∧ Fr (SLo γ u) I I1 ∧ I1 0 11 = eKd (prs b (tN v) ρ) ∧ I1 0 12 = ePo (prs b (tN v) ρ) ∧ TxAt I1 0 b ∧ (okP (prs b (tN v) ρ) = true → BrAt I1 γ (rOf (prs b (tN v) ρ)) ∧ PlAt I1 u (rOf (prs b (tN v) ρ)) ∧ I1 9 2 = nI 0 ∧ I1 9 1 = I 9 1 ∧ R1 = u2R (u2R (u2R (u2R (u2R (u2R (u2R R 61 2 γ) 61 3 u) u 0 γ) 0 8 u) 0 10 q) 0 7 γ) 0 9 β) ∧ (okP (prs b (tN v) ρ) = false → (∀ a j, SLe γ u a j = false → I1 a j = I a j) ∧ R1 = u2R (u2R (u2R R 61 2 γ) 61 3 u) u 0 γ) ∧ FL SLq L L1) (fun E => E = IAE ∧ inB v (m9 + 1) = false) 1 6 := by
  refine XTi.of (own := RX11) pn_RX11 rfl (Nat.le_of_ble_eq_true rfl) ?_
  intro p e s m args below meth c Qc Qf X hW hS htab hlk hQf fin ls hl
  have hx := X.1
  have hb := X.2.1
  have hR : RmOK (rmL 7 1 6) 7 := ⟨rfl, rfl⟩
  have hcs : 0 ≤ (rmL 7 1 6).cells ∧ 0 ≤ (rmL 7 1 6).slots := ⟨Nat.zero_le _, Nat.zero_le _⟩
  have hl : lv_has ls 4 [(0, .ref (bs + 0)), (1, .int v)] := hl
  have hF : Fr (SLo γ u) I I := Fr.rf
  have hFL : FL SLq L L := FL.rf
  have hbu := br_pl hγ hu
  have hu4 : 53 ≤ u ∧ u ≤ 57 := by rcases hu with rfl | rfl <;> omega
  refine lv_iload_n hx hb (dg D_X11_load (i := 0) rfl) rfl (lv_at hl 1 rfl) ?_
  refine lv_if_lt (tgt := 15) hx hb (dg D_X11_load (i := 1) rfl) (by decide) (fun c1 => ?_) (fun c1 => ?_)
  · exact r_th1 X hl0 htab hlk hQf ⟨rfl, inB_lo c1⟩ hW hS hR (Nat.le_of_ble_eq_true rfl) (List.mem_of_getElem? (i := 0) rfl) hl (Nat.le_of_ble_eq_true rfl) (Nat.le_of_ble_eq_true rfl) (Nat.le_of_ble_eq_true rfl) (Nat.le_of_ble_eq_true rfl) (Nat.le_of_ble_eq_true rfl) (dg D_X11_load (i := 7) rfl) (dg D_X11_load (i := 8) rfl) (dg D_X11_load (i := 9) rfl) (dg D_X11_load (i := 10) rfl) (dg D_X11_load (i := 11) rfl)
  · refine lv_iload_n hx hb (dg D_X11_load (i := 2) rfl) rfl (lv_at hl 1 rfl) ?_
    refine lv_aload_n hx hb (dg D_X11_load (i := 3) rfl) rfl (lv_at hl 0 rfl) ?_
    refine r_getc (t := 29) X hW FI_X11_63 rfl (by decide) rfl (dg D_X11_load (i := 4) rfl) ?_
    refine callVi X hW hS hR (c_X9_size (I := I) m9 b (by first | exact hT | assumption | omega | decide | exact hP.1)) (by decide) UVX9_size LK_X11_99 rfl (by decide) rfl rfl rfl (Nat.le_of_ble_eq_true rfl) hl hcs (dg D_X11_load (i := 5) rfl) (fun r9 I9 L1 R1 H locs hq hW hS => ?_)
    obtain ⟨rfl, rfl, rfl, rfl⟩ := hq
    refine lv_icmp_le (tgt := 25) hx hb (dg D_X11_load (i := 6) rfl) (by decide) (fun c12 => ?_) (fun c12 => ?_)
    · have hok : inB v (m9 + 1) = true := inB_ok1 c1 c12 (by omega)
      obtain ⟨jv, hjv, rfl⟩ := inB_of hok (by omega)
      have htv : tN (nI jv) = jv := tN_nI (show jv < 2 ^ 31 by omega)
      refine lv_aload_n hx hb (dg D_X11_load (i := 12) rfl) rfl (lv_at hl 0 rfl) ?_
      refine r_getc (t := 61) X hW FI_X11_86 rfl (by decide) rfl (dg D_X11_load (i := 13) rfl) ?_
      refine lv_iload_n hx hb (dg D_X11_load (i := 14) rfl) rfl (lv_at hl 1 rfl) ?_
      refine lv_aload_n hx hb (dg D_X11_load (i := 15) rfl) rfl (lv_at hl 0 rfl) ?_
      refine r_getr (v := γ) X hW FI_X11_75 rfl (by decide) rfl (by (repeat (rw [u2R_off (by omega)])); exact hR9) (dg D_X11_load (i := 16) rfl) ?_
      refine lv_aload_n hx hb (dg D_X11_load (i := 17) rfl) rfl (lv_at hl 0 rfl) ?_
      refine r_getr (v := u) X hW FI_X11_78 rfl (by decide) rfl (by (repeat (rw [u2R_off (by omega)])); exact hR10) (dg D_X11_load (i := 18) rfl) ?_
      refine callVi X hW hS hR (c_X5_read (I := I) b jv ρ m9 γ u (fun z hz => hTx.2 z (by omega)) (fun i hi => hT i (by omega)) (by omega) (hTx.1) (hm9) (by omega) (hγ) (hu)) (by decide) UVX5_read LK_X11_110 rfl (by decide) rfl rfl rfl (Nat.le_of_ble_eq_true rfl) hl hcs (dg D_X11_load (i := 19) rfl) (fun r38 I38 Lc38 R1 H locs hq hW hS => ?_)
      obtain ⟨rfl, hT38, hp38_0, hp38_1, hp38_2, hL38, rfl⟩ := hq
      have hF : Fr (SLo γ u) I I38 := Fr.tr hF hT38 (fun _ _ h => SLo_s h)
      have hFL : FL SLq L Lc38 := FL.tr hFL hL38 (fun _ _ h => h)
      have hBP := hp38_2
      have hki := hp38_0
      have hpo := hp38_1
      refine lv_istore_n (lv' := [(2, .int (bI (okP (prs b jv ρ)))), (0, .ref (bs + 0)), (1, .int (nI jv))]) hx hb (dg D_X11_load (i := 20) rfl) rfl hl (by decide) rfl (fun ls hl => ?_)
      refine lv_aload_n hx hb (dg D_X11_load (i := 21) rfl) rfl (lv_at hl 1 rfl) ?_
      refine lv_aload_n hx hb (dg D_X11_load (i := 22) rfl) rfl (lv_at hl 1 rfl) ?_
      refine r_getc (t := 61) X hW FI_X11_86 rfl (by decide) rfl (dg D_X11_load (i := 23) rfl) ?_
      refine callVi X hW hS hR (c_X5_failureKind (I := I38) (eKd (prs b jv ρ)) (hki)) (by decide) UVX5_failureKind LK_X11_114 rfl (by decide) rfl rfl rfl (Nat.le_of_ble_eq_true rfl) hl hcs (dg D_X11_load (i := 24) rfl) (fun r47 I47 L1 R1 H locs hq hW hS => ?_)
      obtain ⟨rfl, rfl, rfl, rfl⟩ := hq
      refine r_puti (v := (eKd (prs b jv ρ))) (ty := .int) X hW hS FI_X11_44 rfl (by decide) rfl rfl (by decide +kernel) rfl rfl (dg D_X11_load (i := 25) rfl) (fun H locs hW hS => ?_)
      have hF : Fr (SLo γ u) I (u2 I38 0 11 ((eKd (prs b jv ρ)))) := Fr.put hF (SLo_0 (Or.inl rfl))
      have hBP : okP (prs b jv ρ) = true → BrAt (u2 I38 0 11 ((eKd (prs b jv ρ)))) γ (rOf (prs b jv ρ)) ∧ PlAt (u2 I38 0 11 ((eKd (prs b jv ρ)))) u (rOf (prs b jv ρ)) := fun z => ⟨BrAt.pu (hBP z).1 (by omega), PlAt.pu (hBP z).2 (by omega)⟩
      obtain ⟨J50, eJ50⟩ : ∃ J, J = u2 I38 0 11 ((eKd (prs b jv ρ))) := ⟨_, rfl⟩
      rw [← eJ50] at hW hF hBP
      have hki : J50 61 4 = eKd (prs b jv ρ) := by rw [eJ50, u2_off (Or.inl (by decide))]; exact hki
      have hpo : J50 61 5 = ePo (prs b jv ρ) := by rw [eJ50, u2_off (Or.inl (by decide))]; exact hpo
      have hek : J50 0 11 = (eKd (prs b jv ρ)) := by rw [eJ50]; exact u2_at
      refine lv_aload_n hx hb (dg D_X11_load (i := 26) rfl) rfl (lv_at hl 1 rfl) ?_
      refine lv_aload_n hx hb (dg D_X11_load (i := 27) rfl) rfl (lv_at hl 1 rfl) ?_
      refine r_getc (t := 61) X hW FI_X11_86 rfl (by decide) rfl (dg D_X11_load (i := 28) rfl) ?_
      refine callVi X hW hS hR (c_X5_failurePosition (I := J50) (ePo (prs b jv ρ)) (hpo)) (by decide) UVX5_failurePosition LK_X11_117 rfl (by decide) rfl rfl rfl (Nat.le_of_ble_eq_true rfl) hl hcs (dg D_X11_load (i := 29) rfl) (fun r58 I58 L1 R1 H locs hq hW hS => ?_)
      obtain ⟨rfl, rfl, rfl, rfl⟩ := hq
      refine r_puti (v := (ePo (prs b jv ρ))) (ty := .int) X hW hS FI_X11_49 rfl (by decide) rfl rfl (by decide +kernel) rfl rfl (dg D_X11_load (i := 30) rfl) (fun H locs hW hS => ?_)
      have hF : Fr (SLo γ u) I (u2 J50 0 12 ((ePo (prs b jv ρ)))) := Fr.put hF (SLo_0 (Or.inr rfl))
      have hBP : okP (prs b jv ρ) = true → BrAt (u2 J50 0 12 ((ePo (prs b jv ρ)))) γ (rOf (prs b jv ρ)) ∧ PlAt (u2 J50 0 12 ((ePo (prs b jv ρ)))) u (rOf (prs b jv ρ)) := fun z => ⟨BrAt.pu (hBP z).1 (by omega), PlAt.pu (hBP z).2 (by omega)⟩
      obtain ⟨J61, eJ61⟩ : ∃ J, J = u2 J50 0 12 ((ePo (prs b jv ρ))) := ⟨_, rfl⟩
      rw [← eJ61] at hW hF hBP
      have hki : J61 61 4 = eKd (prs b jv ρ) := by rw [eJ61, u2_off (Or.inl (by decide))]; exact hki
      have hpo : J61 61 5 = ePo (prs b jv ρ) := by rw [eJ61, u2_off (Or.inl (by decide))]; exact hpo
      have hek : J61 0 11 = (eKd (prs b jv ρ)) := by rw [eJ61, u2_off (Or.inr (by decide))]; exact hek
      have hep : J61 0 12 = (ePo (prs b jv ρ)) := by rw [eJ61]; exact u2_at
      refine lv_aload_n hx hb (dg D_X11_load (i := 31) rfl) rfl (lv_at hl 1 rfl) ?_
      refine r_getc (t := 29) X hW FI_X11_63 rfl (by decide) rfl (dg D_X11_load (i := 32) rfl) ?_
      refine callVv X hW hS hR (c_X9_clear (I := J61) b) (by decide) UVX9_clear LK_X11_120 rfl (by decide) rfl rfl rfl (Nat.le_of_ble_eq_true rfl) hl hcs (dg D_X11_load (i := 33) rfl) (fun I68 L1 R1 H locs hq hW hS => ?_)
      obtain ⟨hT68, hp68_0, rfl, rfl⟩ := hq
      have hF : Fr (SLo γ u) I I68 := Fr.tr hF hT68 (fun _ _ h => SLo_t h)
      have hBP : okP (prs b jv ρ) = true → BrAt I68 γ (rOf (prs b jv ρ)) ∧ PlAt I68 u (rOf (prs b jv ρ)) := fun z => ⟨BrAt.fr (hBP z).1 hT68 (fun a j h1 h2 => Bool.eq_false_iff.mpr (fun h => by simp only [STx, Bool.or_eq_true, Bool.and_eq_true, beq_iff_eq, decide_eq_true_eq] at h; omega)), PlAt.fr (hBP z).2 hT68 (fun a j h1 h2 => Bool.eq_false_iff.mpr (fun h => by simp only [STx, Bool.or_eq_true, Bool.and_eq_true, beq_iff_eq, decide_eq_true_eq] at h; omega))⟩
      have hki : I68 61 4 = eKd (prs b jv ρ) := (hT68 61 4 rfl).trans hki
      have hpo : I68 61 5 = ePo (prs b jv ρ) := (hT68 61 5 rfl).trans hpo
      have hek : I68 0 11 = (eKd (prs b jv ρ)) := (hT68 0 11 rfl).trans hek
      have hep : I68 0 12 = (ePo (prs b jv ρ)) := (hT68 0 12 rfl).trans hep
      have hTx0 := hp68_0
      refine lv_iload_n hx hb (dg D_X11_load (i := 34) rfl) rfl (lv_at hl 0 rfl) ?_
      refine z_if_ne (tgt := 78) hx hb (dg D_X11_load (i := 35) rfl) (by decide) (fun c72 => ?_) (fun c72 => ?_)
      · obtain ⟨hBγ, hPu⟩ := hBP c72
        refine lv_aload_n hx hb (dg D_X11_load (i := 38) rfl) rfl (lv_at hl 1 rfl) ?_
        refine callVv X hW hS hR (c_X11_takeDraft (I := I68) q u (by (repeat (rw [u2R_off (by omega)])); exact hR8) (by (repeat (rw [u2R_off (by omega)])); exact hR10)) (by decide) UVX11_takeDraft LK_X11_124 rfl (by decide) rfl rfl rfl (Nat.le_of_ble_eq_true rfl) hl hcs (dg D_X11_load (i := 39) rfl) (fun I79 L1 R1 H locs hq hW hS => ?_)
        obtain ⟨rfl, rfl, rfl⟩ := hq
        refine lv_aload_n hx hb (dg D_X11_load (i := 40) rfl) rfl (lv_at hl 1 rfl) ?_
        refine r_getr (v := β) X hW FI_X11_67 rfl (by decide) rfl (by (repeat (rw [u2R_off (by omega)])); exact hR7) (dg D_X11_load (i := 41) rfl) ?_
        refine lv_astore_n (lv' := [(3, .ref (bs + β)), (2, .int (bI (okP (prs b jv ρ)))), (0, .ref (bs + 0)), (1, .int (nI jv))]) hx hb (dg D_X11_load (i := 42) rfl) rfl hl (by decide) rfl (fun ls hl => ?_)
        refine lv_aload_n hx hb (dg D_X11_load (i := 43) rfl) rfl (lv_at hl 2 rfl) ?_
        refine lv_aload_n hx hb (dg D_X11_load (i := 44) rfl) rfl (lv_at hl 2 rfl) ?_
        refine r_getr (v := γ) X hW FI_X11_75 rfl (by decide) rfl (by (repeat (rw [u2R_off (by omega)])); exact hR9) (dg D_X11_load (i := 45) rfl) ?_
        refine r_putr (v := γ) (C := "SpanPainter$Bridge") X hW hS FI_X11_67 rfl (by decide) rfl rfl (by decide +kernel) (dg D_X11_load (i := 46) rfl) (fun H locs hW hS => ?_)
        refine lv_aload_n hx hb (dg D_X11_load (i := 47) rfl) rfl (lv_at hl 2 rfl) ?_
        refine lv_aload_n hx hb (dg D_X11_load (i := 48) rfl) rfl (lv_at hl 0 rfl) ?_
        refine r_putr (v := β) (C := "SpanPainter$Bridge") X hW hS FI_X11_75 rfl (by decide) rfl rfl (by decide +kernel) (dg D_X11_load (i := 49) rfl) (fun H locs hW hS => ?_)
        refine lv_aload_n hx hb (dg D_X11_load (i := 50) rfl) rfl (lv_at hl 2 rfl) ?_
        refine r_getc (t := 9) X hW FI_X11_33 rfl (by decide) rfl (dg D_X11_load (i := 51) rfl) ?_
        refine callVv X hW hS hR (c_X2_clear (I := I68) ) (by decide) UVX2_clear LK_X11_127 rfl (by decide) rfl rfl rfl (Nat.le_of_ble_eq_true rfl) hl hcs (dg D_X11_load (i := 52) rfl) (fun I104 L1 R1 H locs hq hW hS => ?_)
        obtain ⟨hT104, hp104_0, hp104_1, rfl, rfl⟩ := hq
        have hF : Fr (SLo γ u) I I104 := Fr.tr hF hT104 (fun _ _ h => SLo_h h)
        have hTx0 : TxAt I104 0 b := TxAt.frI hTx0 hT104 (fun a j h1 h2 => Bool.eq_false_iff.mpr (fun h => by simp only [SHk, Bool.or_eq_true, Bool.and_eq_true, beq_iff_eq, decide_eq_true_eq] at h; omega))
        have hBγ : BrAt I104 γ (rOf (prs b jv ρ)) := BrAt.fr hBγ hT104 (fun a j h1 h2 => Bool.eq_false_iff.mpr (fun h => by simp only [SHk, Bool.or_eq_true, Bool.and_eq_true, beq_iff_eq, decide_eq_true_eq] at h; omega))
        have hPu : PlAt I104 u (rOf (prs b jv ρ)) := PlAt.fr hPu hT104 (fun a j h1 h2 => Bool.eq_false_iff.mpr (fun h => by simp only [SHk, Bool.or_eq_true, Bool.and_eq_true, beq_iff_eq, decide_eq_true_eq] at h; omega))
        have hki : I104 61 4 = eKd (prs b jv ρ) := (hT104 61 4 rfl).trans hki
        have hpo : I104 61 5 = ePo (prs b jv ρ) := (hT104 61 5 rfl).trans hpo
        have hek : I104 0 11 = (eKd (prs b jv ρ)) := (hT104 0 11 rfl).trans hek
        have hep : I104 0 12 = (ePo (prs b jv ρ)) := (hT104 0 12 rfl).trans hep
        have h92 := hp104_0
        have h91 : I104 9 1 = I 9 1 := by rw [hp104_1, hT68 _ _ rfl, eJ61, u2_off (Or.inl (by decide)), eJ50, u2_off (Or.inl (by decide))]; exact hT38 _ _ (Bool.eq_false_iff.mpr (fun h => by simp only [SRD, Bool.or_eq_true, decide_eq_true_eq] at h; omega))
        refine lv_aload_n hx hb (dg D_X11_load (i := 53) rfl) rfl (lv_at hl 2 rfl) ?_
        refine r_getr (v := γ) X hW FI_X11_67 rfl (by decide) rfl (by rw [u2R_off (Or.inr (by decide)), u2R_at]) (dg D_X11_load (i := 54) rfl) ?_
        refine rn_geti (v := nI (nS (rOf (prs b jv ρ)))) X hW FN_X11_128 (shB hγ) (ncB0 hγ) rfl (hBγ.c4 (prs_ok c72).1) (dg D_X11_load (i := 55) rfl) ?_
        exact fin (dg D_X11_load (i := 56) rfl) (Nat.le_of_ble_eq_true rfl) (Nat.le_of_ble_eq_true rfl) hW hS ⟨⟨hok, by rw [htv, if_pos c72]⟩, hF, by rw [htv]; exact hek, by rw [htv]; exact hep, hTx0, fun _ => by rw [htv]; exact ⟨hBγ, hPu, h92, h91, rfl⟩, (fun z => by cases (c72.symm.trans ((congrArg (fun t => okP (prs b t ρ)) htv).symm.trans z))), hFL⟩
      · refine r_ldc X CK_X11_123 (dg D_X11_load (i := 36) rfl) ?_
        exact fin (dg D_X11_load (i := 37) rfl) (Nat.le_of_ble_eq_true rfl) (Nat.le_of_ble_eq_true rfl) hW hS ⟨⟨hok, by rw [htv, if_neg (by rw [c72]; decide)]⟩, hF, by rw [htv]; exact hek, by rw [htv]; exact hep, hTx0, (fun z => by cases (c72.symm.trans ((congrArg (fun t => okP (prs b t ρ)) htv).symm.trans z))), fun z => ⟨fun a j h => by obtain ⟨h1, h2, h3, h4⟩ := SLe_of h; exact (hT68 a j h4).trans (by rw [eJ61, u2_off h3, eJ50, u2_off h2]; exact hT38 a j h1), rfl⟩, hFL⟩
    · exact r_th1 X hl0 htab hlk hQf ⟨rfl, inB_hi1 c12 (by omega)⟩ hW hS hR (Nat.le_of_ble_eq_true rfl) (List.mem_of_getElem? (i := 0) rfl) hl (Nat.le_of_ble_eq_true rfl) (Nat.le_of_ble_eq_true rfl) (Nat.le_of_ble_eq_true rfl) (Nat.le_of_ble_eq_true rfl) (Nat.le_of_ble_eq_true rfl) (dg D_X11_load (i := 7) rfl) (dg D_X11_load (i := 8) rfl) (dg D_X11_load (i := 9) rfl) (dg D_X11_load (i := 10) rfl) (dg D_X11_load (i := 11) rfl)

