set_option maxHeartbeats 4000000 in
set_option maxRecDepth 100000 in
theorem c_X11_setShut {l : Launch} {G : va_G} {bs : Nat} {cy : Nat → ClassId} {I : CI} {L : CL} {R : CR} (σ : Row) (β : Nat) (q : Nat) (k : Nat) (U : Nat → Row) (nw : Nat) (v : Int32) (hl0 : l.stackTraces = false) (hi : Inv σ) (hd : DR σ) (hβ : isBr β) (hB : BrAt I β σ) (hq : isPl q) (hP : PlAt I q σ) (hRb : R q 0 = β) (hR7 : R 0 7 = β) (hR8 : R 0 8 = q) (hH : HisN I k U nw) : XTi l G bs cy MX11_setShut 7 [.ref (bs + 0), .int v] I L R (fun r I1 L1 R1 => ((inR v 1 4) = true ∧ r = seR σ 1 v) ∧ Fr (SEd β q) I I1 ∧ EdC I1 β q (ssO σ v) σ k U nw ∧ L = L1 ∧ R = R1) (fun E => E = IAE ∧ inR v 1 4 = false) 1 6 := by
  refine XTi.of (own := RX11) pn_RX11 rfl (Nat.le_of_ble_eq_true rfl) ?_
  intro p e s m args below meth c Qc Qf X hW hS htab hlk hQf fin ls hl
  have hx := X.1
  have hb := X.2.1
  have hR : RmOK (rmL 7 1 6) 7 := ⟨rfl, rfl⟩
  have hcs : 0 ≤ (rmL 7 1 6).cells ∧ 0 ≤ (rmL 7 1 6).slots := ⟨Nat.zero_le _, Nat.zero_le _⟩
  have hl : lv_has ls 3 [(0, .ref (bs + 0)), (1, .int v)] := hl
  have hF : Fr (SEd β q) I I := Fr.rf
  obtain ⟨hY, hY1, hY12, hLn, hL4, hSn, hS12, hGn, hG5⟩ := id hi
  have hbq := br_pl hβ hq
  refine lv_iload_n hx hb (dg D_X11_setShut (i := 0) rfl) rfl (lv_at hl 1 rfl) ?_
  refine n_iconst (a := 1) hx hb (dg D_X11_setShut (i := 1) rfl) rfl ?_
  refine n_iconst (a := 4) hx hb (dg D_X11_setShut (i := 2) rfl) rfl ?_
  refine callXSv X hW hS hR htab hlk hQf (c_X11_checkRange (I := I) v 1 4 (by first | assumption | omega | decide | exact hP.1) (by first | assumption | omega | decide | exact hP.1) (by first | assumption | omega | decide | exact hP.1)) (fun E hE => ⟨hE.1, hE.2⟩) (by decide) USX11_checkRange LK_X11_261 rfl rfl (Nat.le_of_ble_eq_true rfl) hl (Nat.le_of_ble_eq_true rfl) (Nat.le_of_ble_eq_true rfl) (Nat.le_of_ble_eq_true rfl) (Nat.le_of_ble_eq_true rfl) (dg D_X11_setShut (i := 3) rfl) (fun I3 L1 R1 H locs hq hW hS => ?_)
  have hcs : 0 + 1 ≤ (rmL 7 1 6).cells ∧ 0 + 6 ≤ (rmL 7 1 6).slots := ⟨Nat.le_of_ble_eq_true rfl, Nat.le_of_ble_eq_true rfl⟩
  obtain ⟨hr3, rfl, rfl, rfl⟩ := hq
  have hcnd : inR v 1 4 = true := hr3
  refine lv_aload_n hx hb (dg D_X11_setShut (i := 4) rfl) rfl (lv_at hl 0 rfl) ?_
  refine r_getr (v := β) X hW FI_X11_67 rfl (by decide) rfl hR7 (dg D_X11_setShut (i := 5) rfl) ?_
  refine rn_geti (v := σ 1) X hW FN_X11_264 (shB hβ) (ncB0 hβ) rfl hB.c1 (dg D_X11_setShut (i := 6) rfl) ?_
  refine lv_istore_n (lv' := [(2, .int (σ 1)), (0, .ref (bs + 0)), (1, .int v)]) hx hb (dg D_X11_setShut (i := 7) rfl) rfl hl (by decide) rfl (fun ls hl => ?_)
  refine lv_iload_n hx hb (dg D_X11_setShut (i := 8) rfl) rfl (lv_at hl 2 rfl) ?_
  refine lv_iload_n hx hb (dg D_X11_setShut (i := 9) rfl) rfl (lv_at hl 0 rfl) ?_
  refine lv_icmp_ne (tgt := 23) hx hb (dg D_X11_setShut (i := 10) rfl) (by decide) (fun c16 => ?_) (fun c16 => ?_)
  · refine lv_aload_n hx hb (dg D_X11_setShut (i := 13) rfl) rfl (lv_at hl 1 rfl) ?_
    refine callVv X hW hS hR (c_X11_remember (I := I) σ β q k U nw (by first | assumption | omega | decide | exact hP.1) (by first | assumption | omega | decide | exact hP.1) (by first | assumption | omega | decide | exact hP.1) (by first | assumption | omega | decide | exact hP.1) (by first | assumption | omega | decide | exact hP.1) (by first | assumption | omega | decide | exact hP.1) (by first | assumption | omega | decide | exact hP.1) (by first | assumption | omega | decide | exact hP.1)) (by decide) UVX11_remember LK_X11_254 rfl (by decide) rfl rfl rfl (Nat.le_of_ble_eq_true rfl) hl hcs (dg D_X11_setShut (i := 14) rfl) (fun I24 L1 R1 H locs hq hW hS => ?_)
    obtain ⟨hT24, hp24_0, rfl, rfl⟩ := hq
    have hF : Fr (SEd β q) I I24 := Fr.tr hF hT24 (by intro a j h; simp only [SHk, SEd, Bool.or_eq_true, Bool.and_eq_true, beq_iff_eq, decide_eq_true_eq] at h ⊢; omega)
    have hB : BrAt I24 β σ := BrAt.fr hB hT24 (fun a j h1 h2 => Bool.eq_false_iff.mpr (fun h => by simp only [SHk, Bool.or_eq_true, Bool.and_eq_true, beq_iff_eq, decide_eq_true_eq] at h; omega))
    have hP : PlAt I24 q σ := PlAt.fr hP hT24 (fun a j h1 h2 => Bool.eq_false_iff.mpr (fun h => by simp only [SHk, Bool.or_eq_true, Bool.and_eq_true, beq_iff_eq, decide_eq_true_eq] at h; omega))
    have hH : HisN I24 (min 16 (k + 1)) (pushU σ U) ((nw + 1) % 16) := hp24_0
    refine lv_aload_n hx hb (dg D_X11_setShut (i := 15) rfl) rfl (lv_at hl 1 rfl) ?_
    refine r_getr (v := β) X hW FI_X11_67 rfl (by decide) rfl hR7 (dg D_X11_setShut (i := 16) rfl) ?_
    refine lv_iload_n hx hb (dg D_X11_setShut (i := 17) rfl) rfl (lv_at hl 2 rfl) ?_
    refine rn_puti (v := v) (ty := .int) X hW hS FN_X11_264 (shB hβ) (ncB0 hβ) rfl rfl (by decide +kernel) rfl rfl (dg D_X11_setShut (i := 18) rfl) (fun H locs hW hS => ?_)
    have hF : Fr (SEd β q) I (u2 I24 β 1 v) := Fr.put hF SEd_b0
    have hB : BrAt (u2 I24 β 1 v) β (upd σ 1 v) := BrAt_sht hi hB
    have hP : PlAt (u2 I24 β 1 v) q (upd σ 1 v) := PlAt.pu (PlAt_u hi (by omega) hP) (by omega)
    have hH : HisN (u2 I24 β 1 v) (min 16 (k + 1)) (pushU σ U) ((nw + 1) % 16) := HisN.frI hH fr_u2 (fun a j h1 h2 => in_u2.no (by omega) j)
    obtain ⟨J32, eJ32⟩ : ∃ J, J = u2 I24 β 1 v := ⟨_, rfl⟩
    rw [← eJ32] at hW hF hB hP hH
    refine lv_iload_n hx hb (dg D_X11_setShut (i := 19) rfl) rfl (lv_at hl 0 rfl) ?_
    exact fin (dg D_X11_setShut (i := 20) rfl) (Nat.le_of_ble_eq_true rfl) (Nat.le_of_ble_eq_true rfl) hW hS ⟨⟨hcnd, by unfold seR; rw [if_neg (fun z => c16 z.symm)]⟩, hF, EdC.ok (by unfold ssO; rw [if_pos hcnd]; exact if_neg (fun z => c16 z.symm)) hB hP hH, rfl, rfl⟩
  · refine r_ldcw X CK_X11_260 (dg D_X11_setShut (i := 11) rfl) ?_
    exact fin (dg D_X11_setShut (i := 12) rfl) (Nat.le_of_ble_eq_true rfl) (Nat.le_of_ble_eq_true rfl) hW hS ⟨⟨hcnd, by unfold seR; rw [if_pos (by first | exact c16.symm | exact (Classical.not_not.mp c16).symm)]⟩, hF, EdC.no (by unfold ssO; rw [if_pos hcnd]; exact if_pos (by first | exact c16.symm | exact (Classical.not_not.mp c16).symm)) hB hP hH, rfl, rfl⟩

set_option maxHeartbeats 4000000 in
set_option maxRecDepth 100000 in
theorem c_X11_setClosed {l : Launch} {G : va_G} {bs : Nat} {cy : Nat → ClassId} {I : CI} {L : CL} {R : CR} (σ : Row) (β : Nat) (q : Nat) (k : Nat) (U : Nat → Row) (nw : Nat) (v : Int32) (w : Int32) (b : Bool) (hl0 : l.stackTraces = false) (hi : Inv σ) (hd : DR σ) (hβ : isBr β) (hB : BrAt I β σ) (hq : isPl q) (hP : PlAt I q σ) (hRb : R q 0 = β) (hR7 : R 0 7 = β) (hR8 : R 0 8 = q) (hH : HisN I k U nw) : XTi l G bs cy MX11_setClosed 7 [.ref (bs + 0), .int v, .int w, .int (bI b)] I L R (fun r I1 L1 R1 => ((inB v (nLn σ) && inB w (Yn σ)) = true ∧ r = scR σ v w b) ∧ Fr (SEd β q) I I1 ∧ EdC I1 β q (scO σ v w b) σ k U nw ∧ L = L1 ∧ R = R1) (fun E => E = IOE ∧ (inB v (nLn σ) && inB w (Yn σ)) = false) 2 12 := by
  refine XTi.of (own := RX11) pn_RX11 rfl (Nat.le_of_ble_eq_true rfl) ?_
  intro p e s m args below meth c Qc Qf X hW hS htab hlk hQf fin ls hl
  have hx := X.1
  have hb := X.2.1
  have hR : RmOK (rmL 7 2 12) 7 := ⟨rfl, rfl⟩
  have hcs : 0 ≤ (rmL 7 2 12).cells ∧ 0 ≤ (rmL 7 2 12).slots := ⟨Nat.zero_le _, Nat.zero_le _⟩
  have hl : lv_has ls 4 [(0, .ref (bs + 0)), (1, .int v), (2, .int w), (3, .int (bI b))] := hl
  have hF : Fr (SEd β q) I I := Fr.rf
  obtain ⟨hY, hY1, hY12, hLn, hL4, hSn, hS12, hGn, hG5⟩ := id hi
  have hbq := br_pl hβ hq
  refine lv_aload_n hx hb (dg D_X11_setClosed (i := 0) rfl) rfl (lv_at hl 0 rfl) ?_
  refine lv_iload_n hx hb (dg D_X11_setClosed (i := 1) rfl) rfl (lv_at hl 1 rfl) ?_
  refine callXv X hW hS hR htab hlk hQf (c_X11_checkLane (I := I) σ β v (by first | assumption | omega | decide | exact hP.1) (by first | assumption | omega | decide | exact hP.1) (by first | assumption | omega | decide | exact hP.1) (by first | assumption | omega | decide | exact hP.1) (by first | assumption | omega | decide | exact hP.1)) (fun E hE => ⟨hE.1, by simp [hE.2]⟩) (by decide) UVX11_checkLane LK_X11_214 rfl (by decide) rfl rfl rfl (Nat.le_of_ble_eq_true rfl) hl (Nat.le_of_ble_eq_true rfl) (Nat.le_of_ble_eq_true rfl) (Nat.le_of_ble_eq_true rfl) (Nat.le_of_ble_eq_true rfl) (dg D_X11_setClosed (i := 2) rfl) (fun I2 L1 R1 H locs hq hW hS => ?_)
  have hcs : 0 + 1 ≤ (rmL 7 2 12).cells ∧ 0 + 6 ≤ (rmL 7 2 12).slots := ⟨Nat.le_of_ble_eq_true rfl, Nat.le_of_ble_eq_true rfl⟩
  obtain ⟨hr2, rfl, rfl, rfl⟩ := hq
  obtain ⟨jv, hjv, rfl⟩ := inB_of hr2 (by omega)
  refine lv_aload_n hx hb (dg D_X11_setClosed (i := 3) rfl) rfl (lv_at hl 0 rfl) ?_
  refine lv_iload_n hx hb (dg D_X11_setClosed (i := 4) rfl) rfl (lv_at hl 2 rfl) ?_
  refine callXv X hW hS hR htab hlk hQf (c_X11_checkYear (I := I) σ β w (by first | assumption | omega | decide | exact hP.1) (by first | assumption | omega | decide | exact hP.1) (by first | assumption | omega | decide | exact hP.1) (by first | assumption | omega | decide | exact hP.1) (by first | assumption | omega | decide | exact hP.1)) (fun E hE => ⟨hE.1, by simp [hE.2]⟩) (by decide) UVX11_checkYear LK_X11_134 rfl (by decide) rfl rfl rfl (Nat.le_of_ble_eq_true rfl) hl (Nat.le_of_ble_eq_true rfl) (Nat.le_of_ble_eq_true rfl) (Nat.le_of_ble_eq_true rfl) (Nat.le_of_ble_eq_true rfl) (dg D_X11_setClosed (i := 5) rfl) (fun I7 L1 R1 H locs hq hW hS => ?_)
  have hcs : 0 + 1 + 1 ≤ (rmL 7 2 12).cells ∧ 0 + 6 + 6 ≤ (rmL 7 2 12).slots := ⟨Nat.le_of_ble_eq_true rfl, Nat.le_of_ble_eq_true rfl⟩
  obtain ⟨hr7, rfl, rfl, rfl⟩ := hq
  obtain ⟨jw, hjw, rfl⟩ := inB_of hr7 (by omega)
  refine lv_aload_n hx hb (dg D_X11_setClosed (i := 6) rfl) rfl (lv_at hl 0 rfl) ?_
  refine r_getr (v := β) X hW FI_X11_67 rfl (by decide) rfl hR7 (dg D_X11_setClosed (i := 7) rfl) ?_
  refine lv_iload_n hx hb (dg D_X11_setClosed (i := 8) rfl) rfl (lv_at hl 1 rfl) ?_
  refine lv_iload_n hx hb (dg D_X11_setClosed (i := 9) rfl) rfl (lv_at hl 2 rfl) ?_
  refine callVi X hW hS hR (c_X1_isClosed (I := I) σ β jv jw (by first | assumption | omega | decide | exact hP.1) (by first | assumption | omega | decide | exact hP.1) (by first | assumption | omega | decide | exact hP.1) (by first | assumption | omega | decide | exact hP.1)) (by decide) UVX1_isClosed LK_X11_267 (shB hβ) (ncB0 hβ) rfl rfl rfl (Nat.le_of_ble_eq_true rfl) hl hcs (dg D_X11_setClosed (i := 10) rfl) (fun r16 I16 L1 R1 H locs hq hW hS => ?_)
  obtain ⟨rfl, rfl, rfl, rfl⟩ := hq
  refine lv_iload_n hx hb (dg D_X11_setClosed (i := 11) rfl) rfl (lv_at hl 3 rfl) ?_
  refine lv_icmp_ne (tgt := 27) hx hb (dg D_X11_setClosed (i := 12) rfl) (by decide) (fun c20 => ?_) (fun c20 => ?_)
  · have hbn : ¬ scB σ jv jw = b := fun z => c20 (by rw [← z]; rfl)
    refine lv_aload_n hx hb (dg D_X11_setClosed (i := 15) rfl) rfl (lv_at hl 0 rfl) ?_
    refine callVv X hW hS hR (c_X11_remember (I := I) σ β q k U nw (by first | assumption | omega | decide | exact hP.1) (by first | assumption | omega | decide | exact hP.1) (by first | assumption | omega | decide | exact hP.1) (by first | assumption | omega | decide | exact hP.1) (by first | assumption | omega | decide | exact hP.1) (by first | assumption | omega | decide | exact hP.1) (by first | assumption | omega | decide | exact hP.1) (by first | assumption | omega | decide | exact hP.1)) (by decide) UVX11_remember LK_X11_254 rfl (by decide) rfl rfl rfl (Nat.le_of_ble_eq_true rfl) hl hcs (dg D_X11_setClosed (i := 16) rfl) (fun I28 L1 R1 H locs hq hW hS => ?_)
    obtain ⟨hT28, hp28_0, rfl, rfl⟩ := hq
    have hF : Fr (SEd β q) I I28 := Fr.tr hF hT28 (by intro a j h; simp only [SHk, SEd, Bool.or_eq_true, Bool.and_eq_true, beq_iff_eq, decide_eq_true_eq] at h ⊢; omega)
    have hB : BrAt I28 β σ := BrAt.fr hB hT28 (fun a j h1 h2 => Bool.eq_false_iff.mpr (fun h => by simp only [SHk, Bool.or_eq_true, Bool.and_eq_true, beq_iff_eq, decide_eq_true_eq] at h; omega))
    have hP : PlAt I28 q σ := PlAt.fr hP hT28 (fun a j h1 h2 => Bool.eq_false_iff.mpr (fun h => by simp only [SHk, Bool.or_eq_true, Bool.and_eq_true, beq_iff_eq, decide_eq_true_eq] at h; omega))
    have hH : HisN I28 (min 16 (k + 1)) (pushU σ U) ((nw + 1) % 16) := hp28_0
    refine lv_aload_n hx hb (dg D_X11_setClosed (i := 17) rfl) rfl (lv_at hl 0 rfl) ?_
    refine r_getr (v := β) X hW FI_X11_67 rfl (by decide) rfl hR7 (dg D_X11_setClosed (i := 18) rfl) ?_
    refine rn_getc (t := β + 10) X hW FN_X11_270 (shB hβ) (ncB0 hβ) rfl (dg D_X11_setClosed (i := 19) rfl) ?_
    refine lv_iload_n hx hb (dg D_X11_setClosed (i := 20) rfl) rfl (lv_at hl 2 rfl) ?_
    refine lv_dup2_11 hx hb (dg D_X11_setClosed (i := 21) rfl) rfl rfl ?_
    refine r_ald (j := jw) (v := σ (92 + jw)) X hW (shB10 hβ) (ncB hβ (by decide)) rfl (by omega) (by omega) (hB.cl (by omega)) (dg D_X11_setClosed (i := 22) rfl) ?_
    refine n_iconst (a := 1) hx hb (dg D_X11_setClosed (i := 23) rfl) rfl ?_
    refine lv_iload_n hx hb (dg D_X11_setClosed (i := 24) rfl) rfl (lv_at hl 1 rfl) ?_
    refine lv_ishl hx hb (dg D_X11_setClosed (i := 25) rfl) ?_
    refine lv_ixor hx hb (dg D_X11_setClosed (i := 26) rfl) ?_
    refine r_ast (j := jw) (v := (σ (92 + jw)) ^^^ ((nI 1) <<< ((nI jv) &&& 31))) X hW hS (shB10 hβ) (ncB hβ (by decide)) rfl (by omega) (by omega) (dg D_X11_setClosed (i := 27) rfl) (fun H locs hW hS => ?_)
    have hF : Fr (SEd β q) I (u2 I28 (β + 10) jw ((σ (92 + jw)) ^^^ ((nI 1) <<< ((nI jv) &&& 31)))) := Fr.put hF (SEd_b (by decide))
    have hB : BrAt (u2 I28 (β + 10) jw ((σ (92 + jw)) ^^^ ((nI 1) <<< ((nI jv) &&& 31)))) β (upd σ (92 + jw) (scN σ jv jw)) := BrAt_cls hi hB (by omega)
    have hP : PlAt (u2 I28 (β + 10) jw ((σ (92 + jw)) ^^^ ((nI 1) <<< ((nI jv) &&& 31)))) q (upd σ (92 + jw) (scN σ jv jw)) := PlAt.pu (PlAt_u hi (by omega) hP) (by omega)
    have hH : HisN (u2 I28 (β + 10) jw ((σ (92 + jw)) ^^^ ((nI 1) <<< ((nI jv) &&& 31)))) (min 16 (k + 1)) (pushU σ U) ((nw + 1) % 16) := HisN.frI hH fr_u2 (fun a j h1 h2 => in_u2.no (by omega) j)
    obtain ⟨J45, eJ45⟩ : ∃ J, J = u2 I28 (β + 10) jw ((σ (92 + jw)) ^^^ ((nI 1) <<< ((nI jv) &&& 31))) := ⟨_, rfl⟩
    rw [← eJ45] at hW hF hB hP hH
    refine lv_aload_n hx hb (dg D_X11_setClosed (i := 28) rfl) rfl (lv_at hl 0 rfl) ?_
    refine r_getr (v := β) X hW FI_X11_67 rfl (by decide) rfl hR7 (dg D_X11_setClosed (i := 29) rfl) ?_
    refine rn_getc (t := β + 10) X hW FN_X11_270 (shB hβ) (ncB0 hβ) rfl (dg D_X11_setClosed (i := 30) rfl) ?_
    refine lv_iload_n hx hb (dg D_X11_setClosed (i := 31) rfl) rfl (lv_at hl 2 rfl) ?_
    refine r_ald (j := jw) (v := scN σ jv jw) X hW (shB10 hβ) (ncB hβ (by decide)) rfl (by omega) (by omega) (by rw [eJ45]; exact u2_at) (dg D_X11_setClosed (i := 32) rfl) ?_
    exact fin (dg D_X11_setClosed (i := 33) rfl) (Nat.le_of_ble_eq_true rfl) (Nat.le_of_ble_eq_true rfl) hW hS ⟨⟨by simp [hr2, hr7], by unfold scR; rw [tN_nI (show jv < 2 ^ 31 by omega), tN_nI (show jw < 2 ^ 31 by omega), if_neg hbn]⟩, hF, EdC.ok (by unfold scO; rw [tN_nI (show jv < 2 ^ 31 by omega), tN_nI (show jw < 2 ^ 31 by omega)]; exact if_pos (And.intro (by simp [hr2, hr7]) hbn)) hB hP hH, rfl, rfl⟩
  · have hbq : scB σ jv jw = b := bI_inj (by first | exact c20 | exact Classical.not_not.mp c20)
    refine r_ldcw X CK_X11_260 (dg D_X11_setClosed (i := 13) rfl) ?_
    exact fin (dg D_X11_setClosed (i := 14) rfl) (Nat.le_of_ble_eq_true rfl) (Nat.le_of_ble_eq_true rfl) hW hS ⟨⟨by simp [hr2, hr7], by unfold scR; rw [tN_nI (show jv < 2 ^ 31 by omega), tN_nI (show jw < 2 ^ 31 by omega), if_pos hbq]⟩, hF, EdC.no (by unfold scO; rw [tN_nI (show jv < 2 ^ 31 by omega), tN_nI (show jw < 2 ^ 31 by omega)]; exact if_neg (fun z => z.2 hbq)) hB hP hH, rfl, rfl⟩

set_option maxHeartbeats 4000000 in
set_option maxRecDepth 100000 in
theorem c_X11_setRate {l : Launch} {G : va_G} {bs : Nat} {cy : Nat → ClassId} {I : CI} {L : CL} {R : CR} (σ : Row) (β : Nat) (q : Nat) (k : Nat) (U : Nat → Row) (nw : Nat) (v : Int32) (w : Int32) (hl0 : l.stackTraces = false) (hi : Inv σ) (hd : DR σ) (hβ : isBr β) (hB : BrAt I β σ) (hq : isPl q) (hP : PlAt I q σ) (hRb : R q 0 = β) (hR7 : R 0 7 = β) (hR8 : R 0 8 = q) (hH : HisN I k U nw) : XTi l G bs cy MX11_setRate 7 [.ref (bs + 0), .int v, .int w] I L R (fun r I1 L1 R1 => ((inB v (nS σ) && inR w 1 50) = true ∧ r = srR σ v w) ∧ Fr (SEd β q) I I1 ∧ EdC I1 β q (srO σ v w) σ k U nw ∧ L = L1 ∧ R = R1) (fun E => (E = IOE ∧ inB v (nS σ) = false) ∨ (E = IAE ∧ inB v (nS σ) = true ∧ inR w 1 50 = false)) 2 12 := by
  refine XTi.of (own := RX11) pn_RX11 rfl (Nat.le_of_ble_eq_true rfl) ?_
  intro p e s m args below meth c Qc Qf X hW hS htab hlk hQf fin ls hl
  have hx := X.1
  have hb := X.2.1
  have hR : RmOK (rmL 7 2 12) 7 := ⟨rfl, rfl⟩
  have hcs : 0 ≤ (rmL 7 2 12).cells ∧ 0 ≤ (rmL 7 2 12).slots := ⟨Nat.zero_le _, Nat.zero_le _⟩
  have hl : lv_has ls 3 [(0, .ref (bs + 0)), (1, .int v), (2, .int w)] := hl
  have hF : Fr (SEd β q) I I := Fr.rf
  obtain ⟨hY, hY1, hY12, hLn, hL4, hSn, hS12, hGn, hG5⟩ := id hi
  have hbq := br_pl hβ hq
  refine lv_aload_n hx hb (dg D_X11_setRate (i := 0) rfl) rfl (lv_at hl 0 rfl) ?_
  refine lv_iload_n hx hb (dg D_X11_setRate (i := 1) rfl) rfl (lv_at hl 1 rfl) ?_
  refine callXv X hW hS hR htab hlk hQf (c_X11_checkSpan (I := I) σ β v (by first | assumption | omega | decide | exact hP.1) (by first | assumption | omega | decide | exact hP.1) (by first | assumption | omega | decide | exact hP.1) (by first | assumption | omega | decide | exact hP.1) (by first | assumption | omega | decide | exact hP.1)) (fun E hE => Or.inl hE) (by decide) UVX11_checkSpan LK_X11_131 rfl (by decide) rfl rfl rfl (Nat.le_of_ble_eq_true rfl) hl (Nat.le_of_ble_eq_true rfl) (Nat.le_of_ble_eq_true rfl) (Nat.le_of_ble_eq_true rfl) (Nat.le_of_ble_eq_true rfl) (dg D_X11_setRate (i := 2) rfl) (fun I2 L1 R1 H locs hq hW hS => ?_)
  have hcs : 0 + 1 ≤ (rmL 7 2 12).cells ∧ 0 + 6 ≤ (rmL 7 2 12).slots := ⟨Nat.le_of_ble_eq_true rfl, Nat.le_of_ble_eq_true rfl⟩
  obtain ⟨hr2, rfl, rfl, rfl⟩ := hq
  obtain ⟨jv, hjv, rfl⟩ := inB_of hr2 (by omega)
  refine lv_iload_n hx hb (dg D_X11_setRate (i := 3) rfl) rfl (lv_at hl 2 rfl) ?_
  refine n_iconst (a := 1) hx hb (dg D_X11_setRate (i := 4) rfl) rfl ?_
  refine lv_bipush (v := nI 50) hx hb (dg D_X11_setRate (i := 5) rfl) (by decide) ?_
  refine callXSv X hW hS hR htab hlk hQf (c_X11_checkRange (I := I) w 1 50 (by first | assumption | omega | decide | exact hP.1) (by first | assumption | omega | decide | exact hP.1) (by first | assumption | omega | decide | exact hP.1)) (fun E hE => Or.inr ⟨hE.1, hr2, hE.2⟩) (by decide) USX11_checkRange LK_X11_261 rfl rfl (Nat.le_of_ble_eq_true rfl) hl (Nat.le_of_ble_eq_true rfl) (Nat.le_of_ble_eq_true rfl) (Nat.le_of_ble_eq_true rfl) (Nat.le_of_ble_eq_true rfl) (dg D_X11_setRate (i := 6) rfl) (fun I9 L1 R1 H locs hq hW hS => ?_)
  have hcs : 0 + 1 + 1 ≤ (rmL 7 2 12).cells ∧ 0 + 6 + 6 ≤ (rmL 7 2 12).slots := ⟨Nat.le_of_ble_eq_true rfl, Nat.le_of_ble_eq_true rfl⟩
  obtain ⟨hr9, rfl, rfl, rfl⟩ := hq
  have hcnd : (inB (nI jv) (nS σ) && inR w 1 50) = true := Bool.and_eq_true_iff.mpr ⟨hr2, hr9⟩
  refine lv_iload_n hx hb (dg D_X11_setRate (i := 7) rfl) rfl (lv_at hl 2 rfl) ?_
  refine lv_aload_n hx hb (dg D_X11_setRate (i := 8) rfl) rfl (lv_at hl 0 rfl) ?_
  refine r_getr (v := β) X hW FI_X11_67 rfl (by decide) rfl hR7 (dg D_X11_setRate (i := 9) rfl) ?_
  refine rn_getc (t := β + 5) X hW FN_X11_178 (shB hβ) (ncB0 hβ) rfl (dg D_X11_setRate (i := 10) rfl) ?_
  refine lv_iload_n hx hb (dg D_X11_setRate (i := 11) rfl) rfl (lv_at hl 1 rfl) ?_
  refine r_ald (j := jv) (v := σ (10 + 5 * jv + 3)) X hW (shB5 hβ) (ncB hβ (by decide)) rfl (by omega) (by omega) (hB.ra (by omega)) (dg D_X11_setRate (i := 12) rfl) ?_
  refine lv_icmp_ne (tgt := 29) hx hb (dg D_X11_setRate (i := 13) rfl) (by decide) (fun c22 => ?_) (fun c22 => ?_)
  · refine lv_aload_n hx hb (dg D_X11_setRate (i := 16) rfl) rfl (lv_at hl 0 rfl) ?_
    refine callVv X hW hS hR (c_X11_remember (I := I) σ β q k U nw (by first | assumption | omega | decide | exact hP.1) (by first | assumption | omega | decide | exact hP.1) (by first | assumption | omega | decide | exact hP.1) (by first | assumption | omega | decide | exact hP.1) (by first | assumption | omega | decide | exact hP.1) (by first | assumption | omega | decide | exact hP.1) (by first | assumption | omega | decide | exact hP.1) (by first | assumption | omega | decide | exact hP.1)) (by decide) UVX11_remember LK_X11_254 rfl (by decide) rfl rfl rfl (Nat.le_of_ble_eq_true rfl) hl hcs (dg D_X11_setRate (i := 17) rfl) (fun I30 L1 R1 H locs hq hW hS => ?_)
    obtain ⟨hT30, hp30_0, rfl, rfl⟩ := hq
    have hF : Fr (SEd β q) I I30 := Fr.tr hF hT30 (by intro a j h; simp only [SHk, SEd, Bool.or_eq_true, Bool.and_eq_true, beq_iff_eq, decide_eq_true_eq] at h ⊢; omega)
    have hB : BrAt I30 β σ := BrAt.fr hB hT30 (fun a j h1 h2 => Bool.eq_false_iff.mpr (fun h => by simp only [SHk, Bool.or_eq_true, Bool.and_eq_true, beq_iff_eq, decide_eq_true_eq] at h; omega))
    have hP : PlAt I30 q σ := PlAt.fr hP hT30 (fun a j h1 h2 => Bool.eq_false_iff.mpr (fun h => by simp only [SHk, Bool.or_eq_true, Bool.and_eq_true, beq_iff_eq, decide_eq_true_eq] at h; omega))
    have hH : HisN I30 (min 16 (k + 1)) (pushU σ U) ((nw + 1) % 16) := hp30_0
    refine lv_aload_n hx hb (dg D_X11_setRate (i := 18) rfl) rfl (lv_at hl 0 rfl) ?_
    refine r_getr (v := β) X hW FI_X11_67 rfl (by decide) rfl hR7 (dg D_X11_setRate (i := 19) rfl) ?_
    refine rn_getc (t := β + 5) X hW FN_X11_178 (shB hβ) (ncB0 hβ) rfl (dg D_X11_setRate (i := 20) rfl) ?_
    refine lv_iload_n hx hb (dg D_X11_setRate (i := 21) rfl) rfl (lv_at hl 1 rfl) ?_
    refine lv_iload_n hx hb (dg D_X11_setRate (i := 22) rfl) rfl (lv_at hl 2 rfl) ?_
    refine r_ast (j := jv) (v := w) X hW hS (shB5 hβ) (ncB hβ (by decide)) rfl (by omega) (by omega) (dg D_X11_setRate (i := 23) rfl) (fun H locs hW hS => ?_)
    have hF : Fr (SEd β q) I (u2 I30 (β + 5) jv w) := Fr.put hF (SEd_b (by decide))
    have hB : BrAt (u2 I30 (β + 5) jv w) β (upd σ (10 + 5 * jv + 3) w) := BrAt_rat hi hB (by omega)
    have hH : HisN (u2 I30 (β + 5) jv w) (min 16 (k + 1)) (pushU σ U) ((nw + 1) % 16) := HisN.frI hH fr_u2 (fun a j h1 h2 => in_u2.no (by omega) j)
    obtain ⟨J42, eJ42⟩ : ∃ J, J = u2 I30 (β + 5) jv w := ⟨_, rfl⟩
    rw [← eJ42] at hW hF hB hH
    have hGa : GaAt J42 q (upd σ (10 + 5 * jv + 3) w) := by rw [eJ42]; exact GaAt.pu (GaAt_u (by omega) hP.1) (by omega)
    have hRo : ∀ z, z < nS σ → z ≠ jv → RuAt J42 q (upd σ (10 + 5 * jv + 3) w) z := fun z h1 h2 => by rw [eJ42]; exact (RuAt_u (by omega) (by omega) (by omega) (by omega) (by omega) (by omega) (hP.ru h1)).frI fr_u2 in_u2 (by omega)
    refine lv_aload_n hx hb (dg D_X11_setRate (i := 24) rfl) rfl (lv_at hl 0 rfl) ?_
    refine r_getr (v := q) X hW FI_X11_71 rfl (by decide) rfl hR8 (dg D_X11_setRate (i := 25) rfl) ?_
    refine lv_iload_n hx hb (dg D_X11_setRate (i := 26) rfl) rfl (lv_at hl 1 rfl) ?_
    refine callVv X hW hS hR (c_X6_follow (I := J42) (upd σ (10 + 5 * jv + 3) w) β q jv (Inv_u (by omega) hi) (by first | assumption | omega | decide | exact hP.1) (by first | assumption | omega | decide | exact hP.1) (by first | assumption | omega | decide | exact hP.1) (by first | assumption | omega | decide | exact hP.1) (by first | assumption | omega | decide | exact hP.1) (by rw [nS_u (by omega)]; omega)) (by decide) UVX6_follow LK_X11_273 (shP hq) (ncP0 hq) rfl rfl rfl (Nat.le_of_ble_eq_true rfl) hl hcs (dg D_X11_setRate (i := 27) rfl) (fun I48 L1 R1 H locs hq hW hS => ?_)
    obtain ⟨hT48, hp48_0, rfl, rfl⟩ := hq
    have hF : Fr (SEd β q) I I48 := Fr.tr hF hT48 (by intro a j h; simp only [SRu, SEd, Bool.or_eq_true, Bool.and_eq_true, beq_iff_eq, decide_eq_true_eq] at h ⊢; omega)
    have hB : BrAt I48 β (upd σ (10 + 5 * jv + 3) w) := BrAt.fr hB hT48 (fun a j h1 h2 => Bool.eq_false_iff.mpr (fun h => by simp only [SRu, Bool.or_eq_true, Bool.and_eq_true, beq_iff_eq, decide_eq_true_eq] at h; omega))
    have hH : HisN I48 (min 16 (k + 1)) (pushU σ U) ((nw + 1) % 16) := HisN.frI hH hT48 (fun a j h1 h2 => Bool.eq_false_iff.mpr (fun h => by simp only [SRu, Bool.or_eq_true, Bool.and_eq_true, beq_iff_eq, decide_eq_true_eq] at h; omega))
    have hP : PlAt I48 q (upd σ (10 + 5 * jv + 3) w) := PlAt.of (GaAt.frI hGa hT48 SRu_in (by omega)) (fun z hz => by rw [nS_u (by omega)] at hz; by_cases e : z = jv; rw [e]; exact hp48_0; exact SRu_RuAt (hRo z hz e) hT48 e (by rw [Yn_u (by omega)]; exact hY12))
    refine lv_aload_n hx hb (dg D_X11_setRate (i := 28) rfl) rfl (lv_at hl 0 rfl) ?_
    refine r_getr (v := q) X hW FI_X11_71 rfl (by decide) rfl hR8 (dg D_X11_setRate (i := 29) rfl) ?_
    refine callVi X hW hS hR (c_X6_countPast (I := I48) (upd σ (10 + 5 * jv + 3) w) β q (Inv_u (by omega) hi) (by first | assumption | omega | decide | exact hP.1) (by first | assumption | omega | decide | exact hP.1) (by first | assumption | omega | decide | exact hP.1) (by first | assumption | omega | decide | exact hP.1) (by first | assumption | omega | decide | exact hP.1)) (by decide) UVX6_countPast LK_X11_151 (shP hq) (ncP0 hq) rfl rfl rfl (Nat.le_of_ble_eq_true rfl) hl hcs (dg D_X11_setRate (i := 30) rfl) (fun r55 I55 L1 R1 H locs hq hW hS => ?_)
    obtain ⟨rfl, rfl, rfl, rfl⟩ := hq
    exact fin (dg D_X11_setRate (i := 31) rfl) (Nat.le_of_ble_eq_true rfl) (Nat.le_of_ble_eq_true rfl) hW hS ⟨⟨hcnd, by unfold srR; rw [tN_nI (show jv < 2 ^ 31 by omega), if_neg (fun z => c22 z.symm)]⟩, hF, EdC.ok (by unfold srO; rw [if_pos (hcnd), tN_nI (show jv < 2 ^ 31 by omega)]; exact if_neg (fun z => c22 z.symm)) hB hP hH, rfl, rfl⟩
  · refine r_ldcw X CK_X11_260 (dg D_X11_setRate (i := 14) rfl) ?_
    exact fin (dg D_X11_setRate (i := 15) rfl) (Nat.le_of_ble_eq_true rfl) (Nat.le_of_ble_eq_true rfl) hW hS ⟨⟨hcnd, by unfold srR; rw [tN_nI (show jv < 2 ^ 31 by omega), if_pos (by first | exact c22.symm | exact (Classical.not_not.mp c22).symm)]⟩, hF, EdC.no (by unfold srO; rw [if_pos (hcnd), tN_nI (show jv < 2 ^ 31 by omega)]; exact if_pos (by first | exact c22.symm | exact (Classical.not_not.mp c22).symm)) hB hP hH, rfl, rfl⟩

set_option maxHeartbeats 4000000 in
set_option maxRecDepth 100000 in
theorem c_X11_undo {l : Launch} {G : va_G} {bs : Nat} {cy : Nat → ClassId} {I : CI} {L : CL} {R : CR} (σ : Row) (β : Nat) (q : Nat) (k : Nat) (U : Nat → Row) (nw : Nat) (hi : Inv σ) (hd : DR σ) (hβ : isBr β) (hB : BrAt I β σ) (hq : isPl q) (hP : PlAt I q σ) (hRb : R q 0 = β) (hR7 : R 0 7 = β) (hR8 : R 0 8 = q) (hH : HisN I k U nw) (hSt : ∀ t, t < k → Sta σ (U t) ∧ Inv (U t)) : MTi l G bs cy MX11_undo 6 [.ref (bs + 0)] I L R (fun r I1 L1 R1 => (if k = 0 then NOTF else nI (k - 1)) = r ∧ Fr (STb β q) I I1 ∧ (if k = 0 then BrAt I1 β σ ∧ PlAt I1 q σ ∧ HisN I1 k U nw else BrAt I1 β (U 0) ∧ PlAt I1 q (U 0) ∧ HisN I1 (k - 1) (popU U) ((nw + 15) % 16)) ∧ L = L1 ∧ R = R1) := by
  refine MTi.of (own := RX11) pn_RX11 rfl (Nat.le_of_ble_eq_true rfl) ?_
  intro p e s m args below meth c Qf X hW hS fin ls hl
  have hx := X.1
  have hb := X.2.1
  have hR : RmOK (rmL 6 0 0) 6 := ⟨rfl, rfl⟩
  have hcs : 0 ≤ (rmL 6 0 0).cells ∧ 0 ≤ (rmL 6 0 0).slots := ⟨Nat.zero_le _, Nat.zero_le _⟩
  have hl : lv_has ls 1 [(0, .ref (bs + 0))] := hl
  have hF : Fr (STb β q) I I := Fr.rf
  obtain ⟨hY, hY1, hY12, hLn, hL4, hSn, hS12, hGn, hG5⟩ := id hi
  have hbq := br_pl hβ hq
  have hk16 := hH.1
  refine lv_aload_n hx hb (dg D_X11_undo (i := 0) rfl) rfl (lv_at hl 0 rfl) ?_
  refine r_getc (t := 9) X hW FI_X11_33 rfl (by decide) rfl (dg D_X11_undo (i := 1) rfl) ?_
  refine callVi X hW hS hR (c_X2_isEmpty (I := I) k (hH.2.2.2.1) (by first | assumption | omega | decide | exact hP.1)) (by decide) UVX2_isEmpty LK_X11_291 rfl (by decide) rfl rfl rfl (Nat.le_of_ble_eq_true rfl) hl hcs (dg D_X11_undo (i := 2) rfl) (fun r4 I4 L1 R1 H locs hq hW hS => ?_)
  obtain ⟨rfl, rfl, rfl, rfl⟩ := hq
  refine z_if_eq (tgt := 13) hx hb (dg D_X11_undo (i := 3) rfl) (by decide) (fun c7 => ?_) (fun c7 => ?_)
  · refine lv_aload_n hx hb (dg D_X11_undo (i := 6) rfl) rfl (lv_at hl 0 rfl) ?_
    refine r_getc (t := 9) X hW FI_X11_33 rfl (by decide) rfl (dg D_X11_undo (i := 7) rfl) ?_
    refine lv_aload_n hx hb (dg D_X11_undo (i := 8) rfl) rfl (lv_at hl 0 rfl) ?_
    refine r_getr (v := β) X hW FI_X11_67 rfl (by decide) rfl hR7 (dg D_X11_undo (i := 9) rfl) ?_
    refine lv_aload_n hx hb (dg D_X11_undo (i := 10) rfl) rfl (lv_at hl 0 rfl) ?_
    refine r_getr (v := q) X hW FI_X11_71 rfl (by decide) rfl hR8 (dg D_X11_undo (i := 11) rfl) ?_
    refine callVv X hW hS hR (c_X2_takeBack (I := I) σ β q k U nw (by first | assumption | omega | decide | exact hP.1) (by first | assumption | omega | decide | exact hP.1) (by first | assumption | omega | decide | exact hP.1) (by first | assumption | omega | decide | exact hP.1) (by first | assumption | omega | decide | exact hP.1) (by first | assumption | omega | decide | exact hP.1) (Nat.pos_of_ne_zero (of_decide_eq_false c7)) ((hSt 0 (Nat.pos_of_ne_zero (of_decide_eq_false c7))).1) ((hSt 0 (Nat.pos_of_ne_zero (of_decide_eq_false c7))).2)) (by decide) UVX2_takeBack LK_X11_295 rfl (by decide) rfl rfl rfl (Nat.le_of_ble_eq_true rfl) hl hcs (dg D_X11_undo (i := 12) rfl) (fun I25 L1 R1 H locs hq hW hS => ?_)
    obtain ⟨hT25, hp25_0, hp25_1, hp25_2, rfl, rfl⟩ := hq
    have hF : Fr (STb β q) I I25 := Fr.tr hF hT25 (fun _ _ h => h)
    refine lv_aload_n hx hb (dg D_X11_undo (i := 13) rfl) rfl (lv_at hl 0 rfl) ?_
    refine r_getc (t := 9) X hW FI_X11_33 rfl (by decide) rfl (dg D_X11_undo (i := 14) rfl) ?_
    refine callVi X hW hS hR (c_X2_size (I := I25) (k - 1) (hp25_2.2.2.2.1)) (by decide) UVX2_size LK_X11_299 rfl (by decide) rfl rfl rfl (Nat.le_of_ble_eq_true rfl) hl hcs (dg D_X11_undo (i := 15) rfl) (fun r32 I32 L1 R1 H locs hq hW hS => ?_)
    obtain ⟨rfl, rfl, rfl, rfl⟩ := hq
    exact fin (dg D_X11_undo (i := 16) rfl) hW hS ⟨by rw [if_neg (of_decide_eq_false c7)], hF, by rw [if_neg (of_decide_eq_false c7)]; exact ⟨hp25_0, hp25_1, hp25_2⟩, rfl, rfl⟩
  · refine r_ldc X CK_X11_48 (dg D_X11_undo (i := 4) rfl) ?_
    exact fin (dg D_X11_undo (i := 5) rfl) hW hS ⟨by rw [if_pos (of_decide_eq_true c7)], hF, by rw [if_pos (of_decide_eq_true c7)]; exact ⟨hB, hP, hH⟩, rfl, rfl⟩

set_option maxHeartbeats 4000000 in
set_option maxRecDepth 100000 in
theorem c_X11_autoPastOf {l : Launch} {G : va_G} {bs : Nat} {cy : Nat → ClassId} {I : CI} {L : CL} {R : CR} (σ : Row) (β : Nat) (u : Nat) (gs : Int32) (hi : Inv σ) (hd : DR σ) (hβ : isBr β) (hB : BrAt I β σ) (hu9 : isPl u) (hR10 : R 0 10 = u) : MTi l G bs cy MX11_autoPastOf 6 [.ref (bs + 0), .ref (bs + β), .int gs] I L R (fun r I1 L1 R1 => cntP (auto σ gs) = r ∧ Fr (SAp u) I I1 ∧ L = L1 ∧ FR u R R1) := by
  refine MTi.of (own := RX11) pn_RX11 rfl (Nat.le_of_ble_eq_true rfl) ?_
  intro p e s m args below meth c Qf X hW hS fin ls hl
  have hx := X.1
  have hb := X.2.1
  have hR : RmOK (rmL 6 0 0) 6 := ⟨rfl, rfl⟩
  have hcs : 0 ≤ (rmL 6 0 0).cells ∧ 0 ≤ (rmL 6 0 0).slots := ⟨Nat.zero_le _, Nat.zero_le _⟩
  have hl : lv_has ls 3 [(0, .ref (bs + 0)), (1, .ref (bs + β)), (2, .int gs)] := hl
  have hF : Fr (SAp u) I I := Fr.rf
  have hFR : FR u R R := FR.rf
  obtain ⟨hY, hY1, hY12, hLn, hL4, hSn, hS12, hGn, hG5⟩ := id hi
  have hbu := br_pl hβ hu9
  have huq : 53 ≤ u := by rcases hu9 with rfl | rfl <;> omega
  refine lv_aload_n hx hb (dg D_X11_autoPastOf (i := 0) rfl) rfl (lv_at hl 0 rfl) ?_
  refine r_getc (t := 1) X hW FI_X11_12 rfl (by decide) rfl (dg D_X11_autoPastOf (i := 1) rfl) ?_
  refine lv_aload_n hx hb (dg D_X11_autoPastOf (i := 2) rfl) rfl (lv_at hl 1 rfl) ?_
  refine lv_aload_n hx hb (dg D_X11_autoPastOf (i := 3) rfl) rfl (lv_at hl 0 rfl) ?_
  refine r_getr (v := u) X hW FI_X11_78 rfl (by decide) rfl hR10 (dg D_X11_autoPastOf (i := 4) rfl) ?_
  refine lv_iload_n hx hb (dg D_X11_autoPastOf (i := 5) rfl) rfl (lv_at hl 2 rfl) ?_
  refine callVv X hW hS hR (c_X0_makePlan (I := I) σ β u gs (by first | assumption | omega | decide | exact hP.1) (by first | assumption | omega | decide | exact hP.1) (by first | assumption | omega | decide | exact hP.1) (by first | assumption | omega | decide | exact hP.1) (hu9)) (by decide) UVX0_makePlan LK_X11_279 rfl (by decide) rfl rfl rfl (Nat.le_of_ble_eq_true rfl) hl hcs (dg D_X11_autoPastOf (i := 6) rfl) (fun I10 L1 R1 H locs hq hW hS => ?_)
  obtain ⟨hT10, hp10_0, rfl, rfl⟩ := hq
  have hF : Fr (SAp u) I I10 := Fr.tr hF hT10 (fun _ _ h => h)
  have hB : BrAt I10 β σ := BrAt.fr hB hT10 (fun a j h1 h2 => Bool.eq_false_iff.mpr (fun h => by simp only [SAp, Bool.or_eq_true, Bool.and_eq_true, beq_iff_eq, decide_eq_true_eq] at h; omega))
  have hFR : FR u R (u2R R u 0 β) := hFR.put
  refine lv_aload_n hx hb (dg D_X11_autoPastOf (i := 7) rfl) rfl (lv_at hl 0 rfl) ?_
  refine r_getr (v := u) X hW FI_X11_78 rfl (by decide) rfl (by first | exact hR10 | (rw [u2R_off (by omega)]; exact hR10) | (rw [u2R_off (by omega), u2R_off (by omega)]; exact hR10)) (dg D_X11_autoPastOf (i := 8) rfl) ?_
  refine callVi X hW hS hR (c_X6_countPast (I := I10) (auto σ gs) β u (auto_Inv hi) (by first | assumption | omega | decide | exact hP.1) (BrAt_Sm hB auto_Sm hi) (hu9) (hp10_0) (u2R_at)) (by decide) UVX6_countPast LK_X11_151 (shP hu9) (ncP0 hu9) rfl rfl rfl (Nat.le_of_ble_eq_true rfl) hl hcs (dg D_X11_autoPastOf (i := 9) rfl) (fun r17 I17 L1 R1 H locs hq hW hS => ?_)
  obtain ⟨rfl, rfl, rfl, rfl⟩ := hq
  exact fin (dg D_X11_autoPastOf (i := 10) rfl) hW hS ⟨rfl, hF, rfl, hFR⟩

set_option maxHeartbeats 4000000 in
set_option maxRecDepth 100000 in
theorem c_X11_autoPast {l : Launch} {G : va_G} {bs : Nat} {cy : Nat → ClassId} {I : CI} {L : CL} {R : CR} (σ : Row) (β : Nat) (q : Nat) (u : Nat) (hi : Inv σ) (hd : DR σ) (hβ : isBr β) (hB : BrAt I β σ) (hq : isPl q) (hP : PlAt I q σ) (hRb : R q 0 = β) (hR7 : R 0 7 = β) (hR8 : R 0 8 = q) (hu9 : isPl u) (hR10 : R 0 10 = u) (huq9 : u ≠ q) : MTi l G bs cy MX11_autoPast 7 [.ref (bs + 0)] I L R (fun r I1 L1 R1 => cntP (auto σ ALLG) = r ∧ Fr (SAp u) I I1 ∧ L = L1 ∧ FR u R R1) := by
  refine MTi.of (own := RX11) pn_RX11 rfl (Nat.le_of_ble_eq_true rfl) ?_
  intro p e s m args below meth c Qf X hW hS fin ls hl
  have hx := X.1
  have hb := X.2.1
  have hR : RmOK (rmL 7 0 0) 7 := ⟨rfl, rfl⟩
  have hcs : 0 ≤ (rmL 7 0 0).cells ∧ 0 ≤ (rmL 7 0 0).slots := ⟨Nat.zero_le _, Nat.zero_le _⟩
  have hl : lv_has ls 1 [(0, .ref (bs + 0))] := hl
  have hF : Fr (SAp u) I I := Fr.rf
  have hFR : FR u R R := FR.rf
  obtain ⟨hY, hY1, hY12, hLn, hL4, hSn, hS12, hGn, hG5⟩ := id hi
  have hbq := br_pl hβ hq
  have huq : 53 ≤ u := by rcases hu9 with rfl | rfl <;> omega
  have hpp := pl_pl hq hu9 huq9
  have hbu := br_pl hβ hu9
  refine lv_aload_n hx hb (dg D_X11_autoPast (i := 0) rfl) rfl (lv_at hl 0 rfl) ?_
  refine lv_aload_n hx hb (dg D_X11_autoPast (i := 1) rfl) rfl (lv_at hl 0 rfl) ?_
  refine r_getr (v := β) X hW FI_X11_67 rfl (by decide) rfl hR7 (dg D_X11_autoPast (i := 2) rfl) ?_
  refine lv_bipush (v := nI 31) hx hb (dg D_X11_autoPast (i := 3) rfl) (by decide) ?_
  refine callVi X hW hS hR (c_X11_autoPastOf (I := I) σ β u (nI 31) (by first | assumption | omega | decide | exact hP.1) (by first | assumption | omega | decide | exact hP.1) (by first | assumption | omega | decide | exact hP.1) (by first | assumption | omega | decide | exact hP.1) (by first | assumption | omega | decide | exact hP.1) (by first | assumption | omega | decide | exact hP.1)) (by decide) UVX11_autoPastOf LK_X11_303 rfl (by decide) rfl rfl rfl (Nat.le_of_ble_eq_true rfl) hl hcs (dg D_X11_autoPast (i := 4) rfl) (fun r7 I7 L1 Rc7 H locs hq hW hS => ?_)
  obtain ⟨rfl, hT7, rfl, hRF7⟩ := hq
  have hF : Fr (SAp u) I I7 := Fr.tr hF hT7 (fun _ _ h => h)
  have hB : BrAt I7 β σ := BrAt.fr hB hT7 (fun a j h1 h2 => Bool.eq_false_iff.mpr (fun h => by simp only [SAp, Bool.or_eq_true, Bool.and_eq_true, beq_iff_eq, decide_eq_true_eq] at h; omega))
  have hFR : FR u R Rc7 := hFR.tr hRF7
  exact fin (dg D_X11_autoPast (i := 5) rfl) hW hS ⟨rfl, hF, rfl, hFR⟩

set_option maxHeartbeats 4000000 in
set_option maxRecDepth 100000 in
theorem c_X11_autoPastWithout {l : Launch} {G : va_G} {bs : Nat} {cy : Nat → ClassId} {I : CI} {L : CL} {R : CR} (σ : Row) (β : Nat) (q : Nat) (u : Nat) (v : Int32) (hl0 : l.stackTraces = false) (hi : Inv σ) (hd : DR σ) (hβ : isBr β) (hB : BrAt I β σ) (hq : isPl q) (hP : PlAt I q σ) (hRb : R q 0 = β) (hR7 : R 0 7 = β) (hR8 : R 0 8 = q) (hu9 : isPl u) (hR10 : R 0 10 = u) (huq9 : u ≠ q) : XTi l G bs cy MX11_autoPastWithout 7 [.ref (bs + 0), .int v] I L R (fun r I1 L1 R1 => (inB v (nG σ) = true ∧ r = cntP (auto σ (wiG (tN v)))) ∧ Fr (SAp u) I I1 ∧ L = L1 ∧ FR u R R1) (fun E => E = IOE ∧ inB v (nG σ) = false) 1 6 := by
  refine XTi.of (own := RX11) pn_RX11 rfl (Nat.le_of_ble_eq_true rfl) ?_
  intro p e s m args below meth c Qc Qf X hW hS htab hlk hQf fin ls hl
  have hx := X.1
  have hb := X.2.1
  have hR : RmOK (rmL 7 1 6) 7 := ⟨rfl, rfl⟩
  have hcs : 0 ≤ (rmL 7 1 6).cells ∧ 0 ≤ (rmL 7 1 6).slots := ⟨Nat.zero_le _, Nat.zero_le _⟩
  have hl : lv_has ls 2 [(0, .ref (bs + 0)), (1, .int v)] := hl
  have hF : Fr (SAp u) I I := Fr.rf
  have hFR : FR u R R := FR.rf
  obtain ⟨hY, hY1, hY12, hLn, hL4, hSn, hS12, hGn, hG5⟩ := id hi
  have hbq := br_pl hβ hq
  have huq : 53 ≤ u := by rcases hu9 with rfl | rfl <;> omega
  have hpp := pl_pl hq hu9 huq9
  have hbu := br_pl hβ hu9
  refine lv_aload_n hx hb (dg D_X11_autoPastWithout (i := 0) rfl) rfl (lv_at hl 0 rfl) ?_
  refine lv_iload_n hx hb (dg D_X11_autoPastWithout (i := 1) rfl) rfl (lv_at hl 1 rfl) ?_
  refine callXv X hW hS hR htab hlk hQf (c_X11_checkGang (I := I) σ β v (by first | assumption | omega | decide | exact hP.1) (by first | assumption | omega | decide | exact hP.1) (by first | assumption | omega | decide | exact hP.1) (by first | assumption | omega | decide | exact hP.1) (by first | assumption | omega | decide | exact hP.1)) (fun E hE => ⟨hE.1, by simp [hE.2]⟩) (by decide) UVX11_checkGang LK_X11_190 rfl (by decide) rfl rfl rfl (Nat.le_of_ble_eq_true rfl) hl (Nat.le_of_ble_eq_true rfl) (Nat.le_of_ble_eq_true rfl) (Nat.le_of_ble_eq_true rfl) (Nat.le_of_ble_eq_true rfl) (dg D_X11_autoPastWithout (i := 2) rfl) (fun I2 L1 R1 H locs hq hW hS => ?_)
  have hcs : 0 + 1 ≤ (rmL 7 1 6).cells ∧ 0 + 6 ≤ (rmL 7 1 6).slots := ⟨Nat.le_of_ble_eq_true rfl, Nat.le_of_ble_eq_true rfl⟩
  obtain ⟨hr2, rfl, rfl, rfl⟩ := hq
  obtain ⟨jv, hjv, rfl⟩ := inB_of hr2 (by omega)
  refine lv_aload_n hx hb (dg D_X11_autoPastWithout (i := 3) rfl) rfl (lv_at hl 0 rfl) ?_
  refine lv_aload_n hx hb (dg D_X11_autoPastWithout (i := 4) rfl) rfl (lv_at hl 0 rfl) ?_
  refine r_getr (v := β) X hW FI_X11_67 rfl (by decide) rfl hR7 (dg D_X11_autoPastWithout (i := 5) rfl) ?_
  refine lv_bipush (v := nI 31) hx hb (dg D_X11_autoPastWithout (i := 6) rfl) (by decide) ?_
  refine n_iconst (a := 1) hx hb (dg D_X11_autoPastWithout (i := 7) rfl) rfl ?_
  refine lv_iload_n hx hb (dg D_X11_autoPastWithout (i := 8) rfl) rfl (lv_at hl 1 rfl) ?_
  refine lv_ishl hx hb (dg D_X11_autoPastWithout (i := 9) rfl) ?_
  refine lv_iconst (v := -1) hx hb (dg D_X11_autoPastWithout (i := 10) rfl) (by decide) ?_
  refine lv_ixor hx hb (dg D_X11_autoPastWithout (i := 11) rfl) ?_
  refine lv_iand hx hb (dg D_X11_autoPastWithout (i := 12) rfl) ?_
  rw [show (nI 31) &&& (((nI 1) <<< ((nI jv) &&& 31)) ^^^ ((-1))) = wiG jv from (wi_eq jv (by omega))]
  refine callVi X hW hS hR (c_X11_autoPastOf (I := I) σ β u (wiG jv) (by first | assumption | omega | decide | exact hP.1) (by first | assumption | omega | decide | exact hP.1) (by first | assumption | omega | decide | exact hP.1) (by first | assumption | omega | decide | exact hP.1) (by first | assumption | omega | decide | exact hP.1) (by first | assumption | omega | decide | exact hP.1)) (by decide) UVX11_autoPastOf LK_X11_303 rfl (by decide) rfl rfl rfl (Nat.le_of_ble_eq_true rfl) hl hcs (dg D_X11_autoPastWithout (i := 13) rfl) (fun r18 I18 L1 Rc18 H locs hq hW hS => ?_)
  obtain ⟨rfl, hT18, rfl, hRF18⟩ := hq
  have hF : Fr (SAp u) I I18 := Fr.tr hF hT18 (fun _ _ h => h)
  have hB : BrAt I18 β σ := BrAt.fr hB hT18 (fun a j h1 h2 => Bool.eq_false_iff.mpr (fun h => by simp only [SAp, Bool.or_eq_true, Bool.and_eq_true, beq_iff_eq, decide_eq_true_eq] at h; omega))
  have hFR : FR u R Rc18 := hFR.tr hRF18
  exact fin (dg D_X11_autoPastWithout (i := 14) rfl) (Nat.le_of_ble_eq_true rfl) (Nat.le_of_ble_eq_true rfl) hW hS ⟨⟨hr2, by rw [tN_nI (show jv < 2 ^ 31 by omega)]⟩, hF, rfl, hFR⟩

set_option maxHeartbeats 4000000 in
set_option maxRecDepth 100000 in
theorem c_X11_criticalGang {l : Launch} {G : va_G} {bs : Nat} {cy : Nat → ClassId} {I : CI} {L : CL} {R : CR} (σ : Row) (β : Nat) (q : Nat) (u : Nat) (hi : Inv σ) (hd : DR σ) (hβ : isBr β) (hB : BrAt I β σ) (hq : isPl q) (hP : PlAt I q σ) (hRb : R q 0 = β) (hR7 : R 0 7 = β) (hR8 : R 0 8 = q) (hu9 : isPl u) (hR10 : R 0 10 = u) (huq9 : u ≠ q) : MTi l G bs cy MX11_criticalGang 7 [.ref (bs + 0)] I L R (fun r I1 L1 R1 => cgR σ = r ∧ Fr (SAp u) I I1 ∧ L = L1 ∧ FR u R R1) := by
  refine MTi.of (own := RX11) pn_RX11 rfl (Nat.le_of_ble_eq_true rfl) ?_
  intro p e s m args below meth c Qf X hW hS fin ls hl
  have hx := X.1
  have hb := X.2.1
  have hR : RmOK (rmL 7 0 0) 7 := ⟨rfl, rfl⟩
  have hcs : 0 ≤ (rmL 7 0 0).cells ∧ 0 ≤ (rmL 7 0 0).slots := ⟨Nat.zero_le _, Nat.zero_le _⟩
  have hl : lv_has ls 5 [(0, .ref (bs + 0))] := hl
  have hF : Fr (SAp u) I I := Fr.rf
  have hFR : FR u R R := FR.rf
  obtain ⟨hY, hY1, hY12, hLn, hL4, hSn, hS12, hGn, hG5⟩ := id hi
  have hbq := br_pl hβ hq
  have huq : 53 ≤ u := by rcases hu9 with rfl | rfl <;> omega
  have hpp := pl_pl hq hu9 huq9
  have hbu := br_pl hβ hu9
  refine r_ldc X CK_X11_48 (dg D_X11_criticalGang (i := 0) rfl) ?_
  refine lv_istore_n (lv' := [(1, .int ((-1000004))), (0, .ref (bs + 0))]) hx hb (dg D_X11_criticalGang (i := 1) rfl) rfl hl (by decide) rfl (fun ls hl => ?_)
  refine lv_iconst (v := -1) hx hb (dg D_X11_criticalGang (i := 2) rfl) (by decide) ?_
  refine lv_istore_n (lv' := [(2, .int ((-1))), (1, .int ((-1000004))), (0, .ref (bs + 0))]) hx hb (dg D_X11_criticalGang (i := 3) rfl) rfl hl (by decide) rfl (fun ls hl => ?_)
  refine n_iconst (a := 0) hx hb (dg D_X11_criticalGang (i := 4) rfl) rfl ?_
  refine lv_istore_n (lv' := [(3, .int (nI 0)), (2, .int ((-1))), (1, .int ((-1000004))), (0, .ref (bs + 0))]) hx hb (dg D_X11_criticalGang (i := 5) rfl) rfl hl (by decide) rfl (fun ls hl => ?_)
  have loop7 := up_ind (P := fun g => ∀ (K7 : CI) (KR7 : CR) (H : Heap) (locs : List Loc) (ls : Array Slot) (v1 : Int32) (v2 : Int32) (v3 : Int32), v1 = (amx (fun g => cntP (auto σ (wiG g))) NOTF (-1) g).1 → v2 = (amx (fun g => cntP (auto σ (wiG g))) NOTF (-1) g).2 → v3 = nI g → (Fr (SAp u) I K7) → (BrAt K7 β σ) → (FR u R KR7) → Wd G bs cy K7 L KR7 H → va_S (Aq bs) s.heap H locs → lv_has ls 5 [(0, .ref (bs + 0)), (1, .int v1), (2, .int v2), (3, .int v3)] → W p l e (rmL 7 0 0) s m args below meth c H locs 0 0 Qf (F0 m 7 ls [])) (nG σ) (fun g hx7 ih7 => by
      intro K7 KR7 H locs ls v1 v2 v3 q1 q2 q3 hF hB hFR hW hS hl
      subst q1
      subst q2
      subst q3
      refine lv_iload_n hx hb (dg D_X11_criticalGang (i := 6) rfl) rfl (lv_at hl 3 rfl) ?_
      refine lv_aload_n hx hb (dg D_X11_criticalGang (i := 7) rfl) rfl (lv_at hl 0 rfl) ?_
      refine r_getr (v := β) X hW FI_X11_67 rfl (by decide) rfl ((hFR _ _ (by omega)).trans hR7) (dg D_X11_criticalGang (i := 8) rfl) ?_
      refine rn_geti (v := nI (nG σ)) X hW FN_X11_226 (shB hβ) (ncB0 hβ) rfl (hB.c5 hi) (dg D_X11_criticalGang (i := 9) rfl) ?_
      refine n_icmp_ge (tgt := 53) hx hb (by omega) (by omega) (dg D_X11_criticalGang (i := 10) rfl) (by decide) (fun c15 => ?_) (fun c15 => ?_)
      · refine lv_iload_n hx hb (dg D_X11_criticalGang (i := 32) rfl) rfl (lv_at hl 1 rfl) ?_
        exact fin (dg D_X11_criticalGang (i := 33) rfl) hW hS ⟨by rw [show g = nG σ by omega]; rfl, hF, rfl, hFR⟩
      · refine lv_aload_n hx hb (dg D_X11_criticalGang (i := 11) rfl) rfl (lv_at hl 0 rfl) ?_
        refine lv_aload_n hx hb (dg D_X11_criticalGang (i := 12) rfl) rfl (lv_at hl 0 rfl) ?_
        refine r_getr (v := β) X hW FI_X11_67 rfl (by decide) rfl ((hFR _ _ (by omega)).trans hR7) (dg D_X11_criticalGang (i := 13) rfl) ?_
        refine lv_bipush (v := nI 31) hx hb (dg D_X11_criticalGang (i := 14) rfl) (by decide) ?_
        refine n_iconst (a := 1) hx hb (dg D_X11_criticalGang (i := 15) rfl) rfl ?_
        refine lv_iload_n hx hb (dg D_X11_criticalGang (i := 16) rfl) rfl (lv_at hl 3 rfl) ?_
        refine lv_ishl hx hb (dg D_X11_criticalGang (i := 17) rfl) ?_
        refine lv_iconst (v := -1) hx hb (dg D_X11_criticalGang (i := 18) rfl) (by decide) ?_
        refine lv_ixor hx hb (dg D_X11_criticalGang (i := 19) rfl) ?_
        refine lv_iand hx hb (dg D_X11_criticalGang (i := 20) rfl) ?_
        rw [show (nI 31) &&& (((nI 1) <<< ((nI g) &&& 31)) ^^^ ((-1))) = wiG g from (wi_eq g (by omega))]
        refine callVi X hW hS hR (c_X11_autoPastOf (I := K7) σ β u (wiG g) (by first | assumption | omega | decide | exact hP.1) (by first | assumption | omega | decide | exact hP.1) (by first | assumption | omega | decide | exact hP.1) (by first | assumption | omega | decide | exact hP.1) (by first | assumption | omega | decide | exact hP.1) ((hFR _ _ (by omega)).trans hR10)) (by decide) UVX11_autoPastOf LK_X11_303 rfl (by decide) rfl rfl rfl (Nat.le_of_ble_eq_true rfl) hl hcs (dg D_X11_criticalGang (i := 21) rfl) (fun r31 I31 L1 Rc31 H locs hq hW hS => ?_)
        obtain ⟨rfl, hT31, rfl, hRF31⟩ := hq
        have hF : Fr (SAp u) I I31 := Fr.tr hF hT31 (fun _ _ h => h)
        have hB : BrAt I31 β σ := BrAt.fr hB hT31 (fun a j h1 h2 => Bool.eq_false_iff.mpr (fun h => by simp only [SAp, Bool.or_eq_true, Bool.and_eq_true, beq_iff_eq, decide_eq_true_eq] at h; omega))
        have hFR : FR u R Rc31 := hFR.tr hRF31
        refine lv_istore (lv' := [(4, .int (cntP (auto σ (wiG g)))), (0, .ref (bs + 0)), (1, .int ((amx (fun g => cntP (auto σ (wiG g))) NOTF (-1) g).1)), (2, .int ((amx (fun g => cntP (auto σ (wiG g))) NOTF (-1) g).2)), (3, .int (nI g))]) hx hb (dg D_X11_criticalGang (i := 22) rfl) hl (by decide) rfl (fun ls hl => ?_)
        refine lv_iload hx hb (dg D_X11_criticalGang (i := 23) rfl) (lv_at hl 0 rfl) ?_
        refine lv_iload_n hx hb (dg D_X11_criticalGang (i := 24) rfl) rfl (lv_at hl 3 rfl) ?_
        refine lv_icmp_le (tgt := 47) hx hb (dg D_X11_criticalGang (i := 25) rfl) (by decide) (fun c39 => ?_) (fun c39 => ?_)
        · refine lv_iinc (v := nI (g + 1)) (lv' := [(3, .int (nI (g + 1))), (4, .int (cntP (auto σ (wiG g)))), (0, .ref (bs + 0)), (1, .int ((amx (fun g => cntP (auto σ (wiG g))) NOTF (-1) g).1)), (2, .int ((amx (fun g => cntP (auto σ (wiG g))) NOTF (-1) g).2))]) hx hb (dg D_X11_criticalGang (i := 30) rfl) hl (k := 4) rfl (nI_add _ _) (by decide) rfl (fun ls hl => ?_)
          refine lv_goto (tgt := 7) hx hb (dg D_X11_criticalGang (i := 31) rfl) (by decide) ?_
          exact ih7 (by omega) I31 Rc31 _ _ _ _ _ _ (by rw [amx_n (f := fun g => cntP (auto σ (wiG g))) c39]) (by rw [amx_n (f := fun g => cntP (auto σ (wiG g))) c39]) (congrArg nI (by omega)) hF hB hFR hW hS (lv_sub hl [2, 3, 4, 0] rfl)
        · refine lv_iload hx hb (dg D_X11_criticalGang (i := 26) rfl) (lv_at hl 0 rfl) ?_
          refine lv_istore_n (lv' := [(2, .int (cntP (auto σ (wiG g)))), (4, .int (cntP (auto σ (wiG g)))), (0, .ref (bs + 0)), (1, .int ((amx (fun g => cntP (auto σ (wiG g))) NOTF (-1) g).1)), (3, .int (nI g))]) hx hb (dg D_X11_criticalGang (i := 27) rfl) rfl hl (by decide) rfl (fun ls hl => ?_)
          refine lv_iload_n hx hb (dg D_X11_criticalGang (i := 28) rfl) rfl (lv_at hl 4 rfl) ?_
          refine lv_istore_n (lv' := [(1, .int (nI g)), (2, .int (cntP (auto σ (wiG g)))), (4, .int (cntP (auto σ (wiG g)))), (0, .ref (bs + 0)), (3, .int (nI g))]) hx hb (dg D_X11_criticalGang (i := 29) rfl) rfl hl (by decide) rfl (fun ls hl => ?_)
          refine lv_iinc (v := nI (g + 1)) (lv' := [(3, .int (nI (g + 1))), (1, .int (nI g)), (2, .int (cntP (auto σ (wiG g)))), (4, .int (cntP (auto σ (wiG g)))), (0, .ref (bs + 0))]) hx hb (dg D_X11_criticalGang (i := 30) rfl) hl (k := 4) rfl (nI_add _ _) (by decide) rfl (fun ls hl => ?_)
          refine lv_goto (tgt := 7) hx hb (dg D_X11_criticalGang (i := 31) rfl) (by decide) ?_
          exact ih7 (by omega) I31 Rc31 _ _ _ _ _ _ (by rw [amx_y (f := fun g => cntP (auto σ (wiG g))) c39]) (by rw [amx_y (f := fun g => cntP (auto σ (wiG g))) c39]) (congrArg nI (by omega)) hF hB hFR hW hS (lv_sub hl [4, 1, 2, 0] rfl))
  exact loop7 0 (Nat.zero_le _) I R _ _ _ _ _ _ (rfl) (rfl) (congrArg nI (by omega)) hF hB hFR hW hS (lv_sub hl [3, 2, 1, 0] rfl)

set_option maxHeartbeats 4000000 in
set_option maxRecDepth 100000 in
theorem c_X11_autoPlan {l : Launch} {G : va_G} {bs : Nat} {cy : Nat → ClassId} {I : CI} {L : CL} {R : CR} (σ : Row) (β : Nat) (q : Nat) (u : Nat) (k : Nat) (U : Nat → Row) (nw : Nat) (hi : Inv σ) (hd : DR σ) (hβ : isBr β) (hB : BrAt I β σ) (hq : isPl q) (hP : PlAt I q σ) (hRb : R q 0 = β) (hR7 : R 0 7 = β) (hR8 : R 0 8 = q) (hu9 : isPl u) (hR10 : R 0 10 = u) (huq9 : u ≠ q) (hH : HisN I k U nw) : MTi l G bs cy MX11_autoPlan 6 [.ref (bs + 0)] I L R (fun r I1 L1 R1 => auR σ = r ∧ Fr (SAd u) I I1 ∧ AdC I1 R R1 β q u (auO σ) σ k U nw ∧ L = L1) := by
  refine MTi.of (own := RX11) pn_RX11 rfl (Nat.le_of_ble_eq_true rfl) ?_
  intro p e s m args below meth c Qf X hW hS fin ls hl
  have hx := X.1
  have hb := X.2.1
  have hR : RmOK (rmL 6 0 0) 6 := ⟨rfl, rfl⟩
  have hcs : 0 ≤ (rmL 6 0 0).cells ∧ 0 ≤ (rmL 6 0 0).slots := ⟨Nat.zero_le _, Nat.zero_le _⟩
  have hl : lv_has ls 1 [(0, .ref (bs + 0))] := hl
  have hF : Fr (SAd u) I I := Fr.rf
  obtain ⟨hY, hY1, hY12, hLn, hL4, hSn, hS12, hGn, hG5⟩ := id hi
  have hbq := br_pl hβ hq
  have huq : 53 ≤ u := by rcases hu9 with rfl | rfl <;> omega
  have hpp := pl_pl hq hu9 huq9
  have hbu := br_pl hβ hu9
  refine lv_aload_n hx hb (dg D_X11_autoPlan (i := 0) rfl) rfl (lv_at hl 0 rfl) ?_
  refine r_getc (t := 1) X hW FI_X11_12 rfl (by decide) rfl (dg D_X11_autoPlan (i := 1) rfl) ?_
  refine lv_aload_n hx hb (dg D_X11_autoPlan (i := 2) rfl) rfl (lv_at hl 0 rfl) ?_
  refine r_getr (v := β) X hW FI_X11_67 rfl (by decide) rfl hR7 (dg D_X11_autoPlan (i := 3) rfl) ?_
  refine lv_aload_n hx hb (dg D_X11_autoPlan (i := 4) rfl) rfl (lv_at hl 0 rfl) ?_
  refine r_getr (v := u) X hW FI_X11_78 rfl (by decide) rfl hR10 (dg D_X11_autoPlan (i := 5) rfl) ?_
  refine lv_bipush (v := nI 31) hx hb (dg D_X11_autoPlan (i := 6) rfl) (by decide) ?_
  refine callVv X hW hS hR (c_X0_makePlan (I := I) σ β u (nI 31) (by first | assumption | omega | decide | exact hP.1) (by first | assumption | omega | decide | exact hP.1) (by first | assumption | omega | decide | exact hP.1) (by first | assumption | omega | decide | exact hP.1) (hu9)) (by decide) UVX0_makePlan LK_X11_279 rfl (by decide) rfl rfl rfl (Nat.le_of_ble_eq_true rfl) hl hcs (dg D_X11_autoPlan (i := 7) rfl) (fun I14 L1 R1 H locs hq hW hS => ?_)
  obtain ⟨hT14, hp14_0, rfl, rfl⟩ := hq
  have hF : Fr (SAd u) I I14 := Fr.tr hF hT14 (by intro a j h; simp only [SAp, SAd, Bool.or_eq_true, Bool.and_eq_true, beq_iff_eq, decide_eq_true_eq] at h ⊢; omega)
  have hB : BrAt I14 β σ := BrAt.fr hB hT14 (fun a j h1 h2 => Bool.eq_false_iff.mpr (fun h => by simp only [SAp, Bool.or_eq_true, Bool.and_eq_true, beq_iff_eq, decide_eq_true_eq] at h; omega))
  have hP : PlAt I14 q σ := PlAt.fr hP hT14 (fun a j h1 h2 => Bool.eq_false_iff.mpr (fun h => by simp only [SAp, Bool.or_eq_true, Bool.and_eq_true, beq_iff_eq, decide_eq_true_eq] at h; omega))
  have hH : HisN I14 k U nw := HisN.frI hH hT14 (fun a j h1 h2 => Bool.eq_false_iff.mpr (fun h => by simp only [SAp, Bool.or_eq_true, Bool.and_eq_true, beq_iff_eq, decide_eq_true_eq] at h; omega))
  have hPu := hp14_0
  refine lv_aload_n hx hb (dg D_X11_autoPlan (i := 8) rfl) rfl (lv_at hl 0 rfl) ?_
  refine r_getr (v := u) X hW FI_X11_78 rfl (by decide) rfl (by first | exact hR10 | (rw [u2R_off (by omega)]; exact hR10) | (rw [u2R_off (by omega), u2R_off (by omega)]; exact hR10)) (dg D_X11_autoPlan (i := 9) rfl) ?_
  refine lv_aload_n hx hb (dg D_X11_autoPlan (i := 10) rfl) rfl (lv_at hl 0 rfl) ?_
  refine r_getr (v := q) X hW FI_X11_71 rfl (by decide) rfl (by first | exact hR8 | (rw [u2R_off (by omega)]; exact hR8) | (rw [u2R_off (by omega), u2R_off (by omega)]; exact hR8)) (dg D_X11_autoPlan (i := 11) rfl) ?_
  refine callVi X hW hS hR (c_X6_hasPaintingsOf (I := I14) (auto σ (nI 31)) σ u q (hu9) (hPu) (hq) (hP)) (by decide) UVX6_hasPaintingsOf LK_X11_283 (shP hu9) (ncP0 hu9) rfl rfl rfl (Nat.le_of_ble_eq_true rfl) hl hcs (dg D_X11_autoPlan (i := 12) rfl) (fun r25 I25 L1 R1 H locs hq hW hS => ?_)
  obtain ⟨rfl, rfl, rfl, rfl⟩ := hq
  refine z_if_eq (tgt := 35) hx hb (dg D_X11_autoPlan (i := 13) rfl) (by decide) (fun c28 => ?_) (fun c28 => ?_)
  · refine lv_aload_n hx hb (dg D_X11_autoPlan (i := 16) rfl) rfl (lv_at hl 0 rfl) ?_
    refine callVv X hW hS hR (c_X11_remember (I := I14) σ β q k U nw (by first | assumption | omega | decide | exact hP.1) (by first | assumption | omega | decide | exact hP.1) (by first | assumption | omega | decide | exact hP.1) (by first | assumption | omega | decide | exact hP.1) (by first | assumption | omega | decide | exact hP.1) (by rw [u2R_off (by omega)]; exact hR7) (by rw [u2R_off (by omega)]; exact hR8) (by first | assumption | omega | decide | exact hP.1)) (by decide) UVX11_remember LK_X11_254 rfl (by decide) rfl rfl rfl (Nat.le_of_ble_eq_true rfl) hl hcs (dg D_X11_autoPlan (i := 17) rfl) (fun I36 L1 R1 H locs hq hW hS => ?_)
    obtain ⟨hT36, hp36_0, rfl, rfl⟩ := hq
    have hF : Fr (SAd u) I I36 := Fr.tr hF hT36 (by intro a j h; simp only [SHk, SAd, Bool.or_eq_true, Bool.and_eq_true, beq_iff_eq, decide_eq_true_eq] at h ⊢; omega)
    have hB : BrAt I36 β σ := BrAt.fr hB hT36 (fun a j h1 h2 => Bool.eq_false_iff.mpr (fun h => by simp only [SHk, Bool.or_eq_true, Bool.and_eq_true, beq_iff_eq, decide_eq_true_eq] at h; omega))
    have hP : PlAt I36 q σ := PlAt.fr hP hT36 (fun a j h1 h2 => Bool.eq_false_iff.mpr (fun h => by simp only [SHk, Bool.or_eq_true, Bool.and_eq_true, beq_iff_eq, decide_eq_true_eq] at h; omega))
    have hH : HisN I36 (min 16 (k + 1)) (pushU σ U) ((nw + 1) % 16) := hp36_0
    have hPu : PlAt I36 u (auto σ (nI 31)) := PlAt.fr hPu hT36 (fun a j h1 h2 => Bool.eq_false_iff.mpr (fun h => by simp only [SHk, Bool.or_eq_true, Bool.and_eq_true, beq_iff_eq, decide_eq_true_eq] at h; omega))
    refine lv_aload_n hx hb (dg D_X11_autoPlan (i := 18) rfl) rfl (lv_at hl 0 rfl) ?_
    refine callVv X hW hS hR (c_X11_takeDraft (I := I36) q u (by rw [u2R_off (by omega)]; exact hR8) (by rw [u2R_off (by omega)]; exact hR10)) (by decide) UVX11_takeDraft LK_X11_124 rfl (by decide) rfl rfl rfl (Nat.le_of_ble_eq_true rfl) hl hcs (dg D_X11_autoPlan (i := 19) rfl) (fun I40 L1 R1 H locs hq hW hS => ?_)
    obtain ⟨rfl, rfl, rfl⟩ := hq
    refine lv_aload_n hx hb (dg D_X11_autoPlan (i := 20) rfl) rfl (lv_at hl 0 rfl) ?_
    refine r_getr (v := u) X hW FI_X11_71 rfl (by decide) rfl (by rw [u2R_off (by omega), u2R_at]) (dg D_X11_autoPlan (i := 21) rfl) ?_
    refine callVi X hW hS hR (c_X6_countPast (I := I36) (auto σ (nI 31)) β u (auto_Inv hi) (by first | assumption | omega | decide | exact hP.1) (BrAt_Sm hB auto_Sm hi) (hu9) (hPu) (by rw [u2R_off (by omega), u2R_off (by omega), u2R_at])) (by decide) UVX6_countPast LK_X11_151 (shP hu9) (ncP0 hu9) rfl rfl rfl (Nat.le_of_ble_eq_true rfl) hl hcs (dg D_X11_autoPlan (i := 22) rfl) (fun r47 I47 L1 R1 H locs hq hW hS => ?_)
    obtain ⟨rfl, rfl, rfl, rfl⟩ := hq
    exact fin (dg D_X11_autoPlan (i := 23) rfl) hW hS ⟨by unfold auR; rw [if_neg (by rw [c28]; decide)], hF, AdC.ok (by unfold auO; rw [if_neg (by rw [c28]; decide)]) (BrAt_Sm hB auto_Sm hi) hPu hH rfl, rfl⟩
  · refine r_ldcw X CK_X11_260 (dg D_X11_autoPlan (i := 14) rfl) ?_
    exact fin (dg D_X11_autoPlan (i := 15) rfl) hW hS ⟨by unfold auR; rw [if_pos c28], hF, AdC.no (by unfold auO; rw [if_pos c28]) hB hP hH rfl, rfl⟩

set_option maxHeartbeats 4000000 in
set_option maxRecDepth 100000 in
theorem c_X11_applySafePlan {l : Launch} {G : va_G} {bs : Nat} {cy : Nat → ClassId} {I : CI} {L : CL} {R : CR} (σ : Row) (β : Nat) (q : Nat) (u : Nat) (k : Nat) (U : Nat → Row) (nw : Nat) (hi : Inv σ) (hd : DR σ) (hβ : isBr β) (hB : BrAt I β σ) (hq : isPl q) (hP : PlAt I q σ) (hRb : R q 0 = β) (hR7 : R 0 7 = β) (hR8 : R 0 8 = q) (hu9 : isPl u) (hR10 : R 0 10 = u) (huq9 : u ≠ q) (hH : HisN I k U nw) : MTi l G bs cy MX11_applySafePlan 22 [.ref (bs + 0)] I L R (fun r I1 L1 R1 => apR σ = r ∧ Fr (SAd u) I I1 ∧ AdC I1 R R1 β q u (apO σ) σ k U nw ∧ L = L1) := by
  refine MTi.of (own := RX11) pn_RX11 rfl (Nat.le_of_ble_eq_true rfl) ?_
  intro p e s m args below meth c Qf X hW hS fin ls hl
  have hx := X.1
  have hb := X.2.1
  have hR : RmOK (rmL 22 0 0) 22 := ⟨rfl, rfl⟩
  have hcs : 0 ≤ (rmL 22 0 0).cells ∧ 0 ≤ (rmL 22 0 0).slots := ⟨Nat.zero_le _, Nat.zero_le _⟩
  have hl : lv_has ls 2 [(0, .ref (bs + 0))] := hl
  have hF : Fr (SAd u) I I := Fr.rf
  obtain ⟨hY, hY1, hY12, hLn, hL4, hSn, hS12, hGn, hG5⟩ := id hi
  have hbq := br_pl hβ hq
  have huq : 53 ≤ u := by rcases hu9 with rfl | rfl <;> omega
  have hpp := pl_pl hq hu9 huq9
  have hbu := br_pl hβ hu9
  refine lv_aload_n hx hb (dg D_X11_applySafePlan (i := 0) rfl) rfl (lv_at hl 0 rfl) ?_
  refine r_getc (t := 4) X hW FI_X11_19 rfl (by decide) rfl (dg D_X11_applySafePlan (i := 1) rfl) ?_
  refine lv_aload_n hx hb (dg D_X11_applySafePlan (i := 2) rfl) rfl (lv_at hl 0 rfl) ?_
  refine r_getr (v := β) X hW FI_X11_67 rfl (by decide) rfl hR7 (dg D_X11_applySafePlan (i := 3) rfl) ?_
  refine lv_aload_n hx hb (dg D_X11_applySafePlan (i := 4) rfl) rfl (lv_at hl 0 rfl) ?_
  refine r_getr (v := u) X hW FI_X11_78 rfl (by decide) rfl hR10 (dg D_X11_applySafePlan (i := 5) rfl) ?_
  refine callVi X hW hS hR (c_X8_makePlan (I := I) σ β u (by first | assumption | omega | decide | exact hP.1) (by first | assumption | omega | decide | exact hP.1) (by first | assumption | omega | decide | exact hP.1) (by first | assumption | omega | decide | exact hP.1) (hu9)) (by decide) UVX8_makePlan LK_X11_287 rfl (by decide) rfl rfl rfl (Nat.le_of_ble_eq_true rfl) hl hcs (dg D_X11_applySafePlan (i := 6) rfl) (fun r12 I12 L1 R1 H locs hq hW hS => ?_)
  obtain ⟨rfl, hT12, hp12_0, hp12_1, rfl, rfl⟩ := hq
  have hF : Fr (SAd u) I I12 := Fr.tr hF hT12 (by intro a j h; simp only [SSp, SAd, Bool.or_eq_true, Bool.and_eq_true, beq_iff_eq, decide_eq_true_eq] at h ⊢; omega)
  have hB : BrAt I12 β σ := BrAt.fr hB hT12 (fun a j h1 h2 => Bool.eq_false_iff.mpr (fun h => by simp only [SSp, Bool.or_eq_true, Bool.and_eq_true, beq_iff_eq, decide_eq_true_eq] at h; omega))
  have hP : PlAt I12 q σ := PlAt.fr hP hT12 (fun a j h1 h2 => Bool.eq_false_iff.mpr (fun h => by simp only [SSp, Bool.or_eq_true, Bool.and_eq_true, beq_iff_eq, decide_eq_true_eq] at h; omega))
  have hH : HisN I12 k U nw := HisN.frI hH hT12 (fun a j h1 h2 => Bool.eq_false_iff.mpr (fun h => by simp only [SSp, Bool.or_eq_true, Bool.and_eq_true, beq_iff_eq, decide_eq_true_eq] at h; omega))
  refine lv_istore_n (lv' := [(1, .int (cdI (saR σ).1)), (0, .ref (bs + 0))]) hx hb (dg D_X11_applySafePlan (i := 7) rfl) rfl hl (by decide) rfl (fun ls hl => ?_)
  refine lv_iload_n hx hb (dg D_X11_applySafePlan (i := 8) rfl) rfl (lv_at hl 0 rfl) ?_
  refine r_ldcw X CK_X11_290 (dg D_X11_applySafePlan (i := 9) rfl) ?_
  refine lv_icmp_ne (tgt := 27) hx hb (dg D_X11_applySafePlan (i := 10) rfl) (by decide) (fun c20 => ?_) (fun c20 => ?_)
  · refine lv_iload_n hx hb (dg D_X11_applySafePlan (i := 13) rfl) rfl (lv_at hl 0 rfl) ?_
    refine lv_if_ne (tgt := 34) hx hb (dg D_X11_applySafePlan (i := 14) rfl) (by decide) (fun c28 => ?_) (fun c28 => ?_)
    · have hc1 : (saR σ).1 = 1 := cdI_1 c20 c28
      obtain ⟨hsm, hpd, hpc⟩ := sa_QS hi hc1
      have hPu : PlAt I12 u ((saR σ).2.1) := hp12_0 (by omega)
      refine lv_aload_n hx hb (dg D_X11_applySafePlan (i := 17) rfl) rfl (lv_at hl 1 rfl) ?_
      refine r_getr (v := u) X hW FI_X11_78 rfl (by decide) rfl (by first | exact hR10 | (rw [u2R_off (by omega)]; exact hR10) | (rw [u2R_off (by omega), u2R_off (by omega)]; exact hR10)) (dg D_X11_applySafePlan (i := 18) rfl) ?_
      refine lv_aload_n hx hb (dg D_X11_applySafePlan (i := 19) rfl) rfl (lv_at hl 1 rfl) ?_
      refine r_getr (v := q) X hW FI_X11_71 rfl (by decide) rfl (by first | exact hR8 | (rw [u2R_off (by omega)]; exact hR8) | (rw [u2R_off (by omega), u2R_off (by omega)]; exact hR8)) (dg D_X11_applySafePlan (i := 20) rfl) ?_
      refine callVi X hW hS hR (c_X6_hasPaintingsOf (I := I12) ((saR σ).2.1) σ u q (hu9) (hPu) (hq) (hP)) (by decide) UVX6_hasPaintingsOf LK_X11_283 (shP hu9) (ncP0 hu9) rfl rfl rfl (Nat.le_of_ble_eq_true rfl) hl hcs (dg D_X11_applySafePlan (i := 21) rfl) (fun r42 I42 L1 R1 H locs hq hW hS => ?_)
      obtain ⟨rfl, rfl, rfl, rfl⟩ := hq
      refine z_if_eq (tgt := 52) hx hb (dg D_X11_applySafePlan (i := 22) rfl) (by decide) (fun c45 => ?_) (fun c45 => ?_)
      · refine lv_aload_n hx hb (dg D_X11_applySafePlan (i := 25) rfl) rfl (lv_at hl 1 rfl) ?_
        refine callVv X hW hS hR (c_X11_remember (I := I12) σ β q k U nw (by first | assumption | omega | decide | exact hP.1) (by first | assumption | omega | decide | exact hP.1) (by first | assumption | omega | decide | exact hP.1) (by first | assumption | omega | decide | exact hP.1) (by first | assumption | omega | decide | exact hP.1) (by rw [u2R_off (by omega)]; exact hR7) (by rw [u2R_off (by omega)]; exact hR8) (by first | assumption | omega | decide | exact hP.1)) (by decide) UVX11_remember LK_X11_254 rfl (by decide) rfl rfl rfl (Nat.le_of_ble_eq_true rfl) hl hcs (dg D_X11_applySafePlan (i := 26) rfl) (fun I53 L1 R1 H locs hq hW hS => ?_)
        obtain ⟨hT53, hp53_0, rfl, rfl⟩ := hq
        have hF : Fr (SAd u) I I53 := Fr.tr hF hT53 (by intro a j h; simp only [SHk, SAd, Bool.or_eq_true, Bool.and_eq_true, beq_iff_eq, decide_eq_true_eq] at h ⊢; omega)
        have hB : BrAt I53 β σ := BrAt.fr hB hT53 (fun a j h1 h2 => Bool.eq_false_iff.mpr (fun h => by simp only [SHk, Bool.or_eq_true, Bool.and_eq_true, beq_iff_eq, decide_eq_true_eq] at h; omega))
        have hP : PlAt I53 q σ := PlAt.fr hP hT53 (fun a j h1 h2 => Bool.eq_false_iff.mpr (fun h => by simp only [SHk, Bool.or_eq_true, Bool.and_eq_true, beq_iff_eq, decide_eq_true_eq] at h; omega))
        have hH : HisN I53 (min 16 (k + 1)) (pushU σ U) ((nw + 1) % 16) := hp53_0
        have hPu : PlAt I53 u ((saR σ).2.1) := PlAt.fr hPu hT53 (fun a j h1 h2 => Bool.eq_false_iff.mpr (fun h => by simp only [SHk, Bool.or_eq_true, Bool.and_eq_true, beq_iff_eq, decide_eq_true_eq] at h; omega))
        refine lv_aload_n hx hb (dg D_X11_applySafePlan (i := 27) rfl) rfl (lv_at hl 1 rfl) ?_
        refine callVv X hW hS hR (c_X11_takeDraft (I := I53) q u (by rw [u2R_off (by omega)]; exact hR8) (by rw [u2R_off (by omega)]; exact hR10)) (by decide) UVX11_takeDraft LK_X11_124 rfl (by decide) rfl rfl rfl (Nat.le_of_ble_eq_true rfl) hl hcs (dg D_X11_applySafePlan (i := 28) rfl) (fun I57 L1 R1 H locs hq hW hS => ?_)
        obtain ⟨rfl, rfl, rfl⟩ := hq
        refine lv_aload_n hx hb (dg D_X11_applySafePlan (i := 29) rfl) rfl (lv_at hl 1 rfl) ?_
        refine r_getr (v := u) X hW FI_X11_71 rfl (by decide) rfl (by rw [u2R_off (by omega), u2R_at]) (dg D_X11_applySafePlan (i := 30) rfl) ?_
        refine callVi X hW hS hR (c_X6_countPaintings (I := I53) ((saR σ).2.1) u (hu9) (hPu)) (by decide) UVX6_countPaintings LK_X11_208 (shP hu9) (ncP0 hu9) rfl rfl rfl (Nat.le_of_ble_eq_true rfl) hl hcs (dg D_X11_applySafePlan (i := 31) rfl) (fun r64 I64 L1 R1 H locs hq hW hS => ?_)
        obtain ⟨rfl, rfl, rfl, rfl⟩ := hq
        exact fin (dg D_X11_applySafePlan (i := 32) rfl) hW hS ⟨by unfold apR; rw [if_pos hc1, if_neg (by rw [c45]; decide), hpc], hF, AdC.ok (by unfold apO; rw [if_pos hc1, if_neg (by rw [c45]; decide)]) (BrAt_Sm hB hsm hi) hPu hH rfl, rfl⟩
      · refine r_ldcw X CK_X11_260 (dg D_X11_applySafePlan (i := 23) rfl) ?_
        exact fin (dg D_X11_applySafePlan (i := 24) rfl) hW hS ⟨by unfold apR; rw [if_pos hc1, if_pos c45], hF, AdC.no (by unfold apO; rw [if_pos hc1, if_pos c45]) hB hP hH rfl, rfl⟩
    · refine r_ldc X CK_X11_48 (dg D_X11_applySafePlan (i := 15) rfl) ?_
      exact fin (dg D_X11_applySafePlan (i := 16) rfl) hW hS ⟨by unfold apR; rw [if_neg (cdI_3 (by first | exact c28 | exact Classical.not_not.mp c28) c20).1, if_neg (cdI_3 (by first | exact c28 | exact Classical.not_not.mp c28) c20).2], hF, AdC.no (by unfold apO; rw [if_neg (cdI_3 (by first | exact c28 | exact Classical.not_not.mp c28) c20).1]) hB hP hH rfl, rfl⟩
  · refine r_ldcw X CK_X11_290 (dg D_X11_applySafePlan (i := 11) rfl) ?_
    exact fin (dg D_X11_applySafePlan (i := 12) rfl) hW hS ⟨by unfold apR; rw [if_neg (cdI_2 (by first | exact c20 | exact Classical.not_not.mp c20)).1, if_pos (cdI_2 (by first | exact c20 | exact Classical.not_not.mp c20)).2], hF, AdC.no (by unfold apO; rw [if_neg (cdI_2 (by first | exact c20 | exact Classical.not_not.mp c20)).1]) hB hP hH rfl, rfl⟩

set_option maxHeartbeats 4000000 in
set_option maxRecDepth 100000 in
theorem c_X11_hasSafePlan {l : Launch} {G : va_G} {bs : Nat} {cy : Nat → ClassId} {I : CI} {L : CL} {R : CR} (σ : Row) (β : Nat) (q : Nat) (u : Nat) (hi : Inv σ) (hd : DR σ) (hβ : isBr β) (hB : BrAt I β σ) (hq : isPl q) (hP : PlAt I q σ) (hRb : R q 0 = β) (hR7 : R 0 7 = β) (hR8 : R 0 8 = q) (hu9 : isPl u) (hR10 : R 0 10 = u) (huq9 : u ≠ q) : MTi l G bs cy MX11_hasSafePlan 22 [.ref (bs + 0)] I L R (fun r I1 L1 R1 => hsR σ = r ∧ Fr (SSp u) I I1 ∧ L = L1 ∧ FR u R R1) := by
  refine MTi.of (own := RX11) pn_RX11 rfl (Nat.le_of_ble_eq_true rfl) ?_
  intro p e s m args below meth c Qf X hW hS fin ls hl
  have hx := X.1
  have hb := X.2.1
  have hR : RmOK (rmL 22 0 0) 22 := ⟨rfl, rfl⟩
  have hcs : 0 ≤ (rmL 22 0 0).cells ∧ 0 ≤ (rmL 22 0 0).slots := ⟨Nat.zero_le _, Nat.zero_le _⟩
  have hl : lv_has ls 1 [(0, .ref (bs + 0))] := hl
  have hF : Fr (SSp u) I I := Fr.rf
  have hFR : FR u R R := FR.rf
  obtain ⟨hY, hY1, hY12, hLn, hL4, hSn, hS12, hGn, hG5⟩ := id hi
  have hbq := br_pl hβ hq
  have huq : 53 ≤ u := by rcases hu9 with rfl | rfl <;> omega
  have hpp := pl_pl hq hu9 huq9
  have hbu := br_pl hβ hu9
  refine lv_aload_n hx hb (dg D_X11_hasSafePlan (i := 0) rfl) rfl (lv_at hl 0 rfl) ?_
  refine r_getc (t := 4) X hW FI_X11_19 rfl (by decide) rfl (dg D_X11_hasSafePlan (i := 1) rfl) ?_
  refine lv_aload_n hx hb (dg D_X11_hasSafePlan (i := 2) rfl) rfl (lv_at hl 0 rfl) ?_
  refine r_getr (v := β) X hW FI_X11_67 rfl (by decide) rfl hR7 (dg D_X11_hasSafePlan (i := 3) rfl) ?_
  refine lv_aload_n hx hb (dg D_X11_hasSafePlan (i := 4) rfl) rfl (lv_at hl 0 rfl) ?_
  refine r_getr (v := u) X hW FI_X11_78 rfl (by decide) rfl hR10 (dg D_X11_hasSafePlan (i := 5) rfl) ?_
  refine callVi X hW hS hR (c_X8_makePlan (I := I) σ β u (by first | assumption | omega | decide | exact hP.1) (by first | assumption | omega | decide | exact hP.1) (by first | assumption | omega | decide | exact hP.1) (by first | assumption | omega | decide | exact hP.1) (hu9)) (by decide) UVX8_makePlan LK_X11_287 rfl (by decide) rfl rfl rfl (Nat.le_of_ble_eq_true rfl) hl hcs (dg D_X11_hasSafePlan (i := 6) rfl) (fun r12 I12 L1 R1 H locs hq hW hS => ?_)
  obtain ⟨rfl, hT12, hp12_0, hp12_1, rfl, rfl⟩ := hq
  have hF : Fr (SSp u) I I12 := Fr.tr hF hT12 (fun _ _ h => h)
  have hB : BrAt I12 β σ := BrAt.fr hB hT12 (fun a j h1 h2 => Bool.eq_false_iff.mpr (fun h => by simp only [SSp, Bool.or_eq_true, Bool.and_eq_true, beq_iff_eq, decide_eq_true_eq] at h; omega))
  have hFR : FR u R (u2R R u 0 β) := hFR.put
  exact fin (dg D_X11_hasSafePlan (i := 7) rfl) hW hS ⟨rfl, hF, rfl, hFR⟩

set_option maxHeartbeats 4000000 in
set_option maxRecDepth 100000 in
theorem c_X11_searchTries {l : Launch} {G : va_G} {bs : Nat} {cy : Nat → ClassId} {I : CI} {L : CL} {R : CR} (σ : Row) (β : Nat) (q : Nat) (u : Nat) (hi : Inv σ) (hd : DR σ) (hβ : isBr β) (hB : BrAt I β σ) (hq : isPl q) (hP : PlAt I q σ) (hRb : R q 0 = β) (hR7 : R 0 7 = β) (hR8 : R 0 8 = q) (hu9 : isPl u) (hR10 : R 0 10 = u) (huq9 : u ≠ q) : MTi l G bs cy MX11_searchTries 22 [.ref (bs + 0)] I L R (fun r I1 L1 R1 => nI (saR σ).2.2 = r ∧ Fr (SSp u) I I1 ∧ L = L1 ∧ FR u R R1) := by
  refine MTi.of (own := RX11) pn_RX11 rfl (Nat.le_of_ble_eq_true rfl) ?_
  intro p e s m args below meth c Qf X hW hS fin ls hl
  have hx := X.1
  have hb := X.2.1
  have hR : RmOK (rmL 22 0 0) 22 := ⟨rfl, rfl⟩
  have hcs : 0 ≤ (rmL 22 0 0).cells ∧ 0 ≤ (rmL 22 0 0).slots := ⟨Nat.zero_le _, Nat.zero_le _⟩
  have hl : lv_has ls 1 [(0, .ref (bs + 0))] := hl
  have hF : Fr (SSp u) I I := Fr.rf
  have hFR : FR u R R := FR.rf
  obtain ⟨hY, hY1, hY12, hLn, hL4, hSn, hS12, hGn, hG5⟩ := id hi
  have hbq := br_pl hβ hq
  have huq : 53 ≤ u := by rcases hu9 with rfl | rfl <;> omega
  have hpp := pl_pl hq hu9 huq9
  have hbu := br_pl hβ hu9
  refine lv_aload_n hx hb (dg D_X11_searchTries (i := 0) rfl) rfl (lv_at hl 0 rfl) ?_
  refine r_getc (t := 4) X hW FI_X11_19 rfl (by decide) rfl (dg D_X11_searchTries (i := 1) rfl) ?_
  refine lv_aload_n hx hb (dg D_X11_searchTries (i := 2) rfl) rfl (lv_at hl 0 rfl) ?_
  refine r_getr (v := β) X hW FI_X11_67 rfl (by decide) rfl hR7 (dg D_X11_searchTries (i := 3) rfl) ?_
  refine lv_aload_n hx hb (dg D_X11_searchTries (i := 4) rfl) rfl (lv_at hl 0 rfl) ?_
  refine r_getr (v := u) X hW FI_X11_78 rfl (by decide) rfl hR10 (dg D_X11_searchTries (i := 5) rfl) ?_
  refine callVi X hW hS hR (c_X8_makePlan (I := I) σ β u (by first | assumption | omega | decide | exact hP.1) (by first | assumption | omega | decide | exact hP.1) (by first | assumption | omega | decide | exact hP.1) (by first | assumption | omega | decide | exact hP.1) (hu9)) (by decide) UVX8_makePlan LK_X11_287 rfl (by decide) rfl rfl rfl (Nat.le_of_ble_eq_true rfl) hl hcs (dg D_X11_searchTries (i := 6) rfl) (fun r12 I12 L1 R1 H locs hq hW hS => ?_)
  obtain ⟨rfl, hT12, hp12_0, hp12_1, rfl, rfl⟩ := hq
  have hF : Fr (SSp u) I I12 := Fr.tr hF hT12 (fun _ _ h => h)
  have hB : BrAt I12 β σ := BrAt.fr hB hT12 (fun a j h1 h2 => Bool.eq_false_iff.mpr (fun h => by simp only [SSp, Bool.or_eq_true, Bool.and_eq_true, beq_iff_eq, decide_eq_true_eq] at h; omega))
  have hFR : FR u R (u2R R u 0 β) := hFR.put
  refine lv_pop hx hb (dg D_X11_searchTries (i := 7) rfl) rfl ?_
  refine lv_aload_n hx hb (dg D_X11_searchTries (i := 8) rfl) rfl (lv_at hl 0 rfl) ?_
  refine r_getc (t := 4) X hW FI_X11_19 rfl (by decide) rfl (dg D_X11_searchTries (i := 9) rfl) ?_
  refine callVi X hW hS hR (c_X8_triesMade (I := I12) ((saR σ).2.2) (hp12_1)) (by decide) UVX8_triesMade LK_X11_300 rfl (by decide) rfl rfl rfl (Nat.le_of_ble_eq_true rfl) hl hcs (dg D_X11_searchTries (i := 10) rfl) (fun r20 I20 L1 R1 H locs hq hW hS => ?_)
  obtain ⟨rfl, rfl, rfl, rfl⟩ := hq
  exact fin (dg D_X11_searchTries (i := 11) rfl) hW hS ⟨rfl, hF, rfl, hFR⟩

