set_option maxHeartbeats 4000000 in
set_option maxRecDepth 100000 in
theorem c_X11_remember {l : Launch} {G : va_G} {bs : Nat} {cy : Nat → ClassId} {I : CI} {L : CL} {R : CR} (σ : Row) (β : Nat) (q : Nat) (k : Nat) (U : Nat → Row) (nw : Nat) (hi : Inv σ) (hβ : isBr β) (hB : BrAt I β σ) (hq : isPl q) (hP : PlAt I q σ) (hR7 : R 0 7 = β) (hR8 : R 0 8 = q) (hH : HisN I k U nw) : MTv l G bs cy MX11_remember 3 [.ref (bs + 0)] I L R (fun I1 L1 R1 => Fr SHk I I1 ∧ HisN I1 (min 16 (k + 1)) (pushU σ U) ((nw + 1) % 16) ∧ L = L1 ∧ R = R1) := by
  refine MTv.of (own := RX11) pn_RX11 rfl (Nat.le_of_ble_eq_true rfl) ?_
  intro p e s m args below meth c Qf X hW hS fin ls hl
  have hx := X.1
  have hb := X.2.1
  have hR : RmOK (rmL 3 0 0) 3 := ⟨rfl, rfl⟩
  have hcs : 0 ≤ (rmL 3 0 0).cells ∧ 0 ≤ (rmL 3 0 0).slots := ⟨Nat.zero_le _, Nat.zero_le _⟩
  have hl : lv_has ls 1 [(0, .ref (bs + 0))] := hl
  have hF : Fr SHk I I := Fr.rf
  obtain ⟨hY, hY1, hY12, hLn, hL4, hSn, hS12, hGn, hG5⟩ := id hi
  have hbq := br_pl hβ hq
  refine lv_aload_n hx hb (dg D_X11_remember (i := 0) rfl) rfl (lv_at hl 0 rfl) ?_
  refine r_getc (t := 9) X hW FI_X11_33 rfl (by decide) rfl (dg D_X11_remember (i := 1) rfl) ?_
  refine lv_aload_n hx hb (dg D_X11_remember (i := 2) rfl) rfl (lv_at hl 0 rfl) ?_
  refine r_getr (v := β) X hW FI_X11_67 rfl (by decide) rfl hR7 (dg D_X11_remember (i := 3) rfl) ?_
  refine lv_aload_n hx hb (dg D_X11_remember (i := 4) rfl) rfl (lv_at hl 0 rfl) ?_
  refine r_getr (v := q) X hW FI_X11_71 rfl (by decide) rfl hR8 (dg D_X11_remember (i := 5) rfl) ?_
  refine callVv X hW hS hR (c_X2_keep (I := I) σ β q k U nw (by first | assumption | omega | decide | exact hP.1) (by first | assumption | omega | decide | exact hP.1) (by first | assumption | omega | decide | exact hP.1) (by first | assumption | omega | decide | exact hP.1) (by first | assumption | omega | decide | exact hP.1) (by first | assumption | omega | decide | exact hP.1)) (by decide) UVX2_keep LK_X11_345 rfl (by decide) rfl rfl rfl (Nat.le_of_ble_eq_true rfl) hl hcs (dg D_X11_remember (i := 6) rfl) (fun I12 L1 R1 H locs hq hW hS => ?_)
  obtain ⟨hT12, hp12_0, rfl, rfl⟩ := hq
  have hF : Fr SHk I I12 := Fr.tr hF hT12 (fun _ _ h => h)
  exact fin (dg D_X11_remember (i := 7) rfl) hW hS ⟨hF, hp12_0, rfl, rfl⟩

set_option maxHeartbeats 4000000 in
set_option maxRecDepth 100000 in
theorem c_X11_takeDraft {l : Launch} {G : va_G} {bs : Nat} {cy : Nat → ClassId} {I : CI} {L : CL} {R : CR} (q : Nat) (u : Nat) (hR8 : R 0 8 = q) (hR10 : R 0 10 = u) : MTv l G bs cy MX11_takeDraft 1 [.ref (bs + 0)] I L R (fun I1 L1 R1 => I = I1 ∧ L = L1 ∧ R1 = u2R (u2R R 0 8 u) 0 10 q) := by
  refine MTv.of (own := RX11) pn_RX11 rfl (Nat.le_of_ble_eq_true rfl) ?_
  intro p e s m args below meth c Qf X hW hS fin ls hl
  have hx := X.1
  have hb := X.2.1
  have hR : RmOK (rmL 1 0 0) 1 := ⟨rfl, rfl⟩
  have hcs : 0 ≤ (rmL 1 0 0).cells ∧ 0 ≤ (rmL 1 0 0).slots := ⟨Nat.zero_le _, Nat.zero_le _⟩
  have hl : lv_has ls 2 [(0, .ref (bs + 0))] := hl
  refine lv_aload_n hx hb (dg D_X11_takeDraft (i := 0) rfl) rfl (lv_at hl 0 rfl) ?_
  refine r_getr (v := q) X hW FI_X11_71 rfl (by decide) rfl hR8 (dg D_X11_takeDraft (i := 1) rfl) ?_
  refine lv_astore_n (lv' := [(1, .ref (bs + q)), (0, .ref (bs + 0))]) hx hb (dg D_X11_takeDraft (i := 2) rfl) rfl hl (by decide) rfl (fun ls hl => ?_)
  refine lv_aload_n hx hb (dg D_X11_takeDraft (i := 3) rfl) rfl (lv_at hl 1 rfl) ?_
  refine lv_aload_n hx hb (dg D_X11_takeDraft (i := 4) rfl) rfl (lv_at hl 1 rfl) ?_
  refine r_getr (v := u) X hW FI_X11_78 rfl (by decide) rfl hR10 (dg D_X11_takeDraft (i := 5) rfl) ?_
  refine r_putr (v := u) (C := "SpanPainter$Plan") X hW hS FI_X11_71 rfl (by decide) rfl rfl (by decide +kernel) (dg D_X11_takeDraft (i := 6) rfl) (fun H locs hW hS => ?_)
  refine lv_aload_n hx hb (dg D_X11_takeDraft (i := 7) rfl) rfl (lv_at hl 1 rfl) ?_
  refine lv_aload_n hx hb (dg D_X11_takeDraft (i := 8) rfl) rfl (lv_at hl 0 rfl) ?_
  refine r_putr (v := q) (C := "SpanPainter$Plan") X hW hS FI_X11_78 rfl (by decide) rfl rfl (by decide +kernel) (dg D_X11_takeDraft (i := 9) rfl) (fun H locs hW hS => ?_)
  exact fin (dg D_X11_takeDraft (i := 10) rfl) hW hS ⟨rfl, rfl, rfl⟩

set_option maxHeartbeats 4000000 in
set_option maxRecDepth 100000 in
theorem c_X11_paint {l : Launch} {G : va_G} {bs : Nat} {cy : Nat → ClassId} {I : CI} {L : CL} {R : CR} (σ : Row) (β : Nat) (q : Nat) (k : Nat) (U : Nat → Row) (nw : Nat) (u : Int32) (v : Int32) (w : Int32) (hl0 : l.stackTraces = false) (hi : Inv σ) (hd : DR σ) (hβ : isBr β) (hB : BrAt I β σ) (hq : isPl q) (hP : PlAt I q σ) (hRb : R q 0 = β) (hR7 : R 0 7 = β) (hR8 : R 0 8 = q) (hH : HisN I k U nw) : XTi l G bs cy MX11_paint 7 [.ref (bs + 0), .int u, .int v, .int w] I L R (fun r I1 L1 R1 => ((inB u (Yn σ) && inB v (nS σ) && inB w (nG σ)) = true ∧ r = paR σ u v w) ∧ Fr (SEd β q) I I1 ∧ EdC I1 β q (paO σ u v w) σ k U nw ∧ L = L1 ∧ R = R1) (fun E => E = IOE ∧ (inB u (Yn σ) && inB v (nS σ) && inB w (nG σ)) = false) 3 18 := by
  refine XTi.of (own := RX11) pn_RX11 rfl (Nat.le_of_ble_eq_true rfl) ?_
  intro p e s m args below meth c Qc Qf X hW hS htab hlk hQf fin ls hl
  have hx := X.1
  have hb := X.2.1
  have hR : RmOK (rmL 7 3 18) 7 := ⟨rfl, rfl⟩
  have hcs : 0 ≤ (rmL 7 3 18).cells ∧ 0 ≤ (rmL 7 3 18).slots := ⟨Nat.zero_le _, Nat.zero_le _⟩
  have hl : lv_has ls 4 [(0, .ref (bs + 0)), (1, .int u), (2, .int v), (3, .int w)] := hl
  have hF : Fr (SEd β q) I I := Fr.rf
  obtain ⟨hY, hY1, hY12, hLn, hL4, hSn, hS12, hGn, hG5⟩ := id hi
  have hbq := br_pl hβ hq
  refine lv_aload_n hx hb (dg D_X11_paint (i := 0) rfl) rfl (lv_at hl 0 rfl) ?_
  refine lv_iload_n hx hb (dg D_X11_paint (i := 1) rfl) rfl (lv_at hl 1 rfl) ?_
  refine callXv X hW hS hR htab hlk hQf (c_X11_checkYear (I := I) σ β u (by first | assumption | omega | decide | exact hP.1) (by first | assumption | omega | decide | exact hP.1) (by first | assumption | omega | decide | exact hP.1) (by first | assumption | omega | decide | exact hP.1) (by first | assumption | omega | decide | exact hP.1)) (fun E hE => ⟨hE.1, by simp [hE.2]⟩) (by decide) UVX11_checkYear LK_X11_134 rfl (by decide) rfl rfl rfl (Nat.le_of_ble_eq_true rfl) hl (Nat.le_of_ble_eq_true rfl) (Nat.le_of_ble_eq_true rfl) (Nat.le_of_ble_eq_true rfl) (Nat.le_of_ble_eq_true rfl) (dg D_X11_paint (i := 2) rfl) (fun I2 L1 R1 H locs hq hW hS => ?_)
  have hcs : 0 + 1 ≤ (rmL 7 3 18).cells ∧ 0 + 6 ≤ (rmL 7 3 18).slots := ⟨Nat.le_of_ble_eq_true rfl, Nat.le_of_ble_eq_true rfl⟩
  obtain ⟨hr2, rfl, rfl, rfl⟩ := hq
  obtain ⟨ju, hju, rfl⟩ := inB_of hr2 (by omega)
  refine lv_aload_n hx hb (dg D_X11_paint (i := 3) rfl) rfl (lv_at hl 0 rfl) ?_
  refine lv_iload_n hx hb (dg D_X11_paint (i := 4) rfl) rfl (lv_at hl 2 rfl) ?_
  refine callXv X hW hS hR htab hlk hQf (c_X11_checkSpan (I := I) σ β v (by first | assumption | omega | decide | exact hP.1) (by first | assumption | omega | decide | exact hP.1) (by first | assumption | omega | decide | exact hP.1) (by first | assumption | omega | decide | exact hP.1) (by first | assumption | omega | decide | exact hP.1)) (fun E hE => ⟨hE.1, by simp [hE.2]⟩) (by decide) UVX11_checkSpan LK_X11_131 rfl (by decide) rfl rfl rfl (Nat.le_of_ble_eq_true rfl) hl (Nat.le_of_ble_eq_true rfl) (Nat.le_of_ble_eq_true rfl) (Nat.le_of_ble_eq_true rfl) (Nat.le_of_ble_eq_true rfl) (dg D_X11_paint (i := 5) rfl) (fun I7 L1 R1 H locs hq hW hS => ?_)
  have hcs : 0 + 1 + 1 ≤ (rmL 7 3 18).cells ∧ 0 + 6 + 6 ≤ (rmL 7 3 18).slots := ⟨Nat.le_of_ble_eq_true rfl, Nat.le_of_ble_eq_true rfl⟩
  obtain ⟨hr7, rfl, rfl, rfl⟩ := hq
  obtain ⟨jv, hjv, rfl⟩ := inB_of hr7 (by omega)
  refine lv_aload_n hx hb (dg D_X11_paint (i := 6) rfl) rfl (lv_at hl 0 rfl) ?_
  refine lv_iload_n hx hb (dg D_X11_paint (i := 7) rfl) rfl (lv_at hl 3 rfl) ?_
  refine callXv X hW hS hR htab hlk hQf (c_X11_checkGang (I := I) σ β w (by first | assumption | omega | decide | exact hP.1) (by first | assumption | omega | decide | exact hP.1) (by first | assumption | omega | decide | exact hP.1) (by first | assumption | omega | decide | exact hP.1) (by first | assumption | omega | decide | exact hP.1)) (fun E hE => ⟨hE.1, by simp [hE.2]⟩) (by decide) UVX11_checkGang LK_X11_190 rfl (by decide) rfl rfl rfl (Nat.le_of_ble_eq_true rfl) hl (Nat.le_of_ble_eq_true rfl) (Nat.le_of_ble_eq_true rfl) (Nat.le_of_ble_eq_true rfl) (Nat.le_of_ble_eq_true rfl) (dg D_X11_paint (i := 8) rfl) (fun I12 L1 R1 H locs hq hW hS => ?_)
  have hcs : 0 + 1 + 1 + 1 ≤ (rmL 7 3 18).cells ∧ 0 + 6 + 6 + 6 ≤ (rmL 7 3 18).slots := ⟨Nat.le_of_ble_eq_true rfl, Nat.le_of_ble_eq_true rfl⟩
  obtain ⟨hr12, rfl, rfl, rfl⟩ := hq
  obtain ⟨jw, hjw, rfl⟩ := inB_of hr12 (by omega)
  refine lv_aload_n hx hb (dg D_X11_paint (i := 9) rfl) rfl (lv_at hl 0 rfl) ?_
  refine r_getr (v := q) X hW FI_X11_71 rfl (by decide) rfl hR8 (dg D_X11_paint (i := 10) rfl) ?_
  refine lv_iload_n hx hb (dg D_X11_paint (i := 11) rfl) rfl (lv_at hl 1 rfl) ?_
  refine lv_iload_n hx hb (dg D_X11_paint (i := 12) rfl) rfl (lv_at hl 2 rfl) ?_
  refine lv_iload_n hx hb (dg D_X11_paint (i := 13) rfl) rfl (lv_at hl 3 rfl) ?_
  refine callVi X hW hS hR (c_X6_reasonAgainst (I := I) σ β q ju jv jw (by first | assumption | omega | decide | exact hP.1) (by first | assumption | omega | decide | exact hP.1) (by first | assumption | omega | decide | exact hP.1) (by first | assumption | omega | decide | exact hP.1) (by first | assumption | omega | decide | exact hP.1) (by first | assumption | omega | decide | exact hP.1) (by first | assumption | omega | decide | exact hP.1) (by first | assumption | omega | decide | exact hP.1) (by first | assumption | omega | decide | exact hP.1) (by first | assumption | omega | decide | exact hP.1)) (by decide) UVX6_reasonAgainst LK_X11_243 (shP hq) (ncP0 hq) rfl rfl rfl (Nat.le_of_ble_eq_true rfl) hl hcs (dg D_X11_paint (i := 14) rfl) (fun r22 I22 L1 R1 H locs hq hW hS => ?_)
  obtain ⟨rfl, rfl, rfl, rfl⟩ := hq
  refine lv_if_eq (tgt := 31) hx hb (dg D_X11_paint (i := 15) rfl) (by decide) (fun c25 => ?_) (fun c25 => ?_)
  · refine lv_aload_n hx hb (dg D_X11_paint (i := 18) rfl) rfl (lv_at hl 0 rfl) ?_
    refine callVv X hW hS hR (c_X11_remember (I := I) σ β q k U nw (by first | assumption | omega | decide | exact hP.1) (by first | assumption | omega | decide | exact hP.1) (by first | assumption | omega | decide | exact hP.1) (by first | assumption | omega | decide | exact hP.1) (by first | assumption | omega | decide | exact hP.1) (by first | assumption | omega | decide | exact hP.1) (by first | assumption | omega | decide | exact hP.1) (by first | assumption | omega | decide | exact hP.1)) (by decide) UVX11_remember LK_X11_254 rfl (by decide) rfl rfl rfl (Nat.le_of_ble_eq_true rfl) hl hcs (dg D_X11_paint (i := 19) rfl) (fun I32 L1 R1 H locs hq hW hS => ?_)
    obtain ⟨hT32, hp32_0, rfl, rfl⟩ := hq
    have hF : Fr (SEd β q) I I32 := Fr.tr hF hT32 (by intro a j h; simp only [SHk, SEd, Bool.or_eq_true, Bool.and_eq_true, beq_iff_eq, decide_eq_true_eq] at h ⊢; omega)
    have hB : BrAt I32 β σ := BrAt.fr hB hT32 (fun a j h1 h2 => Bool.eq_false_iff.mpr (fun h => by simp only [SHk, Bool.or_eq_true, Bool.and_eq_true, beq_iff_eq, decide_eq_true_eq] at h; omega))
    have hP : PlAt I32 q σ := PlAt.fr hP hT32 (fun a j h1 h2 => Bool.eq_false_iff.mpr (fun h => by simp only [SHk, Bool.or_eq_true, Bool.and_eq_true, beq_iff_eq, decide_eq_true_eq] at h; omega))
    have hH : HisN I32 (min 16 (k + 1)) (pushU σ U) ((nw + 1) % 16) := hp32_0
    refine lv_aload_n hx hb (dg D_X11_paint (i := 20) rfl) rfl (lv_at hl 0 rfl) ?_
    refine r_getr (v := q) X hW FI_X11_71 rfl (by decide) rfl hR8 (dg D_X11_paint (i := 21) rfl) ?_
    refine lv_iload_n hx hb (dg D_X11_paint (i := 22) rfl) rfl (lv_at hl 1 rfl) ?_
    refine lv_iload_n hx hb (dg D_X11_paint (i := 23) rfl) rfl (lv_at hl 2 rfl) ?_
    refine lv_iload_n hx hb (dg D_X11_paint (i := 24) rfl) rfl (lv_at hl 3 rfl) ?_
    refine callVv X hW hS hR (cP_X6_put (I := I32) σ β q ju jv (nI jw) (by first | assumption | omega | decide | exact hP.1) (by first | assumption | omega | decide | exact hP.1) (by first | assumption | omega | decide | exact hP.1) (by first | assumption | omega | decide | exact hP.1) (by first | assumption | omega | decide | exact hP.1) (by first | assumption | omega | decide | exact hP.1) (by first | assumption | omega | decide | exact hP.1) (by first | assumption | omega | decide | exact hP.1) (by first | assumption | omega | decide | exact hP.1)) (by decide) UVX6_put LK_X11_257 (shP hq) (ncP0 hq) rfl rfl rfl (Nat.le_of_ble_eq_true rfl) hl hcs (dg D_X11_paint (i := 25) rfl) (fun I42 L1 R1 H locs hq hW hS => ?_)
    obtain ⟨hT42, hp42_0, rfl, rfl⟩ := hq
    have hF : Fr (SEd β q) I I42 := Fr.tr hF hT42 (by intro a j h; simp only [SPu, SEd, Bool.or_eq_true, Bool.and_eq_true, beq_iff_eq, decide_eq_true_eq] at h ⊢; omega)
    have hB : BrAt I42 β σ := BrAt.fr hB hT42 (fun a j h1 h2 => Bool.eq_false_iff.mpr (fun h => by simp only [SPu, Bool.or_eq_true, Bool.and_eq_true, beq_iff_eq, decide_eq_true_eq] at h; omega))
    have hP : PlAt I42 q (setP σ jv ju (nI jw)) := hp42_0
    have hH : HisN I42 (min 16 (k + 1)) (pushU σ U) ((nw + 1) % 16) := HisN.frI hH hT42 (fun a j h1 h2 => Bool.eq_false_iff.mpr (fun h => by simp only [SPu, Bool.or_eq_true, Bool.and_eq_true, beq_iff_eq, decide_eq_true_eq] at h; omega))
    refine lv_aload_n hx hb (dg D_X11_paint (i := 26) rfl) rfl (lv_at hl 0 rfl) ?_
    refine r_getr (v := q) X hW FI_X11_71 rfl (by decide) rfl hR8 (dg D_X11_paint (i := 27) rfl) ?_
    refine callVi X hW hS hR (c_X6_countPast (I := I42) (setP σ jv ju (nI jw)) β q (Inv_setP hi) (by first | assumption | omega | decide | exact hP.1) (BrAt_Sm hB Sm_setP hi) (by first | assumption | omega | decide | exact hP.1) (by first | assumption | omega | decide | exact hP.1) (by first | assumption | omega | decide | exact hP.1)) (by decide) UVX6_countPast LK_X11_151 (shP hq) (ncP0 hq) rfl rfl rfl (Nat.le_of_ble_eq_true rfl) hl hcs (dg D_X11_paint (i := 28) rfl) (fun r49 I49 L1 R1 H locs hq hW hS => ?_)
    obtain ⟨rfl, rfl, rfl, rfl⟩ := hq
    exact fin (dg D_X11_paint (i := 29) rfl) (Nat.le_of_ble_eq_true rfl) (Nat.le_of_ble_eq_true rfl) hW hS ⟨⟨by simp [hr2, hr7, hr12], by unfold paR; rw [tN_nI (show ju < 2 ^ 31 by omega), tN_nI (show jv < 2 ^ 31 by omega), tN_nI (show jw < 2 ^ 31 by omega), if_pos c25]⟩, hF, EdC.ok (by unfold paO; rw [tN_nI (show ju < 2 ^ 31 by omega), tN_nI (show jv < 2 ^ 31 by omega), tN_nI (show jw < 2 ^ 31 by omega)]; exact if_pos (And.intro (by simp [hr2, hr7, hr12]) c25)) (BrAt_Sm hB Sm_setP hi) hP hH, rfl, rfl⟩
  · refine r_ldc X CK_X11_253 (dg D_X11_paint (i := 16) rfl) ?_
    exact fin (dg D_X11_paint (i := 17) rfl) (Nat.le_of_ble_eq_true rfl) (Nat.le_of_ble_eq_true rfl) hW hS ⟨⟨by simp [hr2, hr7, hr12], by unfold paR; rw [tN_nI (show ju < 2 ^ 31 by omega), tN_nI (show jv < 2 ^ 31 by omega), tN_nI (show jw < 2 ^ 31 by omega), if_neg c25]⟩, hF, EdC.no (by unfold paO; rw [tN_nI (show ju < 2 ^ 31 by omega), tN_nI (show jv < 2 ^ 31 by omega), tN_nI (show jw < 2 ^ 31 by omega)]; exact if_neg (nAr c25)) hB hP hH, rfl, rfl⟩

