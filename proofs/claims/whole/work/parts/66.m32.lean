set_option maxHeartbeats 4000000 in
set_option maxRecDepth 100000 in
theorem c_X11_remember {l : Launch} {G : va_G} {bs : Nat} {cy : Nat → ClassId} {I : CI} {L : CL} {R : CR} (σ : Row) (β : Nat) (q : Nat) (k : Nat) (U : Nat → Row) (nw : Nat) (hi : Inv σ) (hβ : isBr β) (hB : BrAt I β σ) (hq : isPl q) (hP : PlAt I q σ) (hR7 : R 0 7 = β) (hR8 : R 0 8 = q) (hH : HisN I k U nw) : MTv l G bs cy MX11_remember 3 [.ref (bs + 0)] I L R (fun I1 L1 R1 => Fr SHk I I1 ∧ HisN I1 (min 16 (k + 1)) (pushU σ U) ((nw + 1) % 16) ∧ L = L1 ∧ R = R1) := by
  refine MTv.of (own := RX11) pn_RX11 rfl (Nat.le_of_ble_eq_true rfl) ?_
  intro p e s m args below meth c Qf X hW hS fin ls hl
  have hx := X.1
  have hb := X.2.1
  have hR : RmOK (rmL 3 0 0) 3 := ⟨rfl, rfl⟩
  have hcs : 0 ≤ (rmL 3 0 0).cells ∧ 0 ≤ (rmL 3 0 0).slots := ⟨Nat.zero_le _, Nat.zero_le _⟩
  have hl : lv_has ls 1 [(0, .ref (bs + 0))] := hl
  have hF : Fr SHk I I := Fr.rf
  obtain ⟨hY, hY1, hY12, hLn, hL4, hSn, hS12, hGn, hG5⟩ := id hi
  have hbq := br_pl hβ hq
  refine lv_aload_n hx hb (dg D_X11_remember (i := 0) rfl) rfl (lv_at hl 0 rfl) ?_
  refine r_getc (t := 9) X hW FI_X11_33 rfl (by decide) rfl (dg D_X11_remember (i := 1) rfl) ?_
  refine lv_aload_n hx hb (dg D_X11_remember (i := 2) rfl) rfl (lv_at hl 0 rfl) ?_
  refine r_getr (v := β) X hW FI_X11_67 rfl (by decide) rfl hR7 (dg D_X11_remember (i := 3) rfl) ?_
  refine lv_aload_n hx hb (dg D_X11_remember (i := 4) rfl) rfl (lv_at hl 0 rfl) ?_
  refine r_getr (v := q) X hW FI_X11_71 rfl (by decide) rfl hR8 (dg D_X11_remember (i := 5) rfl) ?_
  refine callVv X hW hS hR (c_X2_keep (I := I) σ β q k U nw (by first | assumption | omega | decide | exact hP.1) (by first | assumption | omega | decide | exact hP.1) (by first | assumption | omega | decide | exact hP.1) (by first | assumption | omega | decide | exact hP.1) (by first | assumption | omega | decide | exact hP.1) (by first | assumption | omega | decide | exact hP.1)) (by decide) UVX2_keep LK_X11_345 rfl (by decide) rfl rfl rfl (Nat.le_of_ble_eq_true rfl) hl hcs (dg D_X11_remember (i := 6) rfl) (fun I12 L1 R1 H locs hq hW hS => ?_)
  obtain ⟨hT12, hp12_0, rfl, rfl⟩ := hq
  have hF : Fr SHk I I12 := Fr.tr hF hT12 (fun _ _ h => h)
  exact fin (dg D_X11_remember (i := 7) rfl) hW hS ⟨hF, hp12_0, rfl, rfl⟩

set_option maxHeartbeats 4000000 in
set_option maxRecDepth 100000 in
theorem c_X11_takeDraft {l : Launch} {G : va_G} {bs : Nat} {cy : Nat → ClassId} {I : CI} {L : CL} {R : CR} (q : Nat) (u : Nat) (hR8 : R 0 8 = q) (hR10 : R 0 10 = u) : MTv l G bs cy MX11_takeDraft 1 [.ref (bs + 0)] I L R (fun I1 L1 R1 => I = I1 ∧ L = L1 ∧ R1 = u2R (u2R R 0 8 u) 0 10 q) := by
  refine MTv.of (own := RX11) pn_RX11 rfl (Nat.le_of_ble_eq_true rfl) ?_
  intro p e s m args below meth c Qf X hW hS fin ls hl
  have hx := X.1
  have hb := X.2.1
  have hR : RmOK (rmL 1 0 0) 1 := ⟨rfl, rfl⟩
  have hcs : 0 ≤ (rmL 1 0 0).cells ∧ 0 ≤ (rmL 1 0 0).slots := ⟨Nat.zero_le _, Nat.zero_le _⟩
  have hl : lv_has ls 2 [(0, .ref (bs + 0))] := hl
  refine lv_aload_n hx hb (dg D_X11_takeDraft (i := 0) rfl) rfl (lv_at hl 0 rfl) ?_
  refine r_getr (v := q) X hW FI_X11_71 rfl (by decide) rfl hR8 (dg D_X11_takeDraft (i := 1) rfl) ?_
  refine lv_astore_n (lv' := [(1, .ref (bs + q)), (0, .ref (bs + 0))]) hx hb (dg D_X11_takeDraft (i := 2) rfl) rfl hl (by decide) rfl (fun ls hl => ?_)
  refine lv_aload_n hx hb (dg D_X11_takeDraft (i := 3) rfl) rfl (lv_at hl 1 rfl) ?_
  refine lv_aload_n hx hb (dg D_X11_takeDraft (i := 4) rfl) rfl (lv_at hl 1 rfl) ?_
  refine r_getr (v := u) X hW FI_X11_78 rfl (by decide) rfl hR10 (dg D_X11_takeDraft (i := 5) rfl) ?_
  refine r_putr (v := u) (C := "SpanPainter$Plan") X hW hS FI_X11_71 rfl (by decide) rfl rfl (by decide +kernel) (dg D_X11_takeDraft (i := 6) rfl) (fun H locs hW hS => ?_)
  refine lv_aload_n hx hb (dg D_X11_takeDraft (i := 7) rfl) rfl (lv_at hl 1 rfl) ?_
  refine lv_aload_n hx hb (dg D_X11_takeDraft (i := 8) rfl) rfl (lv_at hl 0 rfl) ?_
  refine r_putr (v := q) (C := "SpanPainter$Plan") X hW hS FI_X11_78 rfl (by decide) rfl rfl (by decide +kernel) (dg D_X11_takeDraft (i := 9) rfl) (fun H locs hW hS => ?_)
  exact fin (dg D_X11_takeDraft (i := 10) rfl) hW hS ⟨rfl, rfl, rfl⟩

set_option maxHeartbeats 4000000 in
set_option maxRecDepth 100000 in
theorem c_X11_paint {l : Launch} {G : va_G} {bs : Nat} {cy : Nat → ClassId} {I : CI} {L : CL} {R : CR} (σ : Row) (β : Nat) (q : Nat) (k : Nat) (U : Nat → Row) (nw : Nat) (u : Int32) (v : Int32) (w : Int32) (hl0 : l.stackTraces = false) (hi : Inv σ) (hd : DR σ) (hβ : isBr β) (hB : BrAt I β σ) (hq : isPl q) (hP : PlAt I q σ) (hRb : R q 0 = β) (hR7 : R 0 7 = β) (hR8 : R 0 8 = q) (hH : HisN I k U nw) : XTi l G bs cy MX11_paint 7 [.ref (bs + 0), .int u, .int v, .int w] I L R (fun r I1 L1 R1 => ((inB u (Yn σ) && inB v (nS σ) && inB w (nG σ)) = true ∧ r = paR σ u v w) ∧ Fr (SEd β q) I I1 ∧ EdC I1 β q (paO σ u v w) σ k U nw ∧ L = L1 ∧ R = R1) (fun E => E = IOE ∧ (inB u (Yn σ) && inB v (nS σ) && inB w (nG σ)) = false) 3 18 := by
  refine XTi.of (own := RX11) pn_RX11 rfl (Nat.le_of_ble_eq_true rfl) ?_
  intro p e s m args below meth c Qc Qf X hW hS htab hlk hQf fin ls hl
  have hx := X.1
  have hb := X.2.1
  have hR : RmOK (rmL 7 3 18) 7 := ⟨rfl, rfl⟩
  have hcs : 0 ≤ (rmL 7 3 18).cells ∧ 0 ≤ (rmL 7 3 18).slots := ⟨Nat.zero_le _, Nat.zero_le _⟩
  have hl : lv_has ls 4 [(0, .ref (bs + 0)), (1, .int u), (2, .int v), (3, .int w)] := hl
  have hF : Fr (SEd β q) I I := Fr.rf
  obtain ⟨hY, hY1, hY12, hLn, hL4, hSn, hS12, hGn, hG5⟩ := id hi
  have hbq := br_pl hβ hq
  refine lv_aload_n hx hb (dg D_X11_paint (i := 0) rfl) rfl (lv_at hl 0 rfl) ?_
  refine lv_iload_n hx hb (dg D_X11_paint (i := 1) rfl) rfl (lv_at hl 1 rfl) ?_
  refine callXv X hW hS hR htab hlk hQf (c_X11_checkYear (I := I) σ β u (by first | assumption | omega | decide | exact hP.1) (by first | assumption | omega | decide | exact hP.1) (by first | assumption | omega | decide | exact hP.1) (by first | assumption | omega | decide | exact hP.1) (by first | assumption | omega | decide | exact hP.1)) (fun E hE => ⟨hE.1, by simp [hE.2]⟩) (by decide) UVX11_checkYear LK_X11_134 rfl (by decide) rfl rfl rfl (Nat.le_of_ble_eq_true rfl) hl (Nat.le_of_ble_eq_true rfl) (Nat.le_of_ble_eq_true rfl) (Nat.le_of_ble_eq_true rfl) (Nat.le_of_ble_eq_true rfl) (dg D_X11_paint (i := 2) rfl) (fun I2 L1 R1 H locs hq hW hS => ?_)
  have hcs : 0 + 1 ≤ (rmL 7 3 18).cells ∧ 0 + 6 ≤ (rmL 7 3 18).slots := ⟨Nat.le_of_ble_eq_true rfl, Nat.le_of_ble_eq_true rfl⟩
  obtain ⟨hr2, rfl, rfl, rfl⟩ := hq
  obtain ⟨ju, hju, rfl⟩ := inB_of hr2 (by omega)
  refine lv_aload_n hx hb (dg D_X11_paint (i := 3) rfl) rfl (lv_at hl 0 rfl) ?_
  refine lv_iload_n hx hb (dg D_X11_paint (i := 4) rfl) rfl (lv_at hl 2 rfl) ?_
  refine callXv X hW hS hR htab hlk hQf (c_X11_checkSpan (I := I) σ β v (by first | assumption | omega | decide | exact hP.1) (by first | assumption | omega | decide | exact hP.1) (by first | assumption | omega | decide | exact hP.1) (by first | assumption | omega | decide | exact hP.1) (by first | assumption | omega | decide | exact hP.1)) (fun E hE => ⟨hE.1, by simp [hE.2]⟩) (by decide) UVX11_checkSpan LK_X11_131 rfl (by decide) rfl rfl rfl (Nat.le_of_ble_eq_true rfl) hl (Nat.le_of_ble_eq_true rfl) (Nat.le_of_ble_eq_true rfl) (Nat.le_of_ble_eq_true rfl) (Nat.le_of_ble_eq_true rfl) (dg D_X11_paint (i := 5) rfl) (fun I7 L1 R1 H locs hq hW hS => ?_)
  have hcs : 0 + 1 + 1 ≤ (rmL 7 3 18).cells ∧ 0 + 6 + 6 ≤ (rmL 7 3 18).slots := ⟨Nat.le_of_ble_eq_true rfl, Nat.le_of_ble_eq_true rfl⟩
  obtain ⟨hr7, rfl, rfl, rfl⟩ := hq
  obtain ⟨jv, hjv, rfl⟩ := inB_of hr7 (by omega)
  refine lv_aload_n hx hb (dg D_X11_paint (i := 6) rfl) rfl (lv_at hl 0 rfl) ?_
  refine lv_iload_n hx hb (dg D_X11_paint (i := 7) rfl) rfl (lv_at hl 3 rfl) ?_
  refine callXv X hW hS hR htab hlk hQf (c_X11_checkGang (I := I) σ β w (by first | assumption | omega | decide | exact hP.1) (by first | assumption | omega | decide | exact hP.1) (by first | assumption | omega | decide | exact hP.1) (by first | assumption | omega | decide | exact hP.1) (by first | assumption | omega | decide | exact hP.1)) (fun E hE => ⟨hE.1, by simp [hE.2]⟩) (by decide) UVX11_checkGang LK_X11_190 rfl (by decide) rfl rfl rfl (Nat.le_of_ble_eq_true rfl) hl (Nat.le_of_ble_eq_true rfl) (Nat.le_of_ble_eq_true rfl) (Nat.le_of_ble_eq_true rfl) (Nat.le_of_ble_eq_true rfl) (dg D_X11_paint (i := 8) rfl) (fun I12 L1 R1 H locs hq hW hS => ?_)
  have hcs : 0 + 1 + 1 + 1 ≤ (rmL 7 3 18).cells ∧ 0 + 6 + 6 + 6 ≤ (rmL 7 3 18).slots := ⟨Nat.le_of_ble_eq_true rfl, Nat.le_of_ble_eq_true rfl⟩
  obtain ⟨hr12, rfl, rfl, rfl⟩ := hq
  obtain ⟨jw, hjw, rfl⟩ := inB_of hr12 (by omega)
  refine lv_aload_n hx hb (dg D_X11_paint (i := 9) rfl) rfl (lv_at hl 0 rfl) ?_
  refine r_getr (v := q) X hW FI_X11_71 rfl (by decide) rfl hR8 (dg D_X11_paint (i := 10) rfl) ?_
  refine lv_iload_n hx hb (dg D_X11_paint (i := 11) rfl) rfl (lv_at hl 1 rfl) ?_
  refine lv_iload_n hx hb (dg D_X11_paint (i := 12) rfl) rfl (lv_at hl 2 rfl) ?_
  refine lv_iload_n hx hb (dg D_X11_paint (i := 13) rfl) rfl (lv_at hl 3 rfl) ?_
  refine callVi X hW hS hR (c_X6_reasonAgainst (I := I) σ β q ju jv jw (by first | assumption | omega | decide | exact hP.1) (by first | assumption | omega | decide | exact hP.1) (by first | assumption | omega | decide | exact hP.1) (by first | assumption | omega | decide | exact hP.1) (by first | assumption | omega | decide | exact hP.1) (by first | assumption | omega | decide | exact hP.1) (by first | assumption | omega | decide | exact hP.1) (by first | assumption | omega | decide | exact hP.1) (by first | assumption | omega | decide | exact hP.1) (by first | assumption | omega | decide | exact hP.1)) (by decide) UVX6_reasonAgainst LK_X11_243 (shP hq) (ncP0 hq) rfl rfl rfl (Nat.le_of_ble_eq_true rfl) hl hcs (dg D_X11_paint (i := 14) rfl) (fun r22 I22 L1 R1 H locs hq hW hS => ?_)
  obtain ⟨rfl, rfl, rfl, rfl⟩ := hq
  refine lv_if_eq (tgt := 31) hx hb (dg D_X11_paint (i := 15) rfl) (by decide) (fun c25 => ?_) (fun c25 => ?_)
  · refine lv_aload_n hx hb (dg D_X11_paint (i := 18) rfl) rfl (lv_at hl 0 rfl) ?_
    refine callVv X hW hS hR (c_X11_remember (I := I) σ β q k U nw (by first | assumption | omega | decide | exact hP.1) (by first | assumption | omega | decide | exact hP.1) (by first | assumption | omega | decide | exact hP.1) (by first | assumption | omega | decide | exact hP.1) (by first | assumption | omega | decide | exact hP.1) (by first | assumption | omega | decide | exact hP.1) (by first | assumption | omega | decide | exact hP.1) (by first | assumption | omega | decide | exact hP.1)) (by decide) UVX11_remember LK_X11_254 rfl (by decide) rfl rfl rfl (Nat.le_of_ble_eq_true rfl) hl hcs (dg D_X11_paint (i := 19) rfl) (fun I32 L1 R1 H locs hq hW hS => ?_)
    obtain ⟨hT32, hp32_0, rfl, rfl⟩ := hq
    have hF : Fr (SEd β q) I I32 := Fr.tr hF hT32 (by intro a j h; simp only [SHk, SEd, Bool.or_eq_true, Bool.and_eq_true, beq_iff_eq, decide_eq_true_eq] at h ⊢; omega)
    have hB : BrAt I32 β σ := BrAt.fr hB hT32 (fun a j h1 h2 => Bool.eq_false_iff.mpr (fun h => by simp only [SHk, Bool.or_eq_true, Bool.and_eq_true, beq_iff_eq, decide_eq_true_eq] at h; omega))
    have hP : PlAt I32 q σ := PlAt.fr hP hT32 (fun a j h1 h2 => Bool.eq_false_iff.mpr (fun h => by simp only [SHk, Bool.or_eq_true, Bool.and_eq_true, beq_iff_eq, decide_eq_true_eq] at h; omega))
    have hH : HisN I32 (min 16 (k + 1)) (pushU σ U) ((nw + 1) % 16) := hp32_0
    refine lv_aload_n hx hb (dg D_X11_paint (i := 20) rfl) rfl (lv_at hl 0 rfl) ?_
    refine r_getr (v := q) X hW FI_X11_71 rfl (by decide) rfl hR8 (dg D_X11_paint (i := 21) rfl) ?_
    refine lv_iload_n hx hb (dg D_X11_paint (i := 22) rfl) rfl (lv_at hl 1 rfl) ?_
    refine lv_iload_n hx hb (dg D_X11_paint (i := 23) rfl) rfl (lv_at hl 2 rfl) ?_
    refine lv_iload_n hx hb (dg D_X11_paint (i := 24) rfl) rfl (lv_at hl 3 rfl) ?_
    refine callVv X hW hS hR (cP_X6_put (I := I32) σ β q ju jv (nI jw) (by first | assumption | omega | decide | exact hP.1) (by first | assumption | omega | decide | exact hP.1) (by first | assumption | omega | decide | exact hP.1) (by first | assumption | omega | decide | exact hP.1) (by first | assumption | omega | decide | exact hP.1) (by first | assumption | omega | decide | exact hP.1) (by first | assumption | omega | decide | exact hP.1) (by first | assumption | omega | decide | exact hP.1) (by first | assumption | omega | decide | exact hP.1)) (by decide) UVX6_put LK_X11_257 (shP hq) (ncP0 hq) rfl rfl rfl (Nat.le_of_ble_eq_true rfl) hl hcs (dg D_X11_paint (i := 25) rfl) (fun I42 L1 R1 H locs hq hW hS => ?_)
    obtain ⟨hT42, hp42_0, rfl, rfl⟩ := hq
    have hF : Fr (SEd β q) I I42 := Fr.tr hF hT42 (by intro a j h; simp only [SPu, SEd, Bool.or_eq_true, Bool.and_eq_true, beq_iff_eq, decide_eq_true_eq] at h ⊢; omega)
    have hB : BrAt I42 β σ := BrAt.fr hB hT42 (fun a j h1 h2 => Bool.eq_false_iff.mpr (fun h => by simp only [SPu, Bool.or_eq_true, Bool.and_eq_true, beq_iff_eq, decide_eq_true_eq] at h; omega))
    have hP : PlAt I42 q (setP σ jv ju (nI jw)) := hp42_0
    have hH : HisN I42 (min 16 (k + 1)) (pushU σ U) ((nw + 1) % 16) := HisN.frI hH hT42 (fun a j h1 h2 => Bool.eq_false_iff.mpr (fun h => by simp only [SPu, Bool.or_eq_true, Bool.and_eq_true, beq_iff_eq, decide_eq_true_eq] at h; omega))
    refine lv_aload_n hx hb (dg D_X11_paint (i := 26) rfl) rfl (lv_at hl 0 rfl) ?_
    refine r_getr (v := q) X hW FI_X11_71 rfl (by decide) rfl hR8 (dg D_X11_paint (i := 27) rfl) ?_
    refine callVi X hW hS hR (c_X6_countPast (I := I42) (setP σ jv ju (nI jw)) β q (Inv_setP hi) (by first | assumption | omega | decide | exact hP.1) (BrAt_Sm hB Sm_setP hi) (by first | assumption | omega | decide | exact hP.1) (by first | assumption | omega | decide | exact hP.1) (by first | assumption | omega | decide | exact hP.1)) (by decide) UVX6_countPast LK_X11_151 (shP hq) (ncP0 hq) rfl rfl rfl (Nat.le_of_ble_eq_true rfl) hl hcs (dg D_X11_paint (i := 28) rfl) (fun r49 I49 L1 R1 H locs hq hW hS => ?_)
    obtain ⟨rfl, rfl, rfl, rfl⟩ := hq
    exact fin (dg D_X11_paint (i := 29) rfl) (Nat.le_of_ble_eq_true rfl) (Nat.le_of_ble_eq_true rfl) hW hS ⟨⟨by simp [hr2, hr7, hr12], by unfold paR; rw [tN_nI (show ju < 2 ^ 31 by omega), tN_nI (show jv < 2 ^ 31 by omega), tN_nI (show jw < 2 ^ 31 by omega), if_pos c25]⟩, hF, EdC.ok (by unfold paO; rw [tN_nI (show ju < 2 ^ 31 by omega), tN_nI (show jv < 2 ^ 31 by omega), tN_nI (show jw < 2 ^ 31 by omega)]; exact if_pos (And.intro (by simp [hr2, hr7, hr12]) c25)) (BrAt_Sm hB Sm_setP hi) hP hH, rfl, rfl⟩
  · refine r_ldc X CK_X11_253 (dg D_X11_paint (i := 16) rfl) ?_
    exact fin (dg D_X11_paint (i := 17) rfl) (Nat.le_of_ble_eq_true rfl) (Nat.le_of_ble_eq_true rfl) hW hS ⟨⟨by simp [hr2, hr7, hr12], by unfold paR; rw [tN_nI (show ju < 2 ^ 31 by omega), tN_nI (show jv < 2 ^ 31 by omega), tN_nI (show jw < 2 ^ 31 by omega), if_neg c25]⟩, hF, EdC.no (by unfold paO; rw [tN_nI (show ju < 2 ^ 31 by omega), tN_nI (show jv < 2 ^ 31 by omega), tN_nI (show jw < 2 ^ 31 by omega)]; exact if_neg (nAr c25)) hB hP hH, rfl, rfl⟩

set_option maxHeartbeats 4000000 in
set_option maxRecDepth 100000 in
theorem c_X11_unpaint {l : Launch} {G : va_G} {bs : Nat} {cy : Nat → ClassId} {I : CI} {L : CL} {R : CR} (σ : Row) (β : Nat) (q : Nat) (k : Nat) (U : Nat → Row) (nw : Nat) (v : Int32) (w : Int32) (hl0 : l.stackTraces = false) (hi : Inv σ) (hd : DR σ) (hβ : isBr β) (hB : BrAt I β σ) (hq : isPl q) (hP : PlAt I q σ) (hRb : R q 0 = β) (hR7 : R 0 7 = β) (hR8 : R 0 8 = q) (hH : HisN I k U nw) : XTi l G bs cy MX11_unpaint 7 [.ref (bs + 0), .int v, .int w] I L R (fun r I1 L1 R1 => ((inB w (nS σ) && inB v (Yn σ)) = true ∧ r = unR σ v w) ∧ Fr (SEd β q) I I1 ∧ EdC I1 β q (unO σ v w) σ k U nw ∧ L = L1 ∧ R = R1) (fun E => E = IOE ∧ (inB w (nS σ) && inB v (Yn σ)) = false) 2 12 := by
  refine XTi.of (own := RX11) pn_RX11 rfl (Nat.le_of_ble_eq_true rfl) ?_
  intro p e s m args below meth c Qc Qf X hW hS htab hlk hQf fin ls hl
  have hx := X.1
  have hb := X.2.1
  have hR : RmOK (rmL 7 2 12) 7 := ⟨rfl, rfl⟩
  have hcs : 0 ≤ (rmL 7 2 12).cells ∧ 0 ≤ (rmL 7 2 12).slots := ⟨Nat.zero_le _, Nat.zero_le _⟩
  have hl : lv_has ls 4 [(0, .ref (bs + 0)), (1, .int v), (2, .int w)] := hl
  have hF : Fr (SEd β q) I I := Fr.rf
  obtain ⟨hY, hY1, hY12, hLn, hL4, hSn, hS12, hGn, hG5⟩ := id hi
  have hbq := br_pl hβ hq
  refine lv_aload_n hx hb (dg D_X11_unpaint (i := 0) rfl) rfl (lv_at hl 0 rfl) ?_
  refine lv_iload_n hx hb (dg D_X11_unpaint (i := 1) rfl) rfl (lv_at hl 1 rfl) ?_
  refine callXv X hW hS hR htab hlk hQf (c_X11_checkYear (I := I) σ β v (by first | assumption | omega | decide | exact hP.1) (by first | assumption | omega | decide | exact hP.1) (by first | assumption | omega | decide | exact hP.1) (by first | assumption | omega | decide | exact hP.1) (by first | assumption | omega | decide | exact hP.1)) (fun E hE => ⟨hE.1, by simp [hE.2]⟩) (by decide) UVX11_checkYear LK_X11_134 rfl (by decide) rfl rfl rfl (Nat.le_of_ble_eq_true rfl) hl (Nat.le_of_ble_eq_true rfl) (Nat.le_of_ble_eq_true rfl) (Nat.le_of_ble_eq_true rfl) (Nat.le_of_ble_eq_true rfl) (dg D_X11_unpaint (i := 2) rfl) (fun I2 L1 R1 H locs hq hW hS => ?_)
  have hcs : 0 + 1 ≤ (rmL 7 2 12).cells ∧ 0 + 6 ≤ (rmL 7 2 12).slots := ⟨Nat.le_of_ble_eq_true rfl, Nat.le_of_ble_eq_true rfl⟩
  obtain ⟨hr2, rfl, rfl, rfl⟩ := hq
  obtain ⟨jv, hjv, rfl⟩ := inB_of hr2 (by omega)
  refine lv_aload_n hx hb (dg D_X11_unpaint (i := 3) rfl) rfl (lv_at hl 0 rfl) ?_
  refine lv_iload_n hx hb (dg D_X11_unpaint (i := 4) rfl) rfl (lv_at hl 2 rfl) ?_
  refine callXv X hW hS hR htab hlk hQf (c_X11_checkSpan (I := I) σ β w (by first | assumption | omega | decide | exact hP.1) (by first | assumption | omega | decide | exact hP.1) (by first | assumption | omega | decide | exact hP.1) (by first | assumption | omega | decide | exact hP.1) (by first | assumption | omega | decide | exact hP.1)) (fun E hE => ⟨hE.1, by simp [hE.2]⟩) (by decide) UVX11_checkSpan LK_X11_131 rfl (by decide) rfl rfl rfl (Nat.le_of_ble_eq_true rfl) hl (Nat.le_of_ble_eq_true rfl) (Nat.le_of_ble_eq_true rfl) (Nat.le_of_ble_eq_true rfl) (Nat.le_of_ble_eq_true rfl) (dg D_X11_unpaint (i := 5) rfl) (fun I7 L1 R1 H locs hq hW hS => ?_)
  have hcs : 0 + 1 + 1 ≤ (rmL 7 2 12).cells ∧ 0 + 6 + 6 ≤ (rmL 7 2 12).slots := ⟨Nat.le_of_ble_eq_true rfl, Nat.le_of_ble_eq_true rfl⟩
  obtain ⟨hr7, rfl, rfl, rfl⟩ := hq
  obtain ⟨jw, hjw, rfl⟩ := inB_of hr7 (by omega)
  refine lv_aload_n hx hb (dg D_X11_unpaint (i := 6) rfl) rfl (lv_at hl 0 rfl) ?_
  refine r_getr (v := q) X hW FI_X11_71 rfl (by decide) rfl hR8 (dg D_X11_unpaint (i := 7) rfl) ?_
  refine lv_iload_n hx hb (dg D_X11_unpaint (i := 8) rfl) rfl (lv_at hl 1 rfl) ?_
  refine lv_iload_n hx hb (dg D_X11_unpaint (i := 9) rfl) rfl (lv_at hl 2 rfl) ?_
  refine callVi X hW hS hR (c_X6_isPainted (I := I) σ q jv jw (by first | assumption | omega | decide | exact hP.1) (by first | assumption | omega | decide | exact hP.1) (by first | assumption | omega | decide | exact hP.1) (by first | assumption | omega | decide | exact hP.1)) (by decide) UVX6_isPainted LK_X11_199 (shP hq) (ncP0 hq) rfl rfl rfl (Nat.le_of_ble_eq_true rfl) hl hcs (dg D_X11_unpaint (i := 10) rfl) (fun r16 I16 L1 R1 H locs hq hW hS => ?_)
  obtain ⟨rfl, rfl, rfl, rfl⟩ := hq
  refine z_if_ne (tgt := 25) hx hb (dg D_X11_unpaint (i := 11) rfl) (by decide) (fun c19 => ?_) (fun c19 => ?_)
  · refine lv_aload_n hx hb (dg D_X11_unpaint (i := 14) rfl) rfl (lv_at hl 0 rfl) ?_
    refine callVv X hW hS hR (c_X11_remember (I := I) σ β q k U nw (by first | assumption | omega | decide | exact hP.1) (by first | assumption | omega | decide | exact hP.1) (by first | assumption | omega | decide | exact hP.1) (by first | assumption | omega | decide | exact hP.1) (by first | assumption | omega | decide | exact hP.1) (by first | assumption | omega | decide | exact hP.1) (by first | assumption | omega | decide | exact hP.1) (by first | assumption | omega | decide | exact hP.1)) (by decide) UVX11_remember LK_X11_254 rfl (by decide) rfl rfl rfl (Nat.le_of_ble_eq_true rfl) hl hcs (dg D_X11_unpaint (i := 15) rfl) (fun I26 L1 R1 H locs hq hW hS => ?_)
    obtain ⟨hT26, hp26_0, rfl, rfl⟩ := hq
    have hF : Fr (SEd β q) I I26 := Fr.tr hF hT26 (by intro a j h; simp only [SHk, SEd, Bool.or_eq_true, Bool.and_eq_true, beq_iff_eq, decide_eq_true_eq] at h ⊢; omega)
    have hB : BrAt I26 β σ := BrAt.fr hB hT26 (fun a j h1 h2 => Bool.eq_false_iff.mpr (fun h => by simp only [SHk, Bool.or_eq_true, Bool.and_eq_true, beq_iff_eq, decide_eq_true_eq] at h; omega))
    have hP : PlAt I26 q σ := PlAt.fr hP hT26 (fun a j h1 h2 => Bool.eq_false_iff.mpr (fun h => by simp only [SHk, Bool.or_eq_true, Bool.and_eq_true, beq_iff_eq, decide_eq_true_eq] at h; omega))
    have hH : HisN I26 (min 16 (k + 1)) (pushU σ U) ((nw + 1) % 16) := hp26_0
    refine lv_aload_n hx hb (dg D_X11_unpaint (i := 16) rfl) rfl (lv_at hl 0 rfl) ?_
    refine r_getr (v := q) X hW FI_X11_71 rfl (by decide) rfl hR8 (dg D_X11_unpaint (i := 17) rfl) ?_
    refine lv_iload_n hx hb (dg D_X11_unpaint (i := 18) rfl) rfl (lv_at hl 1 rfl) ?_
    refine lv_iload_n hx hb (dg D_X11_unpaint (i := 19) rfl) rfl (lv_at hl 2 rfl) ?_
    refine callVi X hW hS hR (c_X6_painter (I := I26) σ q jv jw (by first | assumption | omega | decide | exact hP.1) (by first | assumption | omega | decide | exact hP.1) (by first | assumption | omega | decide | exact hP.1) (by first | assumption | omega | decide | exact hP.1)) (by decide) UVX6_painter LK_X11_202 (shP hq) (ncP0 hq) rfl rfl rfl (Nat.le_of_ble_eq_true rfl) hl hcs (dg D_X11_unpaint (i := 20) rfl) (fun r35 I35 L1 R1 H locs hq hW hS => ?_)
    obtain ⟨rfl, rfl, rfl, rfl⟩ := hq
    refine lv_istore_n (lv' := [(3, .int (pnt σ jw jv)), (0, .ref (bs + 0)), (1, .int (nI jv)), (2, .int (nI jw))]) hx hb (dg D_X11_unpaint (i := 21) rfl) rfl hl (by decide) rfl (fun ls hl => ?_)
    refine lv_aload_n hx hb (dg D_X11_unpaint (i := 22) rfl) rfl (lv_at hl 1 rfl) ?_
    refine r_getr (v := q) X hW FI_X11_71 rfl (by decide) rfl hR8 (dg D_X11_unpaint (i := 23) rfl) ?_
    refine lv_iload_n hx hb (dg D_X11_unpaint (i := 24) rfl) rfl (lv_at hl 2 rfl) ?_
    refine lv_iload_n hx hb (dg D_X11_unpaint (i := 25) rfl) rfl (lv_at hl 3 rfl) ?_
    refine lv_iconst (v := -1) hx hb (dg D_X11_unpaint (i := 26) rfl) (by decide) ?_
    refine callVv X hW hS hR (cP_X6_put (I := I26) σ β q jv jw ((-1)) (by first | assumption | omega | decide | exact hP.1) (by first | assumption | omega | decide | exact hP.1) (by first | assumption | omega | decide | exact hP.1) (by first | assumption | omega | decide | exact hP.1) (by first | assumption | omega | decide | exact hP.1) (by first | assumption | omega | decide | exact hP.1) (by first | assumption | omega | decide | exact hP.1) (by first | assumption | omega | decide | exact hP.1) (by first | assumption | omega | decide | exact hP.1)) (by decide) UVX6_put LK_X11_257 (shP hq) (ncP0 hq) rfl rfl rfl (Nat.le_of_ble_eq_true rfl) hl hcs (dg D_X11_unpaint (i := 27) rfl) (fun I46 L1 R1 H locs hq hW hS => ?_)
    obtain ⟨hT46, hp46_0, rfl, rfl⟩ := hq
    have hF : Fr (SEd β q) I I46 := Fr.tr hF hT46 (by intro a j h; simp only [SPu, SEd, Bool.or_eq_true, Bool.and_eq_true, beq_iff_eq, decide_eq_true_eq] at h ⊢; omega)
    have hB : BrAt I46 β σ := BrAt.fr hB hT46 (fun a j h1 h2 => Bool.eq_false_iff.mpr (fun h => by simp only [SPu, Bool.or_eq_true, Bool.and_eq_true, beq_iff_eq, decide_eq_true_eq] at h; omega))
    have hP : PlAt I46 q (setP σ jw jv (-1)) := hp46_0
    have hH : HisN I46 (min 16 (k + 1)) (pushU σ U) ((nw + 1) % 16) := HisN.frI hH hT46 (fun a j h1 h2 => Bool.eq_false_iff.mpr (fun h => by simp only [SPu, Bool.or_eq_true, Bool.and_eq_true, beq_iff_eq, decide_eq_true_eq] at h; omega))
    refine lv_iload_n hx hb (dg D_X11_unpaint (i := 28) rfl) rfl (lv_at hl 0 rfl) ?_
    exact fin (dg D_X11_unpaint (i := 29) rfl) (Nat.le_of_ble_eq_true rfl) (Nat.le_of_ble_eq_true rfl) hW hS ⟨⟨by simp [hr2, hr7], by unfold unR; rw [tN_nI (show jw < 2 ^ 31 by omega), tN_nI (show jv < 2 ^ 31 by omega), if_neg (of_decide_eq_true c19)]⟩, hF, EdC.ok (by unfold unO; rw [tN_nI (show jw < 2 ^ 31 by omega), tN_nI (show jv < 2 ^ 31 by omega)]; exact if_pos (And.intro (by simp [hr2, hr7]) (of_decide_eq_true c19))) (BrAt_Sm hB Sm_setP hi) hP hH, rfl, rfl⟩
  · refine r_ldc X CK_X11_48 (dg D_X11_unpaint (i := 12) rfl) ?_
    exact fin (dg D_X11_unpaint (i := 13) rfl) (Nat.le_of_ble_eq_true rfl) (Nat.le_of_ble_eq_true rfl) hW hS ⟨⟨by simp [hr2, hr7], by unfold unR; rw [tN_nI (show jw < 2 ^ 31 by omega), tN_nI (show jv < 2 ^ 31 by omega), if_pos (Classical.not_not.mp (of_decide_eq_false c19))]⟩, hF, EdC.no (by unfold unO; rw [tN_nI (show jw < 2 ^ 31 by omega), tN_nI (show jv < 2 ^ 31 by omega)]; exact if_neg (fun z => z.2 (Classical.not_not.mp (of_decide_eq_false c19)))) hB hP hH, rfl, rfl⟩

set_option maxHeartbeats 4000000 in
set_option maxRecDepth 100000 in
theorem c_X11_movePainting {l : Launch} {G : va_G} {bs : Nat} {cy : Nat → ClassId} {I : CI} {L : CL} {R : CR} (σ : Row) (β : Nat) (q : Nat) (k : Nat) (U : Nat → Row) (nw : Nat) (u : Int32) (v : Int32) (w : Int32) (hl0 : l.stackTraces = false) (hi : Inv σ) (hd : DR σ) (hβ : isBr β) (hB : BrAt I β σ) (hq : isPl q) (hP : PlAt I q σ) (hRb : R q 0 = β) (hR7 : R 0 7 = β) (hR8 : R 0 8 = q) (hH : HisN I k U nw) : XTi l G bs cy MX11_movePainting 7 [.ref (bs + 0), .int u, .int v, .int w] I L R (fun r I1 L1 R1 => ((inB u (nS σ) && inB v (Yn σ) && inB w (Yn σ)) = true ∧ r = mvR σ u v w) ∧ Fr (SEd β q) I I1 ∧ EdC I1 β q (mvO σ u v w) σ k U nw ∧ L = L1 ∧ R = R1) (fun E => E = IOE ∧ (inB u (nS σ) && inB v (Yn σ) && inB w (Yn σ)) = false) 3 18 := by
  refine XTi.of (own := RX11) pn_RX11 rfl (Nat.le_of_ble_eq_true rfl) ?_
  intro p e s m args below meth c Qc Qf X hW hS htab hlk hQf fin ls hl
  have hx := X.1
  have hb := X.2.1
  have hR : RmOK (rmL 7 3 18) 7 := ⟨rfl, rfl⟩
  have hcs : 0 ≤ (rmL 7 3 18).cells ∧ 0 ≤ (rmL 7 3 18).slots := ⟨Nat.zero_le _, Nat.zero_le _⟩
  have hl : lv_has ls 6 [(0, .ref (bs + 0)), (1, .int u), (2, .int v), (3, .int w)] := hl
  have hF : Fr (SEd β q) I I := Fr.rf
  obtain ⟨hY, hY1, hY12, hLn, hL4, hSn, hS12, hGn, hG5⟩ := id hi
  have hbq := br_pl hβ hq
  refine lv_aload_n hx hb (dg D_X11_movePainting (i := 0) rfl) rfl (lv_at hl 0 rfl) ?_
  refine lv_iload_n hx hb (dg D_X11_movePainting (i := 1) rfl) rfl (lv_at hl 1 rfl) ?_
  refine callXv X hW hS hR htab hlk hQf (c_X11_checkSpan (I := I) σ β u (by first | assumption | omega | decide | exact hP.1) (by first | assumption | omega | decide | exact hP.1) (by first | assumption | omega | decide | exact hP.1) (by first | assumption | omega | decide | exact hP.1) (by first | assumption | omega | decide | exact hP.1)) (fun E hE => ⟨hE.1, by simp [hE.2]⟩) (by decide) UVX11_checkSpan LK_X11_131 rfl (by decide) rfl rfl rfl (Nat.le_of_ble_eq_true rfl) hl (Nat.le_of_ble_eq_true rfl) (Nat.le_of_ble_eq_true rfl) (Nat.le_of_ble_eq_true rfl) (Nat.le_of_ble_eq_true rfl) (dg D_X11_movePainting (i := 2) rfl) (fun I2 L1 R1 H locs hq hW hS => ?_)
  have hcs : 0 + 1 ≤ (rmL 7 3 18).cells ∧ 0 + 6 ≤ (rmL 7 3 18).slots := ⟨Nat.le_of_ble_eq_true rfl, Nat.le_of_ble_eq_true rfl⟩
  obtain ⟨hr2, rfl, rfl, rfl⟩ := hq
  obtain ⟨ju, hju, rfl⟩ := inB_of hr2 (by omega)
  refine lv_aload_n hx hb (dg D_X11_movePainting (i := 3) rfl) rfl (lv_at hl 0 rfl) ?_
  refine lv_iload_n hx hb (dg D_X11_movePainting (i := 4) rfl) rfl (lv_at hl 2 rfl) ?_
  refine callXv X hW hS hR htab hlk hQf (c_X11_checkYear (I := I) σ β v (by first | assumption | omega | decide | exact hP.1) (by first | assumption | omega | decide | exact hP.1) (by first | assumption | omega | decide | exact hP.1) (by first | assumption | omega | decide | exact hP.1) (by first | assumption | omega | decide | exact hP.1)) (fun E hE => ⟨hE.1, by simp [hE.2]⟩) (by decide) UVX11_checkYear LK_X11_134 rfl (by decide) rfl rfl rfl (Nat.le_of_ble_eq_true rfl) hl (Nat.le_of_ble_eq_true rfl) (Nat.le_of_ble_eq_true rfl) (Nat.le_of_ble_eq_true rfl) (Nat.le_of_ble_eq_true rfl) (dg D_X11_movePainting (i := 5) rfl) (fun I7 L1 R1 H locs hq hW hS => ?_)
  have hcs : 0 + 1 + 1 ≤ (rmL 7 3 18).cells ∧ 0 + 6 + 6 ≤ (rmL 7 3 18).slots := ⟨Nat.le_of_ble_eq_true rfl, Nat.le_of_ble_eq_true rfl⟩
  obtain ⟨hr7, rfl, rfl, rfl⟩ := hq
  obtain ⟨jv, hjv, rfl⟩ := inB_of hr7 (by omega)
  refine lv_aload_n hx hb (dg D_X11_movePainting (i := 6) rfl) rfl (lv_at hl 0 rfl) ?_
  refine lv_iload_n hx hb (dg D_X11_movePainting (i := 7) rfl) rfl (lv_at hl 3 rfl) ?_
  refine callXv X hW hS hR htab hlk hQf (c_X11_checkYear (I := I) σ β w (by first | assumption | omega | decide | exact hP.1) (by first | assumption | omega | decide | exact hP.1) (by first | assumption | omega | decide | exact hP.1) (by first | assumption | omega | decide | exact hP.1) (by first | assumption | omega | decide | exact hP.1)) (fun E hE => ⟨hE.1, by simp [hE.2]⟩) (by decide) UVX11_checkYear LK_X11_134 rfl (by decide) rfl rfl rfl (Nat.le_of_ble_eq_true rfl) hl (Nat.le_of_ble_eq_true rfl) (Nat.le_of_ble_eq_true rfl) (Nat.le_of_ble_eq_true rfl) (Nat.le_of_ble_eq_true rfl) (dg D_X11_movePainting (i := 8) rfl) (fun I12 L1 R1 H locs hq hW hS => ?_)
  have hcs : 0 + 1 + 1 + 1 ≤ (rmL 7 3 18).cells ∧ 0 + 6 + 6 + 6 ≤ (rmL 7 3 18).slots := ⟨Nat.le_of_ble_eq_true rfl, Nat.le_of_ble_eq_true rfl⟩
  obtain ⟨hr12, rfl, rfl, rfl⟩ := hq
  obtain ⟨jw, hjw, rfl⟩ := inB_of hr12 (by omega)
  refine lv_aload_n hx hb (dg D_X11_movePainting (i := 9) rfl) rfl (lv_at hl 0 rfl) ?_
  refine r_getr (v := q) X hW FI_X11_71 rfl (by decide) rfl hR8 (dg D_X11_movePainting (i := 10) rfl) ?_
  refine lv_iload_n hx hb (dg D_X11_movePainting (i := 11) rfl) rfl (lv_at hl 2 rfl) ?_
  refine lv_iload_n hx hb (dg D_X11_movePainting (i := 12) rfl) rfl (lv_at hl 1 rfl) ?_
  refine callVi X hW hS hR (c_X6_isPainted (I := I) σ q jv ju (by first | assumption | omega | decide | exact hP.1) (by first | assumption | omega | decide | exact hP.1) (by first | assumption | omega | decide | exact hP.1) (by first | assumption | omega | decide | exact hP.1)) (by decide) UVX6_isPainted LK_X11_199 (shP hq) (ncP0 hq) rfl rfl rfl (Nat.le_of_ble_eq_true rfl) hl hcs (dg D_X11_movePainting (i := 13) rfl) (fun r21 I21 L1 R1 H locs hq hW hS => ?_)
  obtain ⟨rfl, rfl, rfl, rfl⟩ := hq
  refine z_if_ne (tgt := 30) hx hb (dg D_X11_movePainting (i := 14) rfl) (by decide) (fun c24 => ?_) (fun c24 => ?_)
  · refine lv_iload_n hx hb (dg D_X11_movePainting (i := 17) rfl) rfl (lv_at hl 2 rfl) ?_
    refine lv_iload_n hx hb (dg D_X11_movePainting (i := 18) rfl) rfl (lv_at hl 3 rfl) ?_
    refine n_icmp_ne (tgt := 39) hx hb (by omega) (by omega) (dg D_X11_movePainting (i := 19) rfl) (by decide) (fun c32 => ?_) (fun c32 => ?_)
    · obtain ⟨g0, hg0, _, _, hge⟩ := (hd.2.1 ju jv (by omega) (by omega)).resolve_left (of_decide_eq_true c24)
      refine lv_aload_n hx hb (dg D_X11_movePainting (i := 22) rfl) rfl (lv_at hl 0 rfl) ?_
      refine r_getr (v := q) X hW FI_X11_71 rfl (by decide) rfl hR8 (dg D_X11_movePainting (i := 23) rfl) ?_
      refine lv_iload_n hx hb (dg D_X11_movePainting (i := 24) rfl) rfl (lv_at hl 2 rfl) ?_
      refine lv_iload_n hx hb (dg D_X11_movePainting (i := 25) rfl) rfl (lv_at hl 1 rfl) ?_
      refine callVi X hW hS hR (c_X6_painter (I := I) σ q jv ju (by first | assumption | omega | decide | exact hP.1) (by first | assumption | omega | decide | exact hP.1) (by first | assumption | omega | decide | exact hP.1) (by first | assumption | omega | decide | exact hP.1)) (by decide) UVX6_painter LK_X11_202 (shP hq) (ncP0 hq) rfl rfl rfl (Nat.le_of_ble_eq_true rfl) hl hcs (dg D_X11_movePainting (i := 26) rfl) (fun r45 I45 L1 R1 H locs hq hW hS => ?_)
      obtain ⟨rfl, rfl, rfl, rfl⟩ := hq
      rw [show pnt σ ju jv = nI g0 from hge]
      refine lv_istore (lv' := [(4, .int (nI g0)), (0, .ref (bs + 0)), (1, .int (nI ju)), (2, .int (nI jv)), (3, .int (nI jw))]) hx hb (dg D_X11_movePainting (i := 27) rfl) hl (by decide) rfl (fun ls hl => ?_)
      refine lv_aload_n hx hb (dg D_X11_movePainting (i := 28) rfl) rfl (lv_at hl 1 rfl) ?_
      refine r_getr (v := q) X hW FI_X11_71 rfl (by decide) rfl hR8 (dg D_X11_movePainting (i := 29) rfl) ?_
      refine lv_iload_n hx hb (dg D_X11_movePainting (i := 30) rfl) rfl (lv_at hl 3 rfl) ?_
      refine lv_iload_n hx hb (dg D_X11_movePainting (i := 31) rfl) rfl (lv_at hl 2 rfl) ?_
      refine lv_iconst (v := -1) hx hb (dg D_X11_movePainting (i := 32) rfl) (by decide) ?_
      refine callVv X hW hS hR (cP_X6_put (I := I) σ β q jv ju ((-1)) (by first | assumption | omega | decide | exact hP.1) (by first | assumption | omega | decide | exact hP.1) (by first | assumption | omega | decide | exact hP.1) (by first | assumption | omega | decide | exact hP.1) (by first | assumption | omega | decide | exact hP.1) (by first | assumption | omega | decide | exact hP.1) (by first | assumption | omega | decide | exact hP.1) (by first | assumption | omega | decide | exact hP.1) (by first | assumption | omega | decide | exact hP.1)) (by decide) UVX6_put LK_X11_257 (shP hq) (ncP0 hq) rfl rfl rfl (Nat.le_of_ble_eq_true rfl) hl hcs (dg D_X11_movePainting (i := 33) rfl) (fun I57 L1 R1 H locs hq hW hS => ?_)
      obtain ⟨hT57, hp57_0, rfl, rfl⟩ := hq
      have hF : Fr (SEd β q) I I57 := Fr.tr hF hT57 (by intro a j h; simp only [SPu, SEd, Bool.or_eq_true, Bool.and_eq_true, beq_iff_eq, decide_eq_true_eq] at h ⊢; omega)
      have hB : BrAt I57 β σ := BrAt.fr hB hT57 (fun a j h1 h2 => Bool.eq_false_iff.mpr (fun h => by simp only [SPu, Bool.or_eq_true, Bool.and_eq_true, beq_iff_eq, decide_eq_true_eq] at h; omega))
      have hP : PlAt I57 q (setP σ ju jv (-1)) := hp57_0
      have hH : HisN I57 k U nw := HisN.frI hH hT57 (fun a j h1 h2 => Bool.eq_false_iff.mpr (fun h => by simp only [SPu, Bool.or_eq_true, Bool.and_eq_true, beq_iff_eq, decide_eq_true_eq] at h; omega))
      refine lv_aload_n hx hb (dg D_X11_movePainting (i := 34) rfl) rfl (lv_at hl 1 rfl) ?_
      refine r_getr (v := q) X hW FI_X11_71 rfl (by decide) rfl hR8 (dg D_X11_movePainting (i := 35) rfl) ?_
      refine lv_iload_n hx hb (dg D_X11_movePainting (i := 36) rfl) rfl (lv_at hl 4 rfl) ?_
      refine lv_iload_n hx hb (dg D_X11_movePainting (i := 37) rfl) rfl (lv_at hl 2 rfl) ?_
      refine lv_iload hx hb (dg D_X11_movePainting (i := 38) rfl) (lv_at hl 0 rfl) ?_
      refine callVi X hW hS hR (c_X6_reasonAgainst (I := I57) (setP σ ju jv (-1)) β q jw ju g0 (Inv_setP hi) (by first | assumption | omega | decide | exact hP.1) (BrAt_Sm hB Sm_setP hi) (by first | assumption | omega | decide | exact hP.1) (by first | assumption | omega | decide | exact hP.1) (by first | assumption | omega | decide | exact hP.1) (by rw [Yn_setP]; exact hjw) (by rw [nS_setP]; exact hju) (by rw [nG_setP]; exact hg0) (DR_un hi hd (by omega))) (by decide) UVX6_reasonAgainst LK_X11_243 (shP hq) (ncP0 hq) rfl rfl rfl (Nat.le_of_ble_eq_true rfl) hl hcs (dg D_X11_movePainting (i := 39) rfl) (fun r68 I68 L1 R1 H locs hq hW hS => ?_)
      obtain ⟨rfl, rfl, rfl, rfl⟩ := hq
      refine lv_if_eq (tgt := 78) hx hb (dg D_X11_movePainting (i := 40) rfl) (by decide) (fun c71 => ?_) (fun c71 => ?_)
      · refine n_iconst (a := 0) hx hb (dg D_X11_movePainting (i := 43) rfl) rfl ?_
        refine lv_istore (lv' := [(5, .int (nI 0)), (4, .int (nI g0)), (0, .ref (bs + 0)), (1, .int (nI ju)), (2, .int (nI jv)), (3, .int (nI jw))]) hx hb (dg D_X11_movePainting (i := 44) rfl) hl (by decide) rfl (fun ls hl => ?_)
        refine lv_aload_n hx hb (dg D_X11_movePainting (i := 45) rfl) rfl (lv_at hl 2 rfl) ?_
        refine r_getr (v := q) X hW FI_X11_71 rfl (by decide) rfl hR8 (dg D_X11_movePainting (i := 46) rfl) ?_
        refine lv_iload_n hx hb (dg D_X11_movePainting (i := 47) rfl) rfl (lv_at hl 4 rfl) ?_
        refine lv_iload_n hx hb (dg D_X11_movePainting (i := 48) rfl) rfl (lv_at hl 3 rfl) ?_
        refine lv_iload hx hb (dg D_X11_movePainting (i := 49) rfl) (lv_at hl 1 rfl) ?_
        refine callVv X hW hS hR (cP_X6_put (I := I57) (setP σ ju jv (-1)) β q jv ju (nI g0) (Inv_setP hi) (by first | assumption | omega | decide | exact hP.1) (BrAt_Sm hB Sm_setP hi) (by first | assumption | omega | decide | exact hP.1) (by first | assumption | omega | decide | exact hP.1) (by first | assumption | omega | decide | exact hP.1) (by rw [nS_setP]; exact hju) (by first | assumption | omega | decide | exact hP.1) (by first | assumption | omega | decide | exact hP.1)) (by decide) UVX6_put LK_X11_257 (shP hq) (ncP0 hq) rfl rfl rfl (Nat.le_of_ble_eq_true rfl) hl hcs (dg D_X11_movePainting (i := 50) rfl) (fun I89 L1 R1 H locs hq hW hS => ?_)
        obtain ⟨hT89, hp89_0, rfl, rfl⟩ := hq
        have hF : Fr (SEd β q) I I89 := Fr.tr hF hT89 (by intro a j h; simp only [SPu, SEd, Bool.or_eq_true, Bool.and_eq_true, beq_iff_eq, decide_eq_true_eq] at h ⊢; omega)
        have hB : BrAt I89 β σ := BrAt.fr hB hT89 (fun a j h1 h2 => Bool.eq_false_iff.mpr (fun h => by simp only [SPu, Bool.or_eq_true, Bool.and_eq_true, beq_iff_eq, decide_eq_true_eq] at h; omega))
        have hP : PlAt I89 q σ := by have h := hp89_0; rw [← hge, setP_bk] at h; exact h
        have hH : HisN I89 k U nw := HisN.frI hH hT89 (fun a j h1 h2 => Bool.eq_false_iff.mpr (fun h => by simp only [SPu, Bool.or_eq_true, Bool.and_eq_true, beq_iff_eq, decide_eq_true_eq] at h; omega))
        refine lv_iload hx hb (dg D_X11_movePainting (i := 51) rfl) (lv_at hl 0 rfl) ?_
        refine n_if_eq (tgt := 100) hx hb (by omega) (dg D_X11_movePainting (i := 52) rfl) (by decide) (fun c94 => ?_) (fun c94 => ?_)
        · refine lv_aload_n hx hb (dg D_X11_movePainting (i := 55) rfl) rfl (lv_at hl 2 rfl) ?_
          refine callVv X hW hS hR (c_X11_remember (I := I89) σ β q k U nw (by first | assumption | omega | decide | exact hP.1) (by first | assumption | omega | decide | exact hP.1) (by first | assumption | omega | decide | exact hP.1) (by first | assumption | omega | decide | exact hP.1) (by first | assumption | omega | decide | exact hP.1) (by first | assumption | omega | decide | exact hP.1) (by first | assumption | omega | decide | exact hP.1) (by first | assumption | omega | decide | exact hP.1)) (by decide) UVX11_remember LK_X11_254 rfl (by decide) rfl rfl rfl (Nat.le_of_ble_eq_true rfl) hl hcs (dg D_X11_movePainting (i := 56) rfl) (fun I101 L1 R1 H locs hq hW hS => ?_)
          obtain ⟨hT101, hp101_0, rfl, rfl⟩ := hq
          have hF : Fr (SEd β q) I I101 := Fr.tr hF hT101 (by intro a j h; simp only [SHk, SEd, Bool.or_eq_true, Bool.and_eq_true, beq_iff_eq, decide_eq_true_eq] at h ⊢; omega)
          have hB : BrAt I101 β σ := BrAt.fr hB hT101 (fun a j h1 h2 => Bool.eq_false_iff.mpr (fun h => by simp only [SHk, Bool.or_eq_true, Bool.and_eq_true, beq_iff_eq, decide_eq_true_eq] at h; omega))
          have hP : PlAt I101 q σ := PlAt.fr hP hT101 (fun a j h1 h2 => Bool.eq_false_iff.mpr (fun h => by simp only [SHk, Bool.or_eq_true, Bool.and_eq_true, beq_iff_eq, decide_eq_true_eq] at h; omega))
          have hH : HisN I101 (min 16 (k + 1)) (pushU σ U) ((nw + 1) % 16) := hp101_0
          refine lv_aload_n hx hb (dg D_X11_movePainting (i := 57) rfl) rfl (lv_at hl 2 rfl) ?_
          refine r_getr (v := q) X hW FI_X11_71 rfl (by decide) rfl hR8 (dg D_X11_movePainting (i := 58) rfl) ?_
          refine lv_iload_n hx hb (dg D_X11_movePainting (i := 59) rfl) rfl (lv_at hl 4 rfl) ?_
          refine lv_iload_n hx hb (dg D_X11_movePainting (i := 60) rfl) rfl (lv_at hl 3 rfl) ?_
          refine lv_iconst (v := -1) hx hb (dg D_X11_movePainting (i := 61) rfl) (by decide) ?_
          refine callVv X hW hS hR (cP_X6_put (I := I101) σ β q jv ju ((-1)) (by first | assumption | omega | decide | exact hP.1) (by first | assumption | omega | decide | exact hP.1) (by first | assumption | omega | decide | exact hP.1) (by first | assumption | omega | decide | exact hP.1) (by first | assumption | omega | decide | exact hP.1) (by first | assumption | omega | decide | exact hP.1) (by first | assumption | omega | decide | exact hP.1) (by first | assumption | omega | decide | exact hP.1) (by first | assumption | omega | decide | exact hP.1)) (by decide) UVX6_put LK_X11_257 (shP hq) (ncP0 hq) rfl rfl rfl (Nat.le_of_ble_eq_true rfl) hl hcs (dg D_X11_movePainting (i := 62) rfl) (fun I111 L1 R1 H locs hq hW hS => ?_)
          obtain ⟨hT111, hp111_0, rfl, rfl⟩ := hq
          have hF : Fr (SEd β q) I I111 := Fr.tr hF hT111 (by intro a j h; simp only [SPu, SEd, Bool.or_eq_true, Bool.and_eq_true, beq_iff_eq, decide_eq_true_eq] at h ⊢; omega)
          have hB : BrAt I111 β σ := BrAt.fr hB hT111 (fun a j h1 h2 => Bool.eq_false_iff.mpr (fun h => by simp only [SPu, Bool.or_eq_true, Bool.and_eq_true, beq_iff_eq, decide_eq_true_eq] at h; omega))
          have hP : PlAt I111 q (setP σ ju jv (-1)) := hp111_0
          have hH : HisN I111 (min 16 (k + 1)) (pushU σ U) ((nw + 1) % 16) := HisN.frI hH hT111 (fun a j h1 h2 => Bool.eq_false_iff.mpr (fun h => by simp only [SPu, Bool.or_eq_true, Bool.and_eq_true, beq_iff_eq, decide_eq_true_eq] at h; omega))
          refine lv_aload_n hx hb (dg D_X11_movePainting (i := 63) rfl) rfl (lv_at hl 2 rfl) ?_
          refine r_getr (v := q) X hW FI_X11_71 rfl (by decide) rfl hR8 (dg D_X11_movePainting (i := 64) rfl) ?_
          refine lv_iload_n hx hb (dg D_X11_movePainting (i := 65) rfl) rfl (lv_at hl 5 rfl) ?_
          refine lv_iload_n hx hb (dg D_X11_movePainting (i := 66) rfl) rfl (lv_at hl 3 rfl) ?_
          refine lv_iload hx hb (dg D_X11_movePainting (i := 67) rfl) (lv_at hl 1 rfl) ?_
          refine callVv X hW hS hR (cP_X6_put (I := I111) (setP σ ju jv (-1)) β q jw ju (nI g0) (Inv_setP hi) (by first | assumption | omega | decide | exact hP.1) (BrAt_Sm hB Sm_setP hi) (by first | assumption | omega | decide | exact hP.1) (by first | assumption | omega | decide | exact hP.1) (by first | assumption | omega | decide | exact hP.1) (by rw [nS_setP]; exact hju) (by first | assumption | omega | decide | exact hP.1) (by first | assumption | omega | decide | exact hP.1)) (by decide) UVX6_put LK_X11_257 (shP hq) (ncP0 hq) rfl rfl rfl (Nat.le_of_ble_eq_true rfl) hl hcs (dg D_X11_movePainting (i := 68) rfl) (fun I122 L1 R1 H locs hq hW hS => ?_)
          obtain ⟨hT122, hp122_0, rfl, rfl⟩ := hq
          have hF : Fr (SEd β q) I I122 := Fr.tr hF hT122 (by intro a j h; simp only [SPu, SEd, Bool.or_eq_true, Bool.and_eq_true, beq_iff_eq, decide_eq_true_eq] at h ⊢; omega)
          have hB : BrAt I122 β σ := BrAt.fr hB hT122 (fun a j h1 h2 => Bool.eq_false_iff.mpr (fun h => by simp only [SPu, Bool.or_eq_true, Bool.and_eq_true, beq_iff_eq, decide_eq_true_eq] at h; omega))
          have hP : PlAt I122 q (setP (setP σ ju jv (-1)) ju jw (nI g0)) := hp122_0
          have hH : HisN I122 (min 16 (k + 1)) (pushU σ U) ((nw + 1) % 16) := HisN.frI hH hT122 (fun a j h1 h2 => Bool.eq_false_iff.mpr (fun h => by simp only [SPu, Bool.or_eq_true, Bool.and_eq_true, beq_iff_eq, decide_eq_true_eq] at h; omega))
          refine lv_aload_n hx hb (dg D_X11_movePainting (i := 69) rfl) rfl (lv_at hl 2 rfl) ?_
          refine r_getr (v := q) X hW FI_X11_71 rfl (by decide) rfl hR8 (dg D_X11_movePainting (i := 70) rfl) ?_
          refine callVi X hW hS hR (c_X6_countPast (I := I122) (setP (setP σ ju jv (-1)) ju jw (nI g0)) β q (Inv_setP (Inv_setP hi)) (by first | assumption | omega | decide | exact hP.1) (BrAt_Sm hB (Sm_setP.tr Sm_setP) hi) (by first | assumption | omega | decide | exact hP.1) (by first | assumption | omega | decide | exact hP.1) (by first | assumption | omega | decide | exact hP.1)) (by decide) UVX6_countPast LK_X11_151 (shP hq) (ncP0 hq) rfl rfl rfl (Nat.le_of_ble_eq_true rfl) hl hcs (dg D_X11_movePainting (i := 71) rfl) (fun r129 I129 L1 R1 H locs hq hW hS => ?_)
          obtain ⟨rfl, rfl, rfl, rfl⟩ := hq
          exact fin (dg D_X11_movePainting (i := 72) rfl) (Nat.le_of_ble_eq_true rfl) (Nat.le_of_ble_eq_true rfl) hW hS ⟨⟨by simp [hr2, hr7, hr12], by unfold mvR; rw [mvF_n hge (by omega) (by omega) (by omega) (by omega), mvT_n hge (by omega) (by omega) (by omega), tN_nI (show ju < 2 ^ 31 by omega), tN_nI (show jv < 2 ^ 31 by omega), if_neg (by rw [hge]; exact nI_m1 (by omega)), if_neg (fun z => c32 (nI_inj (by omega) (by omega) z)), if_pos c71]⟩, hF, EdC.ok (by unfold mvO; rw [mvF_n hge (by omega) (by omega) (by omega) (by omega), mvT_n hge (by omega) (by omega) (by omega), tN_nI (show ju < 2 ^ 31 by omega), tN_nI (show jv < 2 ^ 31 by omega)]; exact if_pos (And.intro (by simp [hr2, hr7, hr12]) (And.intro (by rw [hge]; exact nI_m1 (by omega)) (And.intro (fun z => c32 (nI_inj (by omega) (by omega) z)) c71)))) (BrAt_Sm hB (Sm_setP.tr Sm_setP) hi) hP hH, rfl, rfl⟩
        · exact absurd c94 (by decide)
      · refine n_iconst (a := 1) hx hb (dg D_X11_movePainting (i := 41) rfl) rfl ?_
        refine lv_goto (tgt := 79) hx hb (dg D_X11_movePainting (i := 42) rfl) (by decide) ?_
        refine lv_istore (lv' := [(5, .int (nI 1)), (4, .int (nI g0)), (0, .ref (bs + 0)), (1, .int (nI ju)), (2, .int (nI jv)), (3, .int (nI jw))]) hx hb (dg D_X11_movePainting (i := 44) rfl) hl (by decide) rfl (fun ls hl => ?_)
        refine lv_aload_n hx hb (dg D_X11_movePainting (i := 45) rfl) rfl (lv_at hl 2 rfl) ?_
        refine r_getr (v := q) X hW FI_X11_71 rfl (by decide) rfl hR8 (dg D_X11_movePainting (i := 46) rfl) ?_
        refine lv_iload_n hx hb (dg D_X11_movePainting (i := 47) rfl) rfl (lv_at hl 4 rfl) ?_
        refine lv_iload_n hx hb (dg D_X11_movePainting (i := 48) rfl) rfl (lv_at hl 3 rfl) ?_
        refine lv_iload hx hb (dg D_X11_movePainting (i := 49) rfl) (lv_at hl 1 rfl) ?_
        refine callVv X hW hS hR (cP_X6_put (I := I57) (setP σ ju jv (-1)) β q jv ju (nI g0) (Inv_setP hi) (by first | assumption | omega | decide | exact hP.1) (BrAt_Sm hB Sm_setP hi) (by first | assumption | omega | decide | exact hP.1) (by first | assumption | omega | decide | exact hP.1) (by first | assumption | omega | decide | exact hP.1) (by rw [nS_setP]; exact hju) (by first | assumption | omega | decide | exact hP.1) (by first | assumption | omega | decide | exact hP.1)) (by decide) UVX6_put LK_X11_257 (shP hq) (ncP0 hq) rfl rfl rfl (Nat.le_of_ble_eq_true rfl) hl hcs (dg D_X11_movePainting (i := 50) rfl) (fun I89 L1 R1 H locs hq hW hS => ?_)
        obtain ⟨hT89, hp89_0, rfl, rfl⟩ := hq
        have hF : Fr (SEd β q) I I89 := Fr.tr hF hT89 (by intro a j h; simp only [SPu, SEd, Bool.or_eq_true, Bool.and_eq_true, beq_iff_eq, decide_eq_true_eq] at h ⊢; omega)
        have hB : BrAt I89 β σ := BrAt.fr hB hT89 (fun a j h1 h2 => Bool.eq_false_iff.mpr (fun h => by simp only [SPu, Bool.or_eq_true, Bool.and_eq_true, beq_iff_eq, decide_eq_true_eq] at h; omega))
        have hP : PlAt I89 q σ := by have h := hp89_0; rw [← hge, setP_bk] at h; exact h
        have hH : HisN I89 k U nw := HisN.frI hH hT89 (fun a j h1 h2 => Bool.eq_false_iff.mpr (fun h => by simp only [SPu, Bool.or_eq_true, Bool.and_eq_true, beq_iff_eq, decide_eq_true_eq] at h; omega))
        refine lv_iload hx hb (dg D_X11_movePainting (i := 51) rfl) (lv_at hl 0 rfl) ?_
        refine n_if_eq (tgt := 100) hx hb (by omega) (dg D_X11_movePainting (i := 52) rfl) (by decide) (fun c94 => ?_) (fun c94 => ?_)
        · exact absurd c94 (by decide)
        · refine r_ldc X CK_X11_253 (dg D_X11_movePainting (i := 53) rfl) ?_
          exact fin (dg D_X11_movePainting (i := 54) rfl) (Nat.le_of_ble_eq_true rfl) (Nat.le_of_ble_eq_true rfl) hW hS ⟨⟨by simp [hr2, hr7, hr12], by unfold mvR; rw [mvF_n hge (by omega) (by omega) (by omega) (by omega), tN_nI (show ju < 2 ^ 31 by omega), tN_nI (show jv < 2 ^ 31 by omega), if_neg (by rw [hge]; exact nI_m1 (by omega)), if_neg (fun z => c32 (nI_inj (by omega) (by omega) z)), if_neg c71]⟩, hF, EdC.no (by unfold mvO; rw [mvF_n hge (by omega) (by omega) (by omega) (by omega)]; exact if_neg (fun z => c71 z.2.2.2)) hB hP hH, rfl, rfl⟩
    · refine r_ldcw X CK_X11_260 (dg D_X11_movePainting (i := 20) rfl) ?_
      exact fin (dg D_X11_movePainting (i := 21) rfl) (Nat.le_of_ble_eq_true rfl) (Nat.le_of_ble_eq_true rfl) hW hS ⟨⟨by simp [hr2, hr7, hr12], by unfold mvR; rw [tN_nI (show ju < 2 ^ 31 by omega), tN_nI (show jv < 2 ^ 31 by omega), if_neg (of_decide_eq_true c24), if_pos (congrArg nI (by first | exact c32 | exact Classical.not_not.mp c32))]⟩, hF, EdC.no (by unfold mvO; exact if_neg (fun z => z.2.2.1 (congrArg nI (by first | exact c32 | exact Classical.not_not.mp c32)))) hB hP hH, rfl, rfl⟩
  · refine r_ldc X CK_X11_48 (dg D_X11_movePainting (i := 15) rfl) ?_
    exact fin (dg D_X11_movePainting (i := 16) rfl) (Nat.le_of_ble_eq_true rfl) (Nat.le_of_ble_eq_true rfl) hW hS ⟨⟨by simp [hr2, hr7, hr12], by unfold mvR; rw [tN_nI (show ju < 2 ^ 31 by omega), tN_nI (show jv < 2 ^ 31 by omega), if_pos (Classical.not_not.mp (of_decide_eq_false c24))]⟩, hF, EdC.no (by unfold mvO; rw [tN_nI (show ju < 2 ^ 31 by omega), tN_nI (show jv < 2 ^ 31 by omega)]; exact if_neg (fun z => z.2.1 (Classical.not_not.mp (of_decide_eq_false c24)))) hB hP hH, rfl, rfl⟩

set_option maxHeartbeats 4000000 in
set_option maxRecDepth 100000 in
theorem c_X11_exchange {l : Launch} {G : va_G} {bs : Nat} {cy : Nat → ClassId} {I : CI} {L : CL} {R : CR} (σ : Row) (β : Nat) (q : Nat) (k : Nat) (U : Nat → Row) (nw : Nat) (u : Int32) (v : Int32) (w : Int32) (hl0 : l.stackTraces = false) (hi : Inv σ) (hd : DR σ) (hβ : isBr β) (hB : BrAt I β σ) (hq : isPl q) (hP : PlAt I q σ) (hRb : R q 0 = β) (hR7 : R 0 7 = β) (hR8 : R 0 8 = q) (hH : HisN I k U nw) : XTi l G bs cy MX11_exchange 7 [.ref (bs + 0), .int u, .int v, .int w] I L R (fun r I1 L1 R1 => ((inB u (Yn σ) && inB v (nS σ) && inB w (nS σ)) = true ∧ r = exR σ u v w) ∧ Fr (SEd β q) I I1 ∧ EdC I1 β q (exO σ u v w) σ k U nw ∧ L = L1 ∧ R = R1) (fun E => E = IOE ∧ (inB u (Yn σ) && inB v (nS σ) && inB w (nS σ)) = false) 3 18 := by
  refine XTi.of (own := RX11) pn_RX11 rfl (Nat.le_of_ble_eq_true rfl) ?_
  intro p e s m args below meth c Qc Qf X hW hS htab hlk hQf fin ls hl
  have hx := X.1
  have hb := X.2.1
  have hR : RmOK (rmL 7 3 18) 7 := ⟨rfl, rfl⟩
  have hcs : 0 ≤ (rmL 7 3 18).cells ∧ 0 ≤ (rmL 7 3 18).slots := ⟨Nat.zero_le _, Nat.zero_le _⟩
  have hl : lv_has ls 6 [(0, .ref (bs + 0)), (1, .int u), (2, .int v), (3, .int w)] := hl
  have hF : Fr (SEd β q) I I := Fr.rf
  obtain ⟨hY, hY1, hY12, hLn, hL4, hSn, hS12, hGn, hG5⟩ := id hi
  have hbq := br_pl hβ hq
  refine lv_aload_n hx hb (dg D_X11_exchange (i := 0) rfl) rfl (lv_at hl 0 rfl) ?_
  refine lv_iload_n hx hb (dg D_X11_exchange (i := 1) rfl) rfl (lv_at hl 1 rfl) ?_
  refine callXv X hW hS hR htab hlk hQf (c_X11_checkYear (I := I) σ β u (by first | assumption | omega | decide | exact hP.1) (by first | assumption | omega | decide | exact hP.1) (by first | assumption | omega | decide | exact hP.1) (by first | assumption | omega | decide | exact hP.1) (by first | assumption | omega | decide | exact hP.1)) (fun E hE => ⟨hE.1, by simp [hE.2]⟩) (by decide) UVX11_checkYear LK_X11_134 rfl (by decide) rfl rfl rfl (Nat.le_of_ble_eq_true rfl) hl (Nat.le_of_ble_eq_true rfl) (Nat.le_of_ble_eq_true rfl) (Nat.le_of_ble_eq_true rfl) (Nat.le_of_ble_eq_true rfl) (dg D_X11_exchange (i := 2) rfl) (fun I2 L1 R1 H locs hq hW hS => ?_)
  have hcs : 0 + 1 ≤ (rmL 7 3 18).cells ∧ 0 + 6 ≤ (rmL 7 3 18).slots := ⟨Nat.le_of_ble_eq_true rfl, Nat.le_of_ble_eq_true rfl⟩
  obtain ⟨hr2, rfl, rfl, rfl⟩ := hq
  obtain ⟨ju, hju, rfl⟩ := inB_of hr2 (by omega)
  refine lv_aload_n hx hb (dg D_X11_exchange (i := 3) rfl) rfl (lv_at hl 0 rfl) ?_
  refine lv_iload_n hx hb (dg D_X11_exchange (i := 4) rfl) rfl (lv_at hl 2 rfl) ?_
  refine callXv X hW hS hR htab hlk hQf (c_X11_checkSpan (I := I) σ β v (by first | assumption | omega | decide | exact hP.1) (by first | assumption | omega | decide | exact hP.1) (by first | assumption | omega | decide | exact hP.1) (by first | assumption | omega | decide | exact hP.1) (by first | assumption | omega | decide | exact hP.1)) (fun E hE => ⟨hE.1, by simp [hE.2]⟩) (by decide) UVX11_checkSpan LK_X11_131 rfl (by decide) rfl rfl rfl (Nat.le_of_ble_eq_true rfl) hl (Nat.le_of_ble_eq_true rfl) (Nat.le_of_ble_eq_true rfl) (Nat.le_of_ble_eq_true rfl) (Nat.le_of_ble_eq_true rfl) (dg D_X11_exchange (i := 5) rfl) (fun I7 L1 R1 H locs hq hW hS => ?_)
  have hcs : 0 + 1 + 1 ≤ (rmL 7 3 18).cells ∧ 0 + 6 + 6 ≤ (rmL 7 3 18).slots := ⟨Nat.le_of_ble_eq_true rfl, Nat.le_of_ble_eq_true rfl⟩
  obtain ⟨hr7, rfl, rfl, rfl⟩ := hq
  obtain ⟨jv, hjv, rfl⟩ := inB_of hr7 (by omega)
  refine lv_aload_n hx hb (dg D_X11_exchange (i := 6) rfl) rfl (lv_at hl 0 rfl) ?_
  refine lv_iload_n hx hb (dg D_X11_exchange (i := 7) rfl) rfl (lv_at hl 3 rfl) ?_
  refine callXv X hW hS hR htab hlk hQf (c_X11_checkSpan (I := I) σ β w (by first | assumption | omega | decide | exact hP.1) (by first | assumption | omega | decide | exact hP.1) (by first | assumption | omega | decide | exact hP.1) (by first | assumption | omega | decide | exact hP.1) (by first | assumption | omega | decide | exact hP.1)) (fun E hE => ⟨hE.1, by simp [hE.2]⟩) (by decide) UVX11_checkSpan LK_X11_131 rfl (by decide) rfl rfl rfl (Nat.le_of_ble_eq_true rfl) hl (Nat.le_of_ble_eq_true rfl) (Nat.le_of_ble_eq_true rfl) (Nat.le_of_ble_eq_true rfl) (Nat.le_of_ble_eq_true rfl) (dg D_X11_exchange (i := 8) rfl) (fun I12 L1 R1 H locs hq hW hS => ?_)
  have hcs : 0 + 1 + 1 + 1 ≤ (rmL 7 3 18).cells ∧ 0 + 6 + 6 + 6 ≤ (rmL 7 3 18).slots := ⟨Nat.le_of_ble_eq_true rfl, Nat.le_of_ble_eq_true rfl⟩
  obtain ⟨hr12, rfl, rfl, rfl⟩ := hq
  obtain ⟨jw, hjw, rfl⟩ := inB_of hr12 (by omega)
  refine lv_aload_n hx hb (dg D_X11_exchange (i := 9) rfl) rfl (lv_at hl 0 rfl) ?_
  refine r_getr (v := q) X hW FI_X11_71 rfl (by decide) rfl hR8 (dg D_X11_exchange (i := 10) rfl) ?_
  refine lv_iload_n hx hb (dg D_X11_exchange (i := 11) rfl) rfl (lv_at hl 1 rfl) ?_
  refine lv_iload_n hx hb (dg D_X11_exchange (i := 12) rfl) rfl (lv_at hl 2 rfl) ?_
  refine callVi X hW hS hR (c_X6_isPainted (I := I) σ q ju jv (by first | assumption | omega | decide | exact hP.1) (by first | assumption | omega | decide | exact hP.1) (by first | assumption | omega | decide | exact hP.1) (by first | assumption | omega | decide | exact hP.1)) (by decide) UVX6_isPainted LK_X11_199 (shP hq) (ncP0 hq) rfl rfl rfl (Nat.le_of_ble_eq_true rfl) hl hcs (dg D_X11_exchange (i := 13) rfl) (fun r21 I21 L1 R1 H locs hq hW hS => ?_)
  obtain ⟨rfl, rfl, rfl, rfl⟩ := hq
  refine z_if_eq (tgt := 39) hx hb (dg D_X11_exchange (i := 14) rfl) (by decide) (fun c24 => ?_) (fun c24 => ?_)
  · refine r_ldc X CK_X11_48 (dg D_X11_exchange (i := 21) rfl) ?_
    exact fin (dg D_X11_exchange (i := 22) rfl) (Nat.le_of_ble_eq_true rfl) (Nat.le_of_ble_eq_true rfl) hW hS ⟨⟨by simp [hr2, hr7, hr12], by unfold exR; simp only [tN_nI (show ju < 2 ^ 31 by omega), tN_nI (show jv < 2 ^ 31 by omega), tN_nI (show jw < 2 ^ 31 by omega)]; exact (if_pos (Or.inl (Classical.not_not.mp (of_decide_eq_false c24)))).symm⟩, hF, EdC.no (by unfold exO; simp only [tN_nI (show ju < 2 ^ 31 by omega), tN_nI (show jv < 2 ^ 31 by omega), tN_nI (show jw < 2 ^ 31 by omega)]; exact if_neg (fun z => z.2.1 (Classical.not_not.mp (of_decide_eq_false c24)))) hB hP hH, rfl, rfl⟩
  · refine lv_aload_n hx hb (dg D_X11_exchange (i := 15) rfl) rfl (lv_at hl 0 rfl) ?_
    refine r_getr (v := q) X hW FI_X11_71 rfl (by decide) rfl hR8 (dg D_X11_exchange (i := 16) rfl) ?_
    refine lv_iload_n hx hb (dg D_X11_exchange (i := 17) rfl) rfl (lv_at hl 1 rfl) ?_
    refine lv_iload_n hx hb (dg D_X11_exchange (i := 18) rfl) rfl (lv_at hl 3 rfl) ?_
    refine callVi X hW hS hR (c_X6_isPainted (I := I) σ q ju jw (by first | assumption | omega | decide | exact hP.1) (by first | assumption | omega | decide | exact hP.1) (by first | assumption | omega | decide | exact hP.1) (by first | assumption | omega | decide | exact hP.1)) (by decide) UVX6_isPainted LK_X11_199 (shP hq) (ncP0 hq) rfl rfl rfl (Nat.le_of_ble_eq_true rfl) hl hcs (dg D_X11_exchange (i := 19) rfl) (fun r33 I33 L1 R1 H locs hq hW hS => ?_)
    obtain ⟨rfl, rfl, rfl, rfl⟩ := hq
    refine z_if_ne (tgt := 42) hx hb (dg D_X11_exchange (i := 20) rfl) (by decide) (fun c36 => ?_) (fun c36 => ?_)
    · refine lv_aload_n hx hb (dg D_X11_exchange (i := 23) rfl) rfl (lv_at hl 0 rfl) ?_
      refine r_getr (v := q) X hW FI_X11_71 rfl (by decide) rfl hR8 (dg D_X11_exchange (i := 24) rfl) ?_
      refine lv_iload_n hx hb (dg D_X11_exchange (i := 25) rfl) rfl (lv_at hl 1 rfl) ?_
      refine lv_iload_n hx hb (dg D_X11_exchange (i := 26) rfl) rfl (lv_at hl 2 rfl) ?_
      refine callVi X hW hS hR (c_X6_painter (I := I) σ q ju jv (by first | assumption | omega | decide | exact hP.1) (by first | assumption | omega | decide | exact hP.1) (by first | assumption | omega | decide | exact hP.1) (by first | assumption | omega | decide | exact hP.1)) (by decide) UVX6_painter LK_X11_202 (shP hq) (ncP0 hq) rfl rfl rfl (Nat.le_of_ble_eq_true rfl) hl hcs (dg D_X11_exchange (i := 27) rfl) (fun r48 I48 L1 R1 H locs hq hW hS => ?_)
      obtain ⟨rfl, rfl, rfl, rfl⟩ := hq
      refine lv_istore (lv' := [(4, .int (pnt σ jv ju)), (0, .ref (bs + 0)), (1, .int (nI ju)), (2, .int (nI jv)), (3, .int (nI jw))]) hx hb (dg D_X11_exchange (i := 28) rfl) hl (by decide) rfl (fun ls hl => ?_)
      refine lv_aload_n hx hb (dg D_X11_exchange (i := 29) rfl) rfl (lv_at hl 1 rfl) ?_
      refine r_getr (v := q) X hW FI_X11_71 rfl (by decide) rfl hR8 (dg D_X11_exchange (i := 30) rfl) ?_
      refine lv_iload_n hx hb (dg D_X11_exchange (i := 31) rfl) rfl (lv_at hl 2 rfl) ?_
      refine lv_iload_n hx hb (dg D_X11_exchange (i := 32) rfl) rfl (lv_at hl 4 rfl) ?_
      refine callVi X hW hS hR (c_X6_painter (I := I) σ q ju jw (by first | assumption | omega | decide | exact hP.1) (by first | assumption | omega | decide | exact hP.1) (by first | assumption | omega | decide | exact hP.1) (by first | assumption | omega | decide | exact hP.1)) (by decide) UVX6_painter LK_X11_202 (shP hq) (ncP0 hq) rfl rfl rfl (Nat.le_of_ble_eq_true rfl) hl hcs (dg D_X11_exchange (i := 33) rfl) (fun r59 I59 L1 R1 H locs hq hW hS => ?_)
      obtain ⟨rfl, rfl, rfl, rfl⟩ := hq
      refine lv_istore (lv' := [(5, .int (pnt σ jw ju)), (4, .int (pnt σ jv ju)), (0, .ref (bs + 0)), (1, .int (nI ju)), (2, .int (nI jv)), (3, .int (nI jw))]) hx hb (dg D_X11_exchange (i := 34) rfl) hl (by decide) rfl (fun ls hl => ?_)
      refine lv_iload hx hb (dg D_X11_exchange (i := 35) rfl) (lv_at hl 1 rfl) ?_
      refine lv_iload hx hb (dg D_X11_exchange (i := 36) rfl) (lv_at hl 0 rfl) ?_
      refine lv_icmp_ne (tgt := 75) hx hb (dg D_X11_exchange (i := 37) rfl) (by decide) (fun c68 => ?_) (fun c68 => ?_)
      · refine lv_aload_n hx hb (dg D_X11_exchange (i := 40) rfl) rfl (lv_at hl 2 rfl) ?_
        refine callVv X hW hS hR (c_X11_remember (I := I) σ β q k U nw (by first | assumption | omega | decide | exact hP.1) (by first | assumption | omega | decide | exact hP.1) (by first | assumption | omega | decide | exact hP.1) (by first | assumption | omega | decide | exact hP.1) (by first | assumption | omega | decide | exact hP.1) (by first | assumption | omega | decide | exact hP.1) (by first | assumption | omega | decide | exact hP.1) (by first | assumption | omega | decide | exact hP.1)) (by decide) UVX11_remember LK_X11_254 rfl (by decide) rfl rfl rfl (Nat.le_of_ble_eq_true rfl) hl hcs (dg D_X11_exchange (i := 41) rfl) (fun I76 L1 R1 H locs hq hW hS => ?_)
        obtain ⟨hT76, hp76_0, rfl, rfl⟩ := hq
        have hF : Fr (SEd β q) I I76 := Fr.tr hF hT76 (by intro a j h; simp only [SHk, SEd, Bool.or_eq_true, Bool.and_eq_true, beq_iff_eq, decide_eq_true_eq] at h ⊢; omega)
        have hB : BrAt I76 β σ := BrAt.fr hB hT76 (fun a j h1 h2 => Bool.eq_false_iff.mpr (fun h => by simp only [SHk, Bool.or_eq_true, Bool.and_eq_true, beq_iff_eq, decide_eq_true_eq] at h; omega))
        have hP : PlAt I76 q σ := PlAt.fr hP hT76 (fun a j h1 h2 => Bool.eq_false_iff.mpr (fun h => by simp only [SHk, Bool.or_eq_true, Bool.and_eq_true, beq_iff_eq, decide_eq_true_eq] at h; omega))
        have hH : HisN I76 (min 16 (k + 1)) (pushU σ U) ((nw + 1) % 16) := hp76_0
        refine lv_aload_n hx hb (dg D_X11_exchange (i := 42) rfl) rfl (lv_at hl 2 rfl) ?_
        refine r_getr (v := q) X hW FI_X11_71 rfl (by decide) rfl hR8 (dg D_X11_exchange (i := 43) rfl) ?_
        refine lv_iload_n hx hb (dg D_X11_exchange (i := 44) rfl) rfl (lv_at hl 3 rfl) ?_
        refine lv_iload_n hx hb (dg D_X11_exchange (i := 45) rfl) rfl (lv_at hl 4 rfl) ?_
        refine lv_iload hx hb (dg D_X11_exchange (i := 46) rfl) (lv_at hl 0 rfl) ?_
        refine callVv X hW hS hR (cP_X6_put (I := I76) σ β q ju jv (pnt σ jw ju) (by first | assumption | omega | decide | exact hP.1) (by first | assumption | omega | decide | exact hP.1) (by first | assumption | omega | decide | exact hP.1) (by first | assumption | omega | decide | exact hP.1) (by first | assumption | omega | decide | exact hP.1) (by first | assumption | omega | decide | exact hP.1) (by first | assumption | omega | decide | exact hP.1) (by first | assumption | omega | decide | exact hP.1) (by first | assumption | omega | decide | exact hP.1)) (by decide) UVX6_put LK_X11_257 (shP hq) (ncP0 hq) rfl rfl rfl (Nat.le_of_ble_eq_true rfl) hl hcs (dg D_X11_exchange (i := 47) rfl) (fun I87 L1 R1 H locs hq hW hS => ?_)
        obtain ⟨hT87, hp87_0, rfl, rfl⟩ := hq
        have hF : Fr (SEd β q) I I87 := Fr.tr hF hT87 (by intro a j h; simp only [SPu, SEd, Bool.or_eq_true, Bool.and_eq_true, beq_iff_eq, decide_eq_true_eq] at h ⊢; omega)
        have hB : BrAt I87 β σ := BrAt.fr hB hT87 (fun a j h1 h2 => Bool.eq_false_iff.mpr (fun h => by simp only [SPu, Bool.or_eq_true, Bool.and_eq_true, beq_iff_eq, decide_eq_true_eq] at h; omega))
        have hP : PlAt I87 q (setP σ jv ju (pnt σ jw ju)) := hp87_0
        have hH : HisN I87 (min 16 (k + 1)) (pushU σ U) ((nw + 1) % 16) := HisN.frI hH hT87 (fun a j h1 h2 => Bool.eq_false_iff.mpr (fun h => by simp only [SPu, Bool.or_eq_true, Bool.and_eq_true, beq_iff_eq, decide_eq_true_eq] at h; omega))
        refine lv_aload_n hx hb (dg D_X11_exchange (i := 48) rfl) rfl (lv_at hl 2 rfl) ?_
        refine r_getr (v := q) X hW FI_X11_71 rfl (by decide) rfl hR8 (dg D_X11_exchange (i := 49) rfl) ?_
        refine lv_iload_n hx hb (dg D_X11_exchange (i := 50) rfl) rfl (lv_at hl 3 rfl) ?_
        refine lv_iload_n hx hb (dg D_X11_exchange (i := 51) rfl) rfl (lv_at hl 5 rfl) ?_
        refine lv_iload hx hb (dg D_X11_exchange (i := 52) rfl) (lv_at hl 1 rfl) ?_
        refine callVv X hW hS hR (cP_X6_put (I := I87) (setP σ jv ju (pnt σ jw ju)) β q ju jw (pnt σ jv ju) (Inv_setP hi) (by first | assumption | omega | decide | exact hP.1) (BrAt_Sm hB Sm_setP hi) (by first | assumption | omega | decide | exact hP.1) (by first | assumption | omega | decide | exact hP.1) (by first | assumption | omega | decide | exact hP.1) (by rw [nS_setP]; exact hjw) (by first | assumption | omega | decide | exact hP.1) (by first | assumption | omega | decide | exact hP.1)) (by decide) UVX6_put LK_X11_257 (shP hq) (ncP0 hq) rfl rfl rfl (Nat.le_of_ble_eq_true rfl) hl hcs (dg D_X11_exchange (i := 53) rfl) (fun I98 L1 R1 H locs hq hW hS => ?_)
        obtain ⟨hT98, hp98_0, rfl, rfl⟩ := hq
        have hF : Fr (SEd β q) I I98 := Fr.tr hF hT98 (by intro a j h; simp only [SPu, SEd, Bool.or_eq_true, Bool.and_eq_true, beq_iff_eq, decide_eq_true_eq] at h ⊢; omega)
        have hB : BrAt I98 β σ := BrAt.fr hB hT98 (fun a j h1 h2 => Bool.eq_false_iff.mpr (fun h => by simp only [SPu, Bool.or_eq_true, Bool.and_eq_true, beq_iff_eq, decide_eq_true_eq] at h; omega))
        have hP : PlAt I98 q (setP (setP σ jv ju (pnt σ jw ju)) jw ju (pnt σ jv ju)) := hp98_0
        have hH : HisN I98 (min 16 (k + 1)) (pushU σ U) ((nw + 1) % 16) := HisN.frI hH hT98 (fun a j h1 h2 => Bool.eq_false_iff.mpr (fun h => by simp only [SPu, Bool.or_eq_true, Bool.and_eq_true, beq_iff_eq, decide_eq_true_eq] at h; omega))
        refine lv_aload_n hx hb (dg D_X11_exchange (i := 54) rfl) rfl (lv_at hl 2 rfl) ?_
        refine r_getr (v := q) X hW FI_X11_71 rfl (by decide) rfl hR8 (dg D_X11_exchange (i := 55) rfl) ?_
        refine callVi X hW hS hR (c_X6_countOverloads (I := I98) (setP (setP σ jv ju (pnt σ jw ju)) jw ju (pnt σ jv ju)) β q (Inv_setP (Inv_setP hi)) (by first | assumption | omega | decide | exact hP.1) (BrAt_Sm hB (Sm_setP.tr Sm_setP) hi) (by first | assumption | omega | decide | exact hP.1) (by first | assumption | omega | decide | exact hP.1) (by first | assumption | omega | decide | exact hP.1)) (by decide) UVX6_countOverloads LK_X11_237 (shP hq) (ncP0 hq) rfl rfl rfl (Nat.le_of_ble_eq_true rfl) hl hcs (dg D_X11_exchange (i := 56) rfl) (fun r105 I105 L1 R1 H locs hq hW hS => ?_)
        obtain ⟨rfl, rfl, rfl, rfl⟩ := hq
        exact fin (dg D_X11_exchange (i := 57) rfl) (Nat.le_of_ble_eq_true rfl) (Nat.le_of_ble_eq_true rfl) hW hS ⟨⟨by simp [hr2, hr7, hr12], by unfold exR exT; simp only [tN_nI (show ju < 2 ^ 31 by omega), tN_nI (show jv < 2 ^ 31 by omega), tN_nI (show jw < 2 ^ 31 by omega)]; rw [if_neg (orN (of_decide_eq_true c24) (of_decide_eq_true c36)), if_neg c68]⟩, hF, EdC.ok (by unfold exO exT; simp only [tN_nI (show ju < 2 ^ 31 by omega), tN_nI (show jv < 2 ^ 31 by omega), tN_nI (show jw < 2 ^ 31 by omega)]; exact if_pos (And.intro (by simp [hr2, hr7, hr12]) (And.intro (of_decide_eq_true c24) (And.intro (of_decide_eq_true c36) c68)))) (BrAt_Sm hB (Sm_setP.tr Sm_setP) hi) hP hH, rfl, rfl⟩
      · refine r_ldcw X CK_X11_260 (dg D_X11_exchange (i := 38) rfl) ?_
        exact fin (dg D_X11_exchange (i := 39) rfl) (Nat.le_of_ble_eq_true rfl) (Nat.le_of_ble_eq_true rfl) hW hS ⟨⟨by simp [hr2, hr7, hr12], by unfold exR; simp only [tN_nI (show ju < 2 ^ 31 by omega), tN_nI (show jv < 2 ^ 31 by omega), tN_nI (show jw < 2 ^ 31 by omega)]; rw [if_neg (orN (of_decide_eq_true c24) (of_decide_eq_true c36)), if_pos (by first | exact c68 | exact Classical.not_not.mp c68)]⟩, hF, EdC.no (by unfold exO; simp only [tN_nI (show ju < 2 ^ 31 by omega), tN_nI (show jv < 2 ^ 31 by omega), tN_nI (show jw < 2 ^ 31 by omega)]; exact if_neg (fun z => z.2.2.2 (by first | exact c68 | exact Classical.not_not.mp c68))) hB hP hH, rfl, rfl⟩
    · refine r_ldc X CK_X11_48 (dg D_X11_exchange (i := 21) rfl) ?_
      exact fin (dg D_X11_exchange (i := 22) rfl) (Nat.le_of_ble_eq_true rfl) (Nat.le_of_ble_eq_true rfl) hW hS ⟨⟨by simp [hr2, hr7, hr12], by unfold exR; simp only [tN_nI (show ju < 2 ^ 31 by omega), tN_nI (show jv < 2 ^ 31 by omega), tN_nI (show jw < 2 ^ 31 by omega)]; exact (if_pos (Or.inr (Classical.not_not.mp (of_decide_eq_false c36)))).symm⟩, hF, EdC.no (by unfold exO; simp only [tN_nI (show ju < 2 ^ 31 by omega), tN_nI (show jv < 2 ^ 31 by omega), tN_nI (show jw < 2 ^ 31 by omega)]; exact if_neg (fun z => z.2.2.1 (Classical.not_not.mp (of_decide_eq_false c36)))) hB hP hH, rfl, rfl⟩

set_option maxHeartbeats 4000000 in
set_option maxRecDepth 100000 in
theorem c_X11_setWeather {l : Launch} {G : va_G} {bs : Nat} {cy : Nat → ClassId} {I : CI} {L : CL} {R : CR} (σ : Row) (β : Nat) (q : Nat) (k : Nat) (U : Nat → Row) (nw : Nat) (v : Int32) (w : Int32) (hl0 : l.stackTraces = false) (hi : Inv σ) (hd : DR σ) (hβ : isBr β) (hB : BrAt I β σ) (hq : isPl q) (hP : PlAt I q σ) (hRb : R q 0 = β) (hR7 : R 0 7 = β) (hR8 : R 0 8 = q) (hH : HisN I k U nw) : XTi l G bs cy MX11_setWeather 7 [.ref (bs + 0), .int v, .int w] I L R (fun r I1 L1 R1 => ((inB v (Yn σ) && inR w 0 200) = true ∧ r = seR σ (80 + tN v) w) ∧ Fr (SEd β q) I I1 ∧ EdC I1 β q (swO σ v w) σ k U nw ∧ L = L1 ∧ R = R1) (fun E => (E = IOE ∧ inB v (Yn σ) = false) ∨ (E = IAE ∧ inB v (Yn σ) = true ∧ inR w 0 200 = false)) 2 12 := by
  refine XTi.of (own := RX11) pn_RX11 rfl (Nat.le_of_ble_eq_true rfl) ?_
  intro p e s m args below meth c Qc Qf X hW hS htab hlk hQf fin ls hl
  have hx := X.1
  have hb := X.2.1
  have hR : RmOK (rmL 7 2 12) 7 := ⟨rfl, rfl⟩
  have hcs : 0 ≤ (rmL 7 2 12).cells ∧ 0 ≤ (rmL 7 2 12).slots := ⟨Nat.zero_le _, Nat.zero_le _⟩
  have hl : lv_has ls 4 [(0, .ref (bs + 0)), (1, .int v), (2, .int w)] := hl
  have hF : Fr (SEd β q) I I := Fr.rf
  obtain ⟨hY, hY1, hY12, hLn, hL4, hSn, hS12, hGn, hG5⟩ := id hi
  have hbq := br_pl hβ hq
  refine lv_aload_n hx hb (dg D_X11_setWeather (i := 0) rfl) rfl (lv_at hl 0 rfl) ?_
  refine lv_iload_n hx hb (dg D_X11_setWeather (i := 1) rfl) rfl (lv_at hl 1 rfl) ?_
  refine callXv X hW hS hR htab hlk hQf (c_X11_checkYear (I := I) σ β v (by first | assumption | omega | decide | exact hP.1) (by first | assumption | omega | decide | exact hP.1) (by first | assumption | omega | decide | exact hP.1) (by first | assumption | omega | decide | exact hP.1) (by first | assumption | omega | decide | exact hP.1)) (fun E hE => Or.inl hE) (by decide) UVX11_checkYear LK_X11_134 rfl (by decide) rfl rfl rfl (Nat.le_of_ble_eq_true rfl) hl (Nat.le_of_ble_eq_true rfl) (Nat.le_of_ble_eq_true rfl) (Nat.le_of_ble_eq_true rfl) (Nat.le_of_ble_eq_true rfl) (dg D_X11_setWeather (i := 2) rfl) (fun I2 L1 R1 H locs hq hW hS => ?_)
  have hcs : 0 + 1 ≤ (rmL 7 2 12).cells ∧ 0 + 6 ≤ (rmL 7 2 12).slots := ⟨Nat.le_of_ble_eq_true rfl, Nat.le_of_ble_eq_true rfl⟩
  obtain ⟨hr2, rfl, rfl, rfl⟩ := hq
  obtain ⟨jv, hjv, rfl⟩ := inB_of hr2 (by omega)
  refine lv_iload_n hx hb (dg D_X11_setWeather (i := 3) rfl) rfl (lv_at hl 2 rfl) ?_
  refine n_iconst (a := 0) hx hb (dg D_X11_setWeather (i := 4) rfl) rfl ?_
  refine lv_sipush (v := nI 200) hx hb (dg D_X11_setWeather (i := 5) rfl) (by decide) ?_
  refine callXSv X hW hS hR htab hlk hQf (c_X11_checkRange (I := I) w 0 200 (by first | assumption | omega | decide | exact hP.1) (by first | assumption | omega | decide | exact hP.1) (by first | assumption | omega | decide | exact hP.1)) (fun E hE => Or.inr ⟨hE.1, hr2, hE.2⟩) (by decide) USX11_checkRange LK_X11_261 rfl rfl (Nat.le_of_ble_eq_true rfl) hl (Nat.le_of_ble_eq_true rfl) (Nat.le_of_ble_eq_true rfl) (Nat.le_of_ble_eq_true rfl) (Nat.le_of_ble_eq_true rfl) (dg D_X11_setWeather (i := 6) rfl) (fun I10 L1 R1 H locs hq hW hS => ?_)
  have hcs : 0 + 1 + 1 ≤ (rmL 7 2 12).cells ∧ 0 + 6 + 6 ≤ (rmL 7 2 12).slots := ⟨Nat.le_of_ble_eq_true rfl, Nat.le_of_ble_eq_true rfl⟩
  obtain ⟨hr10, rfl, rfl, rfl⟩ := hq
  have hcnd : (inB (nI jv) (Yn σ) && inR w 0 200) = true := Bool.and_eq_true_iff.mpr ⟨hr2, hr10⟩
  refine lv_aload_n hx hb (dg D_X11_setWeather (i := 7) rfl) rfl (lv_at hl 0 rfl) ?_
  refine r_getr (v := β) X hW FI_X11_67 rfl (by decide) rfl hR7 (dg D_X11_setWeather (i := 8) rfl) ?_
  refine rn_getc (t := β + 9) X hW FN_X11_229 (shB hβ) (ncB0 hβ) rfl (dg D_X11_setWeather (i := 9) rfl) ?_
  refine lv_iload_n hx hb (dg D_X11_setWeather (i := 10) rfl) rfl (lv_at hl 1 rfl) ?_
  refine r_ald (j := jv) (v := σ (80 + jv)) X hW (shB9 hβ) (ncB hβ (by decide)) rfl (by omega) (by omega) (hB.da (by omega)) (dg D_X11_setWeather (i := 11) rfl) ?_
  refine lv_istore_n (lv' := [(3, .int (σ (80 + jv))), (0, .ref (bs + 0)), (1, .int (nI jv)), (2, .int w)]) hx hb (dg D_X11_setWeather (i := 12) rfl) rfl hl (by decide) rfl (fun ls hl => ?_)
  refine lv_iload_n hx hb (dg D_X11_setWeather (i := 13) rfl) rfl (lv_at hl 3 rfl) ?_
  refine lv_iload_n hx hb (dg D_X11_setWeather (i := 14) rfl) rfl (lv_at hl 0 rfl) ?_
  refine lv_icmp_ne (tgt := 32) hx hb (dg D_X11_setWeather (i := 15) rfl) (by decide) (fun c25 => ?_) (fun c25 => ?_)
  · refine lv_aload_n hx hb (dg D_X11_setWeather (i := 18) rfl) rfl (lv_at hl 1 rfl) ?_
    refine callVv X hW hS hR (c_X11_remember (I := I) σ β q k U nw (by first | assumption | omega | decide | exact hP.1) (by first | assumption | omega | decide | exact hP.1) (by first | assumption | omega | decide | exact hP.1) (by first | assumption | omega | decide | exact hP.1) (by first | assumption | omega | decide | exact hP.1) (by first | assumption | omega | decide | exact hP.1) (by first | assumption | omega | decide | exact hP.1) (by first | assumption | omega | decide | exact hP.1)) (by decide) UVX11_remember LK_X11_254 rfl (by decide) rfl rfl rfl (Nat.le_of_ble_eq_true rfl) hl hcs (dg D_X11_setWeather (i := 19) rfl) (fun I33 L1 R1 H locs hq hW hS => ?_)
    obtain ⟨hT33, hp33_0, rfl, rfl⟩ := hq
    have hF : Fr (SEd β q) I I33 := Fr.tr hF hT33 (by intro a j h; simp only [SHk, SEd, Bool.or_eq_true, Bool.and_eq_true, beq_iff_eq, decide_eq_true_eq] at h ⊢; omega)
    have hB : BrAt I33 β σ := BrAt.fr hB hT33 (fun a j h1 h2 => Bool.eq_false_iff.mpr (fun h => by simp only [SHk, Bool.or_eq_true, Bool.and_eq_true, beq_iff_eq, decide_eq_true_eq] at h; omega))
    have hP : PlAt I33 q σ := PlAt.fr hP hT33 (fun a j h1 h2 => Bool.eq_false_iff.mpr (fun h => by simp only [SHk, Bool.or_eq_true, Bool.and_eq_true, beq_iff_eq, decide_eq_true_eq] at h; omega))
    have hH : HisN I33 (min 16 (k + 1)) (pushU σ U) ((nw + 1) % 16) := hp33_0
    refine lv_aload_n hx hb (dg D_X11_setWeather (i := 20) rfl) rfl (lv_at hl 1 rfl) ?_
    refine r_getr (v := β) X hW FI_X11_67 rfl (by decide) rfl hR7 (dg D_X11_setWeather (i := 21) rfl) ?_
    refine rn_getc (t := β + 9) X hW FN_X11_229 (shB hβ) (ncB0 hβ) rfl (dg D_X11_setWeather (i := 22) rfl) ?_
    refine lv_iload_n hx hb (dg D_X11_setWeather (i := 23) rfl) rfl (lv_at hl 2 rfl) ?_
    refine lv_iload_n hx hb (dg D_X11_setWeather (i := 24) rfl) rfl (lv_at hl 3 rfl) ?_
    refine r_ast (j := jv) (v := w) X hW hS (shB9 hβ) (ncB hβ (by decide)) rfl (by omega) (by omega) (dg D_X11_setWeather (i := 25) rfl) (fun H locs hW hS => ?_)
    have hF : Fr (SEd β q) I (u2 I33 (β + 9) jv w) := Fr.put hF (SEd_b (by decide))
    have hB : BrAt (u2 I33 (β + 9) jv w) β (upd σ (80 + jv) w) := BrAt_day hi hB (by omega)
    have hP : PlAt (u2 I33 (β + 9) jv w) q (upd σ (80 + jv) w) := PlAt.pu (PlAt_u hi (by omega) hP) (by omega)
    have hH : HisN (u2 I33 (β + 9) jv w) (min 16 (k + 1)) (pushU σ U) ((nw + 1) % 16) := HisN.frI hH fr_u2 (fun a j h1 h2 => in_u2.no (by omega) j)
    obtain ⟨J45, eJ45⟩ : ∃ J, J = u2 I33 (β + 9) jv w := ⟨_, rfl⟩
    rw [← eJ45] at hW hF hB hP hH
    refine lv_iload_n hx hb (dg D_X11_setWeather (i := 26) rfl) rfl (lv_at hl 0 rfl) ?_
    exact fin (dg D_X11_setWeather (i := 27) rfl) (Nat.le_of_ble_eq_true rfl) (Nat.le_of_ble_eq_true rfl) hW hS ⟨⟨hcnd, by unfold seR; rw [tN_nI (show jv < 2 ^ 31 by omega), if_neg (fun z => c25 z.symm)]⟩, hF, EdC.ok (by unfold swO; rw [if_pos (hcnd), tN_nI (show jv < 2 ^ 31 by omega)]; exact if_neg (fun z => c25 z.symm)) hB hP hH, rfl, rfl⟩
  · refine r_ldcw X CK_X11_260 (dg D_X11_setWeather (i := 16) rfl) ?_
    exact fin (dg D_X11_setWeather (i := 17) rfl) (Nat.le_of_ble_eq_true rfl) (Nat.le_of_ble_eq_true rfl) hW hS ⟨⟨hcnd, by unfold seR; rw [tN_nI (show jv < 2 ^ 31 by omega), if_pos (by first | exact c25.symm | exact (Classical.not_not.mp c25).symm)]⟩, hF, EdC.no (by unfold swO; rw [if_pos (hcnd), tN_nI (show jv < 2 ^ 31 by omega)]; exact if_pos (by first | exact c25.symm | exact (Classical.not_not.mp c25).symm)) hB hP hH, rfl, rfl⟩

set_option maxHeartbeats 4000000 in
set_option maxRecDepth 100000 in
theorem c_X11_setSpeed {l : Launch} {G : va_G} {bs : Nat} {cy : Nat → ClassId} {I : CI} {L : CL} {R : CR} (σ : Row) (β : Nat) (q : Nat) (k : Nat) (U : Nat → Row) (nw : Nat) (v : Int32) (w : Int32) (hl0 : l.stackTraces = false) (hi : Inv σ) (hd : DR σ) (hβ : isBr β) (hB : BrAt I β σ) (hq : isPl q) (hP : PlAt I q σ) (hRb : R q 0 = β) (hR7 : R 0 7 = β) (hR8 : R 0 8 = q) (hH : HisN I k U nw) : XTi l G bs cy MX11_setSpeed 7 [.ref (bs + 0), .int v, .int w] I L R (fun r I1 L1 R1 => ((inB v (nG σ) && inR w 1 50) = true ∧ r = spR σ v w) ∧ Fr (SEd β q) I I1 ∧ EdC I1 β q (spO σ v w) σ k U nw ∧ L = L1 ∧ R = R1) (fun E => (E = IOE ∧ inB v (nG σ) = false) ∨ (E = IAE ∧ inB v (nG σ) = true ∧ inR w 1 50 = false)) 2 12 := by
  refine XTi.of (own := RX11) pn_RX11 rfl (Nat.le_of_ble_eq_true rfl) ?_
  intro p e s m args below meth c Qc Qf X hW hS htab hlk hQf fin ls hl
  have hx := X.1
  have hb := X.2.1
  have hR : RmOK (rmL 7 2 12) 7 := ⟨rfl, rfl⟩
  have hcs : 0 ≤ (rmL 7 2 12).cells ∧ 0 ≤ (rmL 7 2 12).slots := ⟨Nat.zero_le _, Nat.zero_le _⟩
  have hl : lv_has ls 3 [(0, .ref (bs + 0)), (1, .int v), (2, .int w)] := hl
  have hF : Fr (SEd β q) I I := Fr.rf
  obtain ⟨hY, hY1, hY12, hLn, hL4, hSn, hS12, hGn, hG5⟩ := id hi
  have hbq := br_pl hβ hq
  refine lv_aload_n hx hb (dg D_X11_setSpeed (i := 0) rfl) rfl (lv_at hl 0 rfl) ?_
  refine lv_iload_n hx hb (dg D_X11_setSpeed (i := 1) rfl) rfl (lv_at hl 1 rfl) ?_
  refine callXv X hW hS hR htab hlk hQf (c_X11_checkGang (I := I) σ β v (by first | assumption | omega | decide | exact hP.1) (by first | assumption | omega | decide | exact hP.1) (by first | assumption | omega | decide | exact hP.1) (by first | assumption | omega | decide | exact hP.1) (by first | assumption | omega | decide | exact hP.1)) (fun E hE => Or.inl hE) (by decide) UVX11_checkGang LK_X11_190 rfl (by decide) rfl rfl rfl (Nat.le_of_ble_eq_true rfl) hl (Nat.le_of_ble_eq_true rfl) (Nat.le_of_ble_eq_true rfl) (Nat.le_of_ble_eq_true rfl) (Nat.le_of_ble_eq_true rfl) (dg D_X11_setSpeed (i := 2) rfl) (fun I2 L1 R1 H locs hq hW hS => ?_)
  have hcs : 0 + 1 ≤ (rmL 7 2 12).cells ∧ 0 + 6 ≤ (rmL 7 2 12).slots := ⟨Nat.le_of_ble_eq_true rfl, Nat.le_of_ble_eq_true rfl⟩
  obtain ⟨hr2, rfl, rfl, rfl⟩ := hq
  obtain ⟨jv, hjv, rfl⟩ := inB_of hr2 (by omega)
  refine lv_iload_n hx hb (dg D_X11_setSpeed (i := 3) rfl) rfl (lv_at hl 2 rfl) ?_
  refine n_iconst (a := 1) hx hb (dg D_X11_setSpeed (i := 4) rfl) rfl ?_
  refine lv_bipush (v := nI 50) hx hb (dg D_X11_setSpeed (i := 5) rfl) (by decide) ?_
  refine callXSv X hW hS hR htab hlk hQf (c_X11_checkRange (I := I) w 1 50 (by first | assumption | omega | decide | exact hP.1) (by first | assumption | omega | decide | exact hP.1) (by first | assumption | omega | decide | exact hP.1)) (fun E hE => Or.inr ⟨hE.1, hr2, hE.2⟩) (by decide) USX11_checkRange LK_X11_261 rfl rfl (Nat.le_of_ble_eq_true rfl) hl (Nat.le_of_ble_eq_true rfl) (Nat.le_of_ble_eq_true rfl) (Nat.le_of_ble_eq_true rfl) (Nat.le_of_ble_eq_true rfl) (dg D_X11_setSpeed (i := 6) rfl) (fun I9 L1 R1 H locs hq hW hS => ?_)
  have hcs : 0 + 1 + 1 ≤ (rmL 7 2 12).cells ∧ 0 + 6 + 6 ≤ (rmL 7 2 12).slots := ⟨Nat.le_of_ble_eq_true rfl, Nat.le_of_ble_eq_true rfl⟩
  obtain ⟨hr9, rfl, rfl, rfl⟩ := hq
  have hcnd : (inB (nI jv) (nG σ) && inR w 1 50) = true := Bool.and_eq_true_iff.mpr ⟨hr2, hr9⟩
  refine lv_iload_n hx hb (dg D_X11_setSpeed (i := 7) rfl) rfl (lv_at hl 2 rfl) ?_
  refine lv_aload_n hx hb (dg D_X11_setSpeed (i := 8) rfl) rfl (lv_at hl 0 rfl) ?_
  refine r_getr (v := β) X hW FI_X11_67 rfl (by decide) rfl hR7 (dg D_X11_setSpeed (i := 9) rfl) ?_
  refine rn_getc (t := β + 7) X hW FN_X11_276 (shB hβ) (ncB0 hβ) rfl (dg D_X11_setSpeed (i := 10) rfl) ?_
  refine lv_iload_n hx hb (dg D_X11_setSpeed (i := 11) rfl) rfl (lv_at hl 1 rfl) ?_
  refine r_ald (j := jv) (v := σ (70 + 2 * jv + 0)) X hW (shB7 hβ) (ncB hβ (by decide)) rfl (by omega) (by omega) (hB.sp (by omega)) (dg D_X11_setSpeed (i := 12) rfl) ?_
  refine lv_icmp_ne (tgt := 29) hx hb (dg D_X11_setSpeed (i := 13) rfl) (by decide) (fun c22 => ?_) (fun c22 => ?_)
  · refine lv_aload_n hx hb (dg D_X11_setSpeed (i := 16) rfl) rfl (lv_at hl 0 rfl) ?_
    refine callVv X hW hS hR (c_X11_remember (I := I) σ β q k U nw (by first | assumption | omega | decide | exact hP.1) (by first | assumption | omega | decide | exact hP.1) (by first | assumption | omega | decide | exact hP.1) (by first | assumption | omega | decide | exact hP.1) (by first | assumption | omega | decide | exact hP.1) (by first | assumption | omega | decide | exact hP.1) (by first | assumption | omega | decide | exact hP.1) (by first | assumption | omega | decide | exact hP.1)) (by decide) UVX11_remember LK_X11_254 rfl (by decide) rfl rfl rfl (Nat.le_of_ble_eq_true rfl) hl hcs (dg D_X11_setSpeed (i := 17) rfl) (fun I30 L1 R1 H locs hq hW hS => ?_)
    obtain ⟨hT30, hp30_0, rfl, rfl⟩ := hq
    have hF : Fr (SEd β q) I I30 := Fr.tr hF hT30 (by intro a j h; simp only [SHk, SEd, Bool.or_eq_true, Bool.and_eq_true, beq_iff_eq, decide_eq_true_eq] at h ⊢; omega)
    have hB : BrAt I30 β σ := BrAt.fr hB hT30 (fun a j h1 h2 => Bool.eq_false_iff.mpr (fun h => by simp only [SHk, Bool.or_eq_true, Bool.and_eq_true, beq_iff_eq, decide_eq_true_eq] at h; omega))
    have hP : PlAt I30 q σ := PlAt.fr hP hT30 (fun a j h1 h2 => Bool.eq_false_iff.mpr (fun h => by simp only [SHk, Bool.or_eq_true, Bool.and_eq_true, beq_iff_eq, decide_eq_true_eq] at h; omega))
    have hH : HisN I30 (min 16 (k + 1)) (pushU σ U) ((nw + 1) % 16) := hp30_0
    refine lv_aload_n hx hb (dg D_X11_setSpeed (i := 18) rfl) rfl (lv_at hl 0 rfl) ?_
    refine r_getr (v := β) X hW FI_X11_67 rfl (by decide) rfl hR7 (dg D_X11_setSpeed (i := 19) rfl) ?_
    refine rn_getc (t := β + 7) X hW FN_X11_276 (shB hβ) (ncB0 hβ) rfl (dg D_X11_setSpeed (i := 20) rfl) ?_
    refine lv_iload_n hx hb (dg D_X11_setSpeed (i := 21) rfl) rfl (lv_at hl 1 rfl) ?_
    refine lv_iload_n hx hb (dg D_X11_setSpeed (i := 22) rfl) rfl (lv_at hl 2 rfl) ?_
    refine r_ast (j := jv) (v := w) X hW hS (shB7 hβ) (ncB hβ (by decide)) rfl (by omega) (by omega) (dg D_X11_setSpeed (i := 23) rfl) (fun H locs hW hS => ?_)
    have hF : Fr (SEd β q) I (u2 I30 (β + 7) jv w) := Fr.put hF (SEd_b (by decide))
    have hB : BrAt (u2 I30 (β + 7) jv w) β (upd σ (70 + 2 * jv + 0) w) := BrAt_spd hi hB (by omega)
    have hP : PlAt (u2 I30 (β + 7) jv w) q (upd σ (70 + 2 * jv + 0) w) := PlAt.pu (PlAt_u hi (by omega) hP) (by omega)
    have hH : HisN (u2 I30 (β + 7) jv w) (min 16 (k + 1)) (pushU σ U) ((nw + 1) % 16) := HisN.frI hH fr_u2 (fun a j h1 h2 => in_u2.no (by omega) j)
    obtain ⟨J42, eJ42⟩ : ∃ J, J = u2 I30 (β + 7) jv w := ⟨_, rfl⟩
    rw [← eJ42] at hW hF hB hP hH
    refine lv_aload_n hx hb (dg D_X11_setSpeed (i := 24) rfl) rfl (lv_at hl 0 rfl) ?_
    refine r_getr (v := q) X hW FI_X11_71 rfl (by decide) rfl hR8 (dg D_X11_setSpeed (i := 25) rfl) ?_
    refine callVi X hW hS hR (c_X6_countOverloads (I := J42) (upd σ (70 + 2 * jv + 0) w) β q (Inv_u (by omega) hi) (by first | assumption | omega | decide | exact hP.1) (by first | assumption | omega | decide | exact hP.1) (by first | assumption | omega | decide | exact hP.1) (by first | assumption | omega | decide | exact hP.1) (by first | assumption | omega | decide | exact hP.1)) (by decide) UVX6_countOverloads LK_X11_237 (shP hq) (ncP0 hq) rfl rfl rfl (Nat.le_of_ble_eq_true rfl) hl hcs (dg D_X11_setSpeed (i := 26) rfl) (fun r47 I47 L1 R1 H locs hq hW hS => ?_)
    obtain ⟨rfl, rfl, rfl, rfl⟩ := hq
    exact fin (dg D_X11_setSpeed (i := 27) rfl) (Nat.le_of_ble_eq_true rfl) (Nat.le_of_ble_eq_true rfl) hW hS ⟨⟨hcnd, by unfold spR; rw [tN_nI (show jv < 2 ^ 31 by omega), if_neg (fun z => c22 z.symm)]⟩, hF, EdC.ok (by unfold spO; rw [if_pos (hcnd), tN_nI (show jv < 2 ^ 31 by omega)]; exact if_neg (fun z => c22 z.symm)) hB hP hH, rfl, rfl⟩
  · refine r_ldcw X CK_X11_260 (dg D_X11_setSpeed (i := 14) rfl) ?_
    exact fin (dg D_X11_setSpeed (i := 15) rfl) (Nat.le_of_ble_eq_true rfl) (Nat.le_of_ble_eq_true rfl) hW hS ⟨⟨hcnd, by unfold spR; rw [tN_nI (show jv < 2 ^ 31 by omega), if_pos (by first | exact c22.symm | exact (Classical.not_not.mp c22).symm)]⟩, hF, EdC.no (by unfold spO; rw [if_pos (hcnd), tN_nI (show jv < 2 ^ 31 by omega)]; exact if_pos (by first | exact c22.symm | exact (Classical.not_not.mp c22).symm)) hB hP hH, rfl, rfl⟩

