set_option maxHeartbeats 4000000 in
set_option maxRecDepth 100000 in
theorem c_X11_feed {l : Launch} {G : va_G} {bs : Nat} {cy : Nat → ClassId} {I : CI} {L : CL} {R : CR} (n : Nat) (b : Nat → Int32) (va : Int32) (vb : Int32) (vc : Int32) (vd : Int32) (ve : Int32) (hT : TxAt I n b) (hn9 : n ≤ 900) : MTi l G bs cy MX11_feed 2 [.ref (bs + 0), .int va, .int vb, .int vc, .int vd, .int ve] I L R (fun r I1 L1 R1 => (if n + 20 ≤ 900 then nI (n + 20) else FULLI) = r ∧ Fr STx I I1 ∧ (if n + 20 ≤ 900 then TxAt I1 (n + 20) (fdT b n va vb vc vd ve) else TxAt I1 n b) ∧ L = L1 ∧ R = R1) := by
  refine MTi.of (own := RX11) pn_RX11 rfl (Nat.le_of_ble_eq_true rfl) ?_
  intro p e s m args below meth c Qf X hW hS fin ls hl
  have hx := X.1
  have hb := X.2.1
  have hR : RmOK (rmL 2 0 0) 2 := ⟨rfl, rfl⟩
  have hcs : 0 ≤ (rmL 2 0 0).cells ∧ 0 ≤ (rmL 2 0 0).slots := ⟨Nat.zero_le _, Nat.zero_le _⟩
  have hl : lv_has ls 6 [(0, .ref (bs + 0)), (1, .int va), (2, .int vb), (3, .int vc), (4, .int vd), (5, .int ve)] := hl
  have hF : Fr STx I I := Fr.rf
  refine lv_aload_n hx hb (dg D_X11_feed (i := 0) rfl) rfl (lv_at hl 0 rfl) ?_
  refine r_getc (t := 29) X hW FI_X11_63 rfl (by decide) rfl (dg D_X11_feed (i := 1) rfl) ?_
  refine lv_bipush (v := nI 20) hx hb (dg D_X11_feed (i := 2) rfl) (by decide) ?_
  refine callVi X hW hS hR (c_X9_hasRoomFor (I := I) n b 20 (by first | assumption | omega | decide | exact hP.1) (by first | assumption | omega | decide | exact hP.1) (by first | assumption | omega | decide | exact hP.1)) (by decide) UVX9_hasRoomFor LK_X11_90 rfl (by decide) rfl rfl rfl (Nat.le_of_ble_eq_true rfl) hl hcs (dg D_X11_feed (i := 3) rfl) (fun r6 I6 L1 R1 H locs hq hW hS => ?_)
  obtain ⟨rfl, rfl, rfl, rfl⟩ := hq
  refine z_if_ne (tgt := 15) hx hb (dg D_X11_feed (i := 4) rfl) (by decide) (fun c9 => ?_) (fun c9 => ?_)
  · refine lv_aload_n hx hb (dg D_X11_feed (i := 7) rfl) rfl (lv_at hl 0 rfl) ?_
    have hle : n + 20 ≤ 900 := of_decide_eq_true c9
    refine r_getc (t := 29) X hW FI_X11_63 rfl (by decide) rfl (dg D_X11_feed (i := 8) rfl) ?_
    refine lv_iload_n hx hb (dg D_X11_feed (i := 9) rfl) rfl (lv_at hl 1 rfl) ?_
    refine callVv X hW hS hR (c_X9_append (I := I) n b va (hT) (by first | assumption | omega | decide | exact hP.1)) (by decide) UVX9_append LK_X11_95 rfl (by decide) rfl rfl rfl (Nat.le_of_ble_eq_true rfl) hl hcs (dg D_X11_feed (i := 10) rfl) (fun I20 L1 R1 H locs hq hW hS => ?_)
    obtain ⟨hT20, hp20_0, rfl, rfl⟩ := hq
    have hF : Fr STx I I20 := Fr.tr hF hT20 (fun _ _ h => h)
    refine lv_aload_n hx hb (dg D_X11_feed (i := 11) rfl) rfl (lv_at hl 0 rfl) ?_
    refine r_getc (t := 29) X hW FI_X11_63 rfl (by decide) rfl (dg D_X11_feed (i := 12) rfl) ?_
    refine lv_iload_n hx hb (dg D_X11_feed (i := 13) rfl) rfl (lv_at hl 2 rfl) ?_
    refine callVv X hW hS hR (c_X9_append (I := I20) (n + 4) (ap4 (b) (n) va) vb (hp20_0) (by first | assumption | omega | decide | exact hP.1)) (by decide) UVX9_append LK_X11_95 rfl (by decide) rfl rfl rfl (Nat.le_of_ble_eq_true rfl) hl hcs (dg D_X11_feed (i := 14) rfl) (fun I28 L1 R1 H locs hq hW hS => ?_)
    obtain ⟨hT28, hp28_0, rfl, rfl⟩ := hq
    have hF : Fr STx I I28 := Fr.tr hF hT28 (fun _ _ h => h)
    refine lv_aload_n hx hb (dg D_X11_feed (i := 15) rfl) rfl (lv_at hl 0 rfl) ?_
    refine r_getc (t := 29) X hW FI_X11_63 rfl (by decide) rfl (dg D_X11_feed (i := 16) rfl) ?_
    refine lv_iload_n hx hb (dg D_X11_feed (i := 17) rfl) rfl (lv_at hl 3 rfl) ?_
    refine callVv X hW hS hR (c_X9_append (I := I28) (n + 4 + 4) (ap4 (ap4 (b) (n) va) (n + 4) vb) vc (hp28_0) (by first | assumption | omega | decide | exact hP.1)) (by decide) UVX9_append LK_X11_95 rfl (by decide) rfl rfl rfl (Nat.le_of_ble_eq_true rfl) hl hcs (dg D_X11_feed (i := 18) rfl) (fun I36 L1 R1 H locs hq hW hS => ?_)
    obtain ⟨hT36, hp36_0, rfl, rfl⟩ := hq
    have hF : Fr STx I I36 := Fr.tr hF hT36 (fun _ _ h => h)
    refine lv_aload_n hx hb (dg D_X11_feed (i := 19) rfl) rfl (lv_at hl 0 rfl) ?_
    refine r_getc (t := 29) X hW FI_X11_63 rfl (by decide) rfl (dg D_X11_feed (i := 20) rfl) ?_
    refine lv_iload hx hb (dg D_X11_feed (i := 21) rfl) (lv_at hl 4 rfl) ?_
    refine callVv X hW hS hR (c_X9_append (I := I36) (n + 4 + 4 + 4) (ap4 (ap4 (ap4 (b) (n) va) (n + 4) vb) (n + 4 + 4) vc) vd (hp36_0) (by first | assumption | omega | decide | exact hP.1)) (by decide) UVX9_append LK_X11_95 rfl (by decide) rfl rfl rfl (Nat.le_of_ble_eq_true rfl) hl hcs (dg D_X11_feed (i := 22) rfl) (fun I45 L1 R1 H locs hq hW hS => ?_)
    obtain ⟨hT45, hp45_0, rfl, rfl⟩ := hq
    have hF : Fr STx I I45 := Fr.tr hF hT45 (fun _ _ h => h)
    refine lv_aload_n hx hb (dg D_X11_feed (i := 23) rfl) rfl (lv_at hl 0 rfl) ?_
    refine r_getc (t := 29) X hW FI_X11_63 rfl (by decide) rfl (dg D_X11_feed (i := 24) rfl) ?_
    refine lv_iload hx hb (dg D_X11_feed (i := 25) rfl) (lv_at hl 5 rfl) ?_
    refine callVv X hW hS hR (c_X9_append (I := I45) (n + 4 + 4 + 4 + 4) (ap4 (ap4 (ap4 (ap4 (b) (n) va) (n + 4) vb) (n + 4 + 4) vc) (n + 4 + 4 + 4) vd) ve (hp45_0) (by first | assumption | omega | decide | exact hP.1)) (by decide) UVX9_append LK_X11_95 rfl (by decide) rfl rfl rfl (Nat.le_of_ble_eq_true rfl) hl hcs (dg D_X11_feed (i := 26) rfl) (fun I54 L1 R1 H locs hq hW hS => ?_)
    obtain ⟨hT54, hp54_0, rfl, rfl⟩ := hq
    have hF : Fr STx I I54 := Fr.tr hF hT54 (fun _ _ h => h)
    refine lv_aload_n hx hb (dg D_X11_feed (i := 27) rfl) rfl (lv_at hl 0 rfl) ?_
    refine r_getc (t := 29) X hW FI_X11_63 rfl (by decide) rfl (dg D_X11_feed (i := 28) rfl) ?_
    refine callVi X hW hS hR (c_X9_size (I := I54) (n + 20) (fdT b n va vb vc vd ve) (hp54_0)) (by decide) UVX9_size LK_X11_99 rfl (by decide) rfl rfl rfl (Nat.le_of_ble_eq_true rfl) hl hcs (dg D_X11_feed (i := 29) rfl) (fun r61 I61 L1 R1 H locs hq hW hS => ?_)
    obtain ⟨rfl, rfl, rfl, rfl⟩ := hq
    exact fin (dg D_X11_feed (i := 30) rfl) hW hS ⟨by rw [if_pos (of_decide_eq_true c9)], hF, by rw [if_pos (of_decide_eq_true c9)]; exact hp54_0, rfl, rfl⟩
  · refine r_ldc X CK_X11_94 (dg D_X11_feed (i := 5) rfl) ?_
    exact fin (dg D_X11_feed (i := 6) rfl) hW hS ⟨by rw [if_neg (of_decide_eq_false c9)], hF, by rw [if_neg (of_decide_eq_false c9)]; exact hT, rfl, rfl⟩

set_option maxHeartbeats 4000000 in
set_option maxRecDepth 100000 in
theorem c_X11_errorKind {l : Launch} {G : va_G} {bs : Nat} {cy : Nat → ClassId} {I : CI} {L : CL} {R : CR} (v : Int32) (hv : I 0 11 = v) : MTi l G bs cy MX11_errorKind 1 [.ref (bs + 0)] I L R (fun r I1 L1 R1 => v = r ∧ I = I1 ∧ L = L1 ∧ R = R1) := by
  refine MTi.of (own := RX11) pn_RX11 rfl (Nat.le_of_ble_eq_true rfl) ?_
  intro p e s m args below meth c Qf X hW hS fin ls hl
  have hx := X.1
  have hb := X.2.1
  have hR : RmOK (rmL 1 0 0) 1 := ⟨rfl, rfl⟩
  have hcs : 0 ≤ (rmL 1 0 0).cells ∧ 0 ≤ (rmL 1 0 0).slots := ⟨Nat.zero_le _, Nat.zero_le _⟩
  have hl : lv_has ls 1 [(0, .ref (bs + 0))] := hl
  refine lv_aload_n hx hb (dg D_X11_errorKind (i := 0) rfl) rfl (lv_at hl 0 rfl) ?_
  refine r_geti (v := v) X hW FI_X11_44 rfl (by decide) rfl hv (dg D_X11_errorKind (i := 1) rfl) ?_
  exact fin (dg D_X11_errorKind (i := 2) rfl) hW hS ⟨rfl, rfl, rfl, rfl⟩

