set_option maxHeartbeats 4000000 in
set_option maxRecDepth 100000 in
theorem c_X11_undo {l : Launch} {G : va_G} {bs : Nat} {cy : Nat → ClassId} {I : CI} {L : CL} {R : CR} (σ : Row) (β : Nat) (q : Nat) (k : Nat) (U : Nat → Row) (nw : Nat) (hi : Inv σ) (hd : DR σ) (hβ : isBr β) (hB : BrAt I β σ) (hq : isPl q) (hP : PlAt I q σ) (hRb : R q 0 = β) (hR7 : R 0 7 = β) (hR8 : R 0 8 = q) (hH : HisN I k U nw) (hSt : ∀ t, t < k → Sta σ (U t) ∧ Inv (U t)) : MTi l G bs cy MX11_undo 6 [.ref (bs + 0)] I L R (fun r I1 L1 R1 => (if k = 0 then NOTF else nI (k - 1)) = r ∧ Fr (STb β q) I I1 ∧ (if k = 0 then BrAt I1 β σ ∧ PlAt I1 q σ ∧ HisN I1 k U nw else BrAt I1 β (U 0) ∧ PlAt I1 q (U 0) ∧ HisN I1 (k - 1) (popU U) ((nw + 15) % 16)) ∧ L = L1 ∧ R = R1) := by
  refine MTi.of (own := RX11) pn_RX11 rfl (Nat.le_of_ble_eq_true rfl) ?_
  intro p e s m args below meth c Qf X hW hS fin ls hl
  have hx := X.1
  have hb := X.2.1
  have hR : RmOK (rmL 6 0 0) 6 := ⟨rfl, rfl⟩
  have hcs : 0 ≤ (rmL 6 0 0).cells ∧ 0 ≤ (rmL 6 0 0).slots := ⟨Nat.zero_le _, Nat.zero_le _⟩
  have hl : lv_has ls 1 [(0, .ref (bs + 0))] := hl
  have hF : Fr (STb β q) I I := Fr.rf
  obtain ⟨hY, hY1, hY12, hLn, hL4, hSn, hS12, hGn, hG5⟩ := id hi
  have hbq := br_pl hβ hq
  have hk16 := hH.1
  refine lv_aload_n hx hb (dg D_X11_undo (i := 0) rfl) rfl (lv_at hl 0 rfl) ?_
  refine r_getc (t := 9) X hW FI_X11_33 rfl (by decide) rfl (dg D_X11_undo (i := 1) rfl) ?_
  refine callVi X hW hS hR (c_X2_isEmpty (I := I) k (hH.2.2.2.1) (by first | assumption | omega | decide | exact hP.1)) (by decide) UVX2_isEmpty LK_X11_291 rfl (by decide) rfl rfl rfl (Nat.le_of_ble_eq_true rfl) hl hcs (dg D_X11_undo (i := 2) rfl) (fun r4 I4 L1 R1 H locs hq hW hS => ?_)
  obtain ⟨rfl, rfl, rfl, rfl⟩ := hq
  refine z_if_eq (tgt := 13) hx hb (dg D_X11_undo (i := 3) rfl) (by decide) (fun c7 => ?_) (fun c7 => ?_)
  · refine lv_aload_n hx hb (dg D_X11_undo (i := 6) rfl) rfl (lv_at hl 0 rfl) ?_
    refine r_getc (t := 9) X hW FI_X11_33 rfl (by decide) rfl (dg D_X11_undo (i := 7) rfl) ?_
    refine lv_aload_n hx hb (dg D_X11_undo (i := 8) rfl) rfl (lv_at hl 0 rfl) ?_
    refine r_getr (v := β) X hW FI_X11_67 rfl (by decide) rfl hR7 (dg D_X11_undo (i := 9) rfl) ?_
    refine lv_aload_n hx hb (dg D_X11_undo (i := 10) rfl) rfl (lv_at hl 0 rfl) ?_
    refine r_getr (v := q) X hW FI_X11_71 rfl (by decide) rfl hR8 (dg D_X11_undo (i := 11) rfl) ?_
    refine callVv X hW hS hR (c_X2_takeBack (I := I) σ β q k U nw (by first | assumption | omega | decide | exact hP.1) (by first | assumption | omega | decide | exact hP.1) (by first | assumption | omega | decide | exact hP.1) (by first | assumption | omega | decide | exact hP.1) (by first | assumption | omega | decide | exact hP.1) (by first | assumption | omega | decide | exact hP.1) (Nat.pos_of_ne_zero (of_decide_eq_false c7)) ((hSt 0 (Nat.pos_of_ne_zero (of_decide_eq_false c7))).1) ((hSt 0 (Nat.pos_of_ne_zero (of_decide_eq_false c7))).2)) (by decide) UVX2_takeBack LK_X11_295 rfl (by decide) rfl rfl rfl (Nat.le_of_ble_eq_true rfl) hl hcs (dg D_X11_undo (i := 12) rfl) (fun I25 L1 R1 H locs hq hW hS => ?_)
    obtain ⟨hT25, hp25_0, hp25_1, hp25_2, rfl, rfl⟩ := hq
    have hF : Fr (STb β q) I I25 := Fr.tr hF hT25 (fun _ _ h => h)
    refine lv_aload_n hx hb (dg D_X11_undo (i := 13) rfl) rfl (lv_at hl 0 rfl) ?_
    refine r_getc (t := 9) X hW FI_X11_33 rfl (by decide) rfl (dg D_X11_undo (i := 14) rfl) ?_
    refine callVi X hW hS hR (c_X2_size (I := I25) (k - 1) (hp25_2.2.2.2.1)) (by decide) UVX2_size LK_X11_299 rfl (by decide) rfl rfl rfl (Nat.le_of_ble_eq_true rfl) hl hcs (dg D_X11_undo (i := 15) rfl) (fun r32 I32 L1 R1 H locs hq hW hS => ?_)
    obtain ⟨rfl, rfl, rfl, rfl⟩ := hq
    exact fin (dg D_X11_undo (i := 16) rfl) hW hS ⟨by rw [if_neg (of_decide_eq_false c7)], hF, by rw [if_neg (of_decide_eq_false c7)]; exact ⟨hp25_0, hp25_1, hp25_2⟩, rfl, rfl⟩
  · refine r_ldc X CK_X11_48 (dg D_X11_undo (i := 4) rfl) ?_
    exact fin (dg D_X11_undo (i := 5) rfl) hW hS ⟨by rw [if_pos (of_decide_eq_true c7)], hF, by rw [if_pos (of_decide_eq_true c7)]; exact ⟨hB, hP, hH⟩, rfl, rfl⟩

