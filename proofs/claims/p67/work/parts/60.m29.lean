set_option maxHeartbeats 4000000 in
set_option maxRecDepth 100000 in
theorem c_X2_clear {l : Launch} {G : va_G} {bs : Nat} {cy : Nat → ClassId} {I : CI} {L : CL} {R : CR} : MTv l G bs cy MX2_clear 1 [.ref (bs + 9)] I L R (fun I1 L1 R1 => Fr SHk I I1 ∧ I1 9 2 = nI 0 ∧ I1 9 1 = I 9 1 ∧ L = L1 ∧ R = R1) := by
  refine MTv.of (own := RX2) pn_RX2 rfl (Nat.le_of_ble_eq_true rfl) ?_
  intro p e s m args below meth c Qf X hW hS fin ls hl
  have hx := X.1
  have hb := X.2.1
  have hR : RmOK (rmL 1 0 0) 1 := ⟨rfl, rfl⟩
  have hcs : 0 ≤ (rmL 1 0 0).cells ∧ 0 ≤ (rmL 1 0 0).slots := ⟨Nat.zero_le _, Nat.zero_le _⟩
  have hl : lv_has ls 1 [(0, .ref (bs + 9))] := hl
  have hF : Fr SHk I I := Fr.rf
  refine lv_aload_n hx hb (dg D_X2_clear (i := 0) rfl) rfl (lv_at hl 0 rfl) ?_
  refine n_iconst (a := 0) hx hb (dg D_X2_clear (i := 1) rfl) rfl ?_
  refine r_puti (v := nI 0) (ty := .int) X hW hS FI_X2_22 rfl (by decide) rfl rfl (by decide +kernel) rfl rfl (dg D_X2_clear (i := 2) rfl) (fun H locs hW hS => ?_)
  have hF : Fr SHk I (u2 I 9 2 (nI 0)) := Fr.put hF rfl
  obtain ⟨J2, eJ2⟩ : ∃ J, J = u2 I 9 2 (nI 0) := ⟨_, rfl⟩
  rw [← eJ2] at hW hF
  have h92 : J2 9 2 = nI 0 := by rw [eJ2]; exact u2_at
  exact fin (dg D_X2_clear (i := 3) rfl) hW hS ⟨hF, h92, by rw [eJ2, u2_off (Or.inr (by decide))], rfl, rfl⟩

set_option maxHeartbeats 4000000 in
set_option maxRecDepth 100000 in
theorem c_X2_size {l : Launch} {G : va_G} {bs : Nat} {cy : Nat → ClassId} {I : CI} {L : CL} {R : CR} (k : Nat) (h92 : I 9 2 = nI k) : MTi l G bs cy MX2_size 1 [.ref (bs + 9)] I L R (fun r I1 L1 R1 => nI k = r ∧ I = I1 ∧ L = L1 ∧ R = R1) := by
  refine MTi.of (own := RX2) pn_RX2 rfl (Nat.le_of_ble_eq_true rfl) ?_
  intro p e s m args below meth c Qf X hW hS fin ls hl
  have hx := X.1
  have hb := X.2.1
  have hR : RmOK (rmL 1 0 0) 1 := ⟨rfl, rfl⟩
  have hcs : 0 ≤ (rmL 1 0 0).cells ∧ 0 ≤ (rmL 1 0 0).slots := ⟨Nat.zero_le _, Nat.zero_le _⟩
  have hl : lv_has ls 1 [(0, .ref (bs + 9))] := hl
  refine lv_aload_n hx hb (dg D_X2_size (i := 0) rfl) rfl (lv_at hl 0 rfl) ?_
  refine r_geti (v := nI k) X hW FI_X2_22 rfl (by decide) rfl h92 (dg D_X2_size (i := 1) rfl) ?_
  exact fin (dg D_X2_size (i := 2) rfl) hW hS ⟨rfl, rfl, rfl, rfl⟩

set_option maxHeartbeats 4000000 in
set_option maxRecDepth 100000 in
theorem c_X2_isEmpty {l : Launch} {G : va_G} {bs : Nat} {cy : Nat → ClassId} {I : CI} {L : CL} {R : CR} (k : Nat) (h92 : I 9 2 = nI k) (hk16 : k ≤ 16) : MTi l G bs cy MX2_isEmpty 1 [.ref (bs + 9)] I L R (fun r I1 L1 R1 => bI (decide (k = 0)) = r ∧ I = I1 ∧ L = L1 ∧ R = R1) := by
  refine MTz.of (own := RX2) pn_RX2 rfl (Nat.le_of_ble_eq_true rfl) ?_
  intro p e s m args below meth c Qf X hW hS fin ls hl
  have hx := X.1
  have hb := X.2.1
  have hR : RmOK (rmL 1 0 0) 1 := ⟨rfl, rfl⟩
  have hcs : 0 ≤ (rmL 1 0 0).cells ∧ 0 ≤ (rmL 1 0 0).slots := ⟨Nat.zero_le _, Nat.zero_le _⟩
  have hl : lv_has ls 1 [(0, .ref (bs + 9))] := hl
  refine lv_aload_n hx hb (dg D_X2_isEmpty (i := 0) rfl) rfl (lv_at hl 0 rfl) ?_
  refine r_geti (v := nI k) X hW FI_X2_22 rfl (by decide) rfl h92 (dg D_X2_isEmpty (i := 1) rfl) ?_
  refine n_if_ne (tgt := 11) hx hb (by omega) (dg D_X2_isEmpty (i := 2) rfl) (by decide) (fun c4 => ?_) (fun c4 => ?_)
  · refine n_iconst (a := 0) hx hb (dg D_X2_isEmpty (i := 5) rfl) rfl ?_
    exact fin (dg D_X2_isEmpty (i := 6) rfl) hW hS (show _ = bI false from rfl) ⟨congrArg bI (decide_eq_false c4), rfl, rfl, rfl⟩
  · refine n_iconst (a := 1) hx hb (dg D_X2_isEmpty (i := 3) rfl) rfl ?_
    refine lv_goto (tgt := 12) hx hb (dg D_X2_isEmpty (i := 4) rfl) (by decide) ?_
    exact fin (dg D_X2_isEmpty (i := 6) rfl) hW hS (show _ = bI true from rfl) ⟨congrArg bI (decide_eq_true c4), rfl, rfl, rfl⟩

set_option maxHeartbeats 4000000 in
set_option maxRecDepth 100000 in
theorem c_X2_keep {l : Launch} {G : va_G} {bs : Nat} {cy : Nat → ClassId} {I : CI} {L : CL} {R : CR} (σ : Row) (β : Nat) (q : Nat) (k : Nat) (U : Nat → Row) (nw : Nat) (hi : Inv σ) (hβ : isBr β) (hB : BrAt I β σ) (hq : isPl q) (hP : PlAt I q σ) (hH : HisN I k U nw) : MTv l G bs cy MX2_keep 2 [.ref (bs + 9), .ref (bs + β), .ref (bs + q)] I L R (fun I1 L1 R1 => Fr SHk I I1 ∧ HisN I1 (min 16 (k + 1)) (pushU σ U) ((nw + 1) % 16) ∧ L = L1 ∧ R = R1) := by
  refine MTv.of (own := RX2) pn_RX2 rfl (Nat.le_of_ble_eq_true rfl) ?_
  intro p e s m args below meth c Qf X hW hS fin ls hl
  have hx := X.1
  have hb := X.2.1
  have hR : RmOK (rmL 2 0 0) 2 := ⟨rfl, rfl⟩
  have hcs : 0 ≤ (rmL 2 0 0).cells ∧ 0 ≤ (rmL 2 0 0).slots := ⟨Nat.zero_le _, Nat.zero_le _⟩
  have hl : lv_has ls 3 [(0, .ref (bs + 9)), (1, .ref (bs + β)), (2, .ref (bs + q))] := hl
  have hF : Fr SHk I I := Fr.rf
  obtain ⟨hY, hY1, hY12, hLn, hL4, hSn, hS12, hGn, hG5⟩ := id hi
  have hbq := br_pl hβ hq
  obtain ⟨hk16, hnw, h91, h92, hHs0⟩ := hH
  have hHs : ∀ t, t < k → t < 15 → Svd (I (11 + (nw + 16 - t) % 16)) (U t) := fun t h1 _ => hHs0 t h1
  refine lv_aload_n hx hb (dg D_X2_keep (i := 0) rfl) rfl (lv_at hl 0 rfl) ?_
  refine lv_aload_n hx hb (dg D_X2_keep (i := 1) rfl) rfl (lv_at hl 0 rfl) ?_
  refine r_geti (v := nI nw) X hW FI_X2_18 rfl (by decide) rfl h91 (dg D_X2_keep (i := 2) rfl) ?_
  refine n_iconst (a := 1) hx hb (dg D_X2_keep (i := 3) rfl) rfl ?_
  refine n_iadd hx hb (dg D_X2_keep (i := 4) rfl) ?_
  refine lv_bipush (v := nI 16) hx hb (dg D_X2_keep (i := 5) rfl) (by decide) ?_
  refine n_icmp_ge (tgt := 21) hx hb (by omega) (by omega) (dg D_X2_keep (i := 6) rfl) (by decide) (fun c9 => ?_) (fun c9 => ?_)
  · refine n_iconst (a := 0) hx hb (dg D_X2_keep (i := 12) rfl) rfl ?_
    refine r_puti (v := nI 0) (ty := .int) X hW hS FI_X2_18 rfl (by decide) rfl rfl (by decide +kernel) rfl rfl (dg D_X2_keep (i := 13) rfl) (fun H locs hW hS => ?_)
    have hF : Fr SHk I (u2 I 9 1 (nI 0)) := Fr.put hF rfl
    have hB : BrAt (u2 I 9 1 (nI 0)) β σ := BrAt.pu hB (by omega)
    have hP : PlAt (u2 I 9 1 (nI 0)) q σ := PlAt.pu hP (by omega)
    have hHs : ∀ t, t < k → t < 15 → Svd ((u2 I 9 1 (nI 0)) (11 + (nw + 16 - t) % 16)) (U t) := fun t h1 h2 => by rw [u2_ne (by omega)]; exact hHs t h1 h2
    obtain ⟨J22, eJ22⟩ : ∃ J, J = u2 I 9 1 (nI 0) := ⟨_, rfl⟩
    rw [← eJ22] at hW hF hB hP hHs
    have h91 : J22 9 1 = nI 0 := by rw [eJ22]; exact u2_at
    have h92 : J22 9 2 = nI k := by rw [eJ22, u2_off (Or.inr (by decide))]; exact h92
    refine lv_aload_n hx hb (dg D_X2_keep (i := 14) rfl) rfl (lv_at hl 1 rfl) ?_
    refine lv_aload_n hx hb (dg D_X2_keep (i := 15) rfl) rfl (lv_at hl 0 rfl) ?_
    refine r_getc (t := 10) X hW FI_X2_15 rfl (by decide) rfl (dg D_X2_keep (i := 16) rfl) ?_
    refine lv_aload_n hx hb (dg D_X2_keep (i := 17) rfl) rfl (lv_at hl 0 rfl) ?_
    refine r_geti (v := nI 0) X hW FI_X2_18 rfl (by decide) rfl h91 (dg D_X2_keep (i := 18) rfl) ?_
    refine r_aald (j := 0) X hW rfl (by decide) rfl (by omega) (by decide) (dg D_X2_keep (i := 19) rfl) ?_
    refine callVv X hW hS hR (c_X1_saveTo (I := J22) σ β (11 + 0) (by first | assumption | omega | decide | exact hP.1) (by first | assumption | omega | decide | exact hP.1) (by first | assumption | omega | decide | exact hP.1) (shH (by omega)) (ncH (by omega)) (by omega)) (by decide) UVX1_saveTo LK_X2_25 (shB hβ) (ncB0 hβ) rfl rfl rfl (Nat.le_of_ble_eq_true rfl) hl hcs (dg D_X2_keep (i := 20) rfl) (fun I35 L1 R1 H locs hq hW hS => ?_)
    obtain ⟨hT35, hp35_0, hp35_1, rfl, rfl⟩ := hq
    have hF : Fr SHk I I35 := Fr.tr hF hT35 (by intro a j h; have h := in_SC a j h; exact decide_eq_true (by omega))
    have hB : BrAt I35 β σ := BrAt.fr hB hT35 (fun a j h1 h2 => Bool.eq_false_iff.mpr (fun h => by simp only [SC, Bool.or_eq_true, Bool.and_eq_true, beq_iff_eq, decide_eq_true_eq] at h; omega))
    have hP : PlAt I35 q σ := PlAt.fr hP hT35 (fun a j h1 h2 => Bool.eq_false_iff.mpr (fun h => by simp only [SC, Bool.or_eq_true, Bool.and_eq_true, beq_iff_eq, decide_eq_true_eq] at h; omega))
    have hHs : ∀ t, t < k → t < 15 → Svd (I35 (11 + (nw + 16 - t) % 16)) (U t) := fun t h1 h2 => by rw [Fr.row hT35 (fun j => (Bool.eq_false_iff.mpr (fun h => by simp only [SC, Bool.or_eq_true, Bool.and_eq_true, beq_iff_eq, decide_eq_true_eq] at h; omega)))]; exact hHs t h1 h2
    have h91 : I35 9 1 = nI 0 := (hT35 9 1 (SC_ne (by omega))).trans h91
    have h92 : I35 9 2 = nI k := (hT35 9 2 (SC_ne (by omega))).trans h92
    refine lv_aload_n hx hb (dg D_X2_keep (i := 21) rfl) rfl (lv_at hl 2 rfl) ?_
    refine lv_aload_n hx hb (dg D_X2_keep (i := 22) rfl) rfl (lv_at hl 0 rfl) ?_
    refine r_getc (t := 10) X hW FI_X2_15 rfl (by decide) rfl (dg D_X2_keep (i := 23) rfl) ?_
    refine lv_aload_n hx hb (dg D_X2_keep (i := 24) rfl) rfl (lv_at hl 0 rfl) ?_
    refine r_geti (v := nI 0) X hW FI_X2_18 rfl (by decide) rfl h91 (dg D_X2_keep (i := 25) rfl) ?_
    refine r_aald (j := 0) X hW rfl (by decide) rfl (by omega) (by decide) (dg D_X2_keep (i := 26) rfl) ?_
    refine callVv X hW hS hR (c_X6_saveTo (I := I35) σ q (11 + 0) (by first | assumption | omega | decide | exact hP.1) (by first | assumption | omega | decide | exact hP.1) (shH (by omega)) (ncH (by omega)) (by omega)) (by decide) UVX6_saveTo LK_X2_29 (shP hq) (ncP0 hq) rfl rfl rfl (Nat.le_of_ble_eq_true rfl) hl hcs (dg D_X2_keep (i := 27) rfl) (fun I48 L1 R1 H locs hq hW hS => ?_)
    obtain ⟨hT48, hp48_0, hp48_1, rfl, rfl⟩ := hq
    have hF : Fr SHk I I48 := Fr.tr hF hT48 (by intro a j h; have h := in_SC a j h; exact decide_eq_true (by omega))
    have hB : BrAt I48 β σ := BrAt.fr hB hT48 (fun a j h1 h2 => Bool.eq_false_iff.mpr (fun h => by simp only [SC, Bool.or_eq_true, Bool.and_eq_true, beq_iff_eq, decide_eq_true_eq] at h; omega))
    have hP : PlAt I48 q σ := PlAt.fr hP hT48 (fun a j h1 h2 => Bool.eq_false_iff.mpr (fun h => by simp only [SC, Bool.or_eq_true, Bool.and_eq_true, beq_iff_eq, decide_eq_true_eq] at h; omega))
    have hHs : ∀ t, t < k → t < 15 → Svd (I48 (11 + (nw + 16 - t) % 16)) (U t) := fun t h1 h2 => by rw [Fr.row hT48 (fun j => (Bool.eq_false_iff.mpr (fun h => by simp only [SC, Bool.or_eq_true, Bool.and_eq_true, beq_iff_eq, decide_eq_true_eq] at h; omega)))]; exact hHs t h1 h2
    have h91 : I48 9 1 = nI 0 := (hT48 9 1 (SC_ne (by omega))).trans h91
    have h92 : I48 9 2 = nI k := (hT48 9 2 (SC_ne (by omega))).trans h92
    have hSv9 : Svd (I48 (11 + 0)) σ := ⟨SvB_congr hi hp48_1 hp35_0, hp48_0⟩
    refine lv_aload_n hx hb (dg D_X2_keep (i := 28) rfl) rfl (lv_at hl 0 rfl) ?_
    refine lv_bipush (v := nI 16) hx hb (dg D_X2_keep (i := 29) rfl) (by decide) ?_
    refine lv_aload_n hx hb (dg D_X2_keep (i := 30) rfl) rfl (lv_at hl 0 rfl) ?_
    refine r_geti (v := nI k) X hW FI_X2_22 rfl (by decide) rfl h92 (dg D_X2_keep (i := 31) rfl) ?_
    refine n_iconst (a := 1) hx hb (dg D_X2_keep (i := 32) rfl) rfl ?_
    refine n_iadd hx hb (dg D_X2_keep (i := 33) rfl) ?_
    refine r_min (v := nI (min 16 (k + 1))) X hR (by decide) LK_X2_30 (Nat.le_of_ble_eq_true rfl) hl hcs (mn_N (a := 16) (b := k + 1) (by omega) (by omega)) (dg D_X2_keep (i := 34) rfl) ?_
    refine r_puti (v := nI (min 16 (k + 1))) (ty := .int) X hW hS FI_X2_22 rfl (by decide) rfl rfl (by decide +kernel) rfl rfl (dg D_X2_keep (i := 35) rfl) (fun H locs hW hS => ?_)
    have hF : Fr SHk I (u2 I48 9 2 (nI (min 16 (k + 1)))) := Fr.put hF rfl
    have hB : BrAt (u2 I48 9 2 (nI (min 16 (k + 1)))) β σ := BrAt.pu hB (by omega)
    have hP : PlAt (u2 I48 9 2 (nI (min 16 (k + 1)))) q σ := PlAt.pu hP (by omega)
    have hHs : ∀ t, t < k → t < 15 → Svd ((u2 I48 9 2 (nI (min 16 (k + 1)))) (11 + (nw + 16 - t) % 16)) (U t) := fun t h1 h2 => by rw [u2_ne (by omega)]; exact hHs t h1 h2
    have hSv9 : Svd ((u2 I48 9 2 (nI (min 16 (k + 1)))) (11 + 0)) σ := by rw [u2_ne (by omega)]; exact hSv9
    obtain ⟨J63, eJ63⟩ : ∃ J, J = u2 I48 9 2 (nI (min 16 (k + 1))) := ⟨_, rfl⟩
    rw [← eJ63] at hW hF hB hP hHs hSv9
    have h91 : J63 9 1 = nI 0 := by rw [eJ63, u2_off (Or.inr (by decide))]; exact h91
    have h92 : J63 9 2 = nI (min 16 (k + 1)) := by rw [eJ63]; exact u2_at
    exact fin (dg D_X2_keep (i := 36) rfl) hW hS ⟨hF, ⟨by omega, by omega, by rw [h91]; exact congrArg nI (by omega), h92, fun t ht => by
      cases t with
      | zero => rw [show (nw + 1) % 16 + 16 - 0 = (nw + 1) % 16 + 16 by omega, show ((nw + 1) % 16 + 16) % 16 = 0 by omega]; exact hSv9
      | succ t => rw [show ((nw + 1) % 16 + 16 - (t + 1)) % 16 = (nw + 16 - t) % 16 by omega]; exact hHs t (by omega) (by omega)⟩, rfl, rfl⟩
  · refine lv_aload_n hx hb (dg D_X2_keep (i := 7) rfl) rfl (lv_at hl 0 rfl) ?_
    refine r_geti (v := nI nw) X hW FI_X2_18 rfl (by decide) rfl h91 (dg D_X2_keep (i := 8) rfl) ?_
    refine n_iconst (a := 1) hx hb (dg D_X2_keep (i := 9) rfl) rfl ?_
    refine n_iadd hx hb (dg D_X2_keep (i := 10) rfl) ?_
    refine lv_goto (tgt := 22) hx hb (dg D_X2_keep (i := 11) rfl) (by decide) ?_
    refine r_puti (v := nI (nw + 1)) (ty := .int) X hW hS FI_X2_18 rfl (by decide) rfl rfl (by decide +kernel) rfl rfl (dg D_X2_keep (i := 13) rfl) (fun H locs hW hS => ?_)
    have hF : Fr SHk I (u2 I 9 1 (nI (nw + 1))) := Fr.put hF rfl
    have hB : BrAt (u2 I 9 1 (nI (nw + 1))) β σ := BrAt.pu hB (by omega)
    have hP : PlAt (u2 I 9 1 (nI (nw + 1))) q σ := PlAt.pu hP (by omega)
    have hHs : ∀ t, t < k → t < 15 → Svd ((u2 I 9 1 (nI (nw + 1))) (11 + (nw + 16 - t) % 16)) (U t) := fun t h1 h2 => by rw [u2_ne (by omega)]; exact hHs t h1 h2
    obtain ⟨J22, eJ22⟩ : ∃ J, J = u2 I 9 1 (nI (nw + 1)) := ⟨_, rfl⟩
    rw [← eJ22] at hW hF hB hP hHs
    have h91 : J22 9 1 = nI (nw + 1) := by rw [eJ22]; exact u2_at
    have h92 : J22 9 2 = nI k := by rw [eJ22, u2_off (Or.inr (by decide))]; exact h92
    refine lv_aload_n hx hb (dg D_X2_keep (i := 14) rfl) rfl (lv_at hl 1 rfl) ?_
    refine lv_aload_n hx hb (dg D_X2_keep (i := 15) rfl) rfl (lv_at hl 0 rfl) ?_
    refine r_getc (t := 10) X hW FI_X2_15 rfl (by decide) rfl (dg D_X2_keep (i := 16) rfl) ?_
    refine lv_aload_n hx hb (dg D_X2_keep (i := 17) rfl) rfl (lv_at hl 0 rfl) ?_
    refine r_geti (v := nI (nw + 1)) X hW FI_X2_18 rfl (by decide) rfl h91 (dg D_X2_keep (i := 18) rfl) ?_
    refine r_aald (j := nw + 1) X hW rfl (by decide) rfl (by omega) (by decide) (dg D_X2_keep (i := 19) rfl) ?_
    refine callVv X hW hS hR (c_X1_saveTo (I := J22) σ β (11 + (nw + 1)) (by first | assumption | omega | decide | exact hP.1) (by first | assumption | omega | decide | exact hP.1) (by first | assumption | omega | decide | exact hP.1) (shH (by omega)) (ncH (by omega)) (by omega)) (by decide) UVX1_saveTo LK_X2_25 (shB hβ) (ncB0 hβ) rfl rfl rfl (Nat.le_of_ble_eq_true rfl) hl hcs (dg D_X2_keep (i := 20) rfl) (fun I35 L1 R1 H locs hq hW hS => ?_)
    obtain ⟨hT35, hp35_0, hp35_1, rfl, rfl⟩ := hq
    have hF : Fr SHk I I35 := Fr.tr hF hT35 (by intro a j h; have h := in_SC a j h; exact decide_eq_true (by omega))
    have hB : BrAt I35 β σ := BrAt.fr hB hT35 (fun a j h1 h2 => Bool.eq_false_iff.mpr (fun h => by simp only [SC, Bool.or_eq_true, Bool.and_eq_true, beq_iff_eq, decide_eq_true_eq] at h; omega))
    have hP : PlAt I35 q σ := PlAt.fr hP hT35 (fun a j h1 h2 => Bool.eq_false_iff.mpr (fun h => by simp only [SC, Bool.or_eq_true, Bool.and_eq_true, beq_iff_eq, decide_eq_true_eq] at h; omega))
    have hHs : ∀ t, t < k → t < 15 → Svd (I35 (11 + (nw + 16 - t) % 16)) (U t) := fun t h1 h2 => by rw [Fr.row hT35 (fun j => (Bool.eq_false_iff.mpr (fun h => by simp only [SC, Bool.or_eq_true, Bool.and_eq_true, beq_iff_eq, decide_eq_true_eq] at h; omega)))]; exact hHs t h1 h2
    have h91 : I35 9 1 = nI (nw + 1) := (hT35 9 1 (SC_ne (by omega))).trans h91
    have h92 : I35 9 2 = nI k := (hT35 9 2 (SC_ne (by omega))).trans h92
    refine lv_aload_n hx hb (dg D_X2_keep (i := 21) rfl) rfl (lv_at hl 2 rfl) ?_
    refine lv_aload_n hx hb (dg D_X2_keep (i := 22) rfl) rfl (lv_at hl 0 rfl) ?_
    refine r_getc (t := 10) X hW FI_X2_15 rfl (by decide) rfl (dg D_X2_keep (i := 23) rfl) ?_
    refine lv_aload_n hx hb (dg D_X2_keep (i := 24) rfl) rfl (lv_at hl 0 rfl) ?_
    refine r_geti (v := nI (nw + 1)) X hW FI_X2_18 rfl (by decide) rfl h91 (dg D_X2_keep (i := 25) rfl) ?_
    refine r_aald (j := nw + 1) X hW rfl (by decide) rfl (by omega) (by decide) (dg D_X2_keep (i := 26) rfl) ?_
    refine callVv X hW hS hR (c_X6_saveTo (I := I35) σ q (11 + (nw + 1)) (by first | assumption | omega | decide | exact hP.1) (by first | assumption | omega | decide | exact hP.1) (shH (by omega)) (ncH (by omega)) (by omega)) (by decide) UVX6_saveTo LK_X2_29 (shP hq) (ncP0 hq) rfl rfl rfl (Nat.le_of_ble_eq_true rfl) hl hcs (dg D_X2_keep (i := 27) rfl) (fun I48 L1 R1 H locs hq hW hS => ?_)
    obtain ⟨hT48, hp48_0, hp48_1, rfl, rfl⟩ := hq
    have hF : Fr SHk I I48 := Fr.tr hF hT48 (by intro a j h; have h := in_SC a j h; exact decide_eq_true (by omega))
    have hB : BrAt I48 β σ := BrAt.fr hB hT48 (fun a j h1 h2 => Bool.eq_false_iff.mpr (fun h => by simp only [SC, Bool.or_eq_true, Bool.and_eq_true, beq_iff_eq, decide_eq_true_eq] at h; omega))
    have hP : PlAt I48 q σ := PlAt.fr hP hT48 (fun a j h1 h2 => Bool.eq_false_iff.mpr (fun h => by simp only [SC, Bool.or_eq_true, Bool.and_eq_true, beq_iff_eq, decide_eq_true_eq] at h; omega))
    have hHs : ∀ t, t < k → t < 15 → Svd (I48 (11 + (nw + 16 - t) % 16)) (U t) := fun t h1 h2 => by rw [Fr.row hT48 (fun j => (Bool.eq_false_iff.mpr (fun h => by simp only [SC, Bool.or_eq_true, Bool.and_eq_true, beq_iff_eq, decide_eq_true_eq] at h; omega)))]; exact hHs t h1 h2
    have h91 : I48 9 1 = nI (nw + 1) := (hT48 9 1 (SC_ne (by omega))).trans h91
    have h92 : I48 9 2 = nI k := (hT48 9 2 (SC_ne (by omega))).trans h92
    have hSv9 : Svd (I48 (11 + (nw + 1))) σ := ⟨SvB_congr hi hp48_1 hp35_0, hp48_0⟩
    refine lv_aload_n hx hb (dg D_X2_keep (i := 28) rfl) rfl (lv_at hl 0 rfl) ?_
    refine lv_bipush (v := nI 16) hx hb (dg D_X2_keep (i := 29) rfl) (by decide) ?_
    refine lv_aload_n hx hb (dg D_X2_keep (i := 30) rfl) rfl (lv_at hl 0 rfl) ?_
    refine r_geti (v := nI k) X hW FI_X2_22 rfl (by decide) rfl h92 (dg D_X2_keep (i := 31) rfl) ?_
    refine n_iconst (a := 1) hx hb (dg D_X2_keep (i := 32) rfl) rfl ?_
    refine n_iadd hx hb (dg D_X2_keep (i := 33) rfl) ?_
    refine r_min (v := nI (min 16 (k + 1))) X hR (by decide) LK_X2_30 (Nat.le_of_ble_eq_true rfl) hl hcs (mn_N (a := 16) (b := k + 1) (by omega) (by omega)) (dg D_X2_keep (i := 34) rfl) ?_
    refine r_puti (v := nI (min 16 (k + 1))) (ty := .int) X hW hS FI_X2_22 rfl (by decide) rfl rfl (by decide +kernel) rfl rfl (dg D_X2_keep (i := 35) rfl) (fun H locs hW hS => ?_)
    have hF : Fr SHk I (u2 I48 9 2 (nI (min 16 (k + 1)))) := Fr.put hF rfl
    have hB : BrAt (u2 I48 9 2 (nI (min 16 (k + 1)))) β σ := BrAt.pu hB (by omega)
    have hP : PlAt (u2 I48 9 2 (nI (min 16 (k + 1)))) q σ := PlAt.pu hP (by omega)
    have hHs : ∀ t, t < k → t < 15 → Svd ((u2 I48 9 2 (nI (min 16 (k + 1)))) (11 + (nw + 16 - t) % 16)) (U t) := fun t h1 h2 => by rw [u2_ne (by omega)]; exact hHs t h1 h2
    have hSv9 : Svd ((u2 I48 9 2 (nI (min 16 (k + 1)))) (11 + (nw + 1))) σ := by rw [u2_ne (by omega)]; exact hSv9
    obtain ⟨J63, eJ63⟩ : ∃ J, J = u2 I48 9 2 (nI (min 16 (k + 1))) := ⟨_, rfl⟩
    rw [← eJ63] at hW hF hB hP hHs hSv9
    have h91 : J63 9 1 = nI (nw + 1) := by rw [eJ63, u2_off (Or.inr (by decide))]; exact h91
    have h92 : J63 9 2 = nI (min 16 (k + 1)) := by rw [eJ63]; exact u2_at
    exact fin (dg D_X2_keep (i := 36) rfl) hW hS ⟨hF, ⟨by omega, by omega, by rw [h91]; exact congrArg nI (by omega), h92, fun t ht => by
      cases t with
      | zero => rw [show (nw + 1) % 16 + 16 - 0 = (nw + 1) % 16 + 16 by omega, show ((nw + 1) % 16 + 16) % 16 = (nw + 1) by omega]; exact hSv9
      | succ t => rw [show ((nw + 1) % 16 + 16 - (t + 1)) % 16 = (nw + 16 - t) % 16 by omega]; exact hHs t (by omega) (by omega)⟩, rfl, rfl⟩

set_option maxHeartbeats 4000000 in
set_option maxRecDepth 100000 in
theorem c_X2_takeBack {l : Launch} {G : va_G} {bs : Nat} {cy : Nat → ClassId} {I : CI} {L : CL} {R : CR} (σ : Row) (β : Nat) (q : Nat) (k : Nat) (U : Nat → Row) (nw : Nat) (hi : Inv σ) (hβ : isBr β) (hB : BrAt I β σ) (hq : isPl q) (hRb : R q 0 = β) (hH : HisN I k U nw) (hk0 : 0 < k) (hst : Sta σ (U 0)) (hiU : Inv (U 0)) : MTv l G bs cy MX2_takeBack 5 [.ref (bs + 9), .ref (bs + β), .ref (bs + q)] I L R (fun I1 L1 R1 => Fr (STb β q) I I1 ∧ BrAt I1 β (U 0) ∧ PlAt I1 q (U 0) ∧ HisN I1 (k - 1) (popU U) ((nw + 15) % 16) ∧ L = L1 ∧ R = R1) := by
  refine MTv.of (own := RX2) pn_RX2 rfl (Nat.le_of_ble_eq_true rfl) ?_
  intro p e s m args below meth c Qf X hW hS fin ls hl
  have hx := X.1
  have hb := X.2.1
  have hR : RmOK (rmL 5 0 0) 5 := ⟨rfl, rfl⟩
  have hcs : 0 ≤ (rmL 5 0 0).cells ∧ 0 ≤ (rmL 5 0 0).slots := ⟨Nat.zero_le _, Nat.zero_le _⟩
  have hl : lv_has ls 3 [(0, .ref (bs + 9)), (1, .ref (bs + β)), (2, .ref (bs + q))] := hl
  have hF : Fr (STb β q) I I := Fr.rf
  obtain ⟨hY, hY1, hY12, hLn, hL4, hSn, hS12, hGn, hG5⟩ := id hi
  have hbq := br_pl hβ hq
  obtain ⟨hk16, hnw, h91, h92, hHs⟩ := hH
  refine lv_aload_n hx hb (dg D_X2_takeBack (i := 0) rfl) rfl (lv_at hl 1 rfl) ?_
  refine lv_aload_n hx hb (dg D_X2_takeBack (i := 1) rfl) rfl (lv_at hl 0 rfl) ?_
  refine r_getc (t := 10) X hW FI_X2_15 rfl (by decide) rfl (dg D_X2_takeBack (i := 2) rfl) ?_
  refine lv_aload_n hx hb (dg D_X2_takeBack (i := 3) rfl) rfl (lv_at hl 0 rfl) ?_
  refine r_geti (v := nI nw) X hW FI_X2_18 rfl (by decide) rfl h91 (dg D_X2_takeBack (i := 4) rfl) ?_
  refine r_aald (j := nw) X hW rfl (by decide) rfl (by omega) (by decide) (dg D_X2_takeBack (i := 5) rfl) ?_
  refine callVv X hW hS hR (c_X1_restoreFrom (I := I) σ (U 0) β (11 + nw) (by first | assumption | omega | decide | exact hP.1) (hiU) (by first | assumption | omega | decide | exact hP.1) (by first | assumption | omega | decide | exact hP.1) (by first | assumption | omega | decide | exact hP.1) (by have h := hHs 0 (by omega); rw [show 11 + (nw + 16 - 0) % 16 = 11 + nw by omega] at h; exact h.1) (shH (by omega)) (ncH (by omega)) (by omega)) (by decide) UVX1_restoreFrom LK_X2_36 (shB hβ) (ncB0 hβ) rfl rfl rfl (Nat.le_of_ble_eq_true rfl) hl hcs (dg D_X2_takeBack (i := 6) rfl) (fun I10 L1 R1 H locs hq hW hS => ?_)
  obtain ⟨hT10, hp10_0, rfl, rfl⟩ := hq
  have hF : Fr (STb β q) I I10 := Fr.tr hF hT10 (by intro a j h; simp only [SRs, STb, Bool.or_eq_true, Bool.and_eq_true, beq_iff_eq, decide_eq_true_eq] at h ⊢; omega)
  have hHs : ∀ t, t < k → Svd (I10 (11 + (nw + 16 - t) % 16)) (U t) := fun t h1 => by rw [Fr.row hT10 (fun j => (Bool.eq_false_iff.mpr (fun h => by simp only [SRs, Bool.or_eq_true, Bool.and_eq_true, beq_iff_eq, decide_eq_true_eq] at h; omega)))]; exact hHs t h1
  have h91 : I10 9 1 = nI nw := (hT10 9 1 (SRs_in.no (by omega) _)).trans h91
  have h92 : I10 9 2 = nI k := (hT10 9 2 (SRs_in.no (by omega) _)).trans h92
  have hB := hp10_0
  refine lv_aload_n hx hb (dg D_X2_takeBack (i := 7) rfl) rfl (lv_at hl 2 rfl) ?_
  refine lv_aload_n hx hb (dg D_X2_takeBack (i := 8) rfl) rfl (lv_at hl 0 rfl) ?_
  refine r_getc (t := 10) X hW FI_X2_15 rfl (by decide) rfl (dg D_X2_takeBack (i := 9) rfl) ?_
  refine lv_aload_n hx hb (dg D_X2_takeBack (i := 10) rfl) rfl (lv_at hl 0 rfl) ?_
  refine r_geti (v := nI nw) X hW FI_X2_18 rfl (by decide) rfl h91 (dg D_X2_takeBack (i := 11) rfl) ?_
  refine r_aald (j := nw) X hW rfl (by decide) rfl (by omega) (by decide) (dg D_X2_takeBack (i := 12) rfl) ?_
  refine callVv X hW hS hR (c_X6_restoreFrom (I := I10) (U 0) β q (11 + nw) (hiU) (by first | assumption | omega | decide | exact hP.1) (by first | assumption | omega | decide | exact hP.1) (by first | assumption | omega | decide | exact hP.1) (by first | assumption | omega | decide | exact hP.1) (shH (by omega)) (ncH (by omega)) (by omega) (by have h := hHs 0 (by omega); rw [show 11 + (nw + 16 - 0) % 16 = 11 + nw by omega] at h; exact h.2)) (by decide) UVX6_restoreFrom LK_X2_39 (shP hq) (ncP0 hq) rfl rfl rfl (Nat.le_of_ble_eq_true rfl) hl hcs (dg D_X2_takeBack (i := 13) rfl) (fun I23 L1 R1 H locs hq hW hS => ?_)
  obtain ⟨hT23, hp23_0, rfl, rfl⟩ := hq
  have hF : Fr (STb β q) I I23 := Fr.tr hF hT23 (by intro a j h; simp only [SPu, STb, Bool.or_eq_true, Bool.and_eq_true, beq_iff_eq, decide_eq_true_eq] at h ⊢; omega)
  have hHs : ∀ t, t < k → Svd (I23 (11 + (nw + 16 - t) % 16)) (U t) := fun t h1 => by rw [Fr.row hT23 (fun j => (Bool.eq_false_iff.mpr (fun h => by simp only [SPu, Bool.or_eq_true, Bool.and_eq_true, beq_iff_eq, decide_eq_true_eq] at h; omega)))]; exact hHs t h1
  have hB : BrAt I23 β (U 0) := BrAt.fr hB hT23 (fun a j h1 h2 => Bool.eq_false_iff.mpr (fun h => by simp only [SPu, Bool.or_eq_true, Bool.and_eq_true, beq_iff_eq, decide_eq_true_eq] at h; omega))
  have h91 : I23 9 1 = nI nw := (hT23 9 1 (SPu_in.no (by omega) _)).trans h91
  have h92 : I23 9 2 = nI k := (hT23 9 2 (SPu_in.no (by omega) _)).trans h92
  have hP := hp23_0
  refine lv_aload_n hx hb (dg D_X2_takeBack (i := 14) rfl) rfl (lv_at hl 0 rfl) ?_
  refine lv_aload_n hx hb (dg D_X2_takeBack (i := 15) rfl) rfl (lv_at hl 0 rfl) ?_
  refine r_geti (v := nI nw) X hW FI_X2_18 rfl (by decide) rfl h91 (dg D_X2_takeBack (i := 16) rfl) ?_
  refine n_if_le (tgt := 43) hx hb (by omega) (dg D_X2_takeBack (i := 17) rfl) (by decide) (fun c31 => ?_) (fun c31 => ?_)
  · refine lv_bipush (v := nI 15) hx hb (dg D_X2_takeBack (i := 23) rfl) (by decide) ?_
    refine r_puti (v := nI 15) (ty := .int) X hW hS FI_X2_18 rfl (by decide) rfl rfl (by decide +kernel) rfl rfl (dg D_X2_takeBack (i := 24) rfl) (fun H locs hW hS => ?_)
    have hF : Fr (STb β q) I (u2 I23 9 1 (nI 15)) := Fr.put hF STb_9
    have hHs : ∀ t, t < k → Svd ((u2 I23 9 1 (nI 15)) (11 + (nw + 16 - t) % 16)) (U t) := fun t h1 => by rw [u2_ne (by omega)]; exact hHs t h1
    have hB : BrAt (u2 I23 9 1 (nI 15)) β (U 0) := BrAt.pu hB (by omega)
    have hP : PlAt (u2 I23 9 1 (nI 15)) q (U 0) := PlAt.pu hP (by omega)
    obtain ⟨J45, eJ45⟩ : ∃ J, J = u2 I23 9 1 (nI 15) := ⟨_, rfl⟩
    rw [← eJ45] at hW hF hHs hB hP
    have h91 : J45 9 1 = nI 15 := by rw [eJ45]; exact u2_at
    have h92 : J45 9 2 = nI k := by rw [eJ45, u2_off (Or.inr (by decide))]; exact h92
    refine lv_aload_n hx hb (dg D_X2_takeBack (i := 25) rfl) rfl (lv_at hl 0 rfl) ?_
    refine lv_dup hx hb (dg D_X2_takeBack (i := 26) rfl) rfl ?_
    refine r_geti (v := nI k) X hW FI_X2_22 rfl (by decide) rfl h92 (dg D_X2_takeBack (i := 27) rfl) ?_
    refine n_iconst (a := 1) hx hb (dg D_X2_takeBack (i := 28) rfl) rfl ?_
    refine n_isub hx hb (dg D_X2_takeBack (i := 29) rfl) (by omega) ?_
    refine r_puti (v := nI (k - 1)) (ty := .int) X hW hS FI_X2_22 rfl (by decide) rfl rfl (by decide +kernel) rfl rfl (dg D_X2_takeBack (i := 30) rfl) (fun H locs hW hS => ?_)
    have hF : Fr (STb β q) I (u2 J45 9 2 (nI (k - 1))) := Fr.put hF STb_9
    have hHs : ∀ t, t < k → Svd ((u2 J45 9 2 (nI (k - 1))) (11 + (nw + 16 - t) % 16)) (U t) := fun t h1 => by rw [u2_ne (by omega)]; exact hHs t h1
    have hB : BrAt (u2 J45 9 2 (nI (k - 1))) β (U 0) := BrAt.pu hB (by omega)
    have hP : PlAt (u2 J45 9 2 (nI (k - 1))) q (U 0) := PlAt.pu hP (by omega)
    obtain ⟨J55, eJ55⟩ : ∃ J, J = u2 J45 9 2 (nI (k - 1)) := ⟨_, rfl⟩
    rw [← eJ55] at hW hF hHs hB hP
    have h91 : J55 9 1 = nI 15 := by rw [eJ55, u2_off (Or.inr (by decide))]; exact h91
    have h92 : J55 9 2 = nI (k - 1) := by rw [eJ55]; exact u2_at
    exact fin (dg D_X2_takeBack (i := 31) rfl) hW hS ⟨hF, hB, hP, ⟨by omega, by omega, by rw [h91]; exact congrArg nI (by omega), h92, fun t ht => by
      have h := hHs (t + 1) (by omega)
      rw [show (nw + 16 - (t + 1)) % 16 = ((nw + 15) % 16 + 16 - t) % 16 by omega] at h
      exact h⟩, rfl, rfl⟩
  · refine lv_aload_n hx hb (dg D_X2_takeBack (i := 18) rfl) rfl (lv_at hl 0 rfl) ?_
    refine r_geti (v := nI nw) X hW FI_X2_18 rfl (by decide) rfl h91 (dg D_X2_takeBack (i := 19) rfl) ?_
    refine n_iconst (a := 1) hx hb (dg D_X2_takeBack (i := 20) rfl) rfl ?_
    refine n_isub hx hb (dg D_X2_takeBack (i := 21) rfl) (by omega) ?_
    refine lv_goto (tgt := 45) hx hb (dg D_X2_takeBack (i := 22) rfl) (by decide) ?_
    refine r_puti (v := nI (nw - 1)) (ty := .int) X hW hS FI_X2_18 rfl (by decide) rfl rfl (by decide +kernel) rfl rfl (dg D_X2_takeBack (i := 24) rfl) (fun H locs hW hS => ?_)
    have hF : Fr (STb β q) I (u2 I23 9 1 (nI (nw - 1))) := Fr.put hF STb_9
    have hHs : ∀ t, t < k → Svd ((u2 I23 9 1 (nI (nw - 1))) (11 + (nw + 16 - t) % 16)) (U t) := fun t h1 => by rw [u2_ne (by omega)]; exact hHs t h1
    have hB : BrAt (u2 I23 9 1 (nI (nw - 1))) β (U 0) := BrAt.pu hB (by omega)
    have hP : PlAt (u2 I23 9 1 (nI (nw - 1))) q (U 0) := PlAt.pu hP (by omega)
    obtain ⟨J45, eJ45⟩ : ∃ J, J = u2 I23 9 1 (nI (nw - 1)) := ⟨_, rfl⟩
    rw [← eJ45] at hW hF hHs hB hP
    have h91 : J45 9 1 = nI (nw - 1) := by rw [eJ45]; exact u2_at
    have h92 : J45 9 2 = nI k := by rw [eJ45, u2_off (Or.inr (by decide))]; exact h92
    refine lv_aload_n hx hb (dg D_X2_takeBack (i := 25) rfl) rfl (lv_at hl 0 rfl) ?_
    refine lv_dup hx hb (dg D_X2_takeBack (i := 26) rfl) rfl ?_
    refine r_geti (v := nI k) X hW FI_X2_22 rfl (by decide) rfl h92 (dg D_X2_takeBack (i := 27) rfl) ?_
    refine n_iconst (a := 1) hx hb (dg D_X2_takeBack (i := 28) rfl) rfl ?_
    refine n_isub hx hb (dg D_X2_takeBack (i := 29) rfl) (by omega) ?_
    refine r_puti (v := nI (k - 1)) (ty := .int) X hW hS FI_X2_22 rfl (by decide) rfl rfl (by decide +kernel) rfl rfl (dg D_X2_takeBack (i := 30) rfl) (fun H locs hW hS => ?_)
    have hF : Fr (STb β q) I (u2 J45 9 2 (nI (k - 1))) := Fr.put hF STb_9
    have hHs : ∀ t, t < k → Svd ((u2 J45 9 2 (nI (k - 1))) (11 + (nw + 16 - t) % 16)) (U t) := fun t h1 => by rw [u2_ne (by omega)]; exact hHs t h1
    have hB : BrAt (u2 J45 9 2 (nI (k - 1))) β (U 0) := BrAt.pu hB (by omega)
    have hP : PlAt (u2 J45 9 2 (nI (k - 1))) q (U 0) := PlAt.pu hP (by omega)
    obtain ⟨J55, eJ55⟩ : ∃ J, J = u2 J45 9 2 (nI (k - 1)) := ⟨_, rfl⟩
    rw [← eJ55] at hW hF hHs hB hP
    have h91 : J55 9 1 = nI (nw - 1) := by rw [eJ55, u2_off (Or.inr (by decide))]; exact h91
    have h92 : J55 9 2 = nI (k - 1) := by rw [eJ55]; exact u2_at
    exact fin (dg D_X2_takeBack (i := 31) rfl) hW hS ⟨hF, hB, hP, ⟨by omega, by omega, by rw [h91]; exact congrArg nI (by omega), h92, fun t ht => by
      have h := hHs (t + 1) (by omega)
      rw [show (nw + 16 - (t + 1)) % 16 = ((nw + 15) % 16 + 16 - t) % 16 by omega] at h
      exact h⟩, rfl, rfl⟩

set_option maxHeartbeats 4000000 in
set_option maxRecDepth 100000 in
theorem c_X9_clear {l : Launch} {G : va_G} {bs : Nat} {cy : Nat → ClassId} {I : CI} {L : CL} {R : CR} (b : Nat → Int32) : MTv l G bs cy MX9_clear 1 [.ref (bs + 29)] I L R (fun I1 L1 R1 => Fr STx I I1 ∧ TxAt I1 0 b ∧ L = L1 ∧ R = R1) := by
  refine MTv.of (own := RX9) pn_RX9 rfl (Nat.le_of_ble_eq_true rfl) ?_
  intro p e s m args below meth c Qf X hW hS fin ls hl
  have hx := X.1
  have hb := X.2.1
  have hR : RmOK (rmL 1 0 0) 1 := ⟨rfl, rfl⟩
  have hcs : 0 ≤ (rmL 1 0 0).cells ∧ 0 ≤ (rmL 1 0 0).slots := ⟨Nat.zero_le _, Nat.zero_le _⟩
  have hl : lv_has ls 1 [(0, .ref (bs + 29))] := hl
  have hF : Fr STx I I := Fr.rf
  refine lv_aload_n hx hb (dg D_X9_clear (i := 0) rfl) rfl (lv_at hl 0 rfl) ?_
  refine n_iconst (a := 0) hx hb (dg D_X9_clear (i := 1) rfl) rfl ?_
  refine r_puti (v := nI 0) (ty := .int) X hW hS FI_X9_15 rfl (by decide) rfl rfl (by decide +kernel) rfl rfl (dg D_X9_clear (i := 2) rfl) (fun H locs hW hS => ?_)
  have hF : Fr STx I (u2 I 29 1 (nI 0)) := Fr.put hF rfl
  obtain ⟨J2, eJ2⟩ : ∃ J, J = u2 I 29 1 (nI 0) := ⟨_, rfl⟩
  rw [← eJ2] at hW hF
  have hsz : J2 29 1 = nI 0 := by rw [eJ2]; exact u2_at
  exact fin (dg D_X9_clear (i := 3) rfl) hW hS ⟨hF, ⟨hsz, rowP.zero⟩, rfl, rfl⟩

set_option maxHeartbeats 4000000 in
set_option maxRecDepth 100000 in
theorem c_X9_size {l : Launch} {G : va_G} {bs : Nat} {cy : Nat → ClassId} {I : CI} {L : CL} {R : CR} (n : Nat) (b : Nat → Int32) (hT : TxAt I n b) : MTi l G bs cy MX9_size 1 [.ref (bs + 29)] I L R (fun r I1 L1 R1 => nI n = r ∧ I = I1 ∧ L = L1 ∧ R = R1) := by
  refine MTi.of (own := RX9) pn_RX9 rfl (Nat.le_of_ble_eq_true rfl) ?_
  intro p e s m args below meth c Qf X hW hS fin ls hl
  have hx := X.1
  have hb := X.2.1
  have hR : RmOK (rmL 1 0 0) 1 := ⟨rfl, rfl⟩
  have hcs : 0 ≤ (rmL 1 0 0).cells ∧ 0 ≤ (rmL 1 0 0).slots := ⟨Nat.zero_le _, Nat.zero_le _⟩
  have hl : lv_has ls 1 [(0, .ref (bs + 29))] := hl
  refine lv_aload_n hx hb (dg D_X9_size (i := 0) rfl) rfl (lv_at hl 0 rfl) ?_
  refine r_geti (v := nI n) X hW FI_X9_15 rfl (by decide) rfl hT.1 (dg D_X9_size (i := 1) rfl) ?_
  exact fin (dg D_X9_size (i := 2) rfl) hW hS ⟨rfl, rfl, rfl, rfl⟩

set_option maxHeartbeats 4000000 in
set_option maxRecDepth 100000 in
theorem c_X9_hasRoomFor {l : Launch} {G : va_G} {bs : Nat} {cy : Nat → ClassId} {I : CI} {L : CL} {R : CR} (n : Nat) (b : Nat → Int32) (c9 : Nat) (hT : TxAt I n b) (hn9 : n ≤ 900) (hc : c9 ≤ 100) : MTi l G bs cy MX9_hasRoomFor 1 [.ref (bs + 29), .int (nI c9)] I L R (fun r I1 L1 R1 => bI (decide (n + c9 ≤ 900)) = r ∧ I = I1 ∧ L = L1 ∧ R = R1) := by
  refine MTz.of (own := RX9) pn_RX9 rfl (Nat.le_of_ble_eq_true rfl) ?_
  intro p e s m args below meth c Qf X hW hS fin ls hl
  have hx := X.1
  have hb := X.2.1
  have hR : RmOK (rmL 1 0 0) 1 := ⟨rfl, rfl⟩
  have hcs : 0 ≤ (rmL 1 0 0).cells ∧ 0 ≤ (rmL 1 0 0).slots := ⟨Nat.zero_le _, Nat.zero_le _⟩
  have hl : lv_has ls 2 [(0, .ref (bs + 29)), (1, .int (nI c9))] := hl
  refine lv_aload_n hx hb (dg D_X9_hasRoomFor (i := 0) rfl) rfl (lv_at hl 0 rfl) ?_
  refine r_geti (v := nI n) X hW FI_X9_15 rfl (by decide) rfl hT.1 (dg D_X9_hasRoomFor (i := 1) rfl) ?_
  refine lv_iload_n hx hb (dg D_X9_hasRoomFor (i := 2) rfl) rfl (lv_at hl 1 rfl) ?_
  refine n_iadd hx hb (dg D_X9_hasRoomFor (i := 3) rfl) ?_
  refine lv_sipush (v := nI 900) hx hb (dg D_X9_hasRoomFor (i := 4) rfl) (by decide) ?_
  refine n_icmp_gt (tgt := 16) hx hb (by omega) (by omega) (dg D_X9_hasRoomFor (i := 5) rfl) (by decide) (fun c9 => ?_) (fun c9 => ?_)
  · refine n_iconst (a := 0) hx hb (dg D_X9_hasRoomFor (i := 8) rfl) rfl ?_
    exact fin (dg D_X9_hasRoomFor (i := 9) rfl) hW hS (show _ = bI false from rfl) ⟨congrArg bI (decide_eq_false (by omega)), rfl, rfl, rfl⟩
  · refine n_iconst (a := 1) hx hb (dg D_X9_hasRoomFor (i := 6) rfl) rfl ?_
    refine lv_goto (tgt := 17) hx hb (dg D_X9_hasRoomFor (i := 7) rfl) (by decide) ?_
    exact fin (dg D_X9_hasRoomFor (i := 9) rfl) hW hS (show _ = bI true from rfl) ⟨congrArg bI (decide_eq_true (by omega)), rfl, rfl, rfl⟩

set_option maxHeartbeats 4000000 in
set_option maxRecDepth 100000 in
theorem c_X9_append {l : Launch} {G : va_G} {bs : Nat} {cy : Nat → ClassId} {I : CI} {L : CL} {R : CR} (n : Nat) (b : Nat → Int32) (v : Int32) (hT : TxAt I n b) (hn9 : n + 4 ≤ 900) : MTv l G bs cy MX9_append 1 [.ref (bs + 29), .int v] I L R (fun I1 L1 R1 => Fr STx I I1 ∧ TxAt I1 (n + 4) (ap4 b n v) ∧ L = L1 ∧ R = R1) := by
  refine MTv.of (own := RX9) pn_RX9 rfl (Nat.le_of_ble_eq_true rfl) ?_
  intro p e s m args below meth c Qf X hW hS fin ls hl
  have hx := X.1
  have hb := X.2.1
  have hR : RmOK (rmL 1 0 0) 1 := ⟨rfl, rfl⟩
  have hcs : 0 ≤ (rmL 1 0 0).cells ∧ 0 ≤ (rmL 1 0 0).slots := ⟨Nat.zero_le _, Nat.zero_le _⟩
  have hl : lv_has ls 3 [(0, .ref (bs + 29)), (1, .int v)] := hl
  have hF : Fr STx I I := Fr.rf
  have hsz := hT.1
  have hR9 := hT.ext (v := v)
  refine lv_bipush (v := nI 24) hx hb (dg D_X9_append (i := 0) rfl) (by decide) ?_
  refine lv_istore_n (lv' := [(2, .int (nI 24)), (0, .ref (bs + 29)), (1, .int v)]) hx hb (dg D_X9_append (i := 1) rfl) rfl hl (by decide) rfl (fun ls hl => ?_)
  refine lv_iload_n hx hb (dg D_X9_append (i := 2) rfl) rfl (lv_at hl 0 rfl) ?_
  refine n_if_lt (tgt := 46) hx hb (by omega) (dg D_X9_append (i := 3) rfl) (by decide) (fun c4 => ?_) (fun c4 => ?_)
  · exact absurd c4 (by decide)
  · refine lv_aload_n hx hb (dg D_X9_append (i := 4) rfl) rfl (lv_at hl 1 rfl) ?_
    refine r_geti (v := nI n) X hW FI_X9_15 rfl (by decide) rfl hsz (dg D_X9_append (i := 5) rfl) ?_
    refine lv_sipush (v := nI 900) hx hb (dg D_X9_append (i := 6) rfl) (by decide) ?_
    refine n_icmp_ge (tgt := 40) hx hb (by omega) (by omega) (dg D_X9_append (i := 7) rfl) (by decide) (fun c14 => ?_) (fun c14 => ?_)
    · exact absurd c14 (by omega)
    · refine lv_aload_n hx hb (dg D_X9_append (i := 8) rfl) rfl (lv_at hl 1 rfl) ?_
      refine r_getc (t := 30) X hW FI_X9_9 rfl (by decide) rfl (dg D_X9_append (i := 9) rfl) ?_
      refine lv_aload_n hx hb (dg D_X9_append (i := 10) rfl) rfl (lv_at hl 1 rfl) ?_
      refine r_geti (v := nI n) X hW FI_X9_15 rfl (by decide) rfl hsz (dg D_X9_append (i := 11) rfl) ?_
      refine lv_iload_n hx hb (dg D_X9_append (i := 12) rfl) rfl (lv_at hl 2 rfl) ?_
      refine lv_iload_n hx hb (dg D_X9_append (i := 13) rfl) rfl (lv_at hl 0 rfl) ?_
      refine lv_ishr hx hb (dg D_X9_append (i := 14) rfl) ?_
      refine lv_i2b (v := (v >>> ((nI 24) &&& 31)).toInt8.toInt32) hx hb (dg D_X9_append (i := 15) rfl) rfl ?_
      refine r_bast (j := n) (v := (v >>> ((nI 24) &&& 31)).toInt8.toInt32) (w := sg ((v >>> ((nI 24) &&& 31)))) X hW hS rfl (by decide) rfl (by omega) (by decide) (show vp_nar .byte _ = sg _ from sg_sg _) (dg D_X9_append (i := 16) rfl) (fun H locs hW hS => ?_)
      have hF : Fr STx I (u2 I 30 n (sg ((v >>> ((nI 24) &&& 31))))) := Fr.put hF rfl
      obtain ⟨J29, eJ29⟩ : ∃ J, J = u2 I 30 n (sg ((v >>> ((nI 24) &&& 31)))) := ⟨_, rfl⟩
      rw [← eJ29] at hW hF
      have hsz : J29 29 1 = nI n := by rw [eJ29, u2_off (Or.inl (by decide))]; exact hsz
      have hR9 : rowP J29 30 (n + 1) (fun z => sg (ap4 b n v z)) := by rw [eJ29]; exact hR9.ext (show sg (v >>> (nI 24 &&& 31)) = sg (ap4 b n v _) by rw [ap4_0, sg_by v (by decide)])
      refine lv_aload_n hx hb (dg D_X9_append (i := 17) rfl) rfl (lv_at hl 1 rfl) ?_
      refine lv_dup hx hb (dg D_X9_append (i := 18) rfl) rfl ?_
      refine r_geti (v := nI n) X hW FI_X9_15 rfl (by decide) rfl hsz (dg D_X9_append (i := 19) rfl) ?_
      refine n_iconst (a := 1) hx hb (dg D_X9_append (i := 20) rfl) rfl ?_
      refine n_iadd hx hb (dg D_X9_append (i := 21) rfl) ?_
      refine r_puti (v := nI (n + 1)) (ty := .int) X hW hS FI_X9_15 rfl (by decide) rfl rfl (by decide +kernel) rfl rfl (dg D_X9_append (i := 22) rfl) (fun H locs hW hS => ?_)
      have hF : Fr STx I (u2 J29 29 1 (nI (n + 1))) := Fr.put hF rfl
      obtain ⟨J37, eJ37⟩ : ∃ J, J = u2 J29 29 1 (nI (n + 1)) := ⟨_, rfl⟩
      rw [← eJ37] at hW hF
      have hsz : J37 29 1 = nI (n + 1) := by rw [eJ37]; exact u2_at
      have hR9 : rowP J37 30 (n + 1) (fun z => sg (ap4 b n v z)) := by rw [eJ37]; exact hR9.keep (by decide)
      refine lv_iinc (v := nI 16) (lv' := [(2, .int (nI 16)), (0, .ref (bs + 29)), (1, .int v)]) hx hb (dg D_X9_append (i := 23) rfl) hl (k := 0) rfl (by decide) (by decide) rfl (fun ls hl => ?_)
      refine lv_goto (tgt := 3) hx hb (dg D_X9_append (i := 24) rfl) (by decide) ?_
      refine lv_iload_n hx hb (dg D_X9_append (i := 2) rfl) rfl (lv_at hl 0 rfl) ?_
      refine n_if_lt (tgt := 46) hx hb (by omega) (dg D_X9_append (i := 3) rfl) (by decide) (fun c4 => ?_) (fun c4 => ?_)
      · exact absurd c4 (by decide)
      · refine lv_aload_n hx hb (dg D_X9_append (i := 4) rfl) rfl (lv_at hl 1 rfl) ?_
        refine r_geti (v := nI (n + 1)) X hW FI_X9_15 rfl (by decide) rfl hsz (dg D_X9_append (i := 5) rfl) ?_
        refine lv_sipush (v := nI 900) hx hb (dg D_X9_append (i := 6) rfl) (by decide) ?_
        refine n_icmp_ge (tgt := 40) hx hb (by omega) (by omega) (dg D_X9_append (i := 7) rfl) (by decide) (fun c14 => ?_) (fun c14 => ?_)
        · exact absurd c14 (by omega)
        · refine lv_aload_n hx hb (dg D_X9_append (i := 8) rfl) rfl (lv_at hl 1 rfl) ?_
          refine r_getc (t := 30) X hW FI_X9_9 rfl (by decide) rfl (dg D_X9_append (i := 9) rfl) ?_
          refine lv_aload_n hx hb (dg D_X9_append (i := 10) rfl) rfl (lv_at hl 1 rfl) ?_
          refine r_geti (v := nI (n + 1)) X hW FI_X9_15 rfl (by decide) rfl hsz (dg D_X9_append (i := 11) rfl) ?_
          refine lv_iload_n hx hb (dg D_X9_append (i := 12) rfl) rfl (lv_at hl 2 rfl) ?_
          refine lv_iload_n hx hb (dg D_X9_append (i := 13) rfl) rfl (lv_at hl 0 rfl) ?_
          refine lv_ishr hx hb (dg D_X9_append (i := 14) rfl) ?_
          refine lv_i2b (v := (v >>> ((nI 16) &&& 31)).toInt8.toInt32) hx hb (dg D_X9_append (i := 15) rfl) rfl ?_
          refine r_bast (j := n + 1) (v := (v >>> ((nI 16) &&& 31)).toInt8.toInt32) (w := sg ((v >>> ((nI 16) &&& 31)))) X hW hS rfl (by decide) rfl (by omega) (by decide) (show vp_nar .byte _ = sg _ from sg_sg _) (dg D_X9_append (i := 16) rfl) (fun H locs hW hS => ?_)
          have hF : Fr STx I (u2 J37 30 (n + 1) (sg ((v >>> ((nI 16) &&& 31))))) := Fr.put hF rfl
          obtain ⟨J29, eJ29⟩ : ∃ J, J = u2 J37 30 (n + 1) (sg ((v >>> ((nI 16) &&& 31)))) := ⟨_, rfl⟩
          rw [← eJ29] at hW hF
          have hsz : J29 29 1 = nI (n + 1) := by rw [eJ29, u2_off (Or.inl (by decide))]; exact hsz
          have hR9 : rowP J29 30 ((n + 1) + 1) (fun z => sg (ap4 b n v z)) := by rw [eJ29]; exact hR9.ext (show sg (v >>> (nI 16 &&& 31)) = sg (ap4 b n v _) by rw [ap4_1, sg_by v (by decide)])
          refine lv_aload_n hx hb (dg D_X9_append (i := 17) rfl) rfl (lv_at hl 1 rfl) ?_
          refine lv_dup hx hb (dg D_X9_append (i := 18) rfl) rfl ?_
          refine r_geti (v := nI (n + 1)) X hW FI_X9_15 rfl (by decide) rfl hsz (dg D_X9_append (i := 19) rfl) ?_
          refine n_iconst (a := 1) hx hb (dg D_X9_append (i := 20) rfl) rfl ?_
          refine n_iadd hx hb (dg D_X9_append (i := 21) rfl) ?_
          refine r_puti (v := nI ((n + 1) + 1)) (ty := .int) X hW hS FI_X9_15 rfl (by decide) rfl rfl (by decide +kernel) rfl rfl (dg D_X9_append (i := 22) rfl) (fun H locs hW hS => ?_)
          have hF : Fr STx I (u2 J29 29 1 (nI ((n + 1) + 1))) := Fr.put hF rfl
          obtain ⟨J37, eJ37⟩ : ∃ J, J = u2 J29 29 1 (nI ((n + 1) + 1)) := ⟨_, rfl⟩
          rw [← eJ37] at hW hF
          have hsz : J37 29 1 = nI ((n + 1) + 1) := by rw [eJ37]; exact u2_at
          have hR9 : rowP J37 30 ((n + 1) + 1) (fun z => sg (ap4 b n v z)) := by rw [eJ37]; exact hR9.keep (by decide)
          refine lv_iinc (v := nI 8) (lv' := [(2, .int (nI 8)), (0, .ref (bs + 29)), (1, .int v)]) hx hb (dg D_X9_append (i := 23) rfl) hl (k := 0) rfl (by decide) (by decide) rfl (fun ls hl => ?_)
          refine lv_goto (tgt := 3) hx hb (dg D_X9_append (i := 24) rfl) (by decide) ?_
          refine lv_iload_n hx hb (dg D_X9_append (i := 2) rfl) rfl (lv_at hl 0 rfl) ?_
          refine n_if_lt (tgt := 46) hx hb (by omega) (dg D_X9_append (i := 3) rfl) (by decide) (fun c4 => ?_) (fun c4 => ?_)
          · exact absurd c4 (by decide)
          · refine lv_aload_n hx hb (dg D_X9_append (i := 4) rfl) rfl (lv_at hl 1 rfl) ?_
            refine r_geti (v := nI ((n + 1) + 1)) X hW FI_X9_15 rfl (by decide) rfl hsz (dg D_X9_append (i := 5) rfl) ?_
            refine lv_sipush (v := nI 900) hx hb (dg D_X9_append (i := 6) rfl) (by decide) ?_
            refine n_icmp_ge (tgt := 40) hx hb (by omega) (by omega) (dg D_X9_append (i := 7) rfl) (by decide) (fun c14 => ?_) (fun c14 => ?_)
            · exact absurd c14 (by omega)
            · refine lv_aload_n hx hb (dg D_X9_append (i := 8) rfl) rfl (lv_at hl 1 rfl) ?_
              refine r_getc (t := 30) X hW FI_X9_9 rfl (by decide) rfl (dg D_X9_append (i := 9) rfl) ?_
              refine lv_aload_n hx hb (dg D_X9_append (i := 10) rfl) rfl (lv_at hl 1 rfl) ?_
              refine r_geti (v := nI ((n + 1) + 1)) X hW FI_X9_15 rfl (by decide) rfl hsz (dg D_X9_append (i := 11) rfl) ?_
              refine lv_iload_n hx hb (dg D_X9_append (i := 12) rfl) rfl (lv_at hl 2 rfl) ?_
              refine lv_iload_n hx hb (dg D_X9_append (i := 13) rfl) rfl (lv_at hl 0 rfl) ?_
              refine lv_ishr hx hb (dg D_X9_append (i := 14) rfl) ?_
              refine lv_i2b (v := (v >>> ((nI 8) &&& 31)).toInt8.toInt32) hx hb (dg D_X9_append (i := 15) rfl) rfl ?_
              refine r_bast (j := (n + 1) + 1) (v := (v >>> ((nI 8) &&& 31)).toInt8.toInt32) (w := sg ((v >>> ((nI 8) &&& 31)))) X hW hS rfl (by decide) rfl (by omega) (by decide) (show vp_nar .byte _ = sg _ from sg_sg _) (dg D_X9_append (i := 16) rfl) (fun H locs hW hS => ?_)
              have hF : Fr STx I (u2 J37 30 ((n + 1) + 1) (sg ((v >>> ((nI 8) &&& 31))))) := Fr.put hF rfl
              obtain ⟨J29, eJ29⟩ : ∃ J, J = u2 J37 30 ((n + 1) + 1) (sg ((v >>> ((nI 8) &&& 31)))) := ⟨_, rfl⟩
              rw [← eJ29] at hW hF
              have hsz : J29 29 1 = nI ((n + 1) + 1) := by rw [eJ29, u2_off (Or.inl (by decide))]; exact hsz
              have hR9 : rowP J29 30 (((n + 1) + 1) + 1) (fun z => sg (ap4 b n v z)) := by rw [eJ29]; exact hR9.ext (show sg (v >>> (nI 8 &&& 31)) = sg (ap4 b n v _) by rw [ap4_2, sg_by v (by decide)])
              refine lv_aload_n hx hb (dg D_X9_append (i := 17) rfl) rfl (lv_at hl 1 rfl) ?_
              refine lv_dup hx hb (dg D_X9_append (i := 18) rfl) rfl ?_
              refine r_geti (v := nI ((n + 1) + 1)) X hW FI_X9_15 rfl (by decide) rfl hsz (dg D_X9_append (i := 19) rfl) ?_
              refine n_iconst (a := 1) hx hb (dg D_X9_append (i := 20) rfl) rfl ?_
              refine n_iadd hx hb (dg D_X9_append (i := 21) rfl) ?_
              refine r_puti (v := nI (((n + 1) + 1) + 1)) (ty := .int) X hW hS FI_X9_15 rfl (by decide) rfl rfl (by decide +kernel) rfl rfl (dg D_X9_append (i := 22) rfl) (fun H locs hW hS => ?_)
              have hF : Fr STx I (u2 J29 29 1 (nI (((n + 1) + 1) + 1))) := Fr.put hF rfl
              obtain ⟨J37, eJ37⟩ : ∃ J, J = u2 J29 29 1 (nI (((n + 1) + 1) + 1)) := ⟨_, rfl⟩
              rw [← eJ37] at hW hF
              have hsz : J37 29 1 = nI (((n + 1) + 1) + 1) := by rw [eJ37]; exact u2_at
              have hR9 : rowP J37 30 (((n + 1) + 1) + 1) (fun z => sg (ap4 b n v z)) := by rw [eJ37]; exact hR9.keep (by decide)
              refine lv_iinc (v := nI 0) (lv' := [(2, .int (nI 0)), (0, .ref (bs + 29)), (1, .int v)]) hx hb (dg D_X9_append (i := 23) rfl) hl (k := 0) rfl (by decide) (by decide) rfl (fun ls hl => ?_)
              refine lv_goto (tgt := 3) hx hb (dg D_X9_append (i := 24) rfl) (by decide) ?_
              refine lv_iload_n hx hb (dg D_X9_append (i := 2) rfl) rfl (lv_at hl 0 rfl) ?_
              refine n_if_lt (tgt := 46) hx hb (by omega) (dg D_X9_append (i := 3) rfl) (by decide) (fun c4 => ?_) (fun c4 => ?_)
              · exact absurd c4 (by decide)
              · refine lv_aload_n hx hb (dg D_X9_append (i := 4) rfl) rfl (lv_at hl 1 rfl) ?_
                refine r_geti (v := nI (((n + 1) + 1) + 1)) X hW FI_X9_15 rfl (by decide) rfl hsz (dg D_X9_append (i := 5) rfl) ?_
                refine lv_sipush (v := nI 900) hx hb (dg D_X9_append (i := 6) rfl) (by decide) ?_
                refine n_icmp_ge (tgt := 40) hx hb (by omega) (by omega) (dg D_X9_append (i := 7) rfl) (by decide) (fun c14 => ?_) (fun c14 => ?_)
                · exact absurd c14 (by omega)
                · refine lv_aload_n hx hb (dg D_X9_append (i := 8) rfl) rfl (lv_at hl 1 rfl) ?_
                  refine r_getc (t := 30) X hW FI_X9_9 rfl (by decide) rfl (dg D_X9_append (i := 9) rfl) ?_
                  refine lv_aload_n hx hb (dg D_X9_append (i := 10) rfl) rfl (lv_at hl 1 rfl) ?_
                  refine r_geti (v := nI (((n + 1) + 1) + 1)) X hW FI_X9_15 rfl (by decide) rfl hsz (dg D_X9_append (i := 11) rfl) ?_
                  refine lv_iload_n hx hb (dg D_X9_append (i := 12) rfl) rfl (lv_at hl 2 rfl) ?_
                  refine lv_iload_n hx hb (dg D_X9_append (i := 13) rfl) rfl (lv_at hl 0 rfl) ?_
                  refine lv_ishr hx hb (dg D_X9_append (i := 14) rfl) ?_
                  refine lv_i2b (v := (v >>> ((nI 0) &&& 31)).toInt8.toInt32) hx hb (dg D_X9_append (i := 15) rfl) rfl ?_
                  refine r_bast (j := ((n + 1) + 1) + 1) (v := (v >>> ((nI 0) &&& 31)).toInt8.toInt32) (w := sg ((v >>> ((nI 0) &&& 31)))) X hW hS rfl (by decide) rfl (by omega) (by decide) (show vp_nar .byte _ = sg _ from sg_sg _) (dg D_X9_append (i := 16) rfl) (fun H locs hW hS => ?_)
                  have hF : Fr STx I (u2 J37 30 (((n + 1) + 1) + 1) (sg ((v >>> ((nI 0) &&& 31))))) := Fr.put hF rfl
                  obtain ⟨J29, eJ29⟩ : ∃ J, J = u2 J37 30 (((n + 1) + 1) + 1) (sg ((v >>> ((nI 0) &&& 31)))) := ⟨_, rfl⟩
                  rw [← eJ29] at hW hF
                  have hsz : J29 29 1 = nI (((n + 1) + 1) + 1) := by rw [eJ29, u2_off (Or.inl (by decide))]; exact hsz
                  have hR9 : rowP J29 30 ((((n + 1) + 1) + 1) + 1) (fun z => sg (ap4 b n v z)) := by rw [eJ29]; exact hR9.ext (show sg (v >>> (nI 0 &&& 31)) = sg (ap4 b n v _) by rw [ap4_3, sg_by v (by decide)])
                  refine lv_aload_n hx hb (dg D_X9_append (i := 17) rfl) rfl (lv_at hl 1 rfl) ?_
                  refine lv_dup hx hb (dg D_X9_append (i := 18) rfl) rfl ?_
                  refine r_geti (v := nI (((n + 1) + 1) + 1)) X hW FI_X9_15 rfl (by decide) rfl hsz (dg D_X9_append (i := 19) rfl) ?_
                  refine n_iconst (a := 1) hx hb (dg D_X9_append (i := 20) rfl) rfl ?_
                  refine n_iadd hx hb (dg D_X9_append (i := 21) rfl) ?_
                  refine r_puti (v := nI ((((n + 1) + 1) + 1) + 1)) (ty := .int) X hW hS FI_X9_15 rfl (by decide) rfl rfl (by decide +kernel) rfl rfl (dg D_X9_append (i := 22) rfl) (fun H locs hW hS => ?_)
                  have hF : Fr STx I (u2 J29 29 1 (nI ((((n + 1) + 1) + 1) + 1))) := Fr.put hF rfl
                  obtain ⟨J37, eJ37⟩ : ∃ J, J = u2 J29 29 1 (nI ((((n + 1) + 1) + 1) + 1)) := ⟨_, rfl⟩
                  rw [← eJ37] at hW hF
                  have hsz : J37 29 1 = nI ((((n + 1) + 1) + 1) + 1) := by rw [eJ37]; exact u2_at
                  have hR9 : rowP J37 30 ((((n + 1) + 1) + 1) + 1) (fun z => sg (ap4 b n v z)) := by rw [eJ37]; exact hR9.keep (by decide)
                  refine lv_iinc (v := (-8)) (lv' := [(2, .int ((-8))), (0, .ref (bs + 29)), (1, .int v)]) hx hb (dg D_X9_append (i := 23) rfl) hl (k := 0) rfl (by decide) (by decide) rfl (fun ls hl => ?_)
                  refine lv_goto (tgt := 3) hx hb (dg D_X9_append (i := 24) rfl) (by decide) ?_
                  refine lv_iload_n hx hb (dg D_X9_append (i := 2) rfl) rfl (lv_at hl 0 rfl) ?_
                  refine lv_if_lt (tgt := 46) hx hb (dg D_X9_append (i := 3) rfl) (by decide) (fun c4 => ?_) (fun c4 => ?_)
                  · exact fin (dg D_X9_append (i := 25) rfl) hW hS ⟨hF, ⟨hsz, hR9⟩, rfl, rfl⟩
                  · exact absurd c4 (by decide)

