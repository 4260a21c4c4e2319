set_option maxHeartbeats 4000000 in
set_option maxRecDepth 100000 in
theorem c_X5_fail {l : Launch} {G : va_G} {bs : Nat} {cy : Nat → ClassId} {I : CI} {L : CL} {R : CR} (w : Int32) (sp : Int32) (hst : I 66 2 = sp) : MTi l G bs cy MX5_fail 1 [.ref (bs + 61), .int w] I L R (fun r I1 L1 R1 => bI false = r ∧ Fr SFc I I1 ∧ I1 61 4 = w ∧ I1 61 5 = sp ∧ L = L1 ∧ R = R1) := by
  refine MTz.of (own := RX5) pn_RX5 rfl (Nat.le_of_ble_eq_true rfl) ?_
  intro p e s m args below meth c Qf X hW hS fin ls hl
  have hx := X.1
  have hb := X.2.1
  have hR : RmOK (rmL 1 0 0) 1 := ⟨rfl, rfl⟩
  have hcs : 0 ≤ (rmL 1 0 0).cells ∧ 0 ≤ (rmL 1 0 0).slots := ⟨Nat.zero_le _, Nat.zero_le _⟩
  have hl : lv_has ls 2 [(0, .ref (bs + 61)), (1, .int w)] := hl
  have hF : Fr SFc I I := Fr.rf
  refine lv_aload_n hx hb (dg D_X5_fail (i := 0) rfl) rfl (lv_at hl 0 rfl) ?_
  refine lv_iload_n hx hb (dg D_X5_fail (i := 1) rfl) rfl (lv_at hl 1 rfl) ?_
  refine r_puti (v := w) (ty := .int) X hW hS FI_X5_40 rfl (by decide) rfl rfl (by decide +kernel) rfl rfl (dg D_X5_fail (i := 2) rfl) (fun H locs hW hS => ?_)
  have hF : Fr SFc I (u2 I 61 4 w) := Fr.put hF rfl
  obtain ⟨J2, eJ2⟩ : ∃ J, J = u2 I 61 4 w := ⟨_, rfl⟩
  rw [← eJ2] at hW hF
  have hst : J2 66 2 = sp := by rw [eJ2, u2_off (Or.inl (by decide))]; exact hst
  have hki : J2 61 4 = w := by rw [eJ2]; exact u2_at
  refine lv_aload_n hx hb (dg D_X5_fail (i := 3) rfl) rfl (lv_at hl 0 rfl) ?_
  refine lv_aload_n hx hb (dg D_X5_fail (i := 4) rfl) rfl (lv_at hl 0 rfl) ?_
  refine r_getc (t := 66) X hW FI_X5_28 rfl (by decide) rfl (dg D_X5_fail (i := 5) rfl) ?_
  refine rn_geti (v := sp) X hW FN_X5_74 rfl (by decide) rfl hst (dg D_X5_fail (i := 6) rfl) ?_
  refine r_puti (v := sp) (ty := .int) X hW hS FI_X5_19 rfl (by decide) rfl rfl (by decide +kernel) rfl rfl (dg D_X5_fail (i := 7) rfl) (fun H locs hW hS => ?_)
  have hF : Fr SFc I (u2 J2 61 5 sp) := Fr.put hF rfl
  obtain ⟨J13, eJ13⟩ : ∃ J, J = u2 J2 61 5 sp := ⟨_, rfl⟩
  rw [← eJ13] at hW hF
  have hst : J13 66 2 = sp := by rw [eJ13, u2_off (Or.inl (by decide))]; exact hst
  have hki : J13 61 4 = w := by rw [eJ13, u2_off (Or.inr (by decide))]; exact hki
  have hpo : J13 61 5 = sp := by rw [eJ13]; exact u2_at
  refine n_iconst (a := 0) hx hb (dg D_X5_fail (i := 8) rfl) rfl ?_
  exact fin (dg D_X5_fail (i := 9) rfl) hW hS (show _ = bI false from rfl) ⟨rfl, hF, hki, hpo, rfl, rfl⟩

set_option maxHeartbeats 4000000 in
set_option maxRecDepth 100000 in
theorem c_X5_failOnToken {l : Launch} {G : va_G} {bs : Nat} {cy : Nat → ClassId} {I : CI} {L : CL} {R : CR} (b : Nat → Int32) (n : Nat) (p9 : Nat) (hst : I 66 2 = nI (tS b n p9)) (hki : I 66 4 = nI (cK (tK b n p9))) : MTi l G bs cy MX5_failOnToken 1 [.ref (bs + 61)] I L R (fun r I1 L1 R1 => bI false = r ∧ Fr SFc I I1 ∧ I1 61 4 = e2 b n p9 ∧ I1 61 5 = nI (tS b n p9) ∧ L = L1 ∧ R = R1) := by
  refine MTz.of (own := RX5) pn_RX5 rfl (Nat.le_of_ble_eq_true rfl) ?_
  intro p e s m args below meth c Qf X hW hS fin ls hl
  have hx := X.1
  have hb := X.2.1
  have hR : RmOK (rmL 1 0 0) 1 := ⟨rfl, rfl⟩
  have hcs : 0 ≤ (rmL 1 0 0).cells ∧ 0 ≤ (rmL 1 0 0).slots := ⟨Nat.zero_le _, Nat.zero_le _⟩
  have hl : lv_has ls 1 [(0, .ref (bs + 61))] := hl
  have hF : Fr SFc I I := Fr.rf
  have hk4 := tK_le (b := b) (n := n) (p := p9)
  have hck := cK_eq hk4
  refine lv_aload_n hx hb (dg D_X5_failOnToken (i := 0) rfl) rfl (lv_at hl 0 rfl) ?_
  refine lv_aload_n hx hb (dg D_X5_failOnToken (i := 1) rfl) rfl (lv_at hl 0 rfl) ?_
  refine r_getc (t := 66) X hW FI_X5_28 rfl (by decide) rfl (dg D_X5_failOnToken (i := 2) rfl) ?_
  refine rn_geti (v := nI (cK (tK b n p9))) X hW FN_X5_64 rfl (by decide) rfl hki (dg D_X5_failOnToken (i := 3) rfl) ?_
  refine n_iconst (a := 4) hx hb (dg D_X5_failOnToken (i := 4) rfl) rfl ?_
  refine n_icmp_ne (tgt := 16) hx hb (by omega) (by omega) (dg D_X5_failOnToken (i := 5) rfl) (by decide) (fun c9 => ?_) (fun c9 => ?_)
  · refine n_iconst (a := 2) hx hb (dg D_X5_failOnToken (i := 8) rfl) rfl ?_
    refine r_puti (v := nI 2) (ty := .int) X hW hS FI_X5_40 rfl (by decide) rfl rfl (by decide +kernel) rfl rfl (dg D_X5_failOnToken (i := 9) rfl) (fun H locs hW hS => ?_)
    have hF : Fr SFc I (u2 I 61 4 (nI 2)) := Fr.put hF rfl
    obtain ⟨J17, eJ17⟩ : ∃ J, J = u2 I 61 4 (nI 2) := ⟨_, rfl⟩
    rw [← eJ17] at hW hF
    have hst : J17 66 2 = nI (tS b n p9) := by rw [eJ17, u2_off (Or.inl (by decide))]; exact hst
    have hki : J17 66 4 = nI (cK (tK b n p9)) := by rw [eJ17, u2_off (Or.inl (by decide))]; exact hki
    have hfk : J17 61 4 = nI 2 := by rw [eJ17]; exact u2_at
    refine lv_aload_n hx hb (dg D_X5_failOnToken (i := 10) rfl) rfl (lv_at hl 0 rfl) ?_
    refine lv_aload_n hx hb (dg D_X5_failOnToken (i := 11) rfl) rfl (lv_at hl 0 rfl) ?_
    refine r_getc (t := 66) X hW FI_X5_28 rfl (by decide) rfl (dg D_X5_failOnToken (i := 12) rfl) ?_
    refine rn_geti (v := nI (tS b n p9)) X hW FN_X5_74 rfl (by decide) rfl hst (dg D_X5_failOnToken (i := 13) rfl) ?_
    refine r_puti (v := nI (tS b n p9)) (ty := .int) X hW hS FI_X5_19 rfl (by decide) rfl rfl (by decide +kernel) rfl rfl (dg D_X5_failOnToken (i := 14) rfl) (fun H locs hW hS => ?_)
    have hF : Fr SFc I (u2 J17 61 5 (nI (tS b n p9))) := Fr.put hF rfl
    obtain ⟨J28, eJ28⟩ : ∃ J, J = u2 J17 61 5 (nI (tS b n p9)) := ⟨_, rfl⟩
    rw [← eJ28] at hW hF
    have hst : J28 66 2 = nI (tS b n p9) := by rw [eJ28, u2_off (Or.inl (by decide))]; exact hst
    have hki : J28 66 4 = nI (cK (tK b n p9)) := by rw [eJ28, u2_off (Or.inl (by decide))]; exact hki
    have hfk : J28 61 4 = nI 2 := by rw [eJ28, u2_off (Or.inr (by decide))]; exact hfk
    have hpo : J28 61 5 = nI (tS b n p9) := by rw [eJ28]; exact u2_at
    refine n_iconst (a := 0) hx hb (dg D_X5_failOnToken (i := 15) rfl) rfl ?_
    exact fin (dg D_X5_failOnToken (i := 16) rfl) hW hS (show _ = bI false from rfl) ⟨rfl, hF, by rw [hfk]; exact (if_neg (fun z => c9 (hck.1.mpr z))).symm, hpo, rfl, rfl⟩
  · refine n_iconst (a := 1) hx hb (dg D_X5_failOnToken (i := 6) rfl) rfl ?_
    refine lv_goto (tgt := 17) hx hb (dg D_X5_failOnToken (i := 7) rfl) (by decide) ?_
    refine r_puti (v := nI 1) (ty := .int) X hW hS FI_X5_40 rfl (by decide) rfl rfl (by decide +kernel) rfl rfl (dg D_X5_failOnToken (i := 9) rfl) (fun H locs hW hS => ?_)
    have hF : Fr SFc I (u2 I 61 4 (nI 1)) := Fr.put hF rfl
    obtain ⟨J17, eJ17⟩ : ∃ J, J = u2 I 61 4 (nI 1) := ⟨_, rfl⟩
    rw [← eJ17] at hW hF
    have hst : J17 66 2 = nI (tS b n p9) := by rw [eJ17, u2_off (Or.inl (by decide))]; exact hst
    have hki : J17 66 4 = nI (cK (tK b n p9)) := by rw [eJ17, u2_off (Or.inl (by decide))]; exact hki
    have hfk : J17 61 4 = nI 1 := by rw [eJ17]; exact u2_at
    refine lv_aload_n hx hb (dg D_X5_failOnToken (i := 10) rfl) rfl (lv_at hl 0 rfl) ?_
    refine lv_aload_n hx hb (dg D_X5_failOnToken (i := 11) rfl) rfl (lv_at hl 0 rfl) ?_
    refine r_getc (t := 66) X hW FI_X5_28 rfl (by decide) rfl (dg D_X5_failOnToken (i := 12) rfl) ?_
    refine rn_geti (v := nI (tS b n p9)) X hW FN_X5_74 rfl (by decide) rfl hst (dg D_X5_failOnToken (i := 13) rfl) ?_
    refine r_puti (v := nI (tS b n p9)) (ty := .int) X hW hS FI_X5_19 rfl (by decide) rfl rfl (by decide +kernel) rfl rfl (dg D_X5_failOnToken (i := 14) rfl) (fun H locs hW hS => ?_)
    have hF : Fr SFc I (u2 J17 61 5 (nI (tS b n p9))) := Fr.put hF rfl
    obtain ⟨J28, eJ28⟩ : ∃ J, J = u2 J17 61 5 (nI (tS b n p9)) := ⟨_, rfl⟩
    rw [← eJ28] at hW hF
    have hst : J28 66 2 = nI (tS b n p9) := by rw [eJ28, u2_off (Or.inl (by decide))]; exact hst
    have hki : J28 66 4 = nI (cK (tK b n p9)) := by rw [eJ28, u2_off (Or.inl (by decide))]; exact hki
    have hfk : J28 61 4 = nI 1 := by rw [eJ28, u2_off (Or.inr (by decide))]; exact hfk
    have hpo : J28 61 5 = nI (tS b n p9) := by rw [eJ28]; exact u2_at
    refine n_iconst (a := 0) hx hb (dg D_X5_failOnToken (i := 15) rfl) rfl ?_
    exact fin (dg D_X5_failOnToken (i := 16) rfl) hW hS (show _ = bI false from rfl) ⟨rfl, hF, by rw [hfk]; exact (if_pos (hck.1.mp (by omega))).symm, hpo, rfl, rfl⟩

set_option maxHeartbeats 4000000 in
set_option maxRecDepth 100000 in
theorem c_X5_number {l : Launch} {G : va_G} {bs : Nat} {cy : Nat → ClassId} {I : CI} {L : CL} {R : CR} (b : Nat → Int32) (n : Nat) (p9 : Nat) (lo : Nat) (hi9 : Nat) (hTx : rowP I 30 n (fun j => sg (b j))) (hln : I 66 1 = nI n) (hT : TB b n) (hn : n ≤ 900) (hen : I 66 3 = nI p9) (hp : p9 ≤ n) (hz : KC I) (hlo : lo ≤ 1000) (hhi : hi9 ≤ 1000) : MTi l G bs cy MX5_number 3 [.ref (bs + 61), .int (nI lo), .int (nI hi9)] I L R (fun r I1 L1 R1 => nuV b n p9 lo hi9 = r ∧ Fr SNr I I1 ∧ I1 66 3 = nI (tE b n p9) ∧ (nuOk b n p9 lo hi9 = false → I1 61 4 = nuE b n p9 ∧ I1 61 5 = nI (tS b n p9)) ∧ (nuOk b n p9 lo hi9 = true → KC I1) ∧ FL SLc L L1 ∧ R = R1) := by
  refine MTi.of (own := RX5) pn_RX5 rfl (Nat.le_of_ble_eq_true rfl) ?_
  intro p e s m args below meth c Qf X hW hS fin ls hl
  have hx := X.1
  have hb := X.2.1
  have hR : RmOK (rmL 3 0 0) 3 := ⟨rfl, rfl⟩
  have hcs : 0 ≤ (rmL 3 0 0).cells ∧ 0 ≤ (rmL 3 0 0).slots := ⟨Nat.zero_le _, Nat.zero_le _⟩
  have hl : lv_has ls 3 [(0, .ref (bs + 61)), (1, .int (nI lo)), (2, .int (nI hi9))] := hl
  have hF : Fr SNr I I := Fr.rf
  have hFL : FL SLc L L := FL.rf
  have hk4 := tK_le (b := b) (n := n) (p := p9)
  have hck := cK_eq hk4
  refine lv_aload_n hx hb (dg D_X5_number (i := 0) rfl) rfl (lv_at hl 0 rfl) ?_
  refine r_getc (t := 66) X hW FI_X5_28 rfl (by decide) rfl (dg D_X5_number (i := 1) rfl) ?_
  refine callVv X hW hS hR (c_X10_next (I := I) b n p9 (by first | exact hTx | assumption | omega | decide | exact hP.1) (by first | exact hln | assumption | omega | decide | exact hP.1) (by first | exact hT | assumption | omega | decide | exact hP.1) (by first | exact hn | assumption | omega | decide | exact hP.1) (by first | exact hen | assumption | omega | decide | exact hP.1) (by first | exact hp | assumption | omega | decide | exact hP.1)) (by decide) UVX10_next LK_X5_61 rfl (by decide) rfl rfl rfl (Nat.le_of_ble_eq_true rfl) hl hcs (dg D_X5_number (i := 2) rfl) (fun I4 Lc4 R1 H locs hq hW hS => ?_)
  obtain ⟨hT4, hp4_0, hL4, rfl⟩ := hq
  have hF : Fr SNr I I4 := Fr.tr hF hT4 (by intro a j h; simp only [STc, SNr, Bool.or_eq_true, Bool.and_eq_true, beq_iff_eq, decide_eq_true_eq] at h ⊢; omega)
  have hTx : rowP I4 30 n (fun j => sg (b j)) := hTx.fr hT4 (fun _ => rfl)
  have hz : KC I4 := KC.fr hz hT4 rfl rfl
  have hln : I4 66 1 = nI n := (hT4 66 1 rfl).trans hln
  have hFL : FL SLc L Lc4 := FL.tr hFL hL4 (fun _ _ h => h)
  obtain ⟨hst, hen2, hki, hnu, hwd⟩ := id hp4_0
  refine lv_aload_n hx hb (dg D_X5_number (i := 3) rfl) rfl (lv_at hl 0 rfl) ?_
  refine r_getc (t := 66) X hW FI_X5_28 rfl (by decide) rfl (dg D_X5_number (i := 4) rfl) ?_
  refine rn_geti (v := nI (cK (tK b n p9))) X hW FN_X5_64 rfl (by decide) rfl hki (dg D_X5_number (i := 5) rfl) ?_
  refine n_iconst (a := 2) hx hb (dg D_X5_number (i := 6) rfl) rfl ?_
  refine n_icmp_eq (tgt := 26) hx hb (by omega) (by omega) (dg D_X5_number (i := 7) rfl) (by decide) (fun c15 => ?_) (fun c15 => ?_)
  · have hk3 : tK b n p9 = 3 := hck.2.1.mp (by omega)
    have hv9 := tok_n hT hp hk3
    have hvl : I4 66 5 = nI (tV b n p9) := hnu hk3
    refine lv_aload_n hx hb (dg D_X5_number (i := 13) rfl) rfl (lv_at hl 0 rfl) ?_
    refine r_getc (t := 66) X hW FI_X5_28 rfl (by decide) rfl (dg D_X5_number (i := 14) rfl) ?_
    refine rn_geti (v := nI (tV b n p9)) X hW FN_X5_192 rfl (by decide) rfl hvl (dg D_X5_number (i := 15) rfl) ?_
    refine lv_iload_n hx hb (dg D_X5_number (i := 16) rfl) rfl (lv_at hl 1 rfl) ?_
    refine n_icmp_lt (tgt := 48) hx hb (by omega) (by omega) (dg D_X5_number (i := 17) rfl) (by decide) (fun c34 => ?_) (fun c34 => ?_)
    · refine lv_aload_n hx hb (dg D_X5_number (i := 23) rfl) rfl (lv_at hl 0 rfl) ?_
      refine n_iconst (a := 3) hx hb (dg D_X5_number (i := 24) rfl) rfl ?_
      refine callVi X hW hS hR (c_X5_fail (I := I4) (nI 3) (nI (tS b n p9)) (by first | exact hst | assumption | omega | decide | exact hP.1)) (by decide) UVX5_fail LK_X5_89 rfl (by decide) rfl rfl rfl (Nat.le_of_ble_eq_true rfl) hl hcs (dg D_X5_number (i := 25) rfl) (fun r50 I50 L1 R1 H locs hq hW hS => ?_)
      obtain ⟨rfl, hT50, hp50_0, hp50_1, rfl, rfl⟩ := hq
      have hF : Fr SNr I I50 := Fr.tr hF hT50 (by intro a j h; simp only [SFc, SNr, Bool.or_eq_true, Bool.and_eq_true, beq_iff_eq, decide_eq_true_eq] at h ⊢; omega)
      have hTx : rowP I50 30 n (fun j => sg (b j)) := hTx.fr hT50 (fun _ => rfl)
      have hln : I50 66 1 = nI n := (hT50 66 1 rfl).trans hln
      have hst : I50 66 2 = nI (tS b n p9) := (hT50 66 2 rfl).trans hst
      have hen2 : I50 66 3 = nI (tE b n p9) := (hT50 66 3 rfl).trans hen2
      have hki : I50 66 4 = nI (cK (tK b n p9)) := (hT50 66 4 rfl).trans hki
      have hvl : I50 66 5 = nI (tV b n p9) := (hT50 66 5 rfl).trans hvl
      refine lv_pop hx hb (dg D_X5_number (i := 26) rfl) rfl ?_
      refine lv_bipush (v := -2) hx hb (dg D_X5_number (i := 27) rfl) (by decide) ?_
      have hno : nuOk b n p9 lo hi9 = false := decide_eq_false (fun z => by omega)
      exact fin (dg D_X5_number (i := 28) rfl) hW hS ⟨by unfold nuV; rw [hno]; exact if_neg (by decide), hF, hen2, fun _ => ⟨by rw [hp50_0]; exact (if_pos hk3).symm, hp50_1⟩, fun z => absurd z (by rw [hno]; decide), hFL, rfl⟩
    · refine lv_aload_n hx hb (dg D_X5_number (i := 18) rfl) rfl (lv_at hl 0 rfl) ?_
      refine r_getc (t := 66) X hW FI_X5_28 rfl (by decide) rfl (dg D_X5_number (i := 19) rfl) ?_
      refine rn_geti (v := nI (tV b n p9)) X hW FN_X5_192 rfl (by decide) rfl hvl (dg D_X5_number (i := 20) rfl) ?_
      refine lv_iload_n hx hb (dg D_X5_number (i := 21) rfl) rfl (lv_at hl 2 rfl) ?_
      refine n_icmp_le (tgt := 57) hx hb (by omega) (by omega) (dg D_X5_number (i := 22) rfl) (by decide) (fun c45 => ?_) (fun c45 => ?_)
      · refine lv_aload_n hx hb (dg D_X5_number (i := 29) rfl) rfl (lv_at hl 0 rfl) ?_
        refine r_getc (t := 66) X hW FI_X5_28 rfl (by decide) rfl (dg D_X5_number (i := 30) rfl) ?_
        refine rn_geti (v := nI (tV b n p9)) X hW FN_X5_192 rfl (by decide) rfl hvl (dg D_X5_number (i := 31) rfl) ?_
        have hyes : nuOk b n p9 lo hi9 = true := decide_eq_true ⟨hk3, by omega, by omega⟩
        exact fin (dg D_X5_number (i := 32) rfl) hW hS ⟨by unfold nuV; rw [hyes]; exact if_pos rfl, hF, hen2, fun z => absurd z (by rw [hyes]; decide), fun _ => hz, hFL, rfl⟩
      · refine lv_aload_n hx hb (dg D_X5_number (i := 23) rfl) rfl (lv_at hl 0 rfl) ?_
        refine n_iconst (a := 3) hx hb (dg D_X5_number (i := 24) rfl) rfl ?_
        refine callVi X hW hS hR (c_X5_fail (I := I4) (nI 3) (nI (tS b n p9)) (by first | exact hst | assumption | omega | decide | exact hP.1)) (by decide) UVX5_fail LK_X5_89 rfl (by decide) rfl rfl rfl (Nat.le_of_ble_eq_true rfl) hl hcs (dg D_X5_number (i := 25) rfl) (fun r50 I50 L1 R1 H locs hq hW hS => ?_)
        obtain ⟨rfl, hT50, hp50_0, hp50_1, rfl, rfl⟩ := hq
        have hF : Fr SNr I I50 := Fr.tr hF hT50 (by intro a j h; simp only [SFc, SNr, Bool.or_eq_true, Bool.and_eq_true, beq_iff_eq, decide_eq_true_eq] at h ⊢; omega)
        have hTx : rowP I50 30 n (fun j => sg (b j)) := hTx.fr hT50 (fun _ => rfl)
        have hln : I50 66 1 = nI n := (hT50 66 1 rfl).trans hln
        have hst : I50 66 2 = nI (tS b n p9) := (hT50 66 2 rfl).trans hst
        have hen2 : I50 66 3 = nI (tE b n p9) := (hT50 66 3 rfl).trans hen2
        have hki : I50 66 4 = nI (cK (tK b n p9)) := (hT50 66 4 rfl).trans hki
        have hvl : I50 66 5 = nI (tV b n p9) := (hT50 66 5 rfl).trans hvl
        refine lv_pop hx hb (dg D_X5_number (i := 26) rfl) rfl ?_
        refine lv_bipush (v := -2) hx hb (dg D_X5_number (i := 27) rfl) (by decide) ?_
        have hno : nuOk b n p9 lo hi9 = false := decide_eq_false (fun z => by omega)
        exact fin (dg D_X5_number (i := 28) rfl) hW hS ⟨by unfold nuV; rw [hno]; exact if_neg (by decide), hF, hen2, fun _ => ⟨by rw [hp50_0]; exact (if_pos hk3).symm, hp50_1⟩, fun z => absurd z (by rw [hno]; decide), hFL, rfl⟩
  · refine lv_aload_n hx hb (dg D_X5_number (i := 8) rfl) rfl (lv_at hl 0 rfl) ?_
    refine callVi X hW hS hR (c_X5_failOnToken (I := I4) b n p9 (by first | exact hst | assumption | omega | decide | exact hP.1) (by first | exact hki | assumption | omega | decide | exact hP.1)) (by decide) UVX5_failOnToken LK_X5_76 rfl (by decide) rfl rfl rfl (Nat.le_of_ble_eq_true rfl) hl hcs (dg D_X5_number (i := 9) rfl) (fun r19 I19 L1 R1 H locs hq hW hS => ?_)
    obtain ⟨rfl, hT19, hp19_0, hp19_1, rfl, rfl⟩ := hq
    have hF : Fr SNr I I19 := Fr.tr hF hT19 (by intro a j h; simp only [SFc, SNr, Bool.or_eq_true, Bool.and_eq_true, beq_iff_eq, decide_eq_true_eq] at h ⊢; omega)
    have hTx : rowP I19 30 n (fun j => sg (b j)) := hTx.fr hT19 (fun _ => rfl)
    have hln : I19 66 1 = nI n := (hT19 66 1 rfl).trans hln
    have hst : I19 66 2 = nI (tS b n p9) := (hT19 66 2 rfl).trans hst
    have hen2 : I19 66 3 = nI (tE b n p9) := (hT19 66 3 rfl).trans hen2
    have hki : I19 66 4 = nI (cK (tK b n p9)) := (hT19 66 4 rfl).trans hki
    refine lv_pop hx hb (dg D_X5_number (i := 10) rfl) rfl ?_
    refine lv_bipush (v := -2) hx hb (dg D_X5_number (i := 11) rfl) (by decide) ?_
    have hk3 : ¬ tK b n p9 = 3 := fun z => c15 (hck.2.1.mpr z)
    have hno : nuOk b n p9 lo hi9 = false := decide_eq_false (fun z => hk3 z.1)
    exact fin (dg D_X5_number (i := 12) rfl) hW hS ⟨by unfold nuV; rw [hno]; exact if_neg (by decide), hF, hen2, fun _ => ⟨by rw [hp19_0]; exact (if_neg hk3).symm, hp19_1⟩, fun z => absurd z (by rw [hno]; decide), hFL, rfl⟩

set_option maxHeartbeats 4000000 in
set_option maxRecDepth 100000 in
theorem c_X5_semicolon {l : Launch} {G : va_G} {bs : Nat} {cy : Nat → ClassId} {I : CI} {L : CL} {R : CR} (b : Nat → Int32) (n : Nat) (p9 : Nat) (hTx : rowP I 30 n (fun j => sg (b j))) (hln : I 66 1 = nI n) (hT : TB b n) (hn : n ≤ 900) (hen : I 66 3 = nI p9) (hp : p9 ≤ n) (hz : KC I) : MTi l G bs cy MX5_semicolon 3 [.ref (bs + 61)] I L R (fun r I1 L1 R1 => bI (decide (tK b n p9 = 4)) = r ∧ Fr SNr I I1 ∧ I1 66 3 = nI (tE b n p9) ∧ (decide (tK b n p9 = 4) = false → I1 61 4 = e2 b n p9 ∧ I1 61 5 = nI (tS b n p9)) ∧ (decide (tK b n p9 = 4) = true → KC I1) ∧ FL SLc L L1 ∧ R = R1) := by
  refine MTz.of (own := RX5) pn_RX5 rfl (Nat.le_of_ble_eq_true rfl) ?_
  intro p e s m args below meth c Qf X hW hS fin ls hl
  have hx := X.1
  have hb := X.2.1
  have hR : RmOK (rmL 3 0 0) 3 := ⟨rfl, rfl⟩
  have hcs : 0 ≤ (rmL 3 0 0).cells ∧ 0 ≤ (rmL 3 0 0).slots := ⟨Nat.zero_le _, Nat.zero_le _⟩
  have hl : lv_has ls 1 [(0, .ref (bs + 61))] := hl
  have hF : Fr SNr I I := Fr.rf
  have hFL : FL SLc L L := FL.rf
  have hk4 := tK_le (b := b) (n := n) (p := p9)
  have hck := cK_eq hk4
  refine lv_aload_n hx hb (dg D_X5_semicolon (i := 0) rfl) rfl (lv_at hl 0 rfl) ?_
  refine r_getc (t := 66) X hW FI_X5_28 rfl (by decide) rfl (dg D_X5_semicolon (i := 1) rfl) ?_
  refine callVv X hW hS hR (c_X10_next (I := I) b n p9 (by first | exact hTx | assumption | omega | decide | exact hP.1) (by first | exact hln | assumption | omega | decide | exact hP.1) (by first | exact hT | assumption | omega | decide | exact hP.1) (by first | exact hn | assumption | omega | decide | exact hP.1) (by first | exact hen | assumption | omega | decide | exact hP.1) (by first | exact hp | assumption | omega | decide | exact hP.1)) (by decide) UVX10_next LK_X5_61 rfl (by decide) rfl rfl rfl (Nat.le_of_ble_eq_true rfl) hl hcs (dg D_X5_semicolon (i := 2) rfl) (fun I4 Lc4 R1 H locs hq hW hS => ?_)
  obtain ⟨hT4, hp4_0, hL4, rfl⟩ := hq
  have hF : Fr SNr I I4 := Fr.tr hF hT4 (by intro a j h; simp only [STc, SNr, Bool.or_eq_true, Bool.and_eq_true, beq_iff_eq, decide_eq_true_eq] at h ⊢; omega)
  have hTx : rowP I4 30 n (fun j => sg (b j)) := hTx.fr hT4 (fun _ => rfl)
  have hz : KC I4 := KC.fr hz hT4 rfl rfl
  have hln : I4 66 1 = nI n := (hT4 66 1 rfl).trans hln
  have hFL : FL SLc L Lc4 := FL.tr hFL hL4 (fun _ _ h => h)
  obtain ⟨hst, hen2, hki, hnu, hwd⟩ := id hp4_0
  refine lv_aload_n hx hb (dg D_X5_semicolon (i := 3) rfl) rfl (lv_at hl 0 rfl) ?_
  refine r_getc (t := 66) X hW FI_X5_28 rfl (by decide) rfl (dg D_X5_semicolon (i := 4) rfl) ?_
  refine rn_geti (v := nI (cK (tK b n p9))) X hW FN_X5_64 rfl (by decide) rfl hki (dg D_X5_semicolon (i := 5) rfl) ?_
  refine n_iconst (a := 3) hx hb (dg D_X5_semicolon (i := 6) rfl) rfl ?_
  refine n_icmp_eq (tgt := 25) hx hb (by omega) (by omega) (dg D_X5_semicolon (i := 7) rfl) (by decide) (fun c15 => ?_) (fun c15 => ?_)
  · refine n_iconst (a := 1) hx hb (dg D_X5_semicolon (i := 11) rfl) rfl ?_
    refine lv_goto (tgt := 30) hx hb (dg D_X5_semicolon (i := 12) rfl) (by decide) ?_
    exact fin (dg D_X5_semicolon (i := 14) rfl) hW hS (show _ = bI true from rfl) ⟨by rw [decide_eq_true (hck.2.2.1.mp (by omega))], hF, hen2, fun z => absurd z (by rw [decide_eq_true (hck.2.2.1.mp (by omega))]; decide), fun _ => hz, hFL, rfl⟩
  · refine lv_aload_n hx hb (dg D_X5_semicolon (i := 8) rfl) rfl (lv_at hl 0 rfl) ?_
    refine callVi X hW hS hR (c_X5_failOnToken (I := I4) b n p9 (by first | exact hst | assumption | omega | decide | exact hP.1) (by first | exact hki | assumption | omega | decide | exact hP.1)) (by decide) UVX5_failOnToken LK_X5_76 rfl (by decide) rfl rfl rfl (Nat.le_of_ble_eq_true rfl) hl hcs (dg D_X5_semicolon (i := 9) rfl) (fun r19 I19 L1 R1 H locs hq hW hS => ?_)
    obtain ⟨rfl, hT19, hp19_0, hp19_1, rfl, rfl⟩ := hq
    have hF : Fr SNr I I19 := Fr.tr hF hT19 (by intro a j h; simp only [SFc, SNr, Bool.or_eq_true, Bool.and_eq_true, beq_iff_eq, decide_eq_true_eq] at h ⊢; omega)
    have hTx : rowP I19 30 n (fun j => sg (b j)) := hTx.fr hT19 (fun _ => rfl)
    have hln : I19 66 1 = nI n := (hT19 66 1 rfl).trans hln
    have hst : I19 66 2 = nI (tS b n p9) := (hT19 66 2 rfl).trans hst
    have hen2 : I19 66 3 = nI (tE b n p9) := (hT19 66 3 rfl).trans hen2
    have hki : I19 66 4 = nI (cK (tK b n p9)) := (hT19 66 4 rfl).trans hki
    refine z_if_eq (tgt := 29) hx hb (dg D_X5_semicolon (i := 10) rfl) (by decide) (fun c22 => ?_) (fun c22 => ?_)
    · refine n_iconst (a := 0) hx hb (dg D_X5_semicolon (i := 13) rfl) rfl ?_
      have hno : decide (tK b n p9 = 4) = false := decide_eq_false (fun z => c15 (hck.2.2.1.mpr z))
      exact fin (dg D_X5_semicolon (i := 14) rfl) hW hS (show _ = bI false from rfl) ⟨by rw [hno], hF, hen2, fun _ => ⟨hp19_0, hp19_1⟩, fun z => absurd z (by rw [hno]; decide), hFL, rfl⟩
    · exact absurd c22 (by decide)

set_option maxHeartbeats 4000000 in
set_option maxRecDepth 100000 in
theorem c_X5_isReserved {l : Launch} {G : va_G} {bs : Nat} {cy : Nat → ClassId} {I : CI} {L : CL} {R : CR} (b : Nat → Int32) (n : Nat) (s9 : Nat) (hT : TB b n) (hn : n ≤ 900) (hv : VP b n s9) : MTi l G bs cy MX5_isReserved 1 [.long (Int64.ofNat (w256 b n s9))] I L R (fun r I1 L1 R1 => bI (decide (kwS b n s9 ≠ -1)) = r ∧ I = I1 ∧ L = L1 ∧ R = R1) := by
  refine MTz.of (own := RX5) pn_RX5 rfl (Nat.le_of_ble_eq_true rfl) ?_
  intro p e s m args below meth c Qf X hW hS fin ls hl
  have hx := X.1
  have hb := X.2.1
  have hR : RmOK (rmL 1 0 0) 1 := ⟨rfl, rfl⟩
  have hcs : 0 ≤ (rmL 1 0 0).cells ∧ 0 ≤ (rmL 1 0 0).slots := ⟨Nat.zero_le _, Nat.zero_le _⟩
  have hl : lv_has ls 2 [(0, .long (Int64.ofNat (w256 b n s9)))] := hl
  refine lv_lload_n hx hb (dg D_X5_isReserved (i := 0) rfl) rfl (lv_at hl 0 rfl) ?_
  refine r_ldc2 X CK_X5_84 (dg D_X5_isReserved (i := 1) rfl) ?_
  refine W.lcmp hx hb (dg D_X5_isReserved (i := 2) rfl) ?_
  refine c_if_eq (tgt := 64) hx hb (dg D_X5_isReserved (i := 3) rfl) (by decide) (fun c5 => ?_) (fun c5 => ?_)
  · refine n_iconst (a := 1) hx hb (dg D_X5_isReserved (i := 32) rfl) rfl ?_
    refine lv_goto (tgt := 69) hx hb (dg D_X5_isReserved (i := 33) rfl) (by decide) ?_
    have hj : w256 b n s9 = kwC.getD 0 0 := i64_inj (w256_lt hT hv) (by decide) (by first | exact c5 | exact Classical.not_not.mp c5)
    exact fin (dg D_X5_isReserved (i := 35) rfl) hW hS (show _ = bI true from rfl) ⟨congrArg bI (decide_eq_true (by rw [(kwS_j (j := 0) (by decide)).mpr hj]; decide)), rfl, rfl, rfl⟩
  · refine lv_lload_n hx hb (dg D_X5_isReserved (i := 4) rfl) rfl (lv_at hl 0 rfl) ?_
    refine r_ldc2 X CK_X5_93 (dg D_X5_isReserved (i := 5) rfl) ?_
    refine W.lcmp hx hb (dg D_X5_isReserved (i := 6) rfl) ?_
    refine c_if_eq (tgt := 64) hx hb (dg D_X5_isReserved (i := 7) rfl) (by decide) (fun c13 => ?_) (fun c13 => ?_)
    · refine n_iconst (a := 1) hx hb (dg D_X5_isReserved (i := 32) rfl) rfl ?_
      refine lv_goto (tgt := 69) hx hb (dg D_X5_isReserved (i := 33) rfl) (by decide) ?_
      have n0 : w256 b n s9 ≠ kwC.getD 0 0 := fun e => c5 (by rw [e]; rfl)
      have hj : w256 b n s9 = kwC.getD 1 0 := i64_inj (w256_lt hT hv) (by decide) (by first | exact c13 | exact Classical.not_not.mp c13)
      exact fin (dg D_X5_isReserved (i := 35) rfl) hW hS (show _ = bI true from rfl) ⟨congrArg bI (decide_eq_true (by rw [(kwS_j (j := 1) (by decide)).mpr hj]; decide)), rfl, rfl, rfl⟩
    · refine lv_lload_n hx hb (dg D_X5_isReserved (i := 8) rfl) rfl (lv_at hl 0 rfl) ?_
      refine r_ldc2 X CK_X5_101 (dg D_X5_isReserved (i := 9) rfl) ?_
      refine W.lcmp hx hb (dg D_X5_isReserved (i := 10) rfl) ?_
      refine c_if_eq (tgt := 64) hx hb (dg D_X5_isReserved (i := 11) rfl) (by decide) (fun c21 => ?_) (fun c21 => ?_)
      · refine n_iconst (a := 1) hx hb (dg D_X5_isReserved (i := 32) rfl) rfl ?_
        refine lv_goto (tgt := 69) hx hb (dg D_X5_isReserved (i := 33) rfl) (by decide) ?_
        have n0 : w256 b n s9 ≠ kwC.getD 0 0 := fun e => c5 (by rw [e]; rfl)
        have n1 : w256 b n s9 ≠ kwC.getD 1 0 := fun e => c13 (by rw [e]; rfl)
        have hj : w256 b n s9 = kwC.getD 2 0 := i64_inj (w256_lt hT hv) (by decide) (by first | exact c21 | exact Classical.not_not.mp c21)
        exact fin (dg D_X5_isReserved (i := 35) rfl) hW hS (show _ = bI true from rfl) ⟨congrArg bI (decide_eq_true (by rw [(kwS_j (j := 2) (by decide)).mpr hj]; decide)), rfl, rfl, rfl⟩
      · refine lv_lload_n hx hb (dg D_X5_isReserved (i := 12) rfl) rfl (lv_at hl 0 rfl) ?_
        refine r_ldc2 X CK_X5_109 (dg D_X5_isReserved (i := 13) rfl) ?_
        refine W.lcmp hx hb (dg D_X5_isReserved (i := 14) rfl) ?_
        refine c_if_eq (tgt := 64) hx hb (dg D_X5_isReserved (i := 15) rfl) (by decide) (fun c29 => ?_) (fun c29 => ?_)
        · refine n_iconst (a := 1) hx hb (dg D_X5_isReserved (i := 32) rfl) rfl ?_
          refine lv_goto (tgt := 69) hx hb (dg D_X5_isReserved (i := 33) rfl) (by decide) ?_
          have n0 : w256 b n s9 ≠ kwC.getD 0 0 := fun e => c5 (by rw [e]; rfl)
          have n1 : w256 b n s9 ≠ kwC.getD 1 0 := fun e => c13 (by rw [e]; rfl)
          have n2 : w256 b n s9 ≠ kwC.getD 2 0 := fun e => c21 (by rw [e]; rfl)
          have hj : w256 b n s9 = kwC.getD 3 0 := i64_inj (w256_lt hT hv) (by decide) (by first | exact c29 | exact Classical.not_not.mp c29)
          exact fin (dg D_X5_isReserved (i := 35) rfl) hW hS (show _ = bI true from rfl) ⟨congrArg bI (decide_eq_true (by rw [(kwS_j (j := 3) (by decide)).mpr hj]; decide)), rfl, rfl, rfl⟩
        · refine lv_lload_n hx hb (dg D_X5_isReserved (i := 16) rfl) rfl (lv_at hl 0 rfl) ?_
          refine r_ldc2 X CK_X5_117 (dg D_X5_isReserved (i := 17) rfl) ?_
          refine W.lcmp hx hb (dg D_X5_isReserved (i := 18) rfl) ?_
          refine c_if_eq (tgt := 64) hx hb (dg D_X5_isReserved (i := 19) rfl) (by decide) (fun c37 => ?_) (fun c37 => ?_)
          · refine n_iconst (a := 1) hx hb (dg D_X5_isReserved (i := 32) rfl) rfl ?_
            refine lv_goto (tgt := 69) hx hb (dg D_X5_isReserved (i := 33) rfl) (by decide) ?_
            have n0 : w256 b n s9 ≠ kwC.getD 0 0 := fun e => c5 (by rw [e]; rfl)
            have n1 : w256 b n s9 ≠ kwC.getD 1 0 := fun e => c13 (by rw [e]; rfl)
            have n2 : w256 b n s9 ≠ kwC.getD 2 0 := fun e => c21 (by rw [e]; rfl)
            have n3 : w256 b n s9 ≠ kwC.getD 3 0 := fun e => c29 (by rw [e]; rfl)
            have hj : w256 b n s9 = kwC.getD 4 0 := i64_inj (w256_lt hT hv) (by decide) (by first | exact c37 | exact Classical.not_not.mp c37)
            exact fin (dg D_X5_isReserved (i := 35) rfl) hW hS (show _ = bI true from rfl) ⟨congrArg bI (decide_eq_true (by rw [(kwS_j (j := 4) (by decide)).mpr hj]; decide)), rfl, rfl, rfl⟩
          · refine lv_lload_n hx hb (dg D_X5_isReserved (i := 20) rfl) rfl (lv_at hl 0 rfl) ?_
            refine r_ldc2 X CK_X5_122 (dg D_X5_isReserved (i := 21) rfl) ?_
            refine W.lcmp hx hb (dg D_X5_isReserved (i := 22) rfl) ?_
            refine c_if_eq (tgt := 64) hx hb (dg D_X5_isReserved (i := 23) rfl) (by decide) (fun c45 => ?_) (fun c45 => ?_)
            · refine n_iconst (a := 1) hx hb (dg D_X5_isReserved (i := 32) rfl) rfl ?_
              refine lv_goto (tgt := 69) hx hb (dg D_X5_isReserved (i := 33) rfl) (by decide) ?_
              have n0 : w256 b n s9 ≠ kwC.getD 0 0 := fun e => c5 (by rw [e]; rfl)
              have n1 : w256 b n s9 ≠ kwC.getD 1 0 := fun e => c13 (by rw [e]; rfl)
              have n2 : w256 b n s9 ≠ kwC.getD 2 0 := fun e => c21 (by rw [e]; rfl)
              have n3 : w256 b n s9 ≠ kwC.getD 3 0 := fun e => c29 (by rw [e]; rfl)
              have n4 : w256 b n s9 ≠ kwC.getD 4 0 := fun e => c37 (by rw [e]; rfl)
              have hj : w256 b n s9 = kwC.getD 5 0 := i64_inj (w256_lt hT hv) (by decide) (by first | exact c45 | exact Classical.not_not.mp c45)
              exact fin (dg D_X5_isReserved (i := 35) rfl) hW hS (show _ = bI true from rfl) ⟨congrArg bI (decide_eq_true (by rw [(kwS_j (j := 5) (by decide)).mpr hj]; decide)), rfl, rfl, rfl⟩
            · refine lv_lload_n hx hb (dg D_X5_isReserved (i := 24) rfl) rfl (lv_at hl 0 rfl) ?_
              refine r_ldc2 X CK_X5_127 (dg D_X5_isReserved (i := 25) rfl) ?_
              refine W.lcmp hx hb (dg D_X5_isReserved (i := 26) rfl) ?_
              refine c_if_eq (tgt := 64) hx hb (dg D_X5_isReserved (i := 27) rfl) (by decide) (fun c53 => ?_) (fun c53 => ?_)
              · refine n_iconst (a := 1) hx hb (dg D_X5_isReserved (i := 32) rfl) rfl ?_
                refine lv_goto (tgt := 69) hx hb (dg D_X5_isReserved (i := 33) rfl) (by decide) ?_
                have n0 : w256 b n s9 ≠ kwC.getD 0 0 := fun e => c5 (by rw [e]; rfl)
                have n1 : w256 b n s9 ≠ kwC.getD 1 0 := fun e => c13 (by rw [e]; rfl)
                have n2 : w256 b n s9 ≠ kwC.getD 2 0 := fun e => c21 (by rw [e]; rfl)
                have n3 : w256 b n s9 ≠ kwC.getD 3 0 := fun e => c29 (by rw [e]; rfl)
                have n4 : w256 b n s9 ≠ kwC.getD 4 0 := fun e => c37 (by rw [e]; rfl)
                have n5 : w256 b n s9 ≠ kwC.getD 5 0 := fun e => c45 (by rw [e]; rfl)
                have hj : w256 b n s9 = kwC.getD 6 0 := i64_inj (w256_lt hT hv) (by decide) (by first | exact c53 | exact Classical.not_not.mp c53)
                exact fin (dg D_X5_isReserved (i := 35) rfl) hW hS (show _ = bI true from rfl) ⟨congrArg bI (decide_eq_true (by rw [(kwS_j (j := 6) (by decide)).mpr hj]; decide)), rfl, rfl, rfl⟩
              · refine lv_lload_n hx hb (dg D_X5_isReserved (i := 28) rfl) rfl (lv_at hl 0 rfl) ?_
                refine r_ldc2 X CK_X5_204 (dg D_X5_isReserved (i := 29) rfl) ?_
                refine W.lcmp hx hb (dg D_X5_isReserved (i := 30) rfl) ?_
                refine c_if_ne (tgt := 68) hx hb (dg D_X5_isReserved (i := 31) rfl) (by decide) (fun c61 => ?_) (fun c61 => ?_)
                · refine n_iconst (a := 0) hx hb (dg D_X5_isReserved (i := 34) rfl) rfl ?_
                  have n0 : w256 b n s9 ≠ kwC.getD 0 0 := fun e => c5 (by rw [e]; rfl)
                  have n1 : w256 b n s9 ≠ kwC.getD 1 0 := fun e => c13 (by rw [e]; rfl)
                  have n2 : w256 b n s9 ≠ kwC.getD 2 0 := fun e => c21 (by rw [e]; rfl)
                  have n3 : w256 b n s9 ≠ kwC.getD 3 0 := fun e => c29 (by rw [e]; rfl)
                  have n4 : w256 b n s9 ≠ kwC.getD 4 0 := fun e => c37 (by rw [e]; rfl)
                  have n5 : w256 b n s9 ≠ kwC.getD 5 0 := fun e => c45 (by rw [e]; rfl)
                  have n6 : w256 b n s9 ≠ kwC.getD 6 0 := fun e => c53 (by rw [e]; rfl)
                  have n7 : w256 b n s9 ≠ kwC.getD 7 0 := fun e => c61 (by rw [e]; rfl)
                  exact fin (dg D_X5_isReserved (i := 35) rfl) hW hS (show _ = bI false from rfl) ⟨congrArg bI (decide_eq_false (fun z => z (kwS_none8 n0 n1 n2 n3 n4 n5 n6 n7))), rfl, rfl, rfl⟩
                · refine n_iconst (a := 1) hx hb (dg D_X5_isReserved (i := 32) rfl) rfl ?_
                  refine lv_goto (tgt := 69) hx hb (dg D_X5_isReserved (i := 33) rfl) (by decide) ?_
                  have n0 : w256 b n s9 ≠ kwC.getD 0 0 := fun e => c5 (by rw [e]; rfl)
                  have n1 : w256 b n s9 ≠ kwC.getD 1 0 := fun e => c13 (by rw [e]; rfl)
                  have n2 : w256 b n s9 ≠ kwC.getD 2 0 := fun e => c21 (by rw [e]; rfl)
                  have n3 : w256 b n s9 ≠ kwC.getD 3 0 := fun e => c29 (by rw [e]; rfl)
                  have n4 : w256 b n s9 ≠ kwC.getD 4 0 := fun e => c37 (by rw [e]; rfl)
                  have n5 : w256 b n s9 ≠ kwC.getD 5 0 := fun e => c45 (by rw [e]; rfl)
                  have n6 : w256 b n s9 ≠ kwC.getD 6 0 := fun e => c53 (by rw [e]; rfl)
                  have hj : w256 b n s9 = kwC.getD 7 0 := i64_inj (w256_lt hT hv) (by decide) (by first | exact c61 | exact Classical.not_not.mp c61)
                  exact fin (dg D_X5_isReserved (i := 35) rfl) hW hS (show _ = bI true from rfl) ⟨congrArg bI (decide_eq_true (by rw [(kwS_j (j := 7) (by decide)).mpr hj]; decide)), rfl, rfl, rfl⟩

set_option maxHeartbeats 4000000 in
set_option maxRecDepth 100000 in
theorem c_X5_thisName {l : Launch} {G : va_G} {bs : Nat} {cy : Nat → ClassId} {I : CI} {L : CL} {R : CR} (b : Nat → Int32) (n : Nat) (σ : Row) (p9 : Nat) (nm : Nm) (N : Nat) (ds : Nat → Nat) (st : Nat → Nat) (nu : Nat → Nat) (t9 : Nat) (hT : TB b n) (hn : n ≤ 900) (hst : I 66 2 = nI (tS b n p9)) (hki : I 66 4 = nI (cK (tK b n p9))) (hwd : tK b n p9 = 2 → L 66 6 = Int64.ofNat (w256 b n (tS b n p9))) (hi : Inv σ) (hNi : NmI b n I N ds st nu) (hNl : NmL b n L N ds) (hNR : NmR b n σ nm N ds st nu) (ht9 : t9 < 3) (hz : KC I) : MTi l G bs cy MX5_thisName 2 [.ref (bs + 61), .int (nI (t9 + 1))] I L R (fun r I1 L1 R1 => onV b n σ nm t9 p9 = r ∧ Fr SFc I I1 ∧ (onOk b n σ nm t9 p9 = false → I1 61 4 = nnE b n p9 ∧ I1 61 5 = nI (tS b n p9)) ∧ (onOk b n σ nm t9 p9 = true → KC I1) ∧ L = L1 ∧ R = R1) := by
  refine MTi.of (own := RX5) pn_RX5 rfl (Nat.le_of_ble_eq_true rfl) ?_
  intro p e s m args below meth c Qf X hW hS fin ls hl
  have hx := X.1
  have hb := X.2.1
  have hR : RmOK (rmL 2 0 0) 2 := ⟨rfl, rfl⟩
  have hcs : 0 ≤ (rmL 2 0 0).cells ∧ 0 ≤ (rmL 2 0 0).slots := ⟨Nat.zero_le _, Nat.zero_le _⟩
  have hl : lv_has ls 3 [(0, .ref (bs + 61)), (1, .int (nI (t9 + 1)))] := hl
  have hF : Fr SFc I I := Fr.rf
  have hk4 := tK_le (b := b) (n := n) (p := p9)
  have hck := cK_eq hk4
  refine lv_aload_n hx hb (dg D_X5_thisName (i := 0) rfl) rfl (lv_at hl 0 rfl) ?_
  refine r_getc (t := 66) X hW FI_X5_28 rfl (by decide) rfl (dg D_X5_thisName (i := 1) rfl) ?_
  refine rn_geti (v := nI (cK (tK b n p9))) X hW FN_X5_64 rfl (by decide) rfl hki (dg D_X5_thisName (i := 2) rfl) ?_
  refine n_iconst (a := 1) hx hb (dg D_X5_thisName (i := 3) rfl) rfl ?_
  refine n_icmp_ne (tgt := 24) hx hb (by omega) (by omega) (dg D_X5_thisName (i := 4) rfl) (by decide) (fun c8 => ?_) (fun c8 => ?_)
  · refine lv_aload_n hx hb (dg D_X5_thisName (i := 10) rfl) rfl (lv_at hl 0 rfl) ?_
    refine callVi X hW hS hR (c_X5_failOnToken (I := I) b n p9 (by first | exact hst | assumption | omega | decide | exact hP.1) (by first | exact hki | assumption | omega | decide | exact hP.1)) (by decide) UVX5_failOnToken LK_X5_76 rfl (by decide) rfl rfl rfl (Nat.le_of_ble_eq_true rfl) hl hcs (dg D_X5_thisName (i := 11) rfl) (fun r25 I25 L1 R1 H locs hq hW hS => ?_)
    obtain ⟨rfl, hT25, hp25_0, hp25_1, rfl, rfl⟩ := hq
    have hF : Fr SFc I I25 := Fr.tr hF hT25 (fun _ _ h => h)
    have hst : I25 66 2 = nI (tS b n p9) := (hT25 66 2 rfl).trans hst
    have hki : I25 66 4 = nI (cK (tK b n p9)) := (hT25 66 4 rfl).trans hki
    refine lv_pop hx hb (dg D_X5_thisName (i := 12) rfl) rfl ?_
    refine lv_bipush (v := -2) hx hb (dg D_X5_thisName (i := 13) rfl) (by decide) ?_
    have hnn := isNm_n (b := b) (n := n) (p := p9) (fun z => c8 (hck.2.2.2.1.mpr z))
    have hno : onOk b n σ nm t9 p9 = false := by unfold onOk; rw [hnn]; rfl
    exact fin (dg D_X5_thisName (i := 14) rfl) hW hS ⟨by unfold onV; rw [hno]; exact if_neg (by decide), hF, fun _ => ⟨by rw [hp25_0]; exact (if_neg (by rw [hnn]; decide)).symm, hp25_1⟩, fun z => absurd z (by rw [hno]; decide), rfl, rfl⟩
  · have hk2 : tK b n p9 = 2 := hck.2.2.2.1.mp (by omega)
    refine lv_aload_n hx hb (dg D_X5_thisName (i := 5) rfl) rfl (lv_at hl 0 rfl) ?_
    refine r_getc (t := 66) X hW FI_X5_28 rfl (by decide) rfl (dg D_X5_thisName (i := 6) rfl) ?_
    refine rn_getl (v := Int64.ofNat (w256 b n (tS b n p9))) X hW FN_X5_80 rfl (by decide) rfl (hwd hk2) (dg D_X5_thisName (i := 7) rfl) ?_
    refine callSi X hW hS hR (c_X5_isReserved (I := I) b n (tS b n p9) (by first | exact hT | assumption | omega | decide | exact hP.1) (by first | exact hn | assumption | omega | decide | exact hP.1) ((tok_w hk2).1)) (by decide) USX5_isReserved LK_X5_194 rfl rfl (Nat.le_of_ble_eq_true rfl) hl hcs (dg D_X5_thisName (i := 8) rfl) (fun r18 I18 L1 R1 H locs hq hW hS => ?_)
    obtain ⟨rfl, rfl, rfl, rfl⟩ := hq
    refine z_if_eq (tgt := 32) hx hb (dg D_X5_thisName (i := 9) rfl) (by decide) (fun c21 => ?_) (fun c21 => ?_)
    · refine lv_aload_n hx hb (dg D_X5_thisName (i := 15) rfl) rfl (lv_at hl 0 rfl) ?_
      refine r_getc (t := 62) X hW FI_X5_12 rfl (by decide) rfl (dg D_X5_thisName (i := 16) rfl) ?_
      refine lv_aload_n hx hb (dg D_X5_thisName (i := 17) rfl) rfl (lv_at hl 0 rfl) ?_
      refine r_getc (t := 66) X hW FI_X5_28 rfl (by decide) rfl (dg D_X5_thisName (i := 18) rfl) ?_
      refine rn_getl (v := Int64.ofNat (w256 b n (tS b n p9))) X hW FN_X5_80 rfl (by decide) rfl (hwd hk2) (dg D_X5_thisName (i := 19) rfl) ?_
      refine lv_iload_n hx hb (dg D_X5_thisName (i := 20) rfl) rfl (lv_at hl 1 rfl) ?_
      refine callVi X hW hS hR (c_X3_numberOf (I := I) b n N ds st nu (w256 b n (tS b n p9)) (t9 + 1) (hNi.c hNl) (by first | exact hT | assumption | omega | decide | exact hP.1) (by first | exact hn | assumption | omega | decide | exact hP.1) (w256_lt hT (tok_w hk2).1) (by omega) (hNR.stb)) (by decide) UVX3_numberOf LK_X5_206 rfl (by decide) rfl rfl rfl (Nat.le_of_ble_eq_true rfl) hl hcs (dg D_X5_thisName (i := 21) rfl) (fun r44 I44 L1 R1 H locs hq hW hS => ?_)
      obtain ⟨rfl, rfl, rfl, rfl⟩ := hq
      rw [show (if nuC b n N ds st (w256 b n (tS b n p9)) (t9 + 1) < N then nI (nu (nuC b n N ds st (w256 b n (tS b n p9)) (t9 + 1))) else -1) = fkI b n σ nm t9 (tS b n p9) from nuC_fk hT hNi hNR (tok_w hk2).1 ht9]
      refine lv_istore_n (lv' := [(2, .int (fkI b n σ nm t9 (tS b n p9))), (0, .ref (bs + 61)), (1, .int (nI (t9 + 1)))]) hx hb (dg D_X5_thisName (i := 22) rfl) rfl hl (by decide) rfl (fun ls hl => ?_)
      refine lv_iload_n hx hb (dg D_X5_thisName (i := 23) rfl) rfl (lv_at hl 0 rfl) ?_
      refine lv_iconst (v := -1) hx hb (dg D_X5_thisName (i := 24) rfl) (by decide) ?_
      refine lv_icmp_ne (tgt := 62) hx hb (dg D_X5_thisName (i := 25) rfl) (by decide) (fun c50 => ?_) (fun c50 => ?_)
      · refine lv_iload_n hx hb (dg D_X5_thisName (i := 32) rfl) rfl (lv_at hl 0 rfl) ?_
        have hnn : isNm b n p9 = true := by rw [isNm_w hk2, c21]; rfl
        have hlt := fkI_ne hi ht9 c50
        have hyes : onOk b n σ nm t9 p9 = true := by unfold onOk; rw [hnn, show decide (fk b n σ nm t9 (tS b n p9) < cN σ t9) = true from decide_eq_true hlt]; rfl
        exact fin (dg D_X5_thisName (i := 33) rfl) hW hS ⟨by unfold onV; rw [fkI_N hlt, hyes]; exact if_pos rfl, hF, fun z => absurd z (by rw [hyes]; decide), fun _ => hz, rfl, rfl⟩
      · refine lv_aload_n hx hb (dg D_X5_thisName (i := 26) rfl) rfl (lv_at hl 1 rfl) ?_
        refine n_iconst (a := 4) hx hb (dg D_X5_thisName (i := 27) rfl) rfl ?_
        refine callVi X hW hS hR (c_X5_fail (I := I) (nI 4) (nI (tS b n p9)) (by first | exact hst | assumption | omega | decide | exact hP.1)) (by decide) UVX5_fail LK_X5_89 rfl (by decide) rfl rfl rfl (Nat.le_of_ble_eq_true rfl) hl hcs (dg D_X5_thisName (i := 28) rfl) (fun r55 I55 L1 R1 H locs hq hW hS => ?_)
        obtain ⟨rfl, hT55, hp55_0, hp55_1, rfl, rfl⟩ := hq
        have hF : Fr SFc I I55 := Fr.tr hF hT55 (fun _ _ h => h)
        have hst : I55 66 2 = nI (tS b n p9) := (hT55 66 2 rfl).trans hst
        have hki : I55 66 4 = nI (cK (tK b n p9)) := (hT55 66 4 rfl).trans hki
        refine lv_pop hx hb (dg D_X5_thisName (i := 29) rfl) rfl ?_
        refine lv_bipush (v := -2) hx hb (dg D_X5_thisName (i := 30) rfl) (by decide) ?_
        have hnn : isNm b n p9 = true := by rw [isNm_w hk2, c21]; rfl
        have hno : onOk b n σ nm t9 p9 = false := by unfold onOk; rw [hnn, show decide (fk b n σ nm t9 (tS b n p9) < cN σ t9) = false from decide_eq_false (fkI_eq hi ht9 (by first | exact c50 | exact Classical.not_not.mp c50))]; rfl
        exact fin (dg D_X5_thisName (i := 31) rfl) hW hS ⟨by unfold onV; rw [hno]; exact if_neg (by decide), hF, fun _ => ⟨by rw [hp55_0]; exact (if_pos hnn).symm, hp55_1⟩, fun z => absurd z (by rw [hno]; decide), rfl, rfl⟩
    · refine lv_aload_n hx hb (dg D_X5_thisName (i := 10) rfl) rfl (lv_at hl 0 rfl) ?_
      refine callVi X hW hS hR (c_X5_failOnToken (I := I) b n p9 (by first | exact hst | assumption | omega | decide | exact hP.1) (by first | exact hki | assumption | omega | decide | exact hP.1)) (by decide) UVX5_failOnToken LK_X5_76 rfl (by decide) rfl rfl rfl (Nat.le_of_ble_eq_true rfl) hl hcs (dg D_X5_thisName (i := 11) rfl) (fun r25 I25 L1 R1 H locs hq hW hS => ?_)
      obtain ⟨rfl, hT25, hp25_0, hp25_1, rfl, rfl⟩ := hq
      have hF : Fr SFc I I25 := Fr.tr hF hT25 (fun _ _ h => h)
      have hst : I25 66 2 = nI (tS b n p9) := (hT25 66 2 rfl).trans hst
      have hki : I25 66 4 = nI (cK (tK b n p9)) := (hT25 66 4 rfl).trans hki
      refine lv_pop hx hb (dg D_X5_thisName (i := 12) rfl) rfl ?_
      refine lv_bipush (v := -2) hx hb (dg D_X5_thisName (i := 13) rfl) (by decide) ?_
      have hnn : isNm b n p9 = false := by rw [isNm_w hk2, c21]; rfl
      have hno : onOk b n σ nm t9 p9 = false := by unfold onOk; rw [hnn]; rfl
      exact fin (dg D_X5_thisName (i := 14) rfl) hW hS ⟨by unfold onV; rw [hno]; exact if_neg (by decide), hF, fun _ => ⟨by rw [hp25_0]; exact (if_neg (by rw [hnn]; decide)).symm, hp25_1⟩, fun z => absurd z (by rw [hno]; decide), rfl, rfl⟩

set_option maxHeartbeats 4000000 in
set_option maxRecDepth 100000 in
theorem c_X5_newName {l : Launch} {G : va_G} {bs : Nat} {cy : Nat → ClassId} {I : CI} {L : CL} {R : CR} (b : Nat → Int32) (n : Nat) (σ : Row) (p9 : Nat) (nm : Nm) (N : Nat) (ds : Nat → Nat) (st : Nat → Nat) (nu : Nat → Nat) (hTx : rowP I 30 n (fun j => sg (b j))) (hln : I 66 1 = nI n) (hT : TB b n) (hn : n ≤ 900) (hen : I 66 3 = nI p9) (hp : p9 ≤ n) (hz : KC I) (hi : Inv σ) (hNi : NmI b n I N ds st nu) (hNl : NmL b n L N ds) (hNR : NmR b n σ nm N ds st nu) : MTl l G bs cy MX5_newName 3 [.ref (bs + 61)] I L R (fun r I1 L1 R1 => nwV b n σ nm p9 = r ∧ Fr SNr I I1 ∧ I1 66 3 = nI (tE b n p9) ∧ (nnOk b n σ nm p9 = false → I1 61 4 = nnE b n p9 ∧ I1 61 5 = nI (tS b n p9)) ∧ (nnOk b n σ nm p9 = true → tK b n p9 = 2 ∧ KC I1) ∧ FL SLc L L1 ∧ R = R1) := by
  refine MTl.of (own := RX5) pn_RX5 rfl (Nat.le_of_ble_eq_true rfl) ?_
  intro p e s m args below meth c Qf X hW hS fin ls hl
  have hx := X.1
  have hb := X.2.1
  have hR : RmOK (rmL 3 0 0) 3 := ⟨rfl, rfl⟩
  have hcs : 0 ≤ (rmL 3 0 0).cells ∧ 0 ≤ (rmL 3 0 0).slots := ⟨Nat.zero_le _, Nat.zero_le _⟩
  have hl : lv_has ls 1 [(0, .ref (bs + 61))] := hl
  have hF : Fr SNr I I := Fr.rf
  have hFL : FL SLc L L := FL.rf
  have hk4 := tK_le (b := b) (n := n) (p := p9)
  have hck := cK_eq hk4
  refine lv_aload_n hx hb (dg D_X5_newName (i := 0) rfl) rfl (lv_at hl 0 rfl) ?_
  refine r_getc (t := 66) X hW FI_X5_28 rfl (by decide) rfl (dg D_X5_newName (i := 1) rfl) ?_
  refine callVv X hW hS hR (c_X10_next (I := I) b n p9 (by first | exact hTx | assumption | omega | decide | exact hP.1) (by first | exact hln | assumption | omega | decide | exact hP.1) (by first | exact hT | assumption | omega | decide | exact hP.1) (by first | exact hn | assumption | omega | decide | exact hP.1) (by first | exact hen | assumption | omega | decide | exact hP.1) (by first | exact hp | assumption | omega | decide | exact hP.1)) (by decide) UVX10_next LK_X5_61 rfl (by decide) rfl rfl rfl (Nat.le_of_ble_eq_true rfl) hl hcs (dg D_X5_newName (i := 2) rfl) (fun I4 Lc4 R1 H locs hq hW hS => ?_)
  obtain ⟨hT4, hp4_0, hL4, rfl⟩ := hq
  have hF : Fr SNr I I4 := Fr.tr hF hT4 (by intro a j h; simp only [STc, SNr, Bool.or_eq_true, Bool.and_eq_true, beq_iff_eq, decide_eq_true_eq] at h ⊢; omega)
  have hTx : rowP I4 30 n (fun j => sg (b j)) := hTx.fr hT4 (fun _ => rfl)
  have hz : KC I4 := KC.fr hz hT4 rfl rfl
  have hNi : NmI b n I4 N ds st nu := NmI.fr hNi hT4 (fun a j h1 h2 => Bool.eq_false_iff.mpr (fun h => by simp only [STc, Bool.or_eq_true, Bool.and_eq_true, beq_iff_eq, decide_eq_true_eq] at h; omega))
  have hln : I4 66 1 = nI n := (hT4 66 1 rfl).trans hln
  have hFL : FL SLc L Lc4 := FL.tr hFL hL4 (fun _ _ h => h)
  have hNl : NmL b n Lc4 N ds := NmL.fl hNl hL4 (fun _ => rfl)
  obtain ⟨hst, hen2, hki, hnu, hwd⟩ := id hp4_0
  refine lv_aload_n hx hb (dg D_X5_newName (i := 3) rfl) rfl (lv_at hl 0 rfl) ?_
  refine r_getc (t := 66) X hW FI_X5_28 rfl (by decide) rfl (dg D_X5_newName (i := 4) rfl) ?_
  refine rn_geti (v := nI (cK (tK b n p9))) X hW FN_X5_64 rfl (by decide) rfl hki (dg D_X5_newName (i := 5) rfl) ?_
  refine n_iconst (a := 1) hx hb (dg D_X5_newName (i := 6) rfl) rfl ?_
  refine n_icmp_ne (tgt := 31) hx hb (by omega) (by omega) (dg D_X5_newName (i := 7) rfl) (by decide) (fun c15 => ?_) (fun c15 => ?_)
  · refine lv_aload_n hx hb (dg D_X5_newName (i := 13) rfl) rfl (lv_at hl 0 rfl) ?_
    refine callVi X hW hS hR (c_X5_failOnToken (I := I4) b n p9 (by first | exact hst | assumption | omega | decide | exact hP.1) (by first | exact hki | assumption | omega | decide | exact hP.1)) (by decide) UVX5_failOnToken LK_X5_76 rfl (by decide) rfl rfl rfl (Nat.le_of_ble_eq_true rfl) hl hcs (dg D_X5_newName (i := 14) rfl) (fun r32 I32 L1 R1 H locs hq hW hS => ?_)
    obtain ⟨rfl, hT32, hp32_0, hp32_1, rfl, rfl⟩ := hq
    have hF : Fr SNr I I32 := Fr.tr hF hT32 (by intro a j h; simp only [SFc, SNr, Bool.or_eq_true, Bool.and_eq_true, beq_iff_eq, decide_eq_true_eq] at h ⊢; omega)
    have hTx : rowP I32 30 n (fun j => sg (b j)) := hTx.fr hT32 (fun _ => rfl)
    have hNi : NmI b n I32 N ds st nu := NmI.fr hNi hT32 (fun a j h1 h2 => Bool.eq_false_iff.mpr (fun h => by simp only [SFc, Bool.or_eq_true, Bool.and_eq_true, beq_iff_eq, decide_eq_true_eq] at h; omega))
    have hln : I32 66 1 = nI n := (hT32 66 1 rfl).trans hln
    have hst : I32 66 2 = nI (tS b n p9) := (hT32 66 2 rfl).trans hst
    have hen2 : I32 66 3 = nI (tE b n p9) := (hT32 66 3 rfl).trans hen2
    have hki : I32 66 4 = nI (cK (tK b n p9)) := (hT32 66 4 rfl).trans hki
    refine lv_pop hx hb (dg D_X5_newName (i := 15) rfl) rfl ?_
    refine r_ldc2 X CK_X5_152 (dg D_X5_newName (i := 16) rfl) ?_
    have hnn := isNm_n (b := b) (n := n) (p := p9) (fun z => c15 (hck.2.2.2.1.mpr z))
    have hno : nnOk b n σ nm p9 = false := by unfold nnOk; rw [hnn]; rfl
    exact fin (dg D_X5_newName (i := 17) rfl) hW hS ⟨by unfold nwV; rw [hno]; exact if_neg (by decide), hF, hen2, fun _ => ⟨by rw [hp32_0]; exact (if_neg (by rw [hnn]; decide)).symm, hp32_1⟩, fun z => absurd z (by rw [hno]; decide), hFL, rfl⟩
  · have hk2 : tK b n p9 = 2 := hck.2.2.2.1.mp (by omega)
    refine lv_aload_n hx hb (dg D_X5_newName (i := 8) rfl) rfl (lv_at hl 0 rfl) ?_
    refine r_getc (t := 66) X hW FI_X5_28 rfl (by decide) rfl (dg D_X5_newName (i := 9) rfl) ?_
    refine rn_getl (v := Int64.ofNat (w256 b n (tS b n p9))) X hW FN_X5_80 rfl (by decide) rfl (hwd hk2) (dg D_X5_newName (i := 10) rfl) ?_
    refine callSi X hW hS hR (c_X5_isReserved (I := I4) b n (tS b n p9) (by first | exact hT | assumption | omega | decide | exact hP.1) (by first | exact hn | assumption | omega | decide | exact hP.1) ((tok_w hk2).1)) (by decide) USX5_isReserved LK_X5_194 rfl rfl (Nat.le_of_ble_eq_true rfl) hl hcs (dg D_X5_newName (i := 11) rfl) (fun r25 I25 L1 R1 H locs hq hW hS => ?_)
    obtain ⟨rfl, rfl, rfl, rfl⟩ := hq
    refine z_if_eq (tgt := 40) hx hb (dg D_X5_newName (i := 12) rfl) (by decide) (fun c28 => ?_) (fun c28 => ?_)
    · refine lv_aload_n hx hb (dg D_X5_newName (i := 18) rfl) rfl (lv_at hl 0 rfl) ?_
      refine r_getc (t := 62) X hW FI_X5_12 rfl (by decide) rfl (dg D_X5_newName (i := 19) rfl) ?_
      refine lv_aload_n hx hb (dg D_X5_newName (i := 20) rfl) rfl (lv_at hl 0 rfl) ?_
      refine r_getc (t := 66) X hW FI_X5_28 rfl (by decide) rfl (dg D_X5_newName (i := 21) rfl) ?_
      refine rn_getl (v := Int64.ofNat (w256 b n (tS b n p9))) X hW FN_X5_80 rfl (by decide) rfl (hwd hk2) (dg D_X5_newName (i := 22) rfl) ?_
      refine callVi X hW hS hR (c_X3_isDeclared (I := I4) b n N ds st nu (w256 b n (tS b n p9)) (hNi.c hNl) (by first | exact hT | assumption | omega | decide | exact hP.1) (by first | exact hn | assumption | omega | decide | exact hP.1) (w256_lt hT (tok_w hk2).1)) (by decide) UVX3_isDeclared LK_X5_198 rfl (by decide) rfl rfl rfl (Nat.le_of_ble_eq_true rfl) hl hcs (dg D_X5_newName (i := 23) rfl) (fun r51 I51 L1 R1 H locs hq hW hS => ?_)
      obtain ⟨rfl, rfl, rfl, rfl⟩ := hq
      rw [show bI (decide (dcC b n N ds (w256 b n (tS b n p9)) < N)) = bI (dcl b n σ nm (tS b n p9)) from congrArg bI (dcC_dcl hT hNi hNR (tok_w hk2).1)]
      refine z_if_eq (tgt := 67) hx hb (dg D_X5_newName (i := 24) rfl) (by decide) (fun c54 => ?_) (fun c54 => ?_)
      · refine lv_aload_n hx hb (dg D_X5_newName (i := 31) rfl) rfl (lv_at hl 0 rfl) ?_
        refine r_getc (t := 66) X hW FI_X5_28 rfl (by decide) rfl (dg D_X5_newName (i := 32) rfl) ?_
        refine rn_getl (v := Int64.ofNat (w256 b n (tS b n p9))) X hW FN_X5_80 rfl (by decide) rfl (hwd hk2) (dg D_X5_newName (i := 33) rfl) ?_
        have hnn : isNm b n p9 = true := by rw [isNm_w hk2, c28]; rfl
        have hyes : nnOk b n σ nm p9 = true := by unfold nnOk; rw [hnn, c54]; rfl
        exact fin (dg D_X5_newName (i := 34) rfl) hW hS ⟨by unfold nwV; rw [hyes]; exact if_pos rfl, hF, hen2, fun z => absurd z (by rw [hyes]; decide), fun _ => ⟨hk2, hz⟩, hFL, rfl⟩
      · refine lv_aload_n hx hb (dg D_X5_newName (i := 25) rfl) rfl (lv_at hl 0 rfl) ?_
        refine n_iconst (a := 4) hx hb (dg D_X5_newName (i := 26) rfl) rfl ?_
        refine callVi X hW hS hR (c_X5_fail (I := I4) (nI 4) (nI (tS b n p9)) (by first | exact hst | assumption | omega | decide | exact hP.1)) (by decide) UVX5_fail LK_X5_89 rfl (by decide) rfl rfl rfl (Nat.le_of_ble_eq_true rfl) hl hcs (dg D_X5_newName (i := 27) rfl) (fun r59 I59 L1 R1 H locs hq hW hS => ?_)
        obtain ⟨rfl, hT59, hp59_0, hp59_1, rfl, rfl⟩ := hq
        have hF : Fr SNr I I59 := Fr.tr hF hT59 (by intro a j h; simp only [SFc, SNr, Bool.or_eq_true, Bool.and_eq_true, beq_iff_eq, decide_eq_true_eq] at h ⊢; omega)
        have hTx : rowP I59 30 n (fun j => sg (b j)) := hTx.fr hT59 (fun _ => rfl)
        have hNi : NmI b n I59 N ds st nu := NmI.fr hNi hT59 (fun a j h1 h2 => Bool.eq_false_iff.mpr (fun h => by simp only [SFc, Bool.or_eq_true, Bool.and_eq_true, beq_iff_eq, decide_eq_true_eq] at h; omega))
        have hln : I59 66 1 = nI n := (hT59 66 1 rfl).trans hln
        have hst : I59 66 2 = nI (tS b n p9) := (hT59 66 2 rfl).trans hst
        have hen2 : I59 66 3 = nI (tE b n p9) := (hT59 66 3 rfl).trans hen2
        have hki : I59 66 4 = nI (cK (tK b n p9)) := (hT59 66 4 rfl).trans hki
        refine lv_pop hx hb (dg D_X5_newName (i := 28) rfl) rfl ?_
        refine r_ldc2 X CK_X5_152 (dg D_X5_newName (i := 29) rfl) ?_
        have hnn : isNm b n p9 = true := by rw [isNm_w hk2, c28]; rfl
        have hno : nnOk b n σ nm p9 = false := by unfold nnOk; rw [hnn, c54]; rfl
        exact fin (dg D_X5_newName (i := 30) rfl) hW hS ⟨by unfold nwV; rw [hno]; exact if_neg (by decide), hF, hen2, fun _ => ⟨by rw [hp59_0]; exact (if_pos hnn).symm, hp59_1⟩, fun z => absurd z (by rw [hno]; decide), hFL, rfl⟩
    · refine lv_aload_n hx hb (dg D_X5_newName (i := 13) rfl) rfl (lv_at hl 0 rfl) ?_
      refine callVi X hW hS hR (c_X5_failOnToken (I := I4) b n p9 (by first | exact hst | assumption | omega | decide | exact hP.1) (by first | exact hki | assumption | omega | decide | exact hP.1)) (by decide) UVX5_failOnToken LK_X5_76 rfl (by decide) rfl rfl rfl (Nat.le_of_ble_eq_true rfl) hl hcs (dg D_X5_newName (i := 14) rfl) (fun r32 I32 L1 R1 H locs hq hW hS => ?_)
      obtain ⟨rfl, hT32, hp32_0, hp32_1, rfl, rfl⟩ := hq
      have hF : Fr SNr I I32 := Fr.tr hF hT32 (by intro a j h; simp only [SFc, SNr, Bool.or_eq_true, Bool.and_eq_true, beq_iff_eq, decide_eq_true_eq] at h ⊢; omega)
      have hTx : rowP I32 30 n (fun j => sg (b j)) := hTx.fr hT32 (fun _ => rfl)
      have hNi : NmI b n I32 N ds st nu := NmI.fr hNi hT32 (fun a j h1 h2 => Bool.eq_false_iff.mpr (fun h => by simp only [SFc, Bool.or_eq_true, Bool.and_eq_true, beq_iff_eq, decide_eq_true_eq] at h; omega))
      have hln : I32 66 1 = nI n := (hT32 66 1 rfl).trans hln
      have hst : I32 66 2 = nI (tS b n p9) := (hT32 66 2 rfl).trans hst
      have hen2 : I32 66 3 = nI (tE b n p9) := (hT32 66 3 rfl).trans hen2
      have hki : I32 66 4 = nI (cK (tK b n p9)) := (hT32 66 4 rfl).trans hki
      refine lv_pop hx hb (dg D_X5_newName (i := 15) rfl) rfl ?_
      refine r_ldc2 X CK_X5_152 (dg D_X5_newName (i := 16) rfl) ?_
      have hnn : isNm b n p9 = false := by rw [isNm_w hk2, c28]; rfl
      have hno : nnOk b n σ nm p9 = false := by unfold nnOk; rw [hnn]; rfl
      exact fin (dg D_X5_newName (i := 17) rfl) hW hS ⟨by unfold nwV; rw [hno]; exact if_neg (by decide), hF, hen2, fun _ => ⟨by rw [hp32_0]; exact (if_neg (by rw [hnn]; decide)).symm, hp32_1⟩, fun z => absurd z (by rw [hno]; decide), hFL, rfl⟩

set_option maxHeartbeats 4000000 in
set_option maxRecDepth 100000 in
theorem c_X5_knownName {l : Launch} {G : va_G} {bs : Nat} {cy : Nat → ClassId} {I : CI} {L : CL} {R : CR} (b : Nat → Int32) (n : Nat) (σ : Row) (p9 : Nat) (nm : Nm) (N : Nat) (ds : Nat → Nat) (st : Nat → Nat) (nu : Nat → Nat) (t9 : Nat) (hTx : rowP I 30 n (fun j => sg (b j))) (hln : I 66 1 = nI n) (hT : TB b n) (hn : n ≤ 900) (hen : I 66 3 = nI p9) (hp : p9 ≤ n) (hz : KC I) (hi : Inv σ) (hNi : NmI b n I N ds st nu) (hNl : NmL b n L N ds) (hNR : NmR b n σ nm N ds st nu) (ht9 : t9 < 3) : MTi l G bs cy MX5_knownName 3 [.ref (bs + 61), .int (nI (t9 + 1))] I L R (fun r I1 L1 R1 => onV b n σ nm t9 p9 = r ∧ Fr SNr I I1 ∧ I1 66 3 = nI (tE b n p9) ∧ (onOk b n σ nm t9 p9 = false → I1 61 4 = nnE b n p9 ∧ I1 61 5 = nI (tS b n p9)) ∧ (onOk b n σ nm t9 p9 = true → KC I1) ∧ I1 66 2 = nI (tS b n p9) ∧ FL SLc L L1 ∧ R = R1) := by
  refine MTi.of (own := RX5) pn_RX5 rfl (Nat.le_of_ble_eq_true rfl) ?_
  intro p e s m args below meth c Qf X hW hS fin ls hl
  have hx := X.1
  have hb := X.2.1
  have hR : RmOK (rmL 3 0 0) 3 := ⟨rfl, rfl⟩
  have hcs : 0 ≤ (rmL 3 0 0).cells ∧ 0 ≤ (rmL 3 0 0).slots := ⟨Nat.zero_le _, Nat.zero_le _⟩
  have hl : lv_has ls 2 [(0, .ref (bs + 61)), (1, .int (nI (t9 + 1)))] := hl
  have hF : Fr SNr I I := Fr.rf
  have hFL : FL SLc L L := FL.rf
  refine lv_aload_n hx hb (dg D_X5_knownName (i := 0) rfl) rfl (lv_at hl 0 rfl) ?_
  refine r_getc (t := 66) X hW FI_X5_28 rfl (by decide) rfl (dg D_X5_knownName (i := 1) rfl) ?_
  refine callVv X hW hS hR (c_X10_next (I := I) b n p9 (by first | exact hTx | assumption | omega | decide | exact hP.1) (by first | exact hln | assumption | omega | decide | exact hP.1) (by first | exact hT | assumption | omega | decide | exact hP.1) (by first | exact hn | assumption | omega | decide | exact hP.1) (by first | exact hen | assumption | omega | decide | exact hP.1) (by first | exact hp | assumption | omega | decide | exact hP.1)) (by decide) UVX10_next LK_X5_61 rfl (by decide) rfl rfl rfl (Nat.le_of_ble_eq_true rfl) hl hcs (dg D_X5_knownName (i := 2) rfl) (fun I4 Lc4 R1 H locs hq hW hS => ?_)
  obtain ⟨hT4, hp4_0, hL4, rfl⟩ := hq
  have hF : Fr SNr I I4 := Fr.tr hF hT4 (by intro a j h; simp only [STc, SNr, Bool.or_eq_true, Bool.and_eq_true, beq_iff_eq, decide_eq_true_eq] at h ⊢; omega)
  have hTx : rowP I4 30 n (fun j => sg (b j)) := hTx.fr hT4 (fun _ => rfl)
  have hz : KC I4 := KC.fr hz hT4 rfl rfl
  have hNi : NmI b n I4 N ds st nu := NmI.fr hNi hT4 (fun a j h1 h2 => Bool.eq_false_iff.mpr (fun h => by simp only [STc, Bool.or_eq_true, Bool.and_eq_true, beq_iff_eq, decide_eq_true_eq] at h; omega))
  have hln : I4 66 1 = nI n := (hT4 66 1 rfl).trans hln
  have hFL : FL SLc L Lc4 := FL.tr hFL hL4 (fun _ _ h => h)
  have hNl : NmL b n Lc4 N ds := NmL.fl hNl hL4 (fun _ => rfl)
  obtain ⟨hst, hen2, hki, hnu, hwd⟩ := id hp4_0
  refine lv_aload_n hx hb (dg D_X5_knownName (i := 3) rfl) rfl (lv_at hl 0 rfl) ?_
  refine lv_iload_n hx hb (dg D_X5_knownName (i := 4) rfl) rfl (lv_at hl 1 rfl) ?_
  refine callVi X hW hS hR (c_X5_thisName (I := I4) b n σ p9 nm N ds st nu t9 (by first | exact hT | assumption | omega | decide | exact hP.1) (by first | exact hn | assumption | omega | decide | exact hP.1) (by first | exact hst | assumption | omega | decide | exact hP.1) (by first | exact hki | assumption | omega | decide | exact hP.1) (by first | exact hwd | assumption | omega | decide | exact hP.1) (by first | exact hi | assumption | omega | decide | exact hP.1) (by first | exact hNi | assumption | omega | decide | exact hP.1) (by first | exact hNl | assumption | omega | decide | exact hP.1) (by first | exact hNR | assumption | omega | decide | exact hP.1) (by first | exact ht9 | assumption | omega | decide | exact hP.1) (by first | exact hz | assumption | omega | decide | exact hP.1)) (by decide) UVX5_thisName LK_X5_201 rfl (by decide) rfl rfl rfl (Nat.le_of_ble_eq_true rfl) hl hcs (dg D_X5_knownName (i := 5) rfl) (fun r9 I9 L1 R1 H locs hq hW hS => ?_)
  obtain ⟨rfl, hT9, hp9_0, hp9_1, rfl, rfl⟩ := hq
  have hF : Fr SNr I I9 := Fr.tr hF hT9 (by intro a j h; simp only [SFc, SNr, Bool.or_eq_true, Bool.and_eq_true, beq_iff_eq, decide_eq_true_eq] at h ⊢; omega)
  have hTx : rowP I9 30 n (fun j => sg (b j)) := hTx.fr hT9 (fun _ => rfl)
  have hNi : NmI b n I9 N ds st nu := NmI.fr hNi hT9 (fun a j h1 h2 => Bool.eq_false_iff.mpr (fun h => by simp only [SFc, Bool.or_eq_true, Bool.and_eq_true, beq_iff_eq, decide_eq_true_eq] at h; omega))
  have hln : I9 66 1 = nI n := (hT9 66 1 rfl).trans hln
  have hst : I9 66 2 = nI (tS b n p9) := (hT9 66 2 rfl).trans hst
  have hen2 : I9 66 3 = nI (tE b n p9) := (hT9 66 3 rfl).trans hen2
  have hki : I9 66 4 = nI (cK (tK b n p9)) := (hT9 66 4 rfl).trans hki
  exact fin (dg D_X5_knownName (i := 6) rfl) hW hS ⟨rfl, hF, hen2, hp9_0, hp9_1, hst, hFL, rfl⟩

set_option maxHeartbeats 4000000 in
set_option maxRecDepth 100000 in
theorem c_X5_laneOrNone {l : Launch} {G : va_G} {bs : Nat} {cy : Nat → ClassId} {I : CI} {L : CL} {R : CR} (b : Nat → Int32) (n : Nat) (σ : Row) (p9 : Nat) (nm : Nm) (N : Nat) (ds : Nat → Nat) (st : Nat → Nat) (nu : Nat → Nat) (hTx : rowP I 30 n (fun j => sg (b j))) (hln : I 66 1 = nI n) (hT : TB b n) (hn : n ≤ 900) (hen : I 66 3 = nI p9) (hp : p9 ≤ n) (hz : KC I) (hi : Inv σ) (hNi : NmI b n I N ds st nu) (hNl : NmL b n L N ds) (hNR : NmR b n σ nm N ds st nu) : MTi l G bs cy MX5_laneOrNone 3 [.ref (bs + 61)] I L R (fun r I1 L1 R1 => lnW b n σ nm p9 = r ∧ Fr SNr I I1 ∧ I1 66 3 = nI (tE b n p9) ∧ (lnOk b n σ nm p9 = false → I1 61 4 = nnE b n p9 ∧ I1 61 5 = nI (tS b n p9)) ∧ (lnOk b n σ nm p9 = true → KC I1) ∧ FL SLc L L1 ∧ R = R1) := by
  refine MTi.of (own := RX5) pn_RX5 rfl (Nat.le_of_ble_eq_true rfl) ?_
  intro p e s m args below meth c Qf X hW hS fin ls hl
  have hx := X.1
  have hb := X.2.1
  have hR : RmOK (rmL 3 0 0) 3 := ⟨rfl, rfl⟩
  have hcs : 0 ≤ (rmL 3 0 0).cells ∧ 0 ≤ (rmL 3 0 0).slots := ⟨Nat.zero_le _, Nat.zero_le _⟩
  have hl : lv_has ls 1 [(0, .ref (bs + 61))] := hl
  have hF : Fr SNr I I := Fr.rf
  have hFL : FL SLc L L := FL.rf
  have hk4 := tK_le (b := b) (n := n) (p := p9)
  have hck := cK_eq hk4
  refine lv_aload_n hx hb (dg D_X5_laneOrNone (i := 0) rfl) rfl (lv_at hl 0 rfl) ?_
  refine r_getc (t := 66) X hW FI_X5_28 rfl (by decide) rfl (dg D_X5_laneOrNone (i := 1) rfl) ?_
  refine callVv X hW hS hR (c_X10_next (I := I) b n p9 (by first | exact hTx | assumption | omega | decide | exact hP.1) (by first | exact hln | assumption | omega | decide | exact hP.1) (by first | exact hT | assumption | omega | decide | exact hP.1) (by first | exact hn | assumption | omega | decide | exact hP.1) (by first | exact hen | assumption | omega | decide | exact hP.1) (by first | exact hp | assumption | omega | decide | exact hP.1)) (by decide) UVX10_next LK_X5_61 rfl (by decide) rfl rfl rfl (Nat.le_of_ble_eq_true rfl) hl hcs (dg D_X5_laneOrNone (i := 2) rfl) (fun I4 Lc4 R1 H locs hq hW hS => ?_)
  obtain ⟨hT4, hp4_0, hL4, rfl⟩ := hq
  have hF : Fr SNr I I4 := Fr.tr hF hT4 (by intro a j h; simp only [STc, SNr, Bool.or_eq_true, Bool.and_eq_true, beq_iff_eq, decide_eq_true_eq] at h ⊢; omega)
  have hTx : rowP I4 30 n (fun j => sg (b j)) := hTx.fr hT4 (fun _ => rfl)
  have hz : KC I4 := KC.fr hz hT4 rfl rfl
  have hNi : NmI b n I4 N ds st nu := NmI.fr hNi hT4 (fun a j h1 h2 => Bool.eq_false_iff.mpr (fun h => by simp only [STc, Bool.or_eq_true, Bool.and_eq_true, beq_iff_eq, decide_eq_true_eq] at h; omega))
  have hln : I4 66 1 = nI n := (hT4 66 1 rfl).trans hln
  have hFL : FL SLc L Lc4 := FL.tr hFL hL4 (fun _ _ h => h)
  have hNl : NmL b n Lc4 N ds := NmL.fl hNl hL4 (fun _ => rfl)
  obtain ⟨hst, hen2, hki, hnu, hwd⟩ := id hp4_0
  refine lv_aload_n hx hb (dg D_X5_laneOrNone (i := 3) rfl) rfl (lv_at hl 0 rfl) ?_
  refine r_getc (t := 66) X hW FI_X5_28 rfl (by decide) rfl (dg D_X5_laneOrNone (i := 4) rfl) ?_
  refine rn_geti (v := nI (cK (tK b n p9))) X hW FN_X5_64 rfl (by decide) rfl hki (dg D_X5_laneOrNone (i := 5) rfl) ?_
  refine n_iconst (a := 1) hx hb (dg D_X5_laneOrNone (i := 6) rfl) rfl ?_
  refine n_icmp_ne (tgt := 36) hx hb (by omega) (by omega) (dg D_X5_laneOrNone (i := 7) rfl) (by decide) (fun c15 => ?_) (fun c15 => ?_)
  · refine lv_aload_n hx hb (dg D_X5_laneOrNone (i := 16) rfl) rfl (lv_at hl 0 rfl) ?_
    refine n_iconst (a := 1) hx hb (dg D_X5_laneOrNone (i := 17) rfl) rfl ?_
    refine callVi X hW hS hR (c_X5_thisName (I := I4) b n σ p9 nm N ds st nu 0 (by first | exact hT | assumption | omega | decide | exact hP.1) (by first | exact hn | assumption | omega | decide | exact hP.1) (by first | exact hst | assumption | omega | decide | exact hP.1) (by first | exact hki | assumption | omega | decide | exact hP.1) (by first | exact hwd | assumption | omega | decide | exact hP.1) (by first | exact hi | assumption | omega | decide | exact hP.1) (by first | exact hNi | assumption | omega | decide | exact hP.1) (by first | exact hNl | assumption | omega | decide | exact hP.1) (by first | exact hNR | assumption | omega | decide | exact hP.1) (by decide) (by first | exact hz | assumption | omega | decide | exact hP.1)) (by decide) UVX5_thisName LK_X5_201 rfl (by decide) rfl rfl rfl (Nat.le_of_ble_eq_true rfl) hl hcs (dg D_X5_laneOrNone (i := 18) rfl) (fun r38 I38 L1 R1 H locs hq hW hS => ?_)
    obtain ⟨rfl, hT38, hp38_0, hp38_1, rfl, rfl⟩ := hq
    have hF : Fr SNr I I38 := Fr.tr hF hT38 (by intro a j h; simp only [SFc, SNr, Bool.or_eq_true, Bool.and_eq_true, beq_iff_eq, decide_eq_true_eq] at h ⊢; omega)
    have hTx : rowP I38 30 n (fun j => sg (b j)) := hTx.fr hT38 (fun _ => rfl)
    have hNi : NmI b n I38 N ds st nu := NmI.fr hNi hT38 (fun a j h1 h2 => Bool.eq_false_iff.mpr (fun h => by simp only [SFc, Bool.or_eq_true, Bool.and_eq_true, beq_iff_eq, decide_eq_true_eq] at h; omega))
    have hln : I38 66 1 = nI n := (hT38 66 1 rfl).trans hln
    have hst : I38 66 2 = nI (tS b n p9) := (hT38 66 2 rfl).trans hst
    have hen2 : I38 66 3 = nI (tE b n p9) := (hT38 66 3 rfl).trans hen2
    have hki : I38 66 4 = nI (cK (tK b n p9)) := (hT38 66 4 rfl).trans hki
    have h7 : kwI b n p9 ≠ nI 7 := fun z => c15 (hck.2.2.2.1.mpr (kwI_7 z))
    obtain ⟨hlo9, hlv9⟩ := lnOk_o (σ := σ) (nm := nm) h7
    exact fin (dg D_X5_laneOrNone (i := 19) rfl) hW hS ⟨by unfold lnW onV; rw [hlo9, hlv9], hF, hen2, by rw [hlo9]; exact hp38_0, by rw [hlo9]; exact hp38_1, hFL, rfl⟩
  · have hk2 : tK b n p9 = 2 := hck.2.2.2.1.mp (by omega)
    refine lv_aload_n hx hb (dg D_X5_laneOrNone (i := 8) rfl) rfl (lv_at hl 0 rfl) ?_
    refine r_getc (t := 66) X hW FI_X5_28 rfl (by decide) rfl (dg D_X5_laneOrNone (i := 9) rfl) ?_
    refine rn_getl (v := Int64.ofNat (w256 b n (tS b n p9))) X hW FN_X5_80 rfl (by decide) rfl (hwd hk2) (dg D_X5_laneOrNone (i := 10) rfl) ?_
    refine r_ldc2 X CK_X5_204 (dg D_X5_laneOrNone (i := 11) rfl) ?_
    refine W.lcmp hx hb (dg D_X5_laneOrNone (i := 12) rfl) ?_
    refine c_if_ne (tgt := 36) hx hb (dg D_X5_laneOrNone (i := 13) rfl) (by decide) (fun c29 => ?_) (fun c29 => ?_)
    · refine lv_aload_n hx hb (dg D_X5_laneOrNone (i := 16) rfl) rfl (lv_at hl 0 rfl) ?_
      refine n_iconst (a := 1) hx hb (dg D_X5_laneOrNone (i := 17) rfl) rfl ?_
      refine callVi X hW hS hR (c_X5_thisName (I := I4) b n σ p9 nm N ds st nu 0 (by first | exact hT | assumption | omega | decide | exact hP.1) (by first | exact hn | assumption | omega | decide | exact hP.1) (by first | exact hst | assumption | omega | decide | exact hP.1) (by first | exact hki | assumption | omega | decide | exact hP.1) (by first | exact hwd | assumption | omega | decide | exact hP.1) (by first | exact hi | assumption | omega | decide | exact hP.1) (by first | exact hNi | assumption | omega | decide | exact hP.1) (by first | exact hNl | assumption | omega | decide | exact hP.1) (by first | exact hNR | assumption | omega | decide | exact hP.1) (by decide) (by first | exact hz | assumption | omega | decide | exact hP.1)) (by decide) UVX5_thisName LK_X5_201 rfl (by decide) rfl rfl rfl (Nat.le_of_ble_eq_true rfl) hl hcs (dg D_X5_laneOrNone (i := 18) rfl) (fun r38 I38 L1 R1 H locs hq hW hS => ?_)
      obtain ⟨rfl, hT38, hp38_0, hp38_1, rfl, rfl⟩ := hq
      have hF : Fr SNr I I38 := Fr.tr hF hT38 (by intro a j h; simp only [SFc, SNr, Bool.or_eq_true, Bool.and_eq_true, beq_iff_eq, decide_eq_true_eq] at h ⊢; omega)
      have hTx : rowP I38 30 n (fun j => sg (b j)) := hTx.fr hT38 (fun _ => rfl)
      have hNi : NmI b n I38 N ds st nu := NmI.fr hNi hT38 (fun a j h1 h2 => Bool.eq_false_iff.mpr (fun h => by simp only [SFc, Bool.or_eq_true, Bool.and_eq_true, beq_iff_eq, decide_eq_true_eq] at h; omega))
      have hln : I38 66 1 = nI n := (hT38 66 1 rfl).trans hln
      have hst : I38 66 2 = nI (tS b n p9) := (hT38 66 2 rfl).trans hst
      have hen2 : I38 66 3 = nI (tE b n p9) := (hT38 66 3 rfl).trans hen2
      have hki : I38 66 4 = nI (cK (tK b n p9)) := (hT38 66 4 rfl).trans hki
      have h7 : kwI b n p9 ≠ nI 7 := fun z => c29 (by rw [(kwI_j hk2 (by decide)).mp z]; rfl)
      obtain ⟨hlo9, hlv9⟩ := lnOk_o (σ := σ) (nm := nm) h7
      exact fin (dg D_X5_laneOrNone (i := 19) rfl) hW hS ⟨by unfold lnW onV; rw [hlo9, hlv9], hF, hen2, by rw [hlo9]; exact hp38_0, by rw [hlo9]; exact hp38_1, hFL, rfl⟩
    · refine lv_iconst (v := -1) hx hb (dg D_X5_laneOrNone (i := 14) rfl) (by decide) ?_
      refine lv_goto (tgt := 41) hx hb (dg D_X5_laneOrNone (i := 15) rfl) (by decide) ?_
      have h7 : kwI b n p9 = nI 7 := (kwI_j hk2 (by decide)).mpr (i64_inj (w256_lt hT (tok_w hk2).1) (by decide) (by first | exact c29 | exact Classical.not_not.mp c29))
      obtain ⟨hlo9, hlv9⟩ := lnOk_7 (σ := σ) (nm := nm) h7
      exact fin (dg D_X5_laneOrNone (i := 19) rfl) hW hS ⟨by unfold lnW; rw [hlo9, hlv9]; exact if_pos rfl, hF, hen2, fun z => absurd z (by rw [hlo9]; decide), fun _ => hz, hFL, rfl⟩

