set_option maxHeartbeats 1000000 in
set_option maxRecDepth 100000 in
theorem c_X5_readWeather {l : Launch} {G : va_G} {bs : Nat} {cy : Nat → ClassId} {I : CI} {L : CL} {R : CR} (b : Nat → Int32) (n : Nat) (σ : Row) (p9 : Nat) (nm : Nm) (N : Nat) (ds : Nat → Nat) (st : Nat → Nat) (nu : Nat → Nat) (β : Nat) (q : Nat) (hTx : rowP I 30 n (fun j => sg (b j))) (hln : I 66 1 = nI n) (hT : TB b n) (hn : n ≤ 900) (hen : I 66 3 = nI (tE b n p9)) (hp : p9 ≤ n) (hz : KC I) (hi : Inv σ) (hNi : NmI b n I N ds st nu) (hNl : NmL b n L N ds) (hNR : NmR b n σ nm N ds st nu) (hβ : isBr β) (hB : BrAt I β σ) (hq : isPl q) (hGa : GaAt I q σ) (hR2 : R 61 2 = β) (hR3 : R 61 3 = q) (hRq : R q 0 = β) : MTi l G bs cy MX5_readWeather 4 [.ref (bs + 61)] I L R (fun r I1 L1 R1 => bI (okP (seK b n (stWe b n σ nm p9))) = r ∧ Fr (SCP β q) I I1 ∧ PostC b n β q (seK b n (stWe b n σ nm p9)) σ I1 L1 ∧ FL SLq L L1 ∧ R = R1) := by
  refine MTz.of (own := RX5) pn_RX5 rfl (Nat.le_of_ble_eq_true rfl) ?_
  intro p e s m args below meth c Qf X hW hS fin ls hl
  have hx := X.1
  have hb := X.2.1
  have hR : RmOK (rmL 4 0 0) 4 := ⟨rfl, rfl⟩
  have hcs : 0 ≤ (rmL 4 0 0).cells ∧ 0 ≤ (rmL 4 0 0).slots := ⟨Nat.zero_le _, Nat.zero_le _⟩
  have hl : lv_has ls 3 [(0, .ref (bs + 61))] := hl
  have hF : Fr (SCP β q) I I := Fr.rf
  have hFL : FL SLq L L := FL.rf
  obtain ⟨hY, hY1, hY12, hLn, hL4, hSn, hS12, hGn, hG5⟩ := id hi
  have hbq := br_pl hβ hq
  have hq4 : 53 ≤ q ∧ q ≤ 57 := by rcases hq with rfl | rfl <;> omega
  have hN21 : N ≤ nLn σ + nS σ + nG σ := Nat.le_of_eq hNR.1
  refine lv_aload_n hx hb (dg D_X5_readWeather (i := 0) rfl) rfl (lv_at hl 0 rfl) ?_
  refine n_iconst (a := 0) hx hb (dg D_X5_readWeather (i := 1) rfl) rfl ?_
  refine lv_aload_n hx hb (dg D_X5_readWeather (i := 2) rfl) rfl (lv_at hl 0 rfl) ?_
  refine r_getr (v := β) X hW FI_X5_32 rfl (by decide) rfl hR2 (dg D_X5_readWeather (i := 3) rfl) ?_
  refine rn_geti (v := nI (Yn σ)) X hW FN_X5_139 (shB hβ) (ncB0 hβ) rfl (hB.c0 hi) (dg D_X5_readWeather (i := 4) rfl) ?_
  refine n_iconst (a := 1) hx hb (dg D_X5_readWeather (i := 5) rfl) rfl ?_
  refine n_isub hx hb (dg D_X5_readWeather (i := 6) rfl) (by omega) ?_
  refine callVi X hW hS hR (c_X5_number (I := I) b n (tt b n p9 1) 0 ((Yn σ) - 1) (by first | exact hTx | assumption | omega | decide | exact hP.1) (by first | exact hln | assumption | omega | decide | exact hP.1) (by first | exact hT | assumption | omega | decide | exact hP.1) (by first | exact hn | assumption | omega | decide | exact hP.1) (by first | exact hen | assumption | omega | decide | exact hP.1) (tt_le hp 1) (by first | exact hz | assumption | omega | decide | exact hP.1) (by first | exact hlo | assumption | omega | decide | exact hP.1) (by first | exact hhi | assumption | omega | decide | exact hP.1)) (by decide) UVX5_number LK_X5_132 rfl (by decide) rfl rfl rfl (Nat.le_of_ble_eq_true rfl) hl hcs (dg D_X5_readWeather (i := 7) rfl) (fun r11 I11 Lc11 R1 H locs hq hW hS => ?_)
  obtain ⟨rfl, hT11, hp11_0, hp11_1, hp11_2, hL11, rfl⟩ := hq
  have hF : Fr (SCP β q) I I11 := Fr.tr hF hT11 (by intro a j h; simp only [SNr, SCP, Bool.or_eq_true, Bool.and_eq_true, beq_iff_eq, decide_eq_true_eq] at h ⊢; omega)
  have hTx : rowP I11 30 n (fun j => sg (b j)) := hTx.fr hT11 (fun j => Bool.eq_false_iff.mpr (fun h => by simp only [SNr, Bool.or_eq_true, Bool.and_eq_true, beq_iff_eq, decide_eq_true_eq] at h <;> omega))
  have hNi : NmI b n I11 N ds st nu := NmI.fr hNi hT11 (fun a j h1 h2 => Bool.eq_false_iff.mpr (fun h => by simp only [SNr, Bool.or_eq_true, Bool.and_eq_true, beq_iff_eq, decide_eq_true_eq] at h <;> omega))
  have hB : BrAt I11 β σ := BrAt.frI hB hT11 SNr_in (by omega)
  have hGa : GaAt I11 q σ := GaAt.frI hGa hT11 SNr_in (by omega)
  have hln : I11 66 1 = nI n := (hT11 66 1 rfl).trans hln
  have hFL : FL SLq L Lc11 := FL.tr hFL hL11 (by intro a j h; simp only [SLc, SLq, Bool.or_eq_true, Bool.and_eq_true, beq_iff_eq, decide_eq_true_eq] at h ⊢; omega)
  have hNl : NmL b n Lc11 N ds := NmL.fl hNl hL11 (fun _ => rfl)
  have hen : I11 66 3 = nI (tt b n p9 2) := hp11_0
  refine lv_istore_n (lv' := [(1, .int (nuV b n (tt b n p9 1) 0 ((Yn σ) - 1))), (0, .ref (bs + 61))]) hx hb (dg D_X5_readWeather (i := 8) rfl) rfl hl (by decide) rfl (fun ls hl => ?_)
  refine lv_iload_n hx hb (dg D_X5_readWeather (i := 9) rfl) rfl (lv_at hl 0 rfl) ?_
  refine lv_bipush (v := -2) hx hb (dg D_X5_readWeather (i := 10) rfl) (by decide) ?_
  refine lv_icmp_ne (tgt := 26) hx hb (dg D_X5_readWeather (i := 11) rfl) (by decide) (fun c18 => ?_) (fun c18 => ?_)
  · obtain ⟨hn1, hnv1⟩ := nuV_t (by omega) c18
    rw [hnv1] at hl
    have hz := hp11_2 hn1
    have hvr1 := of_decide_eq_true hn1
    refine lv_aload_n hx hb (dg D_X5_readWeather (i := 14) rfl) rfl (lv_at hl 1 rfl) ?_
    refine n_iconst (a := 0) hx hb (dg D_X5_readWeather (i := 15) rfl) rfl ?_
    refine lv_sipush (v := nI 200) hx hb (dg D_X5_readWeather (i := 16) rfl) (by decide) ?_
    refine callVi X hW hS hR (c_X5_number (I := I11) b n (tt b n p9 2) 0 200 (by first | exact hTx | assumption | omega | decide | exact hP.1) (by first | exact hln | assumption | omega | decide | exact hP.1) (by first | exact hT | assumption | omega | decide | exact hP.1) (by first | exact hn | assumption | omega | decide | exact hP.1) (by first | exact hen | assumption | omega | decide | exact hP.1) (tt_le hp 2) (by first | exact hz | assumption | omega | decide | exact hP.1) (by first | exact hlo | assumption | omega | decide | exact hP.1) (by first | exact hhi | assumption | omega | decide | exact hP.1)) (by decide) UVX5_number LK_X5_132 rfl (by decide) rfl rfl rfl (Nat.le_of_ble_eq_true rfl) hl hcs (dg D_X5_readWeather (i := 17) rfl) (fun r31 I31 Lc31 R1 H locs hq hW hS => ?_)
    obtain ⟨rfl, hT31, hp31_0, hp31_1, hp31_2, hL31, rfl⟩ := hq
    have hF : Fr (SCP β q) I I31 := Fr.tr hF hT31 (by intro a j h; simp only [SNr, SCP, Bool.or_eq_true, Bool.and_eq_true, beq_iff_eq, decide_eq_true_eq] at h ⊢; omega)
    have hTx : rowP I31 30 n (fun j => sg (b j)) := hTx.fr hT31 (fun j => Bool.eq_false_iff.mpr (fun h => by simp only [SNr, Bool.or_eq_true, Bool.and_eq_true, beq_iff_eq, decide_eq_true_eq] at h <;> omega))
    have hNi : NmI b n I31 N ds st nu := NmI.fr hNi hT31 (fun a j h1 h2 => Bool.eq_false_iff.mpr (fun h => by simp only [SNr, Bool.or_eq_true, Bool.and_eq_true, beq_iff_eq, decide_eq_true_eq] at h <;> omega))
    have hB : BrAt I31 β σ := BrAt.frI hB hT31 SNr_in (by omega)
    have hGa : GaAt I31 q σ := GaAt.frI hGa hT31 SNr_in (by omega)
    have hln : I31 66 1 = nI n := (hT31 66 1 rfl).trans hln
    have hFL : FL SLq L Lc31 := FL.tr hFL hL31 (by intro a j h; simp only [SLc, SLq, Bool.or_eq_true, Bool.and_eq_true, beq_iff_eq, decide_eq_true_eq] at h ⊢; omega)
    have hNl : NmL b n Lc31 N ds := NmL.fl hNl hL31 (fun _ => rfl)
    have hen : I31 66 3 = nI (tt b n p9 3) := hp31_0
    refine lv_istore_n (lv' := [(2, .int (nuV b n (tt b n p9 2) 0 200)), (1, .int (nI (tV b n (tt b n p9 1)))), (0, .ref (bs + 61))]) hx hb (dg D_X5_readWeather (i := 18) rfl) rfl hl (by decide) rfl (fun ls hl => ?_)
    refine lv_iload_n hx hb (dg D_X5_readWeather (i := 19) rfl) rfl (lv_at hl 0 rfl) ?_
    refine lv_bipush (v := -2) hx hb (dg D_X5_readWeather (i := 20) rfl) (by decide) ?_
    refine lv_icmp_eq (tgt := 48) hx hb (dg D_X5_readWeather (i := 21) rfl) (by decide) (fun c38 => ?_) (fun c38 => ?_)
    · refine n_iconst (a := 0) hx hb (dg D_X5_readWeather (i := 25) rfl) rfl ?_
      have hn2 := nuV_f (by first | exact c38 | exact Classical.not_not.mp c38) (by omega)
      have hst8 : stWe b n σ nm p9 = .inl (nuE b n (tt b n p9 2), tS b n (tt b n p9 2)) := by unfold stWe; simp only [hn1, hn2, ↓reduceIte, reduceCtorEq]
      have hst9 : seK b n (stWe b n σ nm p9) = .inl (nuE b n (tt b n p9 2), tS b n (tt b n p9 2)) := by rw [hst8]; rfl
      exact fin (dg D_X5_readWeather (i := 26) rfl) hW hS (show _ = bI false from rfl) ⟨by rw [hst9]; rfl, hF, by rw [hst9]; exact ⟨(hp31_1 hn2).1, (hp31_1 hn2).2, hB, hGa⟩, hFL, rfl⟩
    · obtain ⟨hn2, hnv2⟩ := nuV_t (by omega) c38
      rw [hnv2] at hl
      have hz := hp31_2 hn2
      have hvr2 := of_decide_eq_true hn2
      refine lv_aload_n hx hb (dg D_X5_readWeather (i := 22) rfl) rfl (lv_at hl 2 rfl) ?_
      refine callVi X hW hS hR (c_X5_semicolon (I := I31) b n (tt b n p9 3) (by first | exact hTx | assumption | omega | decide | exact hP.1) (by first | exact hln | assumption | omega | decide | exact hP.1) (by first | exact hT | assumption | omega | decide | exact hP.1) (by first | exact hn | assumption | omega | decide | exact hP.1) (by first | exact hen | assumption | omega | decide | exact hP.1) (tt_le hp 3) (by first | exact hz | assumption | omega | decide | exact hP.1)) (by decide) UVX5_semicolon LK_X5_136 rfl (by decide) rfl rfl rfl (Nat.le_of_ble_eq_true rfl) hl hcs (dg D_X5_readWeather (i := 23) rfl) (fun r42 I42 Lc42 R1 H locs hq hW hS => ?_)
      obtain ⟨rfl, hT42, hp42_0, hp42_1, hp42_2, hL42, rfl⟩ := hq
      have hF : Fr (SCP β q) I I42 := Fr.tr hF hT42 (by intro a j h; simp only [SNr, SCP, Bool.or_eq_true, Bool.and_eq_true, beq_iff_eq, decide_eq_true_eq] at h ⊢; omega)
      have hTx : rowP I42 30 n (fun j => sg (b j)) := hTx.fr hT42 (fun j => Bool.eq_false_iff.mpr (fun h => by simp only [SNr, Bool.or_eq_true, Bool.and_eq_true, beq_iff_eq, decide_eq_true_eq] at h <;> omega))
      have hNi : NmI b n I42 N ds st nu := NmI.fr hNi hT42 (fun a j h1 h2 => Bool.eq_false_iff.mpr (fun h => by simp only [SNr, Bool.or_eq_true, Bool.and_eq_true, beq_iff_eq, decide_eq_true_eq] at h <;> omega))
      have hB : BrAt I42 β σ := BrAt.frI hB hT42 SNr_in (by omega)
      have hGa : GaAt I42 q σ := GaAt.frI hGa hT42 SNr_in (by omega)
      have hln : I42 66 1 = nI n := (hT42 66 1 rfl).trans hln
      have hFL : FL SLq L Lc42 := FL.tr hFL hL42 (by intro a j h; simp only [SLc, SLq, Bool.or_eq_true, Bool.and_eq_true, beq_iff_eq, decide_eq_true_eq] at h ⊢; omega)
      have hNl : NmL b n Lc42 N ds := NmL.fl hNl hL42 (fun _ => rfl)
      have hen : I42 66 3 = nI (tE b n (tt b n p9 3)) := hp42_0
      refine z_if_ne (tgt := 50) hx hb (dg D_X5_readWeather (i := 24) rfl) (by decide) (fun c45 => ?_) (fun c45 => ?_)
      · have hz := hp42_2 c45
        refine lv_aload_n hx hb (dg D_X5_readWeather (i := 27) rfl) rfl (lv_at hl 2 rfl) ?_
        refine r_getr (v := β) X hW FI_X5_32 rfl (by decide) rfl hR2 (dg D_X5_readWeather (i := 28) rfl) ?_
        refine rn_getc (t := β + 9) X hW FN_X5_173 (shB hβ) (ncB0 hβ) rfl (dg D_X5_readWeather (i := 29) rfl) ?_
        refine lv_iload_n hx hb (dg D_X5_readWeather (i := 30) rfl) rfl (lv_at hl 1 rfl) ?_
        refine lv_iload_n hx hb (dg D_X5_readWeather (i := 31) rfl) rfl (lv_at hl 0 rfl) ?_
        refine r_ast (j := tV b n (tt b n p9 1)) (v := nI (tV b n (tt b n p9 2))) X hW hS (shB9 hβ) (ncB hβ (by decide)) rfl (by omega) (by omega) (dg D_X5_readWeather (i := 32) rfl) (fun H locs hW hS => ?_)
        have hF : Fr (SCP β q) I (u2 I42 (β + 9) (tV b n (tt b n p9 1)) (nI (tV b n (tt b n p9 2)))) := Fr.put hF (by unfold SCP; simp only [Bool.or_eq_true, Bool.and_eq_true, beq_iff_eq, decide_eq_true_eq]; omega)
        have hTx : rowP (u2 I42 (β + 9) (tV b n (tt b n p9 1)) (nI (tV b n (tt b n p9 2)))) 30 n (fun j => sg (b j)) := hTx.keep (by omega)
        have hNi : NmI b n (u2 I42 (β + 9) (tV b n (tt b n p9 1)) (nI (tV b n (tt b n p9 2)))) N ds st nu := NmI.pu hNi (by omega)
        have hB : BrAt (u2 I42 (β + 9) (tV b n (tt b n p9 1)) (nI (tV b n (tt b n p9 2)))) β (upd σ (80 + tV b n (tt b n p9 1)) (nI (tV b n (tt b n p9 2)))) := BrAt_day hi hB (by omega)
        have hGa : GaAt (u2 I42 (β + 9) (tV b n (tt b n p9 1)) (nI (tV b n (tt b n p9 2)))) q σ := GaAt.pu hGa (by omega)
        have hz : KC (u2 I42 (β + 9) (tV b n (tt b n p9 1)) (nI (tV b n (tt b n p9 2)))) := KC.pu hz (by omega)
        obtain ⟨J59, eJ59⟩ : ∃ J, J = u2 I42 (β + 9) (tV b n (tt b n p9 1)) (nI (tV b n (tt b n p9 2))) := ⟨_, rfl⟩
        rw [← eJ59] at hW hF hTx hNi hB hGa hz
        have hln : J59 66 1 = nI n := by rw [eJ59, u2_off (Or.inl (by omega))]; exact hln
        have hen : J59 66 3 = nI (tE b n (tt b n p9 3)) := by rw [eJ59, u2_off (Or.inl (by omega))]; exact hen
        refine n_iconst (a := 1) hx hb (dg D_X5_readWeather (i := 33) rfl) rfl ?_
        have hst8 : stWe b n σ nm p9 = .inr (upd σ (80 + tV b n (tt b n p9 1)) (nI (tV b n (tt b n p9 2))), nm, tt b n p9 3) := by unfold stWe; simp only [hn1, hn2, ↓reduceIte, reduceCtorEq]
        have hst9 : seK b n (stWe b n σ nm p9) = .inr (upd σ (80 + tV b n (tt b n p9 1)) (nI (tV b n (tt b n p9 2))), nm, tE b n (tt b n p9 3)) := by rw [hst8]; exact seK_r c45
        exact fin (dg D_X5_readWeather (i := 34) rfl) hW hS (show _ = bI true from rfl) ⟨by rw [hst9]; rfl, hF, by rw [hst9]; exact ⟨hB, GaAt_u (by omega) hGa, ⟨_, _, _, _, hNi, hNl, NmR.same hNR (cN_upd (by omega))⟩, hen, hz⟩, hFL, rfl⟩
      · refine n_iconst (a := 0) hx hb (dg D_X5_readWeather (i := 25) rfl) rfl ?_
        have hst8 : stWe b n σ nm p9 = .inr (upd σ (80 + tV b n (tt b n p9 1)) (nI (tV b n (tt b n p9 2))), nm, tt b n p9 3) := by unfold stWe; simp only [hn1, hn2, ↓reduceIte, reduceCtorEq]
        have hst9 : seK b n (stWe b n σ nm p9) = .inl (e2 b n (tt b n p9 3), tS b n (tt b n p9 3)) := by rw [hst8]; exact seK_n c45
        exact fin (dg D_X5_readWeather (i := 26) rfl) hW hS (show _ = bI false from rfl) ⟨by rw [hst9]; rfl, hF, by rw [hst9]; exact ⟨(hp42_1 c45).1, (hp42_1 c45).2, hB, hGa⟩, hFL, rfl⟩
  · refine lv_bipush (v := -2) hx hb (dg D_X5_readWeather (i := 12) rfl) (by decide) ?_
    refine lv_goto (tgt := 34) hx hb (dg D_X5_readWeather (i := 13) rfl) (by decide) ?_
    refine lv_istore_n (lv' := [(2, .int ((-2))), (1, .int (nuV b n (tt b n p9 1) 0 ((Yn σ) - 1))), (0, .ref (bs + 61))]) hx hb (dg D_X5_readWeather (i := 18) rfl) rfl hl (by decide) rfl (fun ls hl => ?_)
    refine lv_iload_n hx hb (dg D_X5_readWeather (i := 19) rfl) rfl (lv_at hl 0 rfl) ?_
    refine lv_bipush (v := -2) hx hb (dg D_X5_readWeather (i := 20) rfl) (by decide) ?_
    refine lv_icmp_eq (tgt := 48) hx hb (dg D_X5_readWeather (i := 21) rfl) (by decide) (fun c38 => ?_) (fun c38 => ?_)
    · refine n_iconst (a := 0) hx hb (dg D_X5_readWeather (i := 25) rfl) rfl ?_
      have hn1 := nuV_f (by first | exact c18 | exact Classical.not_not.mp c18) (by omega)
      have hst8 : stWe b n σ nm p9 = .inl (nuE b n (tt b n p9 1), tS b n (tt b n p9 1)) := by unfold stWe; simp only [hn1, ↓reduceIte, reduceCtorEq]
      have hst9 : seK b n (stWe b n σ nm p9) = .inl (nuE b n (tt b n p9 1), tS b n (tt b n p9 1)) := by rw [hst8]; rfl
      exact fin (dg D_X5_readWeather (i := 26) rfl) hW hS (show _ = bI false from rfl) ⟨by rw [hst9]; rfl, hF, by rw [hst9]; exact ⟨(hp11_1 hn1).1, (hp11_1 hn1).2, hB, hGa⟩, hFL, rfl⟩
    · exact absurd c38 (by decide)

set_option maxHeartbeats 1000000 in
set_option maxRecDepth 100000 in
theorem c_X5_readClosed {l : Launch} {G : va_G} {bs : Nat} {cy : Nat → ClassId} {I : CI} {L : CL} {R : CR} (b : Nat → Int32) (n : Nat) (σ : Row) (p9 : Nat) (nm : Nm) (N : Nat) (ds : Nat → Nat) (st : Nat → Nat) (nu : Nat → Nat) (β : Nat) (q : Nat) (hTx : rowP I 30 n (fun j => sg (b j))) (hln : I 66 1 = nI n) (hT : TB b n) (hn : n ≤ 900) (hen : I 66 3 = nI (tE b n p9)) (hp : p9 ≤ n) (hz : KC I) (hi : Inv σ) (hNi : NmI b n I N ds st nu) (hNl : NmL b n L N ds) (hNR : NmR b n σ nm N ds st nu) (hβ : isBr β) (hB : BrAt I β σ) (hq : isPl q) (hGa : GaAt I q σ) (hR2 : R 61 2 = β) (hR3 : R 61 3 = q) (hRq : R q 0 = β) : MTi l G bs cy MX5_readClosed 4 [.ref (bs + 61)] I L R (fun r I1 L1 R1 => bI (okP (seK b n (stCl b n σ nm p9))) = r ∧ Fr (SCP β q) I I1 ∧ PostC b n β q (seK b n (stCl b n σ nm p9)) σ I1 L1 ∧ FL SLq L L1 ∧ R = R1) := by
  refine MTz.of (own := RX5) pn_RX5 rfl (Nat.le_of_ble_eq_true rfl) ?_
  intro p e s m args below meth c Qf X hW hS fin ls hl
  have hx := X.1
  have hb := X.2.1
  have hR : RmOK (rmL 4 0 0) 4 := ⟨rfl, rfl⟩
  have hcs : 0 ≤ (rmL 4 0 0).cells ∧ 0 ≤ (rmL 4 0 0).slots := ⟨Nat.zero_le _, Nat.zero_le _⟩
  have hl : lv_has ls 3 [(0, .ref (bs + 61))] := hl
  have hF : Fr (SCP β q) I I := Fr.rf
  have hFL : FL SLq L L := FL.rf
  obtain ⟨hY, hY1, hY12, hLn, hL4, hSn, hS12, hGn, hG5⟩ := id hi
  have hbq := br_pl hβ hq
  have hq4 : 53 ≤ q ∧ q ≤ 57 := by rcases hq with rfl | rfl <;> omega
  have hN21 : N ≤ nLn σ + nS σ + nG σ := Nat.le_of_eq hNR.1
  refine lv_aload_n hx hb (dg D_X5_readClosed (i := 0) rfl) rfl (lv_at hl 0 rfl) ?_
  refine n_iconst (a := 1) hx hb (dg D_X5_readClosed (i := 1) rfl) rfl ?_
  refine callVi X hW hS hR (c_X5_knownName (I := I) b n σ (tt b n p9 1) nm N ds st nu 0 (by first | exact hTx | assumption | omega | decide | exact hP.1) (by first | exact hln | assumption | omega | decide | exact hP.1) (by first | exact hT | assumption | omega | decide | exact hP.1) (by first | exact hn | assumption | omega | decide | exact hP.1) (by first | exact hen | assumption | omega | decide | exact hP.1) (tt_le hp 1) (by first | exact hz | assumption | omega | decide | exact hP.1) (by first | exact hi | assumption | omega | decide | exact hP.1) (by first | exact hNi | assumption | omega | decide | exact hP.1) (by first | exact hNl | assumption | omega | decide | exact hP.1) (by first | exact hNR | assumption | omega | decide | exact hP.1) (by decide)) (by decide) UVX5_knownName LK_X5_177 rfl (by decide) rfl rfl rfl (Nat.le_of_ble_eq_true rfl) hl hcs (dg D_X5_readClosed (i := 2) rfl) (fun r2 I2 Lc2 R1 H locs hq hW hS => ?_)
  obtain ⟨rfl, hT2, hp2_0, hp2_1, hp2_2, hp2_3, hL2, rfl⟩ := hq
  have hF : Fr (SCP β q) I I2 := Fr.tr hF hT2 (by intro a j h; simp only [SNr, SCP, Bool.or_eq_true, Bool.and_eq_true, beq_iff_eq, decide_eq_true_eq] at h ⊢; omega)
  have hTx : rowP I2 30 n (fun j => sg (b j)) := hTx.fr hT2 (fun j => Bool.eq_false_iff.mpr (fun h => by simp only [SNr, Bool.or_eq_true, Bool.and_eq_true, beq_iff_eq, decide_eq_true_eq] at h <;> omega))
  have hNi : NmI b n I2 N ds st nu := NmI.fr hNi hT2 (fun a j h1 h2 => Bool.eq_false_iff.mpr (fun h => by simp only [SNr, Bool.or_eq_true, Bool.and_eq_true, beq_iff_eq, decide_eq_true_eq] at h <;> omega))
  have hB : BrAt I2 β σ := BrAt.frI hB hT2 SNr_in (by omega)
  have hGa : GaAt I2 q σ := GaAt.frI hGa hT2 SNr_in (by omega)
  have hln : I2 66 1 = nI n := (hT2 66 1 rfl).trans hln
  have hFL : FL SLq L Lc2 := FL.tr hFL hL2 (by intro a j h; simp only [SLc, SLq, Bool.or_eq_true, Bool.and_eq_true, beq_iff_eq, decide_eq_true_eq] at h ⊢; omega)
  have hNl : NmL b n Lc2 N ds := NmL.fl hNl hL2 (fun _ => rfl)
  have hen : I2 66 3 = nI (tt b n p9 2) := hp2_0
  refine lv_istore_n (lv' := [(1, .int (onV b n σ nm 0 (tt b n p9 1))), (0, .ref (bs + 61))]) hx hb (dg D_X5_readClosed (i := 3) rfl) rfl hl (by decide) rfl (fun ls hl => ?_)
  refine lv_iload_n hx hb (dg D_X5_readClosed (i := 4) rfl) rfl (lv_at hl 0 rfl) ?_
  refine lv_bipush (v := -2) hx hb (dg D_X5_readClosed (i := 5) rfl) (by decide) ?_
  refine lv_icmp_ne (tgt := 17) hx hb (dg D_X5_readClosed (i := 6) rfl) (by decide) (fun c9 => ?_) (fun c9 => ?_)
  · obtain ⟨hn1, hnv1⟩ := onV_t c9
    rw [hnv1] at hl
    have hz := hp2_2 hn1
    have hfl1 := (onOk_2 hn1).2
    have hfc1 := (cN_I hi (t := 0) (by decide)).2
    refine lv_aload_n hx hb (dg D_X5_readClosed (i := 9) rfl) rfl (lv_at hl 1 rfl) ?_
    refine n_iconst (a := 0) hx hb (dg D_X5_readClosed (i := 10) rfl) rfl ?_
    refine lv_aload_n hx hb (dg D_X5_readClosed (i := 11) rfl) rfl (lv_at hl 1 rfl) ?_
    refine r_getr (v := β) X hW FI_X5_32 rfl (by decide) rfl hR2 (dg D_X5_readClosed (i := 12) rfl) ?_
    refine rn_geti (v := nI (Yn σ)) X hW FN_X5_139 (shB hβ) (ncB0 hβ) rfl (hB.c0 hi) (dg D_X5_readClosed (i := 13) rfl) ?_
    refine n_iconst (a := 1) hx hb (dg D_X5_readClosed (i := 14) rfl) rfl ?_
    refine n_isub hx hb (dg D_X5_readClosed (i := 15) rfl) (by omega) ?_
    refine callVi X hW hS hR (c_X5_number (I := I2) b n (tt b n p9 2) 0 ((Yn σ) - 1) (by first | exact hTx | assumption | omega | decide | exact hP.1) (by first | exact hln | assumption | omega | decide | exact hP.1) (by first | exact hT | assumption | omega | decide | exact hP.1) (by first | exact hn | assumption | omega | decide | exact hP.1) (by first | exact hen | assumption | omega | decide | exact hP.1) (tt_le hp 2) (by first | exact hz | assumption | omega | decide | exact hP.1) (by first | exact hlo | assumption | omega | decide | exact hP.1) (by first | exact hhi | assumption | omega | decide | exact hP.1)) (by decide) UVX5_number LK_X5_132 rfl (by decide) rfl rfl rfl (Nat.le_of_ble_eq_true rfl) hl hcs (dg D_X5_readClosed (i := 16) rfl) (fun r28 I28 Lc28 R1 H locs hq hW hS => ?_)
    obtain ⟨rfl, hT28, hp28_0, hp28_1, hp28_2, hL28, rfl⟩ := hq
    have hF : Fr (SCP β q) I I28 := Fr.tr hF hT28 (by intro a j h; simp only [SNr, SCP, Bool.or_eq_true, Bool.and_eq_true, beq_iff_eq, decide_eq_true_eq] at h ⊢; omega)
    have hTx : rowP I28 30 n (fun j => sg (b j)) := hTx.fr hT28 (fun j => Bool.eq_false_iff.mpr (fun h => by simp only [SNr, Bool.or_eq_true, Bool.and_eq_true, beq_iff_eq, decide_eq_true_eq] at h <;> omega))
    have hNi : NmI b n I28 N ds st nu := NmI.fr hNi hT28 (fun a j h1 h2 => Bool.eq_false_iff.mpr (fun h => by simp only [SNr, Bool.or_eq_true, Bool.and_eq_true, beq_iff_eq, decide_eq_true_eq] at h <;> omega))
    have hB : BrAt I28 β σ := BrAt.frI hB hT28 SNr_in (by omega)
    have hGa : GaAt I28 q σ := GaAt.frI hGa hT28 SNr_in (by omega)
    have hln : I28 66 1 = nI n := (hT28 66 1 rfl).trans hln
    have hFL : FL SLq L Lc28 := FL.tr hFL hL28 (by intro a j h; simp only [SLc, SLq, Bool.or_eq_true, Bool.and_eq_true, beq_iff_eq, decide_eq_true_eq] at h ⊢; omega)
    have hNl : NmL b n Lc28 N ds := NmL.fl hNl hL28 (fun _ => rfl)
    have hen : I28 66 3 = nI (tt b n p9 3) := hp28_0
    refine lv_istore_n (lv' := [(2, .int (nuV b n (tt b n p9 2) 0 ((Yn σ) - 1))), (1, .int (nI (fk b n σ nm 0 (tS b n (tt b n p9 1))))), (0, .ref (bs + 61))]) hx hb (dg D_X5_readClosed (i := 17) rfl) rfl hl (by decide) rfl (fun ls hl => ?_)
    refine lv_iload_n hx hb (dg D_X5_readClosed (i := 18) rfl) rfl (lv_at hl 0 rfl) ?_
    refine lv_bipush (v := -2) hx hb (dg D_X5_readClosed (i := 19) rfl) (by decide) ?_
    refine lv_icmp_eq (tgt := 45) hx hb (dg D_X5_readClosed (i := 20) rfl) (by decide) (fun c35 => ?_) (fun c35 => ?_)
    · refine n_iconst (a := 0) hx hb (dg D_X5_readClosed (i := 24) rfl) rfl ?_
      have hn2 := nuV_f (by first | exact c35 | exact Classical.not_not.mp c35) (by omega)
      have hst8 : stCl b n σ nm p9 = .inl (nuE b n (tt b n p9 2), tS b n (tt b n p9 2)) := by unfold stCl; simp only [hn1, hn2, ↓reduceIte, reduceCtorEq]
      have hst9 : seK b n (stCl b n σ nm p9) = .inl (nuE b n (tt b n p9 2), tS b n (tt b n p9 2)) := by rw [hst8]; rfl
      exact fin (dg D_X5_readClosed (i := 25) rfl) hW hS (show _ = bI false from rfl) ⟨by rw [hst9]; rfl, hF, by rw [hst9]; exact ⟨(hp28_1 hn2).1, (hp28_1 hn2).2, hB, hGa⟩, hFL, rfl⟩
    · obtain ⟨hn2, hnv2⟩ := nuV_t (by omega) c35
      rw [hnv2] at hl
      have hz := hp28_2 hn2
      have hvr2 := of_decide_eq_true hn2
      refine lv_aload_n hx hb (dg D_X5_readClosed (i := 21) rfl) rfl (lv_at hl 2 rfl) ?_
      refine callVi X hW hS hR (c_X5_semicolon (I := I28) b n (tt b n p9 3) (by first | exact hTx | assumption | omega | decide | exact hP.1) (by first | exact hln | assumption | omega | decide | exact hP.1) (by first | exact hT | assumption | omega | decide | exact hP.1) (by first | exact hn | assumption | omega | decide | exact hP.1) (by first | exact hen | assumption | omega | decide | exact hP.1) (tt_le hp 3) (by first | exact hz | assumption | omega | decide | exact hP.1)) (by decide) UVX5_semicolon LK_X5_136 rfl (by decide) rfl rfl rfl (Nat.le_of_ble_eq_true rfl) hl hcs (dg D_X5_readClosed (i := 22) rfl) (fun r39 I39 Lc39 R1 H locs hq hW hS => ?_)
      obtain ⟨rfl, hT39, hp39_0, hp39_1, hp39_2, hL39, rfl⟩ := hq
      have hF : Fr (SCP β q) I I39 := Fr.tr hF hT39 (by intro a j h; simp only [SNr, SCP, Bool.or_eq_true, Bool.and_eq_true, beq_iff_eq, decide_eq_true_eq] at h ⊢; omega)
      have hTx : rowP I39 30 n (fun j => sg (b j)) := hTx.fr hT39 (fun j => Bool.eq_false_iff.mpr (fun h => by simp only [SNr, Bool.or_eq_true, Bool.and_eq_true, beq_iff_eq, decide_eq_true_eq] at h <;> omega))
      have hNi : NmI b n I39 N ds st nu := NmI.fr hNi hT39 (fun a j h1 h2 => Bool.eq_false_iff.mpr (fun h => by simp only [SNr, Bool.or_eq_true, Bool.and_eq_true, beq_iff_eq, decide_eq_true_eq] at h <;> omega))
      have hB : BrAt I39 β σ := BrAt.frI hB hT39 SNr_in (by omega)
      have hGa : GaAt I39 q σ := GaAt.frI hGa hT39 SNr_in (by omega)
      have hln : I39 66 1 = nI n := (hT39 66 1 rfl).trans hln
      have hFL : FL SLq L Lc39 := FL.tr hFL hL39 (by intro a j h; simp only [SLc, SLq, Bool.or_eq_true, Bool.and_eq_true, beq_iff_eq, decide_eq_true_eq] at h ⊢; omega)
      have hNl : NmL b n Lc39 N ds := NmL.fl hNl hL39 (fun _ => rfl)
      have hen : I39 66 3 = nI (tE b n (tt b n p9 3)) := hp39_0
      refine z_if_ne (tgt := 47) hx hb (dg D_X5_readClosed (i := 23) rfl) (by decide) (fun c42 => ?_) (fun c42 => ?_)
      · have hz := hp39_2 c42
        refine lv_aload_n hx hb (dg D_X5_readClosed (i := 26) rfl) rfl (lv_at hl 2 rfl) ?_
        refine r_getr (v := β) X hW FI_X5_32 rfl (by decide) rfl hR2 (dg D_X5_readClosed (i := 27) rfl) ?_
        refine rn_getc (t := β + 10) X hW FN_X5_181 (shB hβ) (ncB0 hβ) rfl (dg D_X5_readClosed (i := 28) rfl) ?_
        refine lv_iload_n hx hb (dg D_X5_readClosed (i := 29) rfl) rfl (lv_at hl 0 rfl) ?_
        refine lv_dup2_11 hx hb (dg D_X5_readClosed (i := 30) rfl) rfl rfl ?_
        refine r_ald (j := tV b n (tt b n p9 2)) (v := σ (92 + (tV b n (tt b n p9 2)))) X hW (shB10 hβ) (ncB hβ (by decide)) rfl (by omega) (by omega) (hB.cl (by omega)) (dg D_X5_readClosed (i := 31) rfl) ?_
        refine n_iconst (a := 1) hx hb (dg D_X5_readClosed (i := 32) rfl) rfl ?_
        refine lv_iload_n hx hb (dg D_X5_readClosed (i := 33) rfl) rfl (lv_at hl 1 rfl) ?_
        refine lv_ishl hx hb (dg D_X5_readClosed (i := 34) rfl) ?_
        refine lv_ior hx hb (dg D_X5_readClosed (i := 35) rfl) ?_
        refine r_ast (j := tV b n (tt b n p9 2)) (v := (σ (92 + (tV b n (tt b n p9 2)))) ||| ((nI 1) <<< ((nI (fk b n σ nm 0 (tS b n (tt b n p9 1)))) &&& 31))) X hW hS (shB10 hβ) (ncB hβ (by decide)) rfl (by omega) (by omega) (dg D_X5_readClosed (i := 36) rfl) (fun H locs hW hS => ?_)
        have hF : Fr (SCP β q) I (u2 I39 (β + 10) (tV b n (tt b n p9 2)) ((σ (92 + (tV b n (tt b n p9 2)))) ||| ((nI 1) <<< ((nI (fk b n σ nm 0 (tS b n (tt b n p9 1)))) &&& 31)))) := Fr.put hF (by unfold SCP; simp only [Bool.or_eq_true, Bool.and_eq_true, beq_iff_eq, decide_eq_true_eq]; omega)
        have hTx : rowP (u2 I39 (β + 10) (tV b n (tt b n p9 2)) ((σ (92 + (tV b n (tt b n p9 2)))) ||| ((nI 1) <<< ((nI (fk b n σ nm 0 (tS b n (tt b n p9 1)))) &&& 31)))) 30 n (fun j => sg (b j)) := hTx.keep (by omega)
        have hNi : NmI b n (u2 I39 (β + 10) (tV b n (tt b n p9 2)) ((σ (92 + (tV b n (tt b n p9 2)))) ||| ((nI 1) <<< ((nI (fk b n σ nm 0 (tS b n (tt b n p9 1)))) &&& 31)))) N ds st nu := NmI.pu hNi (by omega)
        have hB : BrAt (u2 I39 (β + 10) (tV b n (tt b n p9 2)) ((σ (92 + (tV b n (tt b n p9 2)))) ||| ((nI 1) <<< ((nI (fk b n σ nm 0 (tS b n (tt b n p9 1)))) &&& 31)))) β (upd σ (92 + tV b n (tt b n p9 2)) (σ (92 + tV b n (tt b n p9 2)) ||| nI 1 <<< (nI (fk b n σ nm 0 (tS b n (tt b n p9 1))) &&& 31))) := BrAt_cls hi hB (by omega)
        have hGa : GaAt (u2 I39 (β + 10) (tV b n (tt b n p9 2)) ((σ (92 + (tV b n (tt b n p9 2)))) ||| ((nI 1) <<< ((nI (fk b n σ nm 0 (tS b n (tt b n p9 1)))) &&& 31)))) q σ := GaAt.pu hGa (by omega)
        have hz : KC (u2 I39 (β + 10) (tV b n (tt b n p9 2)) ((σ (92 + (tV b n (tt b n p9 2)))) ||| ((nI 1) <<< ((nI (fk b n σ nm 0 (tS b n (tt b n p9 1)))) &&& 31)))) := KC.pu hz (by omega)
        obtain ⟨J61, eJ61⟩ : ∃ J, J = u2 I39 (β + 10) (tV b n (tt b n p9 2)) ((σ (92 + (tV b n (tt b n p9 2)))) ||| ((nI 1) <<< ((nI (fk b n σ nm 0 (tS b n (tt b n p9 1)))) &&& 31))) := ⟨_, rfl⟩
        rw [← eJ61] at hW hF hTx hNi hB hGa hz
        have hln : J61 66 1 = nI n := by rw [eJ61, u2_off (Or.inl (by omega))]; exact hln
        have hen : J61 66 3 = nI (tE b n (tt b n p9 3)) := by rw [eJ61, u2_off (Or.inl (by omega))]; exact hen
        refine n_iconst (a := 1) hx hb (dg D_X5_readClosed (i := 37) rfl) rfl ?_
        have hst8 : stCl b n σ nm p9 = .inr (upd σ (92 + tV b n (tt b n p9 2)) (σ (92 + tV b n (tt b n p9 2)) ||| nI 1 <<< (nI (fk b n σ nm 0 (tS b n (tt b n p9 1))) &&& 31)), nm, tt b n p9 3) := by unfold stCl; simp only [hn1, hn2, ↓reduceIte, reduceCtorEq]
        have hst9 : seK b n (stCl b n σ nm p9) = .inr (upd σ (92 + tV b n (tt b n p9 2)) (σ (92 + tV b n (tt b n p9 2)) ||| nI 1 <<< (nI (fk b n σ nm 0 (tS b n (tt b n p9 1))) &&& 31)), nm, tE b n (tt b n p9 3)) := by rw [hst8]; exact seK_r c42
        exact fin (dg D_X5_readClosed (i := 38) rfl) hW hS (show _ = bI true from rfl) ⟨by rw [hst9]; rfl, hF, by rw [hst9]; exact ⟨hB, GaAt_u (by omega) hGa, ⟨_, _, _, _, hNi, hNl, NmR.same hNR (cN_upd (by omega))⟩, hen, hz⟩, hFL, rfl⟩
      · refine n_iconst (a := 0) hx hb (dg D_X5_readClosed (i := 24) rfl) rfl ?_
        have hst8 : stCl b n σ nm p9 = .inr (upd σ (92 + tV b n (tt b n p9 2)) (σ (92 + tV b n (tt b n p9 2)) ||| nI 1 <<< (nI (fk b n σ nm 0 (tS b n (tt b n p9 1))) &&& 31)), nm, tt b n p9 3) := by unfold stCl; simp only [hn1, hn2, ↓reduceIte, reduceCtorEq]
        have hst9 : seK b n (stCl b n σ nm p9) = .inl (e2 b n (tt b n p9 3), tS b n (tt b n p9 3)) := by rw [hst8]; exact seK_n c42
        exact fin (dg D_X5_readClosed (i := 25) rfl) hW hS (show _ = bI false from rfl) ⟨by rw [hst9]; rfl, hF, by rw [hst9]; exact ⟨(hp39_1 c42).1, (hp39_1 c42).2, hB, hGa⟩, hFL, rfl⟩
  · refine lv_bipush (v := -2) hx hb (dg D_X5_readClosed (i := 7) rfl) (by decide) ?_
    refine lv_goto (tgt := 31) hx hb (dg D_X5_readClosed (i := 8) rfl) (by decide) ?_
    refine lv_istore_n (lv' := [(2, .int ((-2))), (1, .int (onV b n σ nm 0 (tt b n p9 1))), (0, .ref (bs + 61))]) hx hb (dg D_X5_readClosed (i := 17) rfl) rfl hl (by decide) rfl (fun ls hl => ?_)
    refine lv_iload_n hx hb (dg D_X5_readClosed (i := 18) rfl) rfl (lv_at hl 0 rfl) ?_
    refine lv_bipush (v := -2) hx hb (dg D_X5_readClosed (i := 19) rfl) (by decide) ?_
    refine lv_icmp_eq (tgt := 45) hx hb (dg D_X5_readClosed (i := 20) rfl) (by decide) (fun c35 => ?_) (fun c35 => ?_)
    · refine n_iconst (a := 0) hx hb (dg D_X5_readClosed (i := 24) rfl) rfl ?_
      have hn1 := onV_f hi (by first | exact c9 | exact Classical.not_not.mp c9) (by decide)
      have hst8 : stCl b n σ nm p9 = .inl (nnE b n (tt b n p9 1), tS b n (tt b n p9 1)) := by unfold stCl; simp only [hn1, ↓reduceIte, reduceCtorEq]
      have hst9 : seK b n (stCl b n σ nm p9) = .inl (nnE b n (tt b n p9 1), tS b n (tt b n p9 1)) := by rw [hst8]; rfl
      exact fin (dg D_X5_readClosed (i := 25) rfl) hW hS (show _ = bI false from rfl) ⟨by rw [hst9]; rfl, hF, by rw [hst9]; exact ⟨(hp2_1 hn1).1, (hp2_1 hn1).2, hB, hGa⟩, hFL, rfl⟩
    · exact absurd c35 (by decide)

set_option maxHeartbeats 1000000 in
set_option maxRecDepth 100000 in
theorem c_X5_readPainting {l : Launch} {G : va_G} {bs : Nat} {cy : Nat → ClassId} {I : CI} {L : CL} {R : CR} (b : Nat → Int32) (n : Nat) (σ : Row) (p9 : Nat) (nm : Nm) (N : Nat) (ds : Nat → Nat) (st : Nat → Nat) (nu : Nat → Nat) (β : Nat) (q : Nat) (hTx : rowP I 30 n (fun j => sg (b j))) (hln : I 66 1 = nI n) (hT : TB b n) (hn : n ≤ 900) (hen : I 66 3 = nI (tE b n p9)) (hp : p9 ≤ n) (hz : KC I) (hi : Inv σ) (hNi : NmI b n I N ds st nu) (hNl : NmL b n L N ds) (hNR : NmR b n σ nm N ds st nu) (hβ : isBr β) (hB : BrAt I β σ) (hq : isPl q) (hGa : GaAt I q σ) (hR2 : R 61 2 = β) (hR3 : R 61 3 = q) (hRq : R q 0 = β) (hd : DR σ) : MTi l G bs cy MX5_readPainting 4 [.ref (bs + 61)] I L R (fun r I1 L1 R1 => bI (okP (seK b n (stPa b n σ nm p9))) = r ∧ Fr (SCP β q) I I1 ∧ PostC b n β q (seK b n (stPa b n σ nm p9)) σ I1 L1 ∧ FL SLq L L1 ∧ R = R1) := by
  refine MTz.of (own := RX5) pn_RX5 rfl (Nat.le_of_ble_eq_true rfl) ?_
  intro p e s m args below meth c Qf X hW hS fin ls hl
  have hx := X.1
  have hb := X.2.1
  have hR : RmOK (rmL 4 0 0) 4 := ⟨rfl, rfl⟩
  have hcs : 0 ≤ (rmL 4 0 0).cells ∧ 0 ≤ (rmL 4 0 0).slots := ⟨Nat.zero_le _, Nat.zero_le _⟩
  have hl : lv_has ls 4 [(0, .ref (bs + 61))] := hl
  have hF : Fr (SCP β q) I I := Fr.rf
  have hFL : FL SLq L L := FL.rf
  obtain ⟨hY, hY1, hY12, hLn, hL4, hSn, hS12, hGn, hG5⟩ := id hi
  have hbq := br_pl hβ hq
  have hq4 : 53 ≤ q ∧ q ≤ 57 := by rcases hq with rfl | rfl <;> omega
  have hN21 : N ≤ nLn σ + nS σ + nG σ := Nat.le_of_eq hNR.1
  refine lv_aload_n hx hb (dg D_X5_readPainting (i := 0) rfl) rfl (lv_at hl 0 rfl) ?_
  refine n_iconst (a := 0) hx hb (dg D_X5_readPainting (i := 1) rfl) rfl ?_
  refine lv_aload_n hx hb (dg D_X5_readPainting (i := 2) rfl) rfl (lv_at hl 0 rfl) ?_
  refine r_getr (v := β) X hW FI_X5_32 rfl (by decide) rfl hR2 (dg D_X5_readPainting (i := 3) rfl) ?_
  refine rn_geti (v := nI (Yn σ)) X hW FN_X5_139 (shB hβ) (ncB0 hβ) rfl (hB.c0 hi) (dg D_X5_readPainting (i := 4) rfl) ?_
  refine n_iconst (a := 1) hx hb (dg D_X5_readPainting (i := 5) rfl) rfl ?_
  refine n_isub hx hb (dg D_X5_readPainting (i := 6) rfl) (by omega) ?_
  refine callVi X hW hS hR (c_X5_number (I := I) b n (tt b n p9 1) 0 ((Yn σ) - 1) (by first | exact hTx | assumption | omega | decide | exact hP.1) (by first | exact hln | assumption | omega | decide | exact hP.1) (by first | exact hT | assumption | omega | decide | exact hP.1) (by first | exact hn | assumption | omega | decide | exact hP.1) (by first | exact hen | assumption | omega | decide | exact hP.1) (tt_le hp 1) (by first | exact hz | assumption | omega | decide | exact hP.1) (by first | exact hlo | assumption | omega | decide | exact hP.1) (by first | exact hhi | assumption | omega | decide | exact hP.1)) (by decide) UVX5_number LK_X5_132 rfl (by decide) rfl rfl rfl (Nat.le_of_ble_eq_true rfl) hl hcs (dg D_X5_readPainting (i := 7) rfl) (fun r11 I11 Lc11 R1 H locs hq hW hS => ?_)
  obtain ⟨rfl, hT11, hp11_0, hp11_1, hp11_2, hL11, rfl⟩ := hq
  have hF : Fr (SCP β q) I I11 := Fr.tr hF hT11 (by intro a j h; simp only [SNr, SCP, Bool.or_eq_true, Bool.and_eq_true, beq_iff_eq, decide_eq_true_eq] at h ⊢; omega)
  have hTx : rowP I11 30 n (fun j => sg (b j)) := hTx.fr hT11 (fun j => Bool.eq_false_iff.mpr (fun h => by simp only [SNr, Bool.or_eq_true, Bool.and_eq_true, beq_iff_eq, decide_eq_true_eq] at h <;> omega))
  have hNi : NmI b n I11 N ds st nu := NmI.fr hNi hT11 (fun a j h1 h2 => Bool.eq_false_iff.mpr (fun h => by simp only [SNr, Bool.or_eq_true, Bool.and_eq_true, beq_iff_eq, decide_eq_true_eq] at h <;> omega))
  have hB : BrAt I11 β σ := BrAt.frI hB hT11 SNr_in (by omega)
  have hGa : GaAt I11 q σ := GaAt.frI hGa hT11 SNr_in (by omega)
  have hln : I11 66 1 = nI n := (hT11 66 1 rfl).trans hln
  have hFL : FL SLq L Lc11 := FL.tr hFL hL11 (by intro a j h; simp only [SLc, SLq, Bool.or_eq_true, Bool.and_eq_true, beq_iff_eq, decide_eq_true_eq] at h ⊢; omega)
  have hNl : NmL b n Lc11 N ds := NmL.fl hNl hL11 (fun _ => rfl)
  have hen : I11 66 3 = nI (tt b n p9 2) := hp11_0
  refine lv_istore_n (lv' := [(1, .int (nuV b n (tt b n p9 1) 0 ((Yn σ) - 1))), (0, .ref (bs + 61))]) hx hb (dg D_X5_readPainting (i := 8) rfl) rfl hl (by decide) rfl (fun ls hl => ?_)
  refine lv_iload_n hx hb (dg D_X5_readPainting (i := 9) rfl) rfl (lv_at hl 0 rfl) ?_
  refine lv_bipush (v := -2) hx hb (dg D_X5_readPainting (i := 10) rfl) (by decide) ?_
  refine lv_icmp_ne (tgt := 26) hx hb (dg D_X5_readPainting (i := 11) rfl) (by decide) (fun c18 => ?_) (fun c18 => ?_)
  · obtain ⟨hn1, hnv1⟩ := nuV_t (by omega) c18
    rw [hnv1] at hl
    have hz := hp11_2 hn1
    have hvr1 := of_decide_eq_true hn1
    refine lv_aload_n hx hb (dg D_X5_readPainting (i := 14) rfl) rfl (lv_at hl 1 rfl) ?_
    refine n_iconst (a := 2) hx hb (dg D_X5_readPainting (i := 15) rfl) rfl ?_
    refine callVi X hW hS hR (c_X5_knownName (I := I11) b n σ (tt b n p9 2) nm N ds st nu 1 (by first | exact hTx | assumption | omega | decide | exact hP.1) (by first | exact hln | assumption | omega | decide | exact hP.1) (by first | exact hT | assumption | omega | decide | exact hP.1) (by first | exact hn | assumption | omega | decide | exact hP.1) (by first | exact hen | assumption | omega | decide | exact hP.1) (tt_le hp 2) (by first | exact hz | assumption | omega | decide | exact hP.1) (by first | exact hi | assumption | omega | decide | exact hP.1) (by first | exact hNi | assumption | omega | decide | exact hP.1) (by first | exact hNl | assumption | omega | decide | exact hP.1) (by first | exact hNR | assumption | omega | decide | exact hP.1) (by decide)) (by decide) UVX5_knownName LK_X5_177 rfl (by decide) rfl rfl rfl (Nat.le_of_ble_eq_true rfl) hl hcs (dg D_X5_readPainting (i := 16) rfl) (fun r28 I28 Lc28 R1 H locs hq hW hS => ?_)
    obtain ⟨rfl, hT28, hp28_0, hp28_1, hp28_2, hp28_3, hL28, rfl⟩ := hq
    have hF : Fr (SCP β q) I I28 := Fr.tr hF hT28 (by intro a j h; simp only [SNr, SCP, Bool.or_eq_true, Bool.and_eq_true, beq_iff_eq, decide_eq_true_eq] at h ⊢; omega)
    have hTx : rowP I28 30 n (fun j => sg (b j)) := hTx.fr hT28 (fun j => Bool.eq_false_iff.mpr (fun h => by simp only [SNr, Bool.or_eq_true, Bool.and_eq_true, beq_iff_eq, decide_eq_true_eq] at h <;> omega))
    have hNi : NmI b n I28 N ds st nu := NmI.fr hNi hT28 (fun a j h1 h2 => Bool.eq_false_iff.mpr (fun h => by simp only [SNr, Bool.or_eq_true, Bool.and_eq_true, beq_iff_eq, decide_eq_true_eq] at h <;> omega))
    have hB : BrAt I28 β σ := BrAt.frI hB hT28 SNr_in (by omega)
    have hGa : GaAt I28 q σ := GaAt.frI hGa hT28 SNr_in (by omega)
    have hln : I28 66 1 = nI n := (hT28 66 1 rfl).trans hln
    have hFL : FL SLq L Lc28 := FL.tr hFL hL28 (by intro a j h; simp only [SLc, SLq, Bool.or_eq_true, Bool.and_eq_true, beq_iff_eq, decide_eq_true_eq] at h ⊢; omega)
    have hNl : NmL b n Lc28 N ds := NmL.fl hNl hL28 (fun _ => rfl)
    have hen : I28 66 3 = nI (tt b n p9 3) := hp28_0
    have hst := hp28_3
    refine lv_istore_n (lv' := [(2, .int (onV b n σ nm 1 (tt b n p9 2))), (1, .int (nI (tV b n (tt b n p9 1)))), (0, .ref (bs + 61))]) hx hb (dg D_X5_readPainting (i := 17) rfl) rfl hl (by decide) rfl (fun ls hl => ?_)
    refine lv_iload_n hx hb (dg D_X5_readPainting (i := 18) rfl) rfl (lv_at hl 0 rfl) ?_
    refine lv_bipush (v := -2) hx hb (dg D_X5_readPainting (i := 19) rfl) (by decide) ?_
    refine lv_icmp_ne (tgt := 40) hx hb (dg D_X5_readPainting (i := 20) rfl) (by decide) (fun c35 => ?_) (fun c35 => ?_)
    · obtain ⟨hn2, hnv2⟩ := onV_t c35
      rw [hnv2] at hl
      have hz := hp28_2 hn2
      have hfl2 := (onOk_2 hn2).2
      have hfc2 := (cN_I hi (t := 1) (by decide)).2
      refine lv_aload_n hx hb (dg D_X5_readPainting (i := 23) rfl) rfl (lv_at hl 2 rfl) ?_
      refine r_getr (v := q) X hW FI_X5_36 rfl (by decide) rfl hR3 (dg D_X5_readPainting (i := 24) rfl) ?_
      refine lv_iload_n hx hb (dg D_X5_readPainting (i := 25) rfl) rfl (lv_at hl 1 rfl) ?_
      refine lv_iload_n hx hb (dg D_X5_readPainting (i := 26) rfl) rfl (lv_at hl 0 rfl) ?_
      refine callVi X hW hS hR (c_X6_isPainted (I := I28) σ q (tV b n (tt b n p9 1)) (fk b n σ nm 1 (tS b n (tt b n p9 2))) (by first | exact hq | assumption | omega | decide | exact hP.1) (by first | exact hGa | assumption | omega | decide | exact hP.1) (by omega) (by omega)) (by decide) UVX6_isPainted LK_X5_184 (shP hq) (ncP0 hq) rfl rfl rfl (Nat.le_of_ble_eq_true rfl) hl hcs (dg D_X5_readPainting (i := 27) rfl) (fun r46 I46 L1 R1 H locs hq hW hS => ?_)
      obtain ⟨rfl, rfl, rfl, rfl⟩ := hq
      refine z_if_eq (tgt := 59) hx hb (dg D_X5_readPainting (i := 28) rfl) (by decide) (fun c49 => ?_) (fun c49 => ?_)
      · refine lv_aload_n hx hb (dg D_X5_readPainting (i := 33) rfl) rfl (lv_at hl 2 rfl) ?_
        refine n_iconst (a := 3) hx hb (dg D_X5_readPainting (i := 34) rfl) rfl ?_
        refine callVi X hW hS hR (c_X5_knownName (I := I28) b n σ (tt b n p9 3) nm N ds st nu 2 (by first | exact hTx | assumption | omega | decide | exact hP.1) (by first | exact hln | assumption | omega | decide | exact hP.1) (by first | exact hT | assumption | omega | decide | exact hP.1) (by first | exact hn | assumption | omega | decide | exact hP.1) (by first | exact hen | assumption | omega | decide | exact hP.1) (tt_le hp 3) (by first | exact hz | assumption | omega | decide | exact hP.1) (by first | exact hi | assumption | omega | decide | exact hP.1) (by first | exact hNi | assumption | omega | decide | exact hP.1) (by first | exact hNl | assumption | omega | decide | exact hP.1) (by first | exact hNR | assumption | omega | decide | exact hP.1) (by decide)) (by decide) UVX5_knownName LK_X5_177 rfl (by decide) rfl rfl rfl (Nat.le_of_ble_eq_true rfl) hl hcs (dg D_X5_readPainting (i := 35) rfl) (fun r61 I61 Lc61 R1 H locs hq hW hS => ?_)
        obtain ⟨rfl, hT61, hp61_0, hp61_1, hp61_2, hp61_3, hL61, rfl⟩ := hq
        have hF : Fr (SCP β q) I I61 := Fr.tr hF hT61 (by intro a j h; simp only [SNr, SCP, Bool.or_eq_true, Bool.and_eq_true, beq_iff_eq, decide_eq_true_eq] at h ⊢; omega)
        have hTx : rowP I61 30 n (fun j => sg (b j)) := hTx.fr hT61 (fun j => Bool.eq_false_iff.mpr (fun h => by simp only [SNr, Bool.or_eq_true, Bool.and_eq_true, beq_iff_eq, decide_eq_true_eq] at h <;> omega))
        have hNi : NmI b n I61 N ds st nu := NmI.fr hNi hT61 (fun a j h1 h2 => Bool.eq_false_iff.mpr (fun h => by simp only [SNr, Bool.or_eq_true, Bool.and_eq_true, beq_iff_eq, decide_eq_true_eq] at h <;> omega))
        have hB : BrAt I61 β σ := BrAt.frI hB hT61 SNr_in (by omega)
        have hGa : GaAt I61 q σ := GaAt.frI hGa hT61 SNr_in (by omega)
        have hln : I61 66 1 = nI n := (hT61 66 1 rfl).trans hln
        have hFL : FL SLq L Lc61 := FL.tr hFL hL61 (by intro a j h; simp only [SLc, SLq, Bool.or_eq_true, Bool.and_eq_true, beq_iff_eq, decide_eq_true_eq] at h ⊢; omega)
        have hNl : NmL b n Lc61 N ds := NmL.fl hNl hL61 (fun _ => rfl)
        have hen : I61 66 3 = nI (tt b n p9 4) := hp61_0
        refine lv_istore_n (lv' := [(3, .int (onV b n σ nm 2 (tt b n p9 3))), (2, .int (nI (fk b n σ nm 1 (tS b n (tt b n p9 2))))), (1, .int (nI (tV b n (tt b n p9 1)))), (0, .ref (bs + 61))]) hx hb (dg D_X5_readPainting (i := 36) rfl) rfl hl (by decide) rfl (fun ls hl => ?_)
        refine lv_iload_n hx hb (dg D_X5_readPainting (i := 37) rfl) rfl (lv_at hl 0 rfl) ?_
        refine lv_bipush (v := -2) hx hb (dg D_X5_readPainting (i := 38) rfl) (by decide) ?_
        refine lv_icmp_eq (tgt := 78) hx hb (dg D_X5_readPainting (i := 39) rfl) (by decide) (fun c68 => ?_) (fun c68 => ?_)
        · refine n_iconst (a := 0) hx hb (dg D_X5_readPainting (i := 43) rfl) rfl ?_
          have hpq := ptd_pos hi hd (x := fk b n σ nm 1 (tS b n (tt b n p9 2))) (y := tV b n (tt b n p9 1)) (by omega) (by omega)
          rw [c49] at hpq
          have hpos : ¬ 0 < σ (104 + 12 * paY b n p9 + paX b n σ nm p9) := of_decide_eq_false hpq.symm
          have hn3 := onV_f hi (by first | exact c68 | exact Classical.not_not.mp c68) (by decide)
          have hst8 : stPa b n σ nm p9 = .inl (nnE b n (tt b n p9 3), tS b n (tt b n p9 3)) := by unfold stPa; simp only [hn1, hn2, hpos, hn3, ↓reduceIte, reduceCtorEq]
          have hst9 : seK b n (stPa b n σ nm p9) = .inl (nnE b n (tt b n p9 3), tS b n (tt b n p9 3)) := by rw [hst8]; rfl
          exact fin (dg D_X5_readPainting (i := 44) rfl) hW hS (show _ = bI false from rfl) ⟨by rw [hst9]; rfl, hF, by rw [hst9]; exact ⟨(hp61_1 hn3).1, (hp61_1 hn3).2, hB, hGa⟩, hFL, rfl⟩
        · obtain ⟨hn3, hnv3⟩ := onV_t c68
          rw [hnv3] at hl
          have hz := hp61_2 hn3
          have hfl3 := (onOk_2 hn3).2
          have hfc3 := (cN_I hi (t := 2) (by decide)).2
          refine lv_aload_n hx hb (dg D_X5_readPainting (i := 40) rfl) rfl (lv_at hl 3 rfl) ?_
          refine callVi X hW hS hR (c_X5_semicolon (I := I61) b n (tt b n p9 4) (by first | exact hTx | assumption | omega | decide | exact hP.1) (by first | exact hln | assumption | omega | decide | exact hP.1) (by first | exact hT | assumption | omega | decide | exact hP.1) (by first | exact hn | assumption | omega | decide | exact hP.1) (by first | exact hen | assumption | omega | decide | exact hP.1) (tt_le hp 4) (by first | exact hz | assumption | omega | decide | exact hP.1)) (by decide) UVX5_semicolon LK_X5_136 rfl (by decide) rfl rfl rfl (Nat.le_of_ble_eq_true rfl) hl hcs (dg D_X5_readPainting (i := 41) rfl) (fun r72 I72 Lc72 R1 H locs hq hW hS => ?_)
          obtain ⟨rfl, hT72, hp72_0, hp72_1, hp72_2, hL72, rfl⟩ := hq
          have hF : Fr (SCP β q) I I72 := Fr.tr hF hT72 (by intro a j h; simp only [SNr, SCP, Bool.or_eq_true, Bool.and_eq_true, beq_iff_eq, decide_eq_true_eq] at h ⊢; omega)
          have hTx : rowP I72 30 n (fun j => sg (b j)) := hTx.fr hT72 (fun j => Bool.eq_false_iff.mpr (fun h => by simp only [SNr, Bool.or_eq_true, Bool.and_eq_true, beq_iff_eq, decide_eq_true_eq] at h <;> omega))
          have hNi : NmI b n I72 N ds st nu := NmI.fr hNi hT72 (fun a j h1 h2 => Bool.eq_false_iff.mpr (fun h => by simp only [SNr, Bool.or_eq_true, Bool.and_eq_true, beq_iff_eq, decide_eq_true_eq] at h <;> omega))
          have hB : BrAt I72 β σ := BrAt.frI hB hT72 SNr_in (by omega)
          have hGa : GaAt I72 q σ := GaAt.frI hGa hT72 SNr_in (by omega)
          have hln : I72 66 1 = nI n := (hT72 66 1 rfl).trans hln
          have hFL : FL SLq L Lc72 := FL.tr hFL hL72 (by intro a j h; simp only [SLc, SLq, Bool.or_eq_true, Bool.and_eq_true, beq_iff_eq, decide_eq_true_eq] at h ⊢; omega)
          have hNl : NmL b n Lc72 N ds := NmL.fl hNl hL72 (fun _ => rfl)
          have hen : I72 66 3 = nI (tE b n (tt b n p9 4)) := hp72_0
          refine z_if_ne (tgt := 80) hx hb (dg D_X5_readPainting (i := 42) rfl) (by decide) (fun c75 => ?_) (fun c75 => ?_)
          · have hz := hp72_2 c75
            refine lv_aload_n hx hb (dg D_X5_readPainting (i := 45) rfl) rfl (lv_at hl 3 rfl) ?_
            refine r_getr (v := q) X hW FI_X5_36 rfl (by decide) rfl hR3 (dg D_X5_readPainting (i := 46) rfl) ?_
            refine lv_iload_n hx hb (dg D_X5_readPainting (i := 47) rfl) rfl (lv_at hl 2 rfl) ?_
            refine lv_iload_n hx hb (dg D_X5_readPainting (i := 48) rfl) rfl (lv_at hl 1 rfl) ?_
            refine lv_iload_n hx hb (dg D_X5_readPainting (i := 49) rfl) rfl (lv_at hl 0 rfl) ?_
            refine callVv X hW hS hR (c_X6_put (I := I72) σ β q (tV b n (tt b n p9 1)) (fk b n σ nm 1 (tS b n (tt b n p9 2))) (nI (fk b n σ nm 2 (tS b n (tt b n p9 3)))) (by first | exact hi | assumption | omega | decide | exact hP.1) (by first | exact hβ | assumption | omega | decide | exact hP.1) (by first | exact hB | assumption | omega | decide | exact hP.1) (by first | exact hq | assumption | omega | decide | exact hP.1) (by first | exact hGa | assumption | omega | decide | exact hP.1) (hRq) (hfl2) (by omega)) (by decide) UVX6_put LK_X5_188 (shP hq) (ncP0 hq) rfl rfl rfl (Nat.le_of_ble_eq_true rfl) hl hcs (dg D_X5_readPainting (i := 50) rfl) (fun I87 L1 R1 H locs hq hW hS => ?_)
            obtain ⟨hT87, hp87_0, hp87_1, rfl, rfl⟩ := hq
            have hF : Fr (SCP β q) I I87 := Fr.tr hF hT87 (by intro a j h; simp only [SPu, SCP, Bool.or_eq_true, Bool.and_eq_true, beq_iff_eq, decide_eq_true_eq] at h ⊢; omega)
            have hTx : rowP I87 30 n (fun j => sg (b j)) := hTx.fr hT87 (fun j => Bool.eq_false_iff.mpr (fun h => by simp only [SPu, Bool.or_eq_true, Bool.and_eq_true, beq_iff_eq, decide_eq_true_eq] at h <;> omega))
            have hNi : NmI b n I87 N ds st nu := NmI.fr hNi hT87 (fun a j h1 h2 => Bool.eq_false_iff.mpr (fun h => by simp only [SPu, Bool.or_eq_true, Bool.and_eq_true, beq_iff_eq, decide_eq_true_eq] at h <;> omega))
            have hB : BrAt I87 β σ := BrAt.frI hB hT87 SPu_in (by omega)
            have hz : KC I87 := KC.fr hz hT87 (Bool.eq_false_iff.mpr (fun h => by simp only [SPu, Bool.or_eq_true, Bool.and_eq_true, beq_iff_eq, decide_eq_true_eq] at h <;> omega)) (Bool.eq_false_iff.mpr (fun h => by simp only [SPu, Bool.or_eq_true, Bool.and_eq_true, beq_iff_eq, decide_eq_true_eq] at h <;> omega))
            have hln : I87 66 1 = nI n := (hT87 66 1 (SPu_in.no (by omega) _)).trans hln
            have hen : I87 66 3 = nI (tE b n (tt b n p9 4)) := (hT87 66 3 (SPu_in.no (by omega) _)).trans hen
            have hGa9 := hp87_0
            refine n_iconst (a := 1) hx hb (dg D_X5_readPainting (i := 51) rfl) rfl ?_
            have hpq := ptd_pos hi hd (x := fk b n σ nm 1 (tS b n (tt b n p9 2))) (y := tV b n (tt b n p9 1)) (by omega) (by omega)
            rw [c49] at hpq
            have hpos : ¬ 0 < σ (104 + 12 * paY b n p9 + paX b n σ nm p9) := of_decide_eq_false hpq.symm
            have hst8 : stPa b n σ nm p9 = .inr (setP σ (paX b n σ nm p9) (paY b n p9) (nI (fk b n σ nm 2 (tS b n (tt b n p9 3)))), nm, tt b n p9 4) := by unfold stPa; simp only [hn1, hn2, hpos, hn3, ↓reduceIte, reduceCtorEq]
            have hst9 : seK b n (stPa b n σ nm p9) = .inr (setP σ (paX b n σ nm p9) (paY b n p9) (nI (fk b n σ nm 2 (tS b n (tt b n p9 3)))), nm, tE b n (tt b n p9 4)) := by rw [hst8]; exact seK_r c75
            exact fin (dg D_X5_readPainting (i := 52) rfl) hW hS (show _ = bI true from rfl) ⟨by rw [hst9]; rfl, hF, by rw [hst9]; exact ⟨BrAt_Sm hB Sm_setP hi, hGa9, ⟨_, _, _, _, hNi, hNl, NmR.same hNR (cN_upd (by omega))⟩, hen, hz⟩, hFL, rfl⟩
          · refine n_iconst (a := 0) hx hb (dg D_X5_readPainting (i := 43) rfl) rfl ?_
            have hpq := ptd_pos hi hd (x := fk b n σ nm 1 (tS b n (tt b n p9 2))) (y := tV b n (tt b n p9 1)) (by omega) (by omega)
            rw [c49] at hpq
            have hpos : ¬ 0 < σ (104 + 12 * paY b n p9 + paX b n σ nm p9) := of_decide_eq_false hpq.symm
            have hst8 : stPa b n σ nm p9 = .inr (setP σ (paX b n σ nm p9) (paY b n p9) (nI (fk b n σ nm 2 (tS b n (tt b n p9 3)))), nm, tt b n p9 4) := by unfold stPa; simp only [hn1, hn2, hpos, hn3, ↓reduceIte, reduceCtorEq]
            have hst9 : seK b n (stPa b n σ nm p9) = .inl (e2 b n (tt b n p9 4), tS b n (tt b n p9 4)) := by rw [hst8]; exact seK_n c75
            exact fin (dg D_X5_readPainting (i := 44) rfl) hW hS (show _ = bI false from rfl) ⟨by rw [hst9]; rfl, hF, by rw [hst9]; exact ⟨(hp72_1 c75).1, (hp72_1 c75).2, hB, hGa⟩, hFL, rfl⟩
      · refine lv_aload_n hx hb (dg D_X5_readPainting (i := 29) rfl) rfl (lv_at hl 2 rfl) ?_
        refine lv_bipush (v := nI 6) hx hb (dg D_X5_readPainting (i := 30) rfl) (by decide) ?_
        refine callVi X hW hS hR (c_X5_fail (I := I28) (nI 6) (nI (tS b n (tt b n p9 2))) (by first | exact hst | assumption | omega | decide | exact hP.1)) (by decide) UVX5_fail LK_X5_89 rfl (by decide) rfl rfl rfl (Nat.le_of_ble_eq_true rfl) hl hcs (dg D_X5_readPainting (i := 31) rfl) (fun r55 I55 L1 R1 H locs hq hW hS => ?_)
        obtain ⟨rfl, hT55, hp55_0, hp55_1, rfl, rfl⟩ := hq
        have hF : Fr (SCP β q) I I55 := Fr.tr hF hT55 (by intro a j h; simp only [SFc, SCP, Bool.or_eq_true, Bool.and_eq_true, beq_iff_eq, decide_eq_true_eq] at h ⊢; omega)
        have hTx : rowP I55 30 n (fun j => sg (b j)) := hTx.fr hT55 (fun j => Bool.eq_false_iff.mpr (fun h => by simp only [SFc, Bool.or_eq_true, Bool.and_eq_true, beq_iff_eq, decide_eq_true_eq] at h <;> omega))
        have hNi : NmI b n I55 N ds st nu := NmI.fr hNi hT55 (fun a j h1 h2 => Bool.eq_false_iff.mpr (fun h => by simp only [SFc, Bool.or_eq_true, Bool.and_eq_true, beq_iff_eq, decide_eq_true_eq] at h <;> omega))
        have hB : BrAt I55 β σ := BrAt.frI hB hT55 SFc_in (by omega)
        have hGa : GaAt I55 q σ := GaAt.frI hGa hT55 SFc_in (by omega)
        have hln : I55 66 1 = nI n := (hT55 66 1 rfl).trans hln
        have hen : I55 66 3 = nI (tt b n p9 3) := (hT55 66 3 rfl).trans hen
        have hst : I55 66 2 = nI (tS b n (tt b n p9 2)) := (hT55 66 2 rfl).trans hst
        have hpq := ptd_pos hi hd (x := fk b n σ nm 1 (tS b n (tt b n p9 2))) (y := tV b n (tt b n p9 1)) (by omega) (by omega)
        rw [c49] at hpq
        have hpos : 0 < σ (104 + 12 * paY b n p9 + paX b n σ nm p9) := of_decide_eq_true hpq.symm
        have hst8 : stPa b n σ nm p9 = .inl (nI 6, tS b n (tt b n p9 2)) := by unfold stPa; simp only [hn1, hn2, hpos, ↓reduceIte, reduceCtorEq]
        have hst9 : seK b n (stPa b n σ nm p9) = .inl (nI 6, tS b n (tt b n p9 2)) := by rw [hst8]; rfl
        exact fin (dg D_X5_readPainting (i := 32) rfl) hW hS rfl ⟨by rw [hst9]; rfl, hF, by rw [hst9]; exact ⟨hp55_0, hp55_1, hB, hGa⟩, hFL, rfl⟩
    · refine n_iconst (a := 0) hx hb (dg D_X5_readPainting (i := 21) rfl) rfl ?_
      have hn2 := onV_f hi (by first | exact c35 | exact Classical.not_not.mp c35) (by decide)
      have hst8 : stPa b n σ nm p9 = .inl (nnE b n (tt b n p9 2), tS b n (tt b n p9 2)) := by unfold stPa; simp only [hn1, hn2, ↓reduceIte, reduceCtorEq]
      have hst9 : seK b n (stPa b n σ nm p9) = .inl (nnE b n (tt b n p9 2), tS b n (tt b n p9 2)) := by rw [hst8]; rfl
      exact fin (dg D_X5_readPainting (i := 22) rfl) hW hS (show _ = bI false from rfl) ⟨by rw [hst9]; rfl, hF, by rw [hst9]; exact ⟨(hp28_1 hn2).1, (hp28_1 hn2).2, hB, hGa⟩, hFL, rfl⟩
  · refine lv_bipush (v := -2) hx hb (dg D_X5_readPainting (i := 12) rfl) (by decide) ?_
    refine lv_goto (tgt := 31) hx hb (dg D_X5_readPainting (i := 13) rfl) (by decide) ?_
    refine lv_istore_n (lv' := [(2, .int ((-2))), (1, .int (nuV b n (tt b n p9 1) 0 ((Yn σ) - 1))), (0, .ref (bs + 61))]) hx hb (dg D_X5_readPainting (i := 17) rfl) rfl hl (by decide) rfl (fun ls hl => ?_)
    refine lv_iload_n hx hb (dg D_X5_readPainting (i := 18) rfl) rfl (lv_at hl 0 rfl) ?_
    refine lv_bipush (v := -2) hx hb (dg D_X5_readPainting (i := 19) rfl) (by decide) ?_
    refine lv_icmp_ne (tgt := 40) hx hb (dg D_X5_readPainting (i := 20) rfl) (by decide) (fun c35 => ?_) (fun c35 => ?_)
    · exact absurd c35 (by decide)
    · refine n_iconst (a := 0) hx hb (dg D_X5_readPainting (i := 21) rfl) rfl ?_
      have hn1 := nuV_f (by first | exact c18 | exact Classical.not_not.mp c18) (by omega)
      have hst8 : stPa b n σ nm p9 = .inl (nuE b n (tt b n p9 1), tS b n (tt b n p9 1)) := by unfold stPa; simp only [hn1, ↓reduceIte, reduceCtorEq]
      have hst9 : seK b n (stPa b n σ nm p9) = .inl (nuE b n (tt b n p9 1), tS b n (tt b n p9 1)) := by rw [hst8]; rfl
      exact fin (dg D_X5_readPainting (i := 22) rfl) hW hS (show _ = bI false from rfl) ⟨by rw [hst9]; rfl, hF, by rw [hst9]; exact ⟨(hp11_1 hn1).1, (hp11_1 hn1).2, hB, hGa⟩, hFL, rfl⟩

