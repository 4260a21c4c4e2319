set_option maxHeartbeats 4000000 in
set_option maxRecDepth 100000 in
theorem c_X3_add {l : Launch} {G : va_G} {bs : Nat} {cy : Nat → ClassId} {I : CI} {L : CL} {R : CR} (w : Int64) (so : Nat) (k : Nat) (N : Nat) (hsz : I 62 3 = nI N) (hN21 : N < 21) : MTv l G bs cy MX3_add 1 [.ref (bs + 62), .long w, .int (nI so), .int (nI k)] I L R (fun I1 L1 R1 => Fr SNa I I1 ∧ I1 62 3 = nI (N + 1) ∧ I1 64 N = nI so ∧ I1 65 N = nI k ∧ (∀ i, i ≠ N → I1 64 i = I 64 i ∧ I1 65 i = I 65 i) ∧ L1 63 N = w ∧ (∀ i, i ≠ N → L1 63 i = L 63 i) ∧ FL SLn L L1 ∧ R = R1) := by
  refine MTv.of (own := RX3) pn_RX3 rfl (Nat.le_of_ble_eq_true rfl) ?_
  intro p e s m args below meth c Qf X hW hS fin ls hl
  have hx := X.1
  have hb := X.2.1
  have hR : RmOK (rmL 1 0 0) 1 := ⟨rfl, rfl⟩
  have hcs : 0 ≤ (rmL 1 0 0).cells ∧ 0 ≤ (rmL 1 0 0).slots := ⟨Nat.zero_le _, Nat.zero_le _⟩
  have hl : lv_has ls 5 [(0, .ref (bs + 62)), (1, .long w), (3, .int (nI so)), (4, .int (nI k))] := hl
  have hF : Fr SNa I I := Fr.rf
  have hFL : FL SLn L L := FL.rf
  refine lv_aload_n hx hb (dg D_X3_add (i := 0) rfl) rfl (lv_at hl 0 rfl) ?_
  refine r_geti (v := nI N) X hW FI_X3_22 rfl (by decide) rfl hsz (dg D_X3_add (i := 1) rfl) ?_
  refine lv_bipush (v := nI 21) hx hb (dg D_X3_add (i := 2) rfl) (by decide) ?_
  refine n_icmp_ge (tgt := 50) hx hb (by omega) (by omega) (dg D_X3_add (i := 3) rfl) (by decide) (fun c6 => ?_) (fun c6 => ?_)
  · exact absurd c6 (by omega)
  · refine lv_aload_n hx hb (dg D_X3_add (i := 4) rfl) rfl (lv_at hl 0 rfl) ?_
    refine r_getc (t := 63) X hW FI_X3_11 rfl (by decide) rfl (dg D_X3_add (i := 5) rfl) ?_
    refine lv_aload_n hx hb (dg D_X3_add (i := 6) rfl) rfl (lv_at hl 0 rfl) ?_
    refine r_geti (v := nI N) X hW FI_X3_22 rfl (by decide) rfl hsz (dg D_X3_add (i := 7) rfl) ?_
    refine lv_lload_n hx hb (dg D_X3_add (i := 8) rfl) rfl (lv_at hl 1 rfl) ?_
    refine r_last (j := N) (v := w) X hW hS rfl (by decide) rfl (by omega) (by decide) (dg D_X3_add (i := 9) rfl) (fun H locs hW hS => ?_)
    have hFL : FL SLn L (u2L L 63 N w) := FL.put hFL rfl
    obtain ⟨LJ18, eLJ18⟩ : ∃ J, J = u2L L 63 N w := ⟨_, rfl⟩
    rw [← eLJ18] at hW hFL 
    refine lv_aload_n hx hb (dg D_X3_add (i := 10) rfl) rfl (lv_at hl 0 rfl) ?_
    refine r_getc (t := 64) X hW FI_X3_15 rfl (by decide) rfl (dg D_X3_add (i := 11) rfl) ?_
    refine lv_aload_n hx hb (dg D_X3_add (i := 12) rfl) rfl (lv_at hl 0 rfl) ?_
    refine r_geti (v := nI N) X hW FI_X3_22 rfl (by decide) rfl hsz (dg D_X3_add (i := 13) rfl) ?_
    refine lv_iload_n hx hb (dg D_X3_add (i := 14) rfl) rfl (lv_at hl 2 rfl) ?_
    refine r_ast (j := N) (v := nI so) X hW hS rfl (by decide) rfl (by omega) (by decide) (dg D_X3_add (i := 15) rfl) (fun H locs hW hS => ?_)
    have hF : Fr SNa I (u2 I 64 N (nI so)) := Fr.put hF rfl
    obtain ⟨J28, eJ28⟩ : ∃ J, J = u2 I 64 N (nI so) := ⟨_, rfl⟩
    rw [← eJ28] at hW hF
    have hsz : J28 62 3 = nI N := by rw [eJ28, u2_off (Or.inl (by decide))]; exact hsz
    refine lv_aload_n hx hb (dg D_X3_add (i := 16) rfl) rfl (lv_at hl 0 rfl) ?_
    refine r_getc (t := 65) X hW FI_X3_19 rfl (by decide) rfl (dg D_X3_add (i := 17) rfl) ?_
    refine lv_aload_n hx hb (dg D_X3_add (i := 18) rfl) rfl (lv_at hl 0 rfl) ?_
    refine r_geti (v := nI N) X hW FI_X3_22 rfl (by decide) rfl hsz (dg D_X3_add (i := 19) rfl) ?_
    refine lv_iload hx hb (dg D_X3_add (i := 20) rfl) (lv_at hl 3 rfl) ?_
    refine r_ast (j := N) (v := nI k) X hW hS rfl (by decide) rfl (by omega) (by decide) (dg D_X3_add (i := 21) rfl) (fun H locs hW hS => ?_)
    have hF : Fr SNa I (u2 J28 65 N (nI k)) := Fr.put hF rfl
    obtain ⟨J39, eJ39⟩ : ∃ J, J = u2 J28 65 N (nI k) := ⟨_, rfl⟩
    rw [← eJ39] at hW hF
    have hsz : J39 62 3 = nI N := by rw [eJ39, u2_off (Or.inl (by decide))]; exact hsz
    refine lv_aload_n hx hb (dg D_X3_add (i := 22) rfl) rfl (lv_at hl 0 rfl) ?_
    refine lv_dup hx hb (dg D_X3_add (i := 23) rfl) rfl ?_
    refine r_geti (v := nI N) X hW FI_X3_22 rfl (by decide) rfl hsz (dg D_X3_add (i := 24) rfl) ?_
    refine n_iconst (a := 1) hx hb (dg D_X3_add (i := 25) rfl) rfl ?_
    refine n_iadd hx hb (dg D_X3_add (i := 26) rfl) ?_
    refine r_puti (v := nI (N + 1)) (ty := .int) X hW hS FI_X3_22 rfl (by decide) rfl rfl (by decide +kernel) rfl rfl (dg D_X3_add (i := 27) rfl) (fun H locs hW hS => ?_)
    have hF : Fr SNa I (u2 J39 62 3 (nI (N + 1))) := Fr.put hF rfl
    obtain ⟨J47, eJ47⟩ : ∃ J, J = u2 J39 62 3 (nI (N + 1)) := ⟨_, rfl⟩
    rw [← eJ47] at hW hF
    have hsz : J47 62 3 = nI (N + 1) := by rw [eJ47]; exact u2_at
    exact fin (dg D_X3_add (i := 28) rfl) hW hS ⟨hF, hsz, by rw [eJ47, u2_off (Or.inl (by decide)), eJ39, u2_off (Or.inl (by decide)), eJ28]; exact u2_at, by rw [eJ47, u2_off (Or.inl (by decide)), eJ39]; exact u2_at, fun i hi => ⟨by rw [eJ47, u2_off (Or.inl (by decide)), eJ39, u2_off (Or.inl (by decide)), eJ28, u2_off (Or.inr hi)], by rw [eJ47, u2_off (Or.inl (by decide)), eJ39, u2_off (Or.inr hi), eJ28, u2_off (Or.inl (by decide))]⟩, by rw [eLJ18]; exact u2L_at, fun i hi => by rw [eLJ18, u2L_eq]; exact if_neg hi, hFL, rfl⟩

set_option maxHeartbeats 1000000 in
set_option maxRecDepth 100000 in
theorem c_X5_readBridge {l : Launch} {G : va_G} {bs : Nat} {cy : Nat → ClassId} {I : CI} {L : CL} {R : CR} (b : Nat → Int32) (n : Nat) (σ : Row) (p9 : Nat) (nm : Nm) (N : Nat) (ds : Nat → Nat) (st : Nat → Nat) (nu : Nat → Nat) (β : Nat) (q : Nat) (hTx : rowP I 30 n (fun j => sg (b j))) (hln : I 66 1 = nI n) (hT : TB b n) (hn : n ≤ 900) (hen : I 66 3 = nI (tE b n p9)) (hp : p9 ≤ n) (hz : KC I) (hi : Inv σ) (hNi : NmI b n I N ds st nu) (hNl : NmL b n L N ds) (hNR : NmR b n σ nm N ds st nu) (hβ : isBr β) (hB : BrAt I β σ) (hq : isPl q) (hGa : GaAt I q σ) (hR2 : R 61 2 = β) (hR3 : R 61 3 = q) (hRq : R q 0 = β) : MTi l G bs cy MX5_readBridge 4 [.ref (bs + 61)] I L R (fun r I1 L1 R1 => bI (okP (seK b n (stBr b n true σ nm p9))) = r ∧ Fr (SCP β q) I I1 ∧ PostC b n β q (seK b n (stBr b n true σ nm p9)) σ I1 L1 ∧ FL SLq L L1 ∧ R = R1) := by
  refine MTz.of (own := RX5) pn_RX5 rfl (Nat.le_of_ble_eq_true rfl) ?_
  intro p e s m args below meth c Qf X hW hS fin ls hl
  have hx := X.1
  have hb := X.2.1
  have hR : RmOK (rmL 4 0 0) 4 := ⟨rfl, rfl⟩
  have hcs : 0 ≤ (rmL 4 0 0).cells ∧ 0 ≤ (rmL 4 0 0).slots := ⟨Nat.zero_le _, Nat.zero_le _⟩
  have hl : lv_has ls 4 [(0, .ref (bs + 61))] := hl
  have hF : Fr (SCP β q) I I := Fr.rf
  have hFL : FL SLq L L := FL.rf
  obtain ⟨hY, hY1, hY12, hLn, hL4, hSn, hS12, hGn, hG5⟩ := id hi
  have hbq := br_pl hβ hq
  have hq4 : 53 ≤ q ∧ q ≤ 57 := by rcases hq with rfl | rfl <;> omega
  have hN21 : N ≤ nLn σ + nS σ + nG σ := Nat.le_of_eq hNR.1
  refine lv_aload_n hx hb (dg D_X5_readBridge (i := 0) rfl) rfl (lv_at hl 0 rfl) ?_
  refine n_iconst (a := 1) hx hb (dg D_X5_readBridge (i := 1) rfl) rfl ?_
  refine lv_bipush (v := nI 12) hx hb (dg D_X5_readBridge (i := 2) rfl) (by decide) ?_
  refine callVi X hW hS hR (c_X5_number (I := I) b n (tt b n p9 1) 1 12 (by first | exact hTx | assumption | omega | decide | exact hP.1) (by first | exact hln | assumption | omega | decide | exact hP.1) (by first | exact hT | assumption | omega | decide | exact hP.1) (by first | exact hn | assumption | omega | decide | exact hP.1) (by first | exact hen | assumption | omega | decide | exact hP.1) (tt_le hp 1) (by first | exact hz | assumption | omega | decide | exact hP.1) (by first | exact hlo | assumption | omega | decide | exact hP.1) (by first | exact hhi | assumption | omega | decide | exact hP.1)) (by decide) UVX5_number LK_X5_132 rfl (by decide) rfl rfl rfl (Nat.le_of_ble_eq_true rfl) hl hcs (dg D_X5_readBridge (i := 3) rfl) (fun r4 I4 Lc4 R1 H locs hq hW hS => ?_)
  obtain ⟨rfl, hT4, hp4_0, hp4_1, hp4_2, hL4, rfl⟩ := hq
  have hF : Fr (SCP β q) I I4 := Fr.tr hF hT4 (by intro a j h; simp only [SNr, SCP, Bool.or_eq_true, Bool.and_eq_true, beq_iff_eq, decide_eq_true_eq] at h ⊢; omega)
  have hTx : rowP I4 30 n (fun j => sg (b j)) := hTx.fr hT4 (fun j => Bool.eq_false_iff.mpr (fun h => by simp only [SNr, Bool.or_eq_true, Bool.and_eq_true, beq_iff_eq, decide_eq_true_eq] at h <;> omega))
  have hNi : NmI b n I4 N ds st nu := NmI.fr hNi hT4 (fun a j h1 h2 => Bool.eq_false_iff.mpr (fun h => by simp only [SNr, Bool.or_eq_true, Bool.and_eq_true, beq_iff_eq, decide_eq_true_eq] at h <;> omega))
  have hB : BrAt I4 β σ := BrAt.frI hB hT4 SNr_in (by omega)
  have hGa : GaAt I4 q σ := GaAt.frI hGa hT4 SNr_in (by omega)
  have hln : I4 66 1 = nI n := (hT4 66 1 rfl).trans hln
  have hFL : FL SLq L Lc4 := FL.tr hFL hL4 (by intro a j h; simp only [SLc, SLq, Bool.or_eq_true, Bool.and_eq_true, beq_iff_eq, decide_eq_true_eq] at h ⊢; omega)
  have hNl : NmL b n Lc4 N ds := NmL.fl hNl hL4 (fun _ => rfl)
  have hen : I4 66 3 = nI (tt b n p9 2) := hp4_0
  refine lv_istore_n (lv' := [(1, .int (nuV b n (tt b n p9 1) 1 12)), (0, .ref (bs + 61))]) hx hb (dg D_X5_readBridge (i := 4) rfl) rfl hl (by decide) rfl (fun ls hl => ?_)
  refine lv_iload_n hx hb (dg D_X5_readBridge (i := 5) rfl) rfl (lv_at hl 0 rfl) ?_
  refine lv_bipush (v := -2) hx hb (dg D_X5_readBridge (i := 6) rfl) (by decide) ?_
  refine lv_icmp_ne (tgt := 19) hx hb (dg D_X5_readBridge (i := 7) rfl) (by decide) (fun c11 => ?_) (fun c11 => ?_)
  · obtain ⟨hn1, hnv1⟩ := nuV_t (by omega) c11
    rw [hnv1] at hl
    have hz := hp4_2 hn1
    have hvr1 := of_decide_eq_true hn1
    refine lv_aload_n hx hb (dg D_X5_readBridge (i := 10) rfl) rfl (lv_at hl 1 rfl) ?_
    refine n_iconst (a := 1) hx hb (dg D_X5_readBridge (i := 11) rfl) rfl ?_
    refine n_iconst (a := 4) hx hb (dg D_X5_readBridge (i := 12) rfl) rfl ?_
    refine callVi X hW hS hR (c_X5_number (I := I4) b n (tt b n p9 2) 1 4 (by first | exact hTx | assumption | omega | decide | exact hP.1) (by first | exact hln | assumption | omega | decide | exact hP.1) (by first | exact hT | assumption | omega | decide | exact hP.1) (by first | exact hn | assumption | omega | decide | exact hP.1) (by first | exact hen | assumption | omega | decide | exact hP.1) (tt_le hp 2) (by first | exact hz | assumption | omega | decide | exact hP.1) (by first | exact hlo | assumption | omega | decide | exact hP.1) (by first | exact hhi | assumption | omega | decide | exact hP.1)) (by decide) UVX5_number LK_X5_132 rfl (by decide) rfl rfl rfl (Nat.le_of_ble_eq_true rfl) hl hcs (dg D_X5_readBridge (i := 13) rfl) (fun r22 I22 Lc22 R1 H locs hq hW hS => ?_)
    obtain ⟨rfl, hT22, hp22_0, hp22_1, hp22_2, hL22, rfl⟩ := hq
    have hF : Fr (SCP β q) I I22 := Fr.tr hF hT22 (by intro a j h; simp only [SNr, SCP, Bool.or_eq_true, Bool.and_eq_true, beq_iff_eq, decide_eq_true_eq] at h ⊢; omega)
    have hTx : rowP I22 30 n (fun j => sg (b j)) := hTx.fr hT22 (fun j => Bool.eq_false_iff.mpr (fun h => by simp only [SNr, Bool.or_eq_true, Bool.and_eq_true, beq_iff_eq, decide_eq_true_eq] at h <;> omega))
    have hNi : NmI b n I22 N ds st nu := NmI.fr hNi hT22 (fun a j h1 h2 => Bool.eq_false_iff.mpr (fun h => by simp only [SNr, Bool.or_eq_true, Bool.and_eq_true, beq_iff_eq, decide_eq_true_eq] at h <;> omega))
    have hB : BrAt I22 β σ := BrAt.frI hB hT22 SNr_in (by omega)
    have hGa : GaAt I22 q σ := GaAt.frI hGa hT22 SNr_in (by omega)
    have hln : I22 66 1 = nI n := (hT22 66 1 rfl).trans hln
    have hFL : FL SLq L Lc22 := FL.tr hFL hL22 (by intro a j h; simp only [SLc, SLq, Bool.or_eq_true, Bool.and_eq_true, beq_iff_eq, decide_eq_true_eq] at h ⊢; omega)
    have hNl : NmL b n Lc22 N ds := NmL.fl hNl hL22 (fun _ => rfl)
    have hen : I22 66 3 = nI (tt b n p9 3) := hp22_0
    refine lv_istore_n (lv' := [(2, .int (nuV b n (tt b n p9 2) 1 4)), (1, .int (nI (tV b n (tt b n p9 1)))), (0, .ref (bs + 61))]) hx hb (dg D_X5_readBridge (i := 14) rfl) rfl hl (by decide) rfl (fun ls hl => ?_)
    refine lv_iload_n hx hb (dg D_X5_readBridge (i := 15) rfl) rfl (lv_at hl 0 rfl) ?_
    refine lv_bipush (v := -2) hx hb (dg D_X5_readBridge (i := 16) rfl) (by decide) ?_
    refine lv_icmp_ne (tgt := 37) hx hb (dg D_X5_readBridge (i := 17) rfl) (by decide) (fun c29 => ?_) (fun c29 => ?_)
    · obtain ⟨hn2, hnv2⟩ := nuV_t (by omega) c29
      rw [hnv2] at hl
      have hz := hp22_2 hn2
      have hvr2 := of_decide_eq_true hn2
      refine lv_aload_n hx hb (dg D_X5_readBridge (i := 20) rfl) rfl (lv_at hl 2 rfl) ?_
      refine n_iconst (a := 0) hx hb (dg D_X5_readBridge (i := 21) rfl) rfl ?_
      refine lv_bipush (v := nI 10) hx hb (dg D_X5_readBridge (i := 22) rfl) (by decide) ?_
      refine callVi X hW hS hR (c_X5_number (I := I22) b n (tt b n p9 3) 0 10 (by first | exact hTx | assumption | omega | decide | exact hP.1) (by first | exact hln | assumption | omega | decide | exact hP.1) (by first | exact hT | assumption | omega | decide | exact hP.1) (by first | exact hn | assumption | omega | decide | exact hP.1) (by first | exact hen | assumption | omega | decide | exact hP.1) (tt_le hp 3) (by first | exact hz | assumption | omega | decide | exact hP.1) (by first | exact hlo | assumption | omega | decide | exact hP.1) (by first | exact hhi | assumption | omega | decide | exact hP.1)) (by decide) UVX5_number LK_X5_132 rfl (by decide) rfl rfl rfl (Nat.le_of_ble_eq_true rfl) hl hcs (dg D_X5_readBridge (i := 23) rfl) (fun r41 I41 Lc41 R1 H locs hq hW hS => ?_)
      obtain ⟨rfl, hT41, hp41_0, hp41_1, hp41_2, hL41, rfl⟩ := hq
      have hF : Fr (SCP β q) I I41 := Fr.tr hF hT41 (by intro a j h; simp only [SNr, SCP, Bool.or_eq_true, Bool.and_eq_true, beq_iff_eq, decide_eq_true_eq] at h ⊢; omega)
      have hTx : rowP I41 30 n (fun j => sg (b j)) := hTx.fr hT41 (fun j => Bool.eq_false_iff.mpr (fun h => by simp only [SNr, Bool.or_eq_true, Bool.and_eq_true, beq_iff_eq, decide_eq_true_eq] at h <;> omega))
      have hNi : NmI b n I41 N ds st nu := NmI.fr hNi hT41 (fun a j h1 h2 => Bool.eq_false_iff.mpr (fun h => by simp only [SNr, Bool.or_eq_true, Bool.and_eq_true, beq_iff_eq, decide_eq_true_eq] at h <;> omega))
      have hB : BrAt I41 β σ := BrAt.frI hB hT41 SNr_in (by omega)
      have hGa : GaAt I41 q σ := GaAt.frI hGa hT41 SNr_in (by omega)
      have hln : I41 66 1 = nI n := (hT41 66 1 rfl).trans hln
      have hFL : FL SLq L Lc41 := FL.tr hFL hL41 (by intro a j h; simp only [SLc, SLq, Bool.or_eq_true, Bool.and_eq_true, beq_iff_eq, decide_eq_true_eq] at h ⊢; omega)
      have hNl : NmL b n Lc41 N ds := NmL.fl hNl hL41 (fun _ => rfl)
      have hen : I41 66 3 = nI (tt b n p9 4) := hp41_0
      refine lv_istore_n (lv' := [(3, .int (nuV b n (tt b n p9 3) 0 10)), (2, .int (nI (tV b n (tt b n p9 2)))), (1, .int (nI (tV b n (tt b n p9 1)))), (0, .ref (bs + 61))]) hx hb (dg D_X5_readBridge (i := 24) rfl) rfl hl (by decide) rfl (fun ls hl => ?_)
      refine lv_iload_n hx hb (dg D_X5_readBridge (i := 25) rfl) rfl (lv_at hl 0 rfl) ?_
      refine lv_bipush (v := -2) hx hb (dg D_X5_readBridge (i := 26) rfl) (by decide) ?_
      refine lv_icmp_eq (tgt := 58) hx hb (dg D_X5_readBridge (i := 27) rfl) (by decide) (fun c48 => ?_) (fun c48 => ?_)
      · refine n_iconst (a := 0) hx hb (dg D_X5_readBridge (i := 31) rfl) rfl ?_
        have hn3 := nuV_f (by first | exact c48 | exact Classical.not_not.mp c48) (by omega)
        have hst8 : stBr b n true σ nm p9 = .inl (nuE b n (tt b n p9 3), tS b n (tt b n p9 3)) := by unfold stBr; simp only [hn1, hn2, hn3, ↓reduceIte, reduceCtorEq]
        have hst9 : seK b n (stBr b n true σ nm p9) = .inl (nuE b n (tt b n p9 3), tS b n (tt b n p9 3)) := by rw [hst8]; rfl
        exact fin (dg D_X5_readBridge (i := 32) rfl) hW hS (show _ = bI false from rfl) ⟨by rw [hst9]; rfl, hF, by rw [hst9]; exact ⟨(hp41_1 hn3).1, (hp41_1 hn3).2, hB, hGa⟩, hFL, rfl⟩
      · obtain ⟨hn3, hnv3⟩ := nuV_t (by omega) c48
        rw [hnv3] at hl
        have hz := hp41_2 hn3
        have hvr3 := of_decide_eq_true hn3
        refine lv_aload_n hx hb (dg D_X5_readBridge (i := 28) rfl) rfl (lv_at hl 3 rfl) ?_
        refine callVi X hW hS hR (c_X5_semicolon (I := I41) b n (tt b n p9 4) (by first | exact hTx | assumption | omega | decide | exact hP.1) (by first | exact hln | assumption | omega | decide | exact hP.1) (by first | exact hT | assumption | omega | decide | exact hP.1) (by first | exact hn | assumption | omega | decide | exact hP.1) (by first | exact hen | assumption | omega | decide | exact hP.1) (tt_le hp 4) (by first | exact hz | assumption | omega | decide | exact hP.1)) (by decide) UVX5_semicolon LK_X5_136 rfl (by decide) rfl rfl rfl (Nat.le_of_ble_eq_true rfl) hl hcs (dg D_X5_readBridge (i := 29) rfl) (fun r52 I52 Lc52 R1 H locs hq hW hS => ?_)
        obtain ⟨rfl, hT52, hp52_0, hp52_1, hp52_2, hL52, rfl⟩ := hq
        have hF : Fr (SCP β q) I I52 := Fr.tr hF hT52 (by intro a j h; simp only [SNr, SCP, Bool.or_eq_true, Bool.and_eq_true, beq_iff_eq, decide_eq_true_eq] at h ⊢; omega)
        have hTx : rowP I52 30 n (fun j => sg (b j)) := hTx.fr hT52 (fun j => Bool.eq_false_iff.mpr (fun h => by simp only [SNr, Bool.or_eq_true, Bool.and_eq_true, beq_iff_eq, decide_eq_true_eq] at h <;> omega))
        have hNi : NmI b n I52 N ds st nu := NmI.fr hNi hT52 (fun a j h1 h2 => Bool.eq_false_iff.mpr (fun h => by simp only [SNr, Bool.or_eq_true, Bool.and_eq_true, beq_iff_eq, decide_eq_true_eq] at h <;> omega))
        have hB : BrAt I52 β σ := BrAt.frI hB hT52 SNr_in (by omega)
        have hGa : GaAt I52 q σ := GaAt.frI hGa hT52 SNr_in (by omega)
        have hln : I52 66 1 = nI n := (hT52 66 1 rfl).trans hln
        have hFL : FL SLq L Lc52 := FL.tr hFL hL52 (by intro a j h; simp only [SLc, SLq, Bool.or_eq_true, Bool.and_eq_true, beq_iff_eq, decide_eq_true_eq] at h ⊢; omega)
        have hNl : NmL b n Lc52 N ds := NmL.fl hNl hL52 (fun _ => rfl)
        have hen : I52 66 3 = nI (tE b n (tt b n p9 4)) := hp52_0
        refine z_if_ne (tgt := 60) hx hb (dg D_X5_readBridge (i := 30) rfl) (by decide) (fun c55 => ?_) (fun c55 => ?_)
        · have hz := hp52_2 c55
          have hB9 := hB
          refine lv_aload_n hx hb (dg D_X5_readBridge (i := 33) rfl) rfl (lv_at hl 3 rfl) ?_
          refine r_getr (v := β) X hW FI_X5_32 rfl (by decide) rfl hR2 (dg D_X5_readBridge (i := 34) rfl) ?_
          refine lv_iload_n hx hb (dg D_X5_readBridge (i := 35) rfl) rfl (lv_at hl 2 rfl) ?_
          refine rn_puti (v := nI (tV b n (tt b n p9 1))) (ty := .int) X hW hS FN_X5_139 (shB hβ) (ncB0 hβ) rfl rfl (by decide +kernel) rfl rfl (dg D_X5_readBridge (i := 36) rfl) (fun H locs hW hS => ?_)
          have hF : Fr (SCP β q) I (u2 I52 β 0 (nI (tV b n (tt b n p9 1)))) := Fr.put hF (by unfold SCP; simp only [Bool.or_eq_true, Bool.and_eq_true, beq_iff_eq, decide_eq_true_eq]; omega)
          have hTx : rowP (u2 I52 β 0 (nI (tV b n (tt b n p9 1)))) 30 n (fun j => sg (b j)) := hTx.keep (by omega)
          have hNi : NmI b n (u2 I52 β 0 (nI (tV b n (tt b n p9 1)))) N ds st nu := NmI.pu hNi (by omega)
          have hGa : GaAt (u2 I52 β 0 (nI (tV b n (tt b n p9 1)))) q σ := GaAt.pu hGa (by omega)
          have hz : KC (u2 I52 β 0 (nI (tV b n (tt b n p9 1)))) := KC.pu hz (by omega)
          obtain ⟨J65, eJ65⟩ : ∃ J, J = u2 I52 β 0 (nI (tV b n (tt b n p9 1))) := ⟨_, rfl⟩
          rw [← eJ65] at hW hF hTx hNi hGa hz
          have hln : J65 66 1 = nI n := by rw [eJ65, u2_off (Or.inl (by omega))]; exact hln
          have hen : J65 66 3 = nI (tE b n (tt b n p9 4)) := by rw [eJ65, u2_off (Or.inl (by omega))]; exact hen
          refine lv_aload_n hx hb (dg D_X5_readBridge (i := 37) rfl) rfl (lv_at hl 3 rfl) ?_
          refine r_getr (v := β) X hW FI_X5_32 rfl (by decide) rfl hR2 (dg D_X5_readBridge (i := 38) rfl) ?_
          refine lv_iload_n hx hb (dg D_X5_readBridge (i := 39) rfl) rfl (lv_at hl 1 rfl) ?_
          refine rn_puti (v := nI (tV b n (tt b n p9 2))) (ty := .int) X hW hS FN_X5_142 (shB hβ) (ncB0 hβ) rfl rfl (by decide +kernel) rfl rfl (dg D_X5_readBridge (i := 40) rfl) (fun H locs hW hS => ?_)
          have hF : Fr (SCP β q) I (u2 J65 β 1 (nI (tV b n (tt b n p9 2)))) := Fr.put hF (by unfold SCP; simp only [Bool.or_eq_true, Bool.and_eq_true, beq_iff_eq, decide_eq_true_eq]; omega)
          have hTx : rowP (u2 J65 β 1 (nI (tV b n (tt b n p9 2)))) 30 n (fun j => sg (b j)) := hTx.keep (by omega)
          have hNi : NmI b n (u2 J65 β 1 (nI (tV b n (tt b n p9 2)))) N ds st nu := NmI.pu hNi (by omega)
          have hGa : GaAt (u2 J65 β 1 (nI (tV b n (tt b n p9 2)))) q σ := GaAt.pu hGa (by omega)
          have hz : KC (u2 J65 β 1 (nI (tV b n (tt b n p9 2)))) := KC.pu hz (by omega)
          obtain ⟨J73, eJ73⟩ : ∃ J, J = u2 J65 β 1 (nI (tV b n (tt b n p9 2))) := ⟨_, rfl⟩
          rw [← eJ73] at hW hF hTx hNi hGa hz
          have hln : J73 66 1 = nI n := by rw [eJ73, u2_off (Or.inl (by omega))]; exact hln
          have hen : J73 66 3 = nI (tE b n (tt b n p9 4)) := by rw [eJ73, u2_off (Or.inl (by omega))]; exact hen
          refine lv_aload_n hx hb (dg D_X5_readBridge (i := 41) rfl) rfl (lv_at hl 3 rfl) ?_
          refine r_getr (v := β) X hW FI_X5_32 rfl (by decide) rfl hR2 (dg D_X5_readBridge (i := 42) rfl) ?_
          refine lv_iload_n hx hb (dg D_X5_readBridge (i := 43) rfl) rfl (lv_at hl 0 rfl) ?_
          refine rn_puti (v := nI (tV b n (tt b n p9 3))) (ty := .int) X hW hS FN_X5_145 (shB hβ) (ncB0 hβ) rfl rfl (by decide +kernel) rfl rfl (dg D_X5_readBridge (i := 44) rfl) (fun H locs hW hS => ?_)
          have hF : Fr (SCP β q) I (u2 J73 β 2 (nI (tV b n (tt b n p9 3)))) := Fr.put hF (by unfold SCP; simp only [Bool.or_eq_true, Bool.and_eq_true, beq_iff_eq, decide_eq_true_eq]; omega)
          have hTx : rowP (u2 J73 β 2 (nI (tV b n (tt b n p9 3)))) 30 n (fun j => sg (b j)) := hTx.keep (by omega)
          have hNi : NmI b n (u2 J73 β 2 (nI (tV b n (tt b n p9 3)))) N ds st nu := NmI.pu hNi (by omega)
          have hGa : GaAt (u2 J73 β 2 (nI (tV b n (tt b n p9 3)))) q σ := GaAt.pu hGa (by omega)
          have hz : KC (u2 J73 β 2 (nI (tV b n (tt b n p9 3)))) := KC.pu hz (by omega)
          obtain ⟨J81, eJ81⟩ : ∃ J, J = u2 J73 β 2 (nI (tV b n (tt b n p9 3))) := ⟨_, rfl⟩
          rw [← eJ81] at hW hF hTx hNi hGa hz
          have hln : J81 66 1 = nI n := by rw [eJ81, u2_off (Or.inl (by omega))]; exact hln
          have hen : J81 66 3 = nI (tE b n (tt b n p9 4)) := by rw [eJ81, u2_off (Or.inl (by omega))]; exact hen
          refine n_iconst (a := 1) hx hb (dg D_X5_readBridge (i := 45) rfl) rfl ?_
          have hst8 : stBr b n true σ nm p9 = .inr (upd (upd (upd σ 0 (nI (tV b n (tt b n p9 1)))) 1 (nI (tV b n (tt b n p9 2)))) 2 (nI (tV b n (tt b n p9 3))), nm, tt b n p9 4) := by unfold stBr; simp only [hn1, hn2, hn3, ↓reduceIte, reduceCtorEq]
          have hst9 : seK b n (stBr b n true σ nm p9) = .inr (upd (upd (upd σ 0 (nI (tV b n (tt b n p9 1)))) 1 (nI (tV b n (tt b n p9 2)))) 2 (nI (tV b n (tt b n p9 3))), nm, tE b n (tt b n p9 4)) := by rw [hst8]; exact seK_r c55
          exact fin (dg D_X5_readBridge (i := 46) rfl) hW hS (show _ = bI true from rfl) ⟨by rw [hst9]; rfl, hF, by rw [hst9]; exact ⟨by rw [eJ81, eJ73, eJ65]; exact BrAt_br hB9, GaAt_c hGa (fun j hj => by rw [upd_ne (by omega), upd_ne (by omega), upd_ne (by omega)]), ⟨_, _, _, _, hNi, hNl, NmR.same hNR (fun a ha => (cN_upd (by decide) a ha).trans ((cN_upd (by decide) a ha).trans (cN_upd (by decide) a ha)))⟩, hen, hz⟩, hFL, rfl⟩
        · refine n_iconst (a := 0) hx hb (dg D_X5_readBridge (i := 31) rfl) rfl ?_
          have hst8 : stBr b n true σ nm p9 = .inr (upd (upd (upd σ 0 (nI (tV b n (tt b n p9 1)))) 1 (nI (tV b n (tt b n p9 2)))) 2 (nI (tV b n (tt b n p9 3))), nm, tt b n p9 4) := by unfold stBr; simp only [hn1, hn2, hn3, ↓reduceIte, reduceCtorEq]
          have hst9 : seK b n (stBr b n true σ nm p9) = .inl (e2 b n (tt b n p9 4), tS b n (tt b n p9 4)) := by rw [hst8]; exact seK_n c55
          exact fin (dg D_X5_readBridge (i := 32) rfl) hW hS (show _ = bI false from rfl) ⟨by rw [hst9]; rfl, hF, by rw [hst9]; exact ⟨(hp52_1 c55).1, (hp52_1 c55).2, hB, hGa⟩, hFL, rfl⟩
    · refine lv_bipush (v := -2) hx hb (dg D_X5_readBridge (i := 18) rfl) (by decide) ?_
      refine lv_goto (tgt := 44) hx hb (dg D_X5_readBridge (i := 19) rfl) (by decide) ?_
      refine lv_istore_n (lv' := [(3, .int ((-2))), (2, .int (nuV b n (tt b n p9 2) 1 4)), (1, .int (nI (tV b n (tt b n p9 1)))), (0, .ref (bs + 61))]) hx hb (dg D_X5_readBridge (i := 24) rfl) rfl hl (by decide) rfl (fun ls hl => ?_)
      refine lv_iload_n hx hb (dg D_X5_readBridge (i := 25) rfl) rfl (lv_at hl 0 rfl) ?_
      refine lv_bipush (v := -2) hx hb (dg D_X5_readBridge (i := 26) rfl) (by decide) ?_
      refine lv_icmp_eq (tgt := 58) hx hb (dg D_X5_readBridge (i := 27) rfl) (by decide) (fun c48 => ?_) (fun c48 => ?_)
      · refine n_iconst (a := 0) hx hb (dg D_X5_readBridge (i := 31) rfl) rfl ?_
        have hn2 := nuV_f (by first | exact c29 | exact Classical.not_not.mp c29) (by omega)
        have hst8 : stBr b n true σ nm p9 = .inl (nuE b n (tt b n p9 2), tS b n (tt b n p9 2)) := by unfold stBr; simp only [hn1, hn2, ↓reduceIte, reduceCtorEq]
        have hst9 : seK b n (stBr b n true σ nm p9) = .inl (nuE b n (tt b n p9 2), tS b n (tt b n p9 2)) := by rw [hst8]; rfl
        exact fin (dg D_X5_readBridge (i := 32) rfl) hW hS (show _ = bI false from rfl) ⟨by rw [hst9]; rfl, hF, by rw [hst9]; exact ⟨(hp22_1 hn2).1, (hp22_1 hn2).2, hB, hGa⟩, hFL, rfl⟩
      · exact absurd c48 (by decide)
  · refine lv_bipush (v := -2) hx hb (dg D_X5_readBridge (i := 8) rfl) (by decide) ?_
    refine lv_goto (tgt := 25) hx hb (dg D_X5_readBridge (i := 9) rfl) (by decide) ?_
    refine lv_istore_n (lv' := [(2, .int ((-2))), (1, .int (nuV b n (tt b n p9 1) 1 12)), (0, .ref (bs + 61))]) hx hb (dg D_X5_readBridge (i := 14) rfl) rfl hl (by decide) rfl (fun ls hl => ?_)
    refine lv_iload_n hx hb (dg D_X5_readBridge (i := 15) rfl) rfl (lv_at hl 0 rfl) ?_
    refine lv_bipush (v := -2) hx hb (dg D_X5_readBridge (i := 16) rfl) (by decide) ?_
    refine lv_icmp_ne (tgt := 37) hx hb (dg D_X5_readBridge (i := 17) rfl) (by decide) (fun c29 => ?_) (fun c29 => ?_)
    · exact absurd c29 (by decide)
    · refine lv_bipush (v := -2) hx hb (dg D_X5_readBridge (i := 18) rfl) (by decide) ?_
      refine lv_goto (tgt := 44) hx hb (dg D_X5_readBridge (i := 19) rfl) (by decide) ?_
      refine lv_istore_n (lv' := [(3, .int ((-2))), (2, .int ((-2))), (1, .int (nuV b n (tt b n p9 1) 1 12)), (0, .ref (bs + 61))]) hx hb (dg D_X5_readBridge (i := 24) rfl) rfl hl (by decide) rfl (fun ls hl => ?_)
      refine lv_iload_n hx hb (dg D_X5_readBridge (i := 25) rfl) rfl (lv_at hl 0 rfl) ?_
      refine lv_bipush (v := -2) hx hb (dg D_X5_readBridge (i := 26) rfl) (by decide) ?_
      refine lv_icmp_eq (tgt := 58) hx hb (dg D_X5_readBridge (i := 27) rfl) (by decide) (fun c48 => ?_) (fun c48 => ?_)
      · refine n_iconst (a := 0) hx hb (dg D_X5_readBridge (i := 31) rfl) rfl ?_
        have hn1 := nuV_f (by first | exact c11 | exact Classical.not_not.mp c11) (by omega)
        have hst8 : stBr b n true σ nm p9 = .inl (nuE b n (tt b n p9 1), tS b n (tt b n p9 1)) := by unfold stBr; simp only [hn1, ↓reduceIte, reduceCtorEq]
        have hst9 : seK b n (stBr b n true σ nm p9) = .inl (nuE b n (tt b n p9 1), tS b n (tt b n p9 1)) := by rw [hst8]; rfl
        exact fin (dg D_X5_readBridge (i := 32) rfl) hW hS (show _ = bI false from rfl) ⟨by rw [hst9]; rfl, hF, by rw [hst9]; exact ⟨(hp4_1 hn1).1, (hp4_1 hn1).2, hB, hGa⟩, hFL, rfl⟩
      · exact absurd c48 (by decide)

