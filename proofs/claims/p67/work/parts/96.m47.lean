set_option maxHeartbeats 4000000 in
set_option maxRecDepth 100000 in
theorem c_X5_failureKind {l : Launch} {G : va_G} {bs : Nat} {cy : Nat → ClassId} {I : CI} {L : CL} {R : CR} (v : Int32) (hv : I 61 4 = v) : MTi l G bs cy MX5_failureKind 1 [.ref (bs + 61)] I L R (fun r I1 L1 R1 => v = r ∧ I = I1 ∧ L = L1 ∧ R = R1) := by
  refine MTi.of (own := RX5) pn_RX5 rfl (Nat.le_of_ble_eq_true rfl) ?_
  intro p e s m args below meth c Qf X hW hS fin ls hl
  have hx := X.1
  have hb := X.2.1
  have hR : RmOK (rmL 1 0 0) 1 := ⟨rfl, rfl⟩
  have hcs : 0 ≤ (rmL 1 0 0).cells ∧ 0 ≤ (rmL 1 0 0).slots := ⟨Nat.zero_le _, Nat.zero_le _⟩
  have hl : lv_has ls 1 [(0, .ref (bs + 61))] := hl
  refine lv_aload_n hx hb (dg D_X5_failureKind (i := 0) rfl) rfl (lv_at hl 0 rfl) ?_
  refine r_geti (v := v) X hW FI_X5_40 rfl (by decide) rfl hv (dg D_X5_failureKind (i := 1) rfl) ?_
  exact fin (dg D_X5_failureKind (i := 2) rfl) hW hS ⟨rfl, rfl, rfl, rfl⟩

set_option maxHeartbeats 4000000 in
set_option maxRecDepth 100000 in
theorem c_X5_failurePosition {l : Launch} {G : va_G} {bs : Nat} {cy : Nat → ClassId} {I : CI} {L : CL} {R : CR} (v : Int32) (hv : I 61 5 = v) : MTi l G bs cy MX5_failurePosition 1 [.ref (bs + 61)] I L R (fun r I1 L1 R1 => v = r ∧ I = I1 ∧ L = L1 ∧ R = R1) := by
  refine MTi.of (own := RX5) pn_RX5 rfl (Nat.le_of_ble_eq_true rfl) ?_
  intro p e s m args below meth c Qf X hW hS fin ls hl
  have hx := X.1
  have hb := X.2.1
  have hR : RmOK (rmL 1 0 0) 1 := ⟨rfl, rfl⟩
  have hcs : 0 ≤ (rmL 1 0 0).cells ∧ 0 ≤ (rmL 1 0 0).slots := ⟨Nat.zero_le _, Nat.zero_le _⟩
  have hl : lv_has ls 1 [(0, .ref (bs + 61))] := hl
  refine lv_aload_n hx hb (dg D_X5_failurePosition (i := 0) rfl) rfl (lv_at hl 0 rfl) ?_
  refine r_geti (v := v) X hW FI_X5_19 rfl (by decide) rfl hv (dg D_X5_failurePosition (i := 1) rfl) ?_
  exact fin (dg D_X5_failurePosition (i := 2) rfl) hW hS ⟨rfl, rfl, rfl, rfl⟩

set_option maxHeartbeats 1000000 in
set_option maxRecDepth 100000 in
theorem c_X5_readStatement {l : Launch} {G : va_G} {bs : Nat} {cy : Nat → ClassId} {I : CI} {L : CL} {R : CR} (b : Nat → Int32) (n : Nat) (σ : Row) (p9 : Nat) (nm : Nm) (N : Nat) (ds : Nat → Nat) (st : Nat → Nat) (nu : Nat → Nat) (β : Nat) (q : Nat) (f9 : Bool) (hTx : rowP I 30 n (fun j => sg (b j))) (hln : I 66 1 = nI n) (hT : TB b n) (hn : n ≤ 900) (hen : I 66 3 = nI (tE b n p9)) (hp : p9 ≤ n) (hz : KC I) (hi : Inv σ) (hNi : NmI b n I N ds st nu) (hNl : NmL b n L N ds) (hNR : NmR b n σ nm N ds st nu) (hβ : isBr β) (hB : BrAt I β σ) (hq : isPl q) (hGa : GaAt I q σ) (hR2 : R 61 2 = β) (hR3 : R 61 3 = q) (hRq : R q 0 = β) (hd : DR σ) (hst : I 66 2 = nI (tS b n p9)) (hki : I 66 4 = nI (cK (tK b n p9))) (hwd : tK b n p9 = 2 → L 66 6 = Int64.ofNat (w256 b n (tS b n p9))) : MTi l G bs cy MX5_readStatement 5 [.ref (bs + 61), .int (bI f9)] I L R (fun r I1 L1 R1 => bI (okP (stm b n f9 σ nm p9)) = r ∧ Fr (SCP β q) I I1 ∧ PostC b n β q (stm b n f9 σ nm p9) σ I1 L1 ∧ FL SLq L L1 ∧ R = R1) := by
  refine MTz.of (own := RX5) pn_RX5 rfl (Nat.le_of_ble_eq_true rfl) ?_
  intro p e s m args below meth c Qf X hW hS fin ls hl
  have hx := X.1
  have hb := X.2.1
  have hR : RmOK (rmL 5 0 0) 5 := ⟨rfl, rfl⟩
  have hcs : 0 ≤ (rmL 5 0 0).cells ∧ 0 ≤ (rmL 5 0 0).slots := ⟨Nat.zero_le _, Nat.zero_le _⟩
  have hl : lv_has ls 4 [(0, .ref (bs + 61)), (1, .int (bI f9))] := hl
  have hF : Fr (SCP β q) I I := Fr.rf
  have hFL : FL SLq L L := FL.rf
  obtain ⟨hY, hY1, hY12, hLn, hL4, hSn, hS12, hGn, hG5⟩ := id hi
  have hbq := br_pl hβ hq
  have hq4 : 53 ≤ q ∧ q ≤ 57 := by rcases hq with rfl | rfl <;> omega
  have hN21 : N ≤ nLn σ + nS σ + nG σ := Nat.le_of_eq hNR.1
  have hk4 := tK_le (b := b) (n := n) (p := p9)
  have hck := cK_eq hk4
  refine lv_aload_n hx hb (dg D_X5_readStatement (i := 0) rfl) rfl (lv_at hl 0 rfl) ?_
  refine r_getc (t := 66) X hW FI_X5_28 rfl (by decide) rfl (dg D_X5_readStatement (i := 1) rfl) ?_
  refine rn_geti (v := nI (cK (tK b n p9))) X hW FN_X5_64 rfl (by decide) rfl hki (dg D_X5_readStatement (i := 2) rfl) ?_
  refine n_iconst (a := 1) hx hb (dg D_X5_readStatement (i := 3) rfl) rfl ?_
  refine n_icmp_eq (tgt := 16) hx hb (by omega) (by omega) (dg D_X5_readStatement (i := 4) rfl) (by decide) (fun c8 => ?_) (fun c8 => ?_)
  · have hk2 : tK b n p9 = 2 := hck.2.2.2.1.mp (by omega)
    refine lv_aload_n hx hb (dg D_X5_readStatement (i := 8) rfl) rfl (lv_at hl 0 rfl) ?_
    refine r_getc (t := 66) X hW FI_X5_28 rfl (by decide) rfl (dg D_X5_readStatement (i := 9) rfl) ?_
    refine rn_getl (v := Int64.ofNat (w256 b n (tS b n p9))) X hW FN_X5_80 rfl (by decide) rfl (hwd hk2) (dg D_X5_readStatement (i := 10) rfl) ?_
    refine lv_lstore_n (lv' := [(2, .long (Int64.ofNat (w256 b n (tS b n p9)))), (0, .ref (bs + 61)), (1, .int (bI f9))]) hx hb (dg D_X5_readStatement (i := 11) rfl) rfl hl (by decide) rfl (fun ls hl => ?_)
    refine lv_lload_n hx hb (dg D_X5_readStatement (i := 12) rfl) rfl (lv_at hl 0 rfl) ?_
    refine r_ldc2 X CK_X5_84 (dg D_X5_readStatement (i := 13) rfl) ?_
    refine W.lcmp hx hb (dg D_X5_readStatement (i := 14) rfl) ?_
    refine c_if_ne (tgt := 49) hx hb (dg D_X5_readStatement (i := 15) rfl) (by decide) (fun c29 => ?_) (fun c29 => ?_)
    · refine lv_lload_n hx hb (dg D_X5_readStatement (i := 25) rfl) rfl (lv_at hl 0 rfl) ?_
      refine r_ldc2 X CK_X5_93 (dg D_X5_readStatement (i := 26) rfl) ?_
      refine W.lcmp hx hb (dg D_X5_readStatement (i := 27) rfl) ?_
      refine c_if_ne (tgt := 81) hx hb (dg D_X5_readStatement (i := 28) rfl) (by decide) (fun c54 => ?_) (fun c54 => ?_)
      · refine lv_lload_n hx hb (dg D_X5_readStatement (i := 41) rfl) rfl (lv_at hl 0 rfl) ?_
        refine r_ldc2 X CK_X5_101 (dg D_X5_readStatement (i := 42) rfl) ?_
        refine W.lcmp hx hb (dg D_X5_readStatement (i := 43) rfl) ?_
        refine c_if_ne (tgt := 114) hx hb (dg D_X5_readStatement (i := 44) rfl) (by decide) (fun c86 => ?_) (fun c86 => ?_)
        · refine lv_lload_n hx hb (dg D_X5_readStatement (i := 57) rfl) rfl (lv_at hl 0 rfl) ?_
          refine r_ldc2 X CK_X5_109 (dg D_X5_readStatement (i := 58) rfl) ?_
          refine W.lcmp hx hb (dg D_X5_readStatement (i := 59) rfl) ?_
          refine c_if_ne (tgt := 146) hx hb (dg D_X5_readStatement (i := 60) rfl) (by decide) (fun c119 => ?_) (fun c119 => ?_)
          · refine lv_lload_n hx hb (dg D_X5_readStatement (i := 73) rfl) rfl (lv_at hl 0 rfl) ?_
            refine r_ldc2 X CK_X5_117 (dg D_X5_readStatement (i := 74) rfl) ?_
            refine W.lcmp hx hb (dg D_X5_readStatement (i := 75) rfl) ?_
            refine c_if_ne (tgt := 159) hx hb (dg D_X5_readStatement (i := 76) rfl) (by decide) (fun c151 => ?_) (fun c151 => ?_)
            · refine lv_lload_n hx hb (dg D_X5_readStatement (i := 80) rfl) rfl (lv_at hl 0 rfl) ?_
              refine r_ldc2 X CK_X5_122 (dg D_X5_readStatement (i := 81) rfl) ?_
              refine W.lcmp hx hb (dg D_X5_readStatement (i := 82) rfl) ?_
              refine c_if_ne (tgt := 172) hx hb (dg D_X5_readStatement (i := 83) rfl) (by decide) (fun c164 => ?_) (fun c164 => ?_)
              · refine lv_lload_n hx hb (dg D_X5_readStatement (i := 87) rfl) rfl (lv_at hl 0 rfl) ?_
                refine r_ldc2 X CK_X5_127 (dg D_X5_readStatement (i := 88) rfl) ?_
                refine W.lcmp hx hb (dg D_X5_readStatement (i := 89) rfl) ?_
                refine c_if_ne (tgt := 187) hx hb (dg D_X5_readStatement (i := 90) rfl) (by decide) (fun c177 => ?_) (fun c177 => ?_)
                · refine lv_aload_n hx hb (dg D_X5_readStatement (i := 94) rfl) rfl (lv_at hl 1 rfl) ?_
                  refine n_iconst (a := 2) hx hb (dg D_X5_readStatement (i := 95) rfl) rfl ?_
                  refine callVi X hW hS hR (c_X5_fail (I := I) (nI 2) (nI (tS b n p9)) (by first | exact hst | assumption | omega | decide | exact hP.1)) (by decide) UVX5_fail LK_X5_89 rfl (by decide) rfl rfl rfl (Nat.le_of_ble_eq_true rfl) hl hcs (dg D_X5_readStatement (i := 96) rfl) (fun r189 I189 L1 R1 H locs hq hW hS => ?_)
                  obtain ⟨rfl, hT189, hp189_0, hp189_1, rfl, rfl⟩ := hq
                  have hF : Fr (SCP β q) I I189 := Fr.tr hF hT189 (by intro a j h; simp only [SFc, SCP, Bool.or_eq_true, Bool.and_eq_true, beq_iff_eq, decide_eq_true_eq] at h ⊢; omega)
                  have hTx : rowP I189 30 n (fun j => sg (b j)) := hTx.fr hT189 (fun j => Bool.eq_false_iff.mpr (fun h => by simp only [SFc, Bool.or_eq_true, Bool.and_eq_true, beq_iff_eq, decide_eq_true_eq] at h <;> omega))
                  have hNi : NmI b n I189 N ds st nu := NmI.fr hNi hT189 (fun a j h1 h2 => Bool.eq_false_iff.mpr (fun h => by simp only [SFc, Bool.or_eq_true, Bool.and_eq_true, beq_iff_eq, decide_eq_true_eq] at h <;> omega))
                  have hB : BrAt I189 β σ := BrAt.frI hB hT189 SFc_in (by omega)
                  have hGa : GaAt I189 q σ := GaAt.frI hGa hT189 SFc_in (by omega)
                  have hln : I189 66 1 = nI n := (hT189 66 1 rfl).trans hln
                  have hen : I189 66 3 = nI (tE b n p9) := (hT189 66 3 rfl).trans hen
                  have hst : I189 66 2 = nI (tS b n p9) := (hT189 66 2 rfl).trans hst
                  have hki : I189 66 4 = nI (cK (tK b n p9)) := (hT189 66 4 rfl).trans hki
                  have n0 : kwI b n p9 ≠ nI 0 := fun z => c29 (by rw [(kwI_j hk2 (by decide)).mp z]; rfl)
                  have n1 : kwI b n p9 ≠ nI 1 := fun z => c54 (by rw [(kwI_j hk2 (by decide)).mp z]; rfl)
                  have n2 : kwI b n p9 ≠ nI 2 := fun z => c86 (by rw [(kwI_j hk2 (by decide)).mp z]; rfl)
                  have n3 : kwI b n p9 ≠ nI 3 := fun z => c119 (by rw [(kwI_j hk2 (by decide)).mp z]; rfl)
                  have n4 : kwI b n p9 ≠ nI 4 := fun z => c151 (by rw [(kwI_j hk2 (by decide)).mp z]; rfl)
                  have n5 : kwI b n p9 ≠ nI 5 := fun z => c164 (by rw [(kwI_j hk2 (by decide)).mp z]; rfl)
                  have n6 : kwI b n p9 ≠ nI 6 := fun z => c177 (by rw [(kwI_j hk2 (by decide)).mp z]; rfl)
                  have hst9 : stm b n f9 σ nm p9 = .inl (e2 b n p9, tS b n p9) := stm_i (stBo_o (kw_rest n0 n1 n2 n3 n4 n5 n6))
                  exact fin (dg D_X5_readStatement (i := 97) rfl) hW hS rfl ⟨by rw [hst9]; rfl, hF, by rw [hst9]; exact ⟨hp189_0.trans (if_neg (by omega)).symm, hp189_1, hB, hGa⟩, hFL, rfl⟩
                · refine lv_aload_n hx hb (dg D_X5_readStatement (i := 91) rfl) rfl (lv_at hl 1 rfl) ?_
                  refine callVi X hW hS hR (c_X5_readPainting (I := I) b n σ p9 nm N ds st nu β q (by first | exact hTx | assumption | omega | decide | exact hP.1) (by first | exact hln | assumption | omega | decide | exact hP.1) (by first | exact hT | assumption | omega | decide | exact hP.1) (by first | exact hn | assumption | omega | decide | exact hP.1) (by first | exact hen | assumption | omega | decide | exact hP.1) (by first | exact hp | assumption | omega | decide | exact hP.1) (by first | exact hz | assumption | omega | decide | exact hP.1) (by first | exact hi | assumption | omega | decide | exact hP.1) (by first | exact hNi | assumption | omega | decide | exact hP.1) (by first | exact hNl | assumption | omega | decide | exact hP.1) (by first | exact hNR | assumption | omega | decide | exact hP.1) (by first | exact hβ | assumption | omega | decide | exact hP.1) (by first | exact hB | assumption | omega | decide | exact hP.1) (by first | exact hq | assumption | omega | decide | exact hP.1) (by first | exact hGa | assumption | omega | decide | exact hP.1) (by first | exact hR2 | assumption | omega | decide | exact hP.1) (by first | exact hR3 | assumption | omega | decide | exact hP.1) (by first | exact hRq | assumption | omega | decide | exact hP.1) (by first | exact hd | assumption | omega | decide | exact hP.1)) (by decide) UVX5_readPainting LK_X5_129 rfl (by decide) rfl rfl rfl (Nat.le_of_ble_eq_true rfl) hl hcs (dg D_X5_readStatement (i := 92) rfl) (fun r181 I181 Lc181 R1 H locs hq hW hS => ?_)
                  obtain ⟨rfl, hT181, hp181_0, hL181, rfl⟩ := hq
                  have hF : Fr (SCP β q) I I181 := Fr.tr hF hT181 (fun _ _ h => h)
                  have hTx : rowP I181 30 n (fun j => sg (b j)) := hTx.fr hT181 (fun j => Bool.eq_false_iff.mpr (fun h => by simp only [SCP, Bool.or_eq_true, Bool.and_eq_true, beq_iff_eq, decide_eq_true_eq] at h <;> omega))
                  have hFL : FL SLq L Lc181 := FL.tr hFL hL181 (fun _ _ h => h)
                  have hNl : True := trivial
                  refine lv_goto (tgt := 192) hx hb (dg D_X5_readStatement (i := 93) rfl) (by decide) ?_
                  have n0 : kwI b n p9 ≠ nI 0 := fun z => c29 (by rw [(kwI_j hk2 (by decide)).mp z]; rfl)
                  have n1 : kwI b n p9 ≠ nI 1 := fun z => c54 (by rw [(kwI_j hk2 (by decide)).mp z]; rfl)
                  have n2 : kwI b n p9 ≠ nI 2 := fun z => c86 (by rw [(kwI_j hk2 (by decide)).mp z]; rfl)
                  have n3 : kwI b n p9 ≠ nI 3 := fun z => c119 (by rw [(kwI_j hk2 (by decide)).mp z]; rfl)
                  have n4 : kwI b n p9 ≠ nI 4 := fun z => c151 (by rw [(kwI_j hk2 (by decide)).mp z]; rfl)
                  have n5 : kwI b n p9 ≠ nI 5 := fun z => c164 (by rw [(kwI_j hk2 (by decide)).mp z]; rfl)
                  have hkw : kwI b n p9 = nI 6 := (kwI_j hk2 (by decide)).mpr (i64_inj (w256_lt hT (tok_w hk2).1) (by decide) (by first | exact c177 | exact Classical.not_not.mp c177))
                  have hst9 : stm b n f9 σ nm p9 = seK b n (stPa b n σ nm p9) := sm_of (stBo_6 hkw)
                  exact fin (dg D_X5_readStatement (i := 97) rfl) hW hS rfl ⟨by rw [hst9], hF, by rw [hst9]; exact hp181_0, hFL, rfl⟩
              · refine lv_aload_n hx hb (dg D_X5_readStatement (i := 84) rfl) rfl (lv_at hl 1 rfl) ?_
                refine callVi X hW hS hR (c_X5_readClosed (I := I) b n σ p9 nm N ds st nu β q (by first | exact hTx | assumption | omega | decide | exact hP.1) (by first | exact hln | assumption | omega | decide | exact hP.1) (by first | exact hT | assumption | omega | decide | exact hP.1) (by first | exact hn | assumption | omega | decide | exact hP.1) (by first | exact hen | assumption | omega | decide | exact hP.1) (by first | exact hp | assumption | omega | decide | exact hP.1) (by first | exact hz | assumption | omega | decide | exact hP.1) (by first | exact hi | assumption | omega | decide | exact hP.1) (by first | exact hNi | assumption | omega | decide | exact hP.1) (by first | exact hNl | assumption | omega | decide | exact hP.1) (by first | exact hNR | assumption | omega | decide | exact hP.1) (by first | exact hβ | assumption | omega | decide | exact hP.1) (by first | exact hB | assumption | omega | decide | exact hP.1) (by first | exact hq | assumption | omega | decide | exact hP.1) (by first | exact hGa | assumption | omega | decide | exact hP.1) (by first | exact hR2 | assumption | omega | decide | exact hP.1) (by first | exact hR3 | assumption | omega | decide | exact hP.1) (by first | exact hRq | assumption | omega | decide | exact hP.1)) (by decide) UVX5_readClosed LK_X5_124 rfl (by decide) rfl rfl rfl (Nat.le_of_ble_eq_true rfl) hl hcs (dg D_X5_readStatement (i := 85) rfl) (fun r168 I168 Lc168 R1 H locs hq hW hS => ?_)
                obtain ⟨rfl, hT168, hp168_0, hL168, rfl⟩ := hq
                have hF : Fr (SCP β q) I I168 := Fr.tr hF hT168 (fun _ _ h => h)
                have hTx : rowP I168 30 n (fun j => sg (b j)) := hTx.fr hT168 (fun j => Bool.eq_false_iff.mpr (fun h => by simp only [SCP, Bool.or_eq_true, Bool.and_eq_true, beq_iff_eq, decide_eq_true_eq] at h <;> omega))
                have hFL : FL SLq L Lc168 := FL.tr hFL hL168 (fun _ _ h => h)
                have hNl : True := trivial
                have n0 : kwI b n p9 ≠ nI 0 := fun z => c29 (by rw [(kwI_j hk2 (by decide)).mp z]; rfl)
                have n1 : kwI b n p9 ≠ nI 1 := fun z => c54 (by rw [(kwI_j hk2 (by decide)).mp z]; rfl)
                have n2 : kwI b n p9 ≠ nI 2 := fun z => c86 (by rw [(kwI_j hk2 (by decide)).mp z]; rfl)
                have n3 : kwI b n p9 ≠ nI 3 := fun z => c119 (by rw [(kwI_j hk2 (by decide)).mp z]; rfl)
                have n4 : kwI b n p9 ≠ nI 4 := fun z => c151 (by rw [(kwI_j hk2 (by decide)).mp z]; rfl)
                have hkw : kwI b n p9 = nI 5 := (kwI_j hk2 (by decide)).mpr (i64_inj (w256_lt hT (tok_w hk2).1) (by decide) (by first | exact c164 | exact Classical.not_not.mp c164))
                have hst9 : stm b n f9 σ nm p9 = seK b n (stCl b n σ nm p9) := sm_of (stBo_5 hkw)
                exact fin (dg D_X5_readStatement (i := 86) rfl) hW hS rfl ⟨by rw [hst9], hF, by rw [hst9]; exact hp168_0, hFL, rfl⟩
            · refine lv_aload_n hx hb (dg D_X5_readStatement (i := 77) rfl) rfl (lv_at hl 1 rfl) ?_
              refine callVi X hW hS hR (c_X5_readWeather (I := I) b n σ p9 nm N ds st nu β q (by first | exact hTx | assumption | omega | decide | exact hP.1) (by first | exact hln | assumption | omega | decide | exact hP.1) (by first | exact hT | assumption | omega | decide | exact hP.1) (by first | exact hn | assumption | omega | decide | exact hP.1) (by first | exact hen | assumption | omega | decide | exact hP.1) (by first | exact hp | assumption | omega | decide | exact hP.1) (by first | exact hz | assumption | omega | decide | exact hP.1) (by first | exact hi | assumption | omega | decide | exact hP.1) (by first | exact hNi | assumption | omega | decide | exact hP.1) (by first | exact hNl | assumption | omega | decide | exact hP.1) (by first | exact hNR | assumption | omega | decide | exact hP.1) (by first | exact hβ | assumption | omega | decide | exact hP.1) (by first | exact hB | assumption | omega | decide | exact hP.1) (by first | exact hq | assumption | omega | decide | exact hP.1) (by first | exact hGa | assumption | omega | decide | exact hP.1) (by first | exact hR2 | assumption | omega | decide | exact hP.1) (by first | exact hR3 | assumption | omega | decide | exact hP.1) (by first | exact hRq | assumption | omega | decide | exact hP.1)) (by decide) UVX5_readWeather LK_X5_119 rfl (by decide) rfl rfl rfl (Nat.le_of_ble_eq_true rfl) hl hcs (dg D_X5_readStatement (i := 78) rfl) (fun r155 I155 Lc155 R1 H locs hq hW hS => ?_)
              obtain ⟨rfl, hT155, hp155_0, hL155, rfl⟩ := hq
              have hF : Fr (SCP β q) I I155 := Fr.tr hF hT155 (fun _ _ h => h)
              have hTx : rowP I155 30 n (fun j => sg (b j)) := hTx.fr hT155 (fun j => Bool.eq_false_iff.mpr (fun h => by simp only [SCP, Bool.or_eq_true, Bool.and_eq_true, beq_iff_eq, decide_eq_true_eq] at h <;> omega))
              have hFL : FL SLq L Lc155 := FL.tr hFL hL155 (fun _ _ h => h)
              have hNl : True := trivial
              have n0 : kwI b n p9 ≠ nI 0 := fun z => c29 (by rw [(kwI_j hk2 (by decide)).mp z]; rfl)
              have n1 : kwI b n p9 ≠ nI 1 := fun z => c54 (by rw [(kwI_j hk2 (by decide)).mp z]; rfl)
              have n2 : kwI b n p9 ≠ nI 2 := fun z => c86 (by rw [(kwI_j hk2 (by decide)).mp z]; rfl)
              have n3 : kwI b n p9 ≠ nI 3 := fun z => c119 (by rw [(kwI_j hk2 (by decide)).mp z]; rfl)
              have hkw : kwI b n p9 = nI 4 := (kwI_j hk2 (by decide)).mpr (i64_inj (w256_lt hT (tok_w hk2).1) (by decide) (by first | exact c151 | exact Classical.not_not.mp c151))
              have hst9 : stm b n f9 σ nm p9 = seK b n (stWe b n σ nm p9) := sm_of (stBo_4 hkw)
              exact fin (dg D_X5_readStatement (i := 79) rfl) hW hS rfl ⟨by rw [hst9], hF, by rw [hst9]; exact hp155_0, hFL, rfl⟩
          · refine lv_aload_n hx hb (dg D_X5_readStatement (i := 61) rfl) rfl (lv_at hl 1 rfl) ?_
            refine r_getr (v := β) X hW FI_X5_32 rfl (by decide) rfl hR2 (dg D_X5_readStatement (i := 62) rfl) ?_
            refine rn_geti (v := nI (nG σ)) X hW FN_X5_111 (shB hβ) (ncB0 hβ) rfl (hB.c5 hi) (dg D_X5_readStatement (i := 63) rfl) ?_
            refine n_iconst (a := 5) hx hb (dg D_X5_readStatement (i := 64) rfl) rfl ?_
            refine n_icmp_ge (tgt := 140) hx hb (by omega) (by omega) (dg D_X5_readStatement (i := 65) rfl) (by decide) (fun c130 => ?_) (fun c130 => ?_)
            · refine lv_aload_n hx hb (dg D_X5_readStatement (i := 69) rfl) rfl (lv_at hl 1 rfl) ?_
              refine n_iconst (a := 5) hx hb (dg D_X5_readStatement (i := 70) rfl) rfl ?_
              refine callVi X hW hS hR (c_X5_fail (I := I) (nI 5) (nI (tS b n p9)) (by first | exact hst | assumption | omega | decide | exact hP.1)) (by decide) UVX5_fail LK_X5_89 rfl (by decide) rfl rfl rfl (Nat.le_of_ble_eq_true rfl) hl hcs (dg D_X5_readStatement (i := 71) rfl) (fun r142 I142 L1 R1 H locs hq hW hS => ?_)
              obtain ⟨rfl, hT142, hp142_0, hp142_1, rfl, rfl⟩ := hq
              have hF : Fr (SCP β q) I I142 := Fr.tr hF hT142 (by intro a j h; simp only [SFc, SCP, Bool.or_eq_true, Bool.and_eq_true, beq_iff_eq, decide_eq_true_eq] at h ⊢; omega)
              have hTx : rowP I142 30 n (fun j => sg (b j)) := hTx.fr hT142 (fun j => Bool.eq_false_iff.mpr (fun h => by simp only [SFc, Bool.or_eq_true, Bool.and_eq_true, beq_iff_eq, decide_eq_true_eq] at h <;> omega))
              have hNi : NmI b n I142 N ds st nu := NmI.fr hNi hT142 (fun a j h1 h2 => Bool.eq_false_iff.mpr (fun h => by simp only [SFc, Bool.or_eq_true, Bool.and_eq_true, beq_iff_eq, decide_eq_true_eq] at h <;> omega))
              have hB : BrAt I142 β σ := BrAt.frI hB hT142 SFc_in (by omega)
              have hGa : GaAt I142 q σ := GaAt.frI hGa hT142 SFc_in (by omega)
              have hln : I142 66 1 = nI n := (hT142 66 1 rfl).trans hln
              have hen : I142 66 3 = nI (tE b n p9) := (hT142 66 3 rfl).trans hen
              have hst : I142 66 2 = nI (tS b n p9) := (hT142 66 2 rfl).trans hst
              have hki : I142 66 4 = nI (cK (tK b n p9)) := (hT142 66 4 rfl).trans hki
              have n0 : kwI b n p9 ≠ nI 0 := fun z => c29 (by rw [(kwI_j hk2 (by decide)).mp z]; rfl)
              have n1 : kwI b n p9 ≠ nI 1 := fun z => c54 (by rw [(kwI_j hk2 (by decide)).mp z]; rfl)
              have n2 : kwI b n p9 ≠ nI 2 := fun z => c86 (by rw [(kwI_j hk2 (by decide)).mp z]; rfl)
              have hkw : kwI b n p9 = nI 3 := (kwI_j hk2 (by decide)).mpr (i64_inj (w256_lt hT (tok_w hk2).1) (by decide) (by first | exact c119 | exact Classical.not_not.mp c119))
              have hst9 : stm b n f9 σ nm p9 = seK b n (stGa b n σ nm p9) := sm_of (stBo_3 hkw)
              exact fin (dg D_X5_readStatement (i := 72) rfl) hW hS rfl ⟨by rw [hst9, stGa_f (by omega)]; rfl, hF, by rw [hst9, stGa_f (by omega)]; exact ⟨hp142_0, hp142_1, hB, hGa⟩, hFL, rfl⟩
            · refine lv_aload_n hx hb (dg D_X5_readStatement (i := 66) rfl) rfl (lv_at hl 1 rfl) ?_
              refine callVi X hW hS hR (c_X5_readGang (I := I) b n σ p9 nm N ds st nu β q (by first | exact hTx | assumption | omega | decide | exact hP.1) (by first | exact hln | assumption | omega | decide | exact hP.1) (by first | exact hT | assumption | omega | decide | exact hP.1) (by first | exact hn | assumption | omega | decide | exact hP.1) (by first | exact hen | assumption | omega | decide | exact hP.1) (by first | exact hp | assumption | omega | decide | exact hP.1) (by first | exact hz | assumption | omega | decide | exact hP.1) (by first | exact hi | assumption | omega | decide | exact hP.1) (by first | exact hNi | assumption | omega | decide | exact hP.1) (by first | exact hNl | assumption | omega | decide | exact hP.1) (by first | exact hNR | assumption | omega | decide | exact hP.1) (by first | exact hβ | assumption | omega | decide | exact hP.1) (by first | exact hB | assumption | omega | decide | exact hP.1) (by first | exact hq | assumption | omega | decide | exact hP.1) (by first | exact hGa | assumption | omega | decide | exact hP.1) (by first | exact hR2 | assumption | omega | decide | exact hP.1) (by first | exact hR3 | assumption | omega | decide | exact hP.1) (by first | exact hRq | assumption | omega | decide | exact hP.1) (by first | exact hnL | assumption | omega | decide | exact hP.1)) (by decide) UVX5_readGang LK_X5_114 rfl (by decide) rfl rfl rfl (Nat.le_of_ble_eq_true rfl) hl hcs (dg D_X5_readStatement (i := 67) rfl) (fun r134 I134 Lc134 R1 H locs hq hW hS => ?_)
              obtain ⟨rfl, hT134, hp134_0, hL134, rfl⟩ := hq
              have hF : Fr (SCP β q) I I134 := Fr.tr hF hT134 (fun _ _ h => h)
              have hTx : rowP I134 30 n (fun j => sg (b j)) := hTx.fr hT134 (fun j => Bool.eq_false_iff.mpr (fun h => by simp only [SCP, Bool.or_eq_true, Bool.and_eq_true, beq_iff_eq, decide_eq_true_eq] at h <;> omega))
              have hFL : FL SLq L Lc134 := FL.tr hFL hL134 (fun _ _ h => h)
              have hNl : True := trivial
              refine lv_goto (tgt := 145) hx hb (dg D_X5_readStatement (i := 68) rfl) (by decide) ?_
              have n0 : kwI b n p9 ≠ nI 0 := fun z => c29 (by rw [(kwI_j hk2 (by decide)).mp z]; rfl)
              have n1 : kwI b n p9 ≠ nI 1 := fun z => c54 (by rw [(kwI_j hk2 (by decide)).mp z]; rfl)
              have n2 : kwI b n p9 ≠ nI 2 := fun z => c86 (by rw [(kwI_j hk2 (by decide)).mp z]; rfl)
              have hkw : kwI b n p9 = nI 3 := (kwI_j hk2 (by decide)).mpr (i64_inj (w256_lt hT (tok_w hk2).1) (by decide) (by first | exact c119 | exact Classical.not_not.mp c119))
              have hst9 : stm b n f9 σ nm p9 = seK b n (stGa b n σ nm p9) := sm_of (stBo_3 hkw)
              exact fin (dg D_X5_readStatement (i := 72) rfl) hW hS rfl ⟨by rw [hst9], hF, by rw [hst9]; exact hp134_0, hFL, rfl⟩
        · refine lv_aload_n hx hb (dg D_X5_readStatement (i := 45) rfl) rfl (lv_at hl 1 rfl) ?_
          refine r_getr (v := β) X hW FI_X5_32 rfl (by decide) rfl hR2 (dg D_X5_readStatement (i := 46) rfl) ?_
          refine rn_geti (v := nI (nS σ)) X hW FN_X5_103 (shB hβ) (ncB0 hβ) rfl (hB.c4 hi) (dg D_X5_readStatement (i := 47) rfl) ?_
          refine lv_bipush (v := nI 12) hx hb (dg D_X5_readStatement (i := 48) rfl) (by decide) ?_
          refine n_icmp_ge (tgt := 108) hx hb (by omega) (by omega) (dg D_X5_readStatement (i := 49) rfl) (by decide) (fun c98 => ?_) (fun c98 => ?_)
          · refine lv_aload_n hx hb (dg D_X5_readStatement (i := 53) rfl) rfl (lv_at hl 1 rfl) ?_
            refine n_iconst (a := 5) hx hb (dg D_X5_readStatement (i := 54) rfl) rfl ?_
            refine callVi X hW hS hR (c_X5_fail (I := I) (nI 5) (nI (tS b n p9)) (by first | exact hst | assumption | omega | decide | exact hP.1)) (by decide) UVX5_fail LK_X5_89 rfl (by decide) rfl rfl rfl (Nat.le_of_ble_eq_true rfl) hl hcs (dg D_X5_readStatement (i := 55) rfl) (fun r110 I110 L1 R1 H locs hq hW hS => ?_)
            obtain ⟨rfl, hT110, hp110_0, hp110_1, rfl, rfl⟩ := hq
            have hF : Fr (SCP β q) I I110 := Fr.tr hF hT110 (by intro a j h; simp only [SFc, SCP, Bool.or_eq_true, Bool.and_eq_true, beq_iff_eq, decide_eq_true_eq] at h ⊢; omega)
            have hTx : rowP I110 30 n (fun j => sg (b j)) := hTx.fr hT110 (fun j => Bool.eq_false_iff.mpr (fun h => by simp only [SFc, Bool.or_eq_true, Bool.and_eq_true, beq_iff_eq, decide_eq_true_eq] at h <;> omega))
            have hNi : NmI b n I110 N ds st nu := NmI.fr hNi hT110 (fun a j h1 h2 => Bool.eq_false_iff.mpr (fun h => by simp only [SFc, Bool.or_eq_true, Bool.and_eq_true, beq_iff_eq, decide_eq_true_eq] at h <;> omega))
            have hB : BrAt I110 β σ := BrAt.frI hB hT110 SFc_in (by omega)
            have hGa : GaAt I110 q σ := GaAt.frI hGa hT110 SFc_in (by omega)
            have hln : I110 66 1 = nI n := (hT110 66 1 rfl).trans hln
            have hen : I110 66 3 = nI (tE b n p9) := (hT110 66 3 rfl).trans hen
            have hst : I110 66 2 = nI (tS b n p9) := (hT110 66 2 rfl).trans hst
            have hki : I110 66 4 = nI (cK (tK b n p9)) := (hT110 66 4 rfl).trans hki
            have n0 : kwI b n p9 ≠ nI 0 := fun z => c29 (by rw [(kwI_j hk2 (by decide)).mp z]; rfl)
            have n1 : kwI b n p9 ≠ nI 1 := fun z => c54 (by rw [(kwI_j hk2 (by decide)).mp z]; rfl)
            have hkw : kwI b n p9 = nI 2 := (kwI_j hk2 (by decide)).mpr (i64_inj (w256_lt hT (tok_w hk2).1) (by decide) (by first | exact c86 | exact Classical.not_not.mp c86))
            have hst9 : stm b n f9 σ nm p9 = seK b n (stSp b n σ nm p9) := sm_of (stBo_2 hkw)
            exact fin (dg D_X5_readStatement (i := 56) rfl) hW hS rfl ⟨by rw [hst9, stSp_f (by omega)]; rfl, hF, by rw [hst9, stSp_f (by omega)]; exact ⟨hp110_0, hp110_1, hB, hGa⟩, hFL, rfl⟩
          · refine lv_aload_n hx hb (dg D_X5_readStatement (i := 50) rfl) rfl (lv_at hl 1 rfl) ?_
            refine callVi X hW hS hR (c_X5_readSpan (I := I) b n σ p9 nm N ds st nu β q (by first | exact hTx | assumption | omega | decide | exact hP.1) (by first | exact hln | assumption | omega | decide | exact hP.1) (by first | exact hT | assumption | omega | decide | exact hP.1) (by first | exact hn | assumption | omega | decide | exact hP.1) (by first | exact hen | assumption | omega | decide | exact hP.1) (by first | exact hp | assumption | omega | decide | exact hP.1) (by first | exact hz | assumption | omega | decide | exact hP.1) (by first | exact hi | assumption | omega | decide | exact hP.1) (by first | exact hNi | assumption | omega | decide | exact hP.1) (by first | exact hNl | assumption | omega | decide | exact hP.1) (by first | exact hNR | assumption | omega | decide | exact hP.1) (by first | exact hβ | assumption | omega | decide | exact hP.1) (by first | exact hB | assumption | omega | decide | exact hP.1) (by first | exact hq | assumption | omega | decide | exact hP.1) (by first | exact hGa | assumption | omega | decide | exact hP.1) (by first | exact hR2 | assumption | omega | decide | exact hP.1) (by first | exact hR3 | assumption | omega | decide | exact hP.1) (by first | exact hRq | assumption | omega | decide | exact hP.1) (by first | exact hnL | assumption | omega | decide | exact hP.1)) (by decide) UVX5_readSpan LK_X5_106 rfl (by decide) rfl rfl rfl (Nat.le_of_ble_eq_true rfl) hl hcs (dg D_X5_readStatement (i := 51) rfl) (fun r102 I102 Lc102 R1 H locs hq hW hS => ?_)
            obtain ⟨rfl, hT102, hp102_0, hL102, rfl⟩ := hq
            have hF : Fr (SCP β q) I I102 := Fr.tr hF hT102 (fun _ _ h => h)
            have hTx : rowP I102 30 n (fun j => sg (b j)) := hTx.fr hT102 (fun j => Bool.eq_false_iff.mpr (fun h => by simp only [SCP, Bool.or_eq_true, Bool.and_eq_true, beq_iff_eq, decide_eq_true_eq] at h <;> omega))
            have hFL : FL SLq L Lc102 := FL.tr hFL hL102 (fun _ _ h => h)
            have hNl : True := trivial
            refine lv_goto (tgt := 113) hx hb (dg D_X5_readStatement (i := 52) rfl) (by decide) ?_
            have n0 : kwI b n p9 ≠ nI 0 := fun z => c29 (by rw [(kwI_j hk2 (by decide)).mp z]; rfl)
            have n1 : kwI b n p9 ≠ nI 1 := fun z => c54 (by rw [(kwI_j hk2 (by decide)).mp z]; rfl)
            have hkw : kwI b n p9 = nI 2 := (kwI_j hk2 (by decide)).mpr (i64_inj (w256_lt hT (tok_w hk2).1) (by decide) (by first | exact c86 | exact Classical.not_not.mp c86))
            have hst9 : stm b n f9 σ nm p9 = seK b n (stSp b n σ nm p9) := sm_of (stBo_2 hkw)
            exact fin (dg D_X5_readStatement (i := 56) rfl) hW hS rfl ⟨by rw [hst9], hF, by rw [hst9]; exact hp102_0, hFL, rfl⟩
      · refine lv_aload_n hx hb (dg D_X5_readStatement (i := 29) rfl) rfl (lv_at hl 1 rfl) ?_
        refine r_getr (v := β) X hW FI_X5_32 rfl (by decide) rfl hR2 (dg D_X5_readStatement (i := 30) rfl) ?_
        refine rn_geti (v := nI (nLn σ)) X hW FN_X5_95 (shB hβ) (ncB0 hβ) rfl (hB.c3 hi) (dg D_X5_readStatement (i := 31) rfl) ?_
        refine n_iconst (a := 4) hx hb (dg D_X5_readStatement (i := 32) rfl) rfl ?_
        refine n_icmp_ge (tgt := 75) hx hb (by omega) (by omega) (dg D_X5_readStatement (i := 33) rfl) (by decide) (fun c65 => ?_) (fun c65 => ?_)
        · refine lv_aload_n hx hb (dg D_X5_readStatement (i := 37) rfl) rfl (lv_at hl 1 rfl) ?_
          refine n_iconst (a := 5) hx hb (dg D_X5_readStatement (i := 38) rfl) rfl ?_
          refine callVi X hW hS hR (c_X5_fail (I := I) (nI 5) (nI (tS b n p9)) (by first | exact hst | assumption | omega | decide | exact hP.1)) (by decide) UVX5_fail LK_X5_89 rfl (by decide) rfl rfl rfl (Nat.le_of_ble_eq_true rfl) hl hcs (dg D_X5_readStatement (i := 39) rfl) (fun r77 I77 L1 R1 H locs hq hW hS => ?_)
          obtain ⟨rfl, hT77, hp77_0, hp77_1, rfl, rfl⟩ := hq
          have hF : Fr (SCP β q) I I77 := Fr.tr hF hT77 (by intro a j h; simp only [SFc, SCP, Bool.or_eq_true, Bool.and_eq_true, beq_iff_eq, decide_eq_true_eq] at h ⊢; omega)
          have hTx : rowP I77 30 n (fun j => sg (b j)) := hTx.fr hT77 (fun j => Bool.eq_false_iff.mpr (fun h => by simp only [SFc, Bool.or_eq_true, Bool.and_eq_true, beq_iff_eq, decide_eq_true_eq] at h <;> omega))
          have hNi : NmI b n I77 N ds st nu := NmI.fr hNi hT77 (fun a j h1 h2 => Bool.eq_false_iff.mpr (fun h => by simp only [SFc, Bool.or_eq_true, Bool.and_eq_true, beq_iff_eq, decide_eq_true_eq] at h <;> omega))
          have hB : BrAt I77 β σ := BrAt.frI hB hT77 SFc_in (by omega)
          have hGa : GaAt I77 q σ := GaAt.frI hGa hT77 SFc_in (by omega)
          have hln : I77 66 1 = nI n := (hT77 66 1 rfl).trans hln
          have hen : I77 66 3 = nI (tE b n p9) := (hT77 66 3 rfl).trans hen
          have hst : I77 66 2 = nI (tS b n p9) := (hT77 66 2 rfl).trans hst
          have hki : I77 66 4 = nI (cK (tK b n p9)) := (hT77 66 4 rfl).trans hki
          have n0 : kwI b n p9 ≠ nI 0 := fun z => c29 (by rw [(kwI_j hk2 (by decide)).mp z]; rfl)
          have hkw : kwI b n p9 = nI 1 := (kwI_j hk2 (by decide)).mpr (i64_inj (w256_lt hT (tok_w hk2).1) (by decide) (by first | exact c54 | exact Classical.not_not.mp c54))
          have hst9 : stm b n f9 σ nm p9 = seK b n (stLa b n σ nm p9) := sm_of (stBo_1 hkw)
          exact fin (dg D_X5_readStatement (i := 40) rfl) hW hS rfl ⟨by rw [hst9, stLa_f (by omega)]; rfl, hF, by rw [hst9, stLa_f (by omega)]; exact ⟨hp77_0, hp77_1, hB, hGa⟩, hFL, rfl⟩
        · refine lv_aload_n hx hb (dg D_X5_readStatement (i := 34) rfl) rfl (lv_at hl 1 rfl) ?_
          refine callVi X hW hS hR (c_X5_readLane (I := I) b n σ p9 nm N ds st nu β q (by first | exact hTx | assumption | omega | decide | exact hP.1) (by first | exact hln | assumption | omega | decide | exact hP.1) (by first | exact hT | assumption | omega | decide | exact hP.1) (by first | exact hn | assumption | omega | decide | exact hP.1) (by first | exact hen | assumption | omega | decide | exact hP.1) (by first | exact hp | assumption | omega | decide | exact hP.1) (by first | exact hz | assumption | omega | decide | exact hP.1) (by first | exact hi | assumption | omega | decide | exact hP.1) (by first | exact hNi | assumption | omega | decide | exact hP.1) (by first | exact hNl | assumption | omega | decide | exact hP.1) (by first | exact hNR | assumption | omega | decide | exact hP.1) (by first | exact hβ | assumption | omega | decide | exact hP.1) (by first | exact hB | assumption | omega | decide | exact hP.1) (by first | exact hq | assumption | omega | decide | exact hP.1) (by first | exact hGa | assumption | omega | decide | exact hP.1) (by first | exact hR2 | assumption | omega | decide | exact hP.1) (by first | exact hR3 | assumption | omega | decide | exact hP.1) (by first | exact hRq | assumption | omega | decide | exact hP.1) (by first | exact hnL | assumption | omega | decide | exact hP.1)) (by decide) UVX5_readLane LK_X5_98 rfl (by decide) rfl rfl rfl (Nat.le_of_ble_eq_true rfl) hl hcs (dg D_X5_readStatement (i := 35) rfl) (fun r69 I69 Lc69 R1 H locs hq hW hS => ?_)
          obtain ⟨rfl, hT69, hp69_0, hL69, rfl⟩ := hq
          have hF : Fr (SCP β q) I I69 := Fr.tr hF hT69 (fun _ _ h => h)
          have hTx : rowP I69 30 n (fun j => sg (b j)) := hTx.fr hT69 (fun j => Bool.eq_false_iff.mpr (fun h => by simp only [SCP, Bool.or_eq_true, Bool.and_eq_true, beq_iff_eq, decide_eq_true_eq] at h <;> omega))
          have hFL : FL SLq L Lc69 := FL.tr hFL hL69 (fun _ _ h => h)
          have hNl : True := trivial
          refine lv_goto (tgt := 80) hx hb (dg D_X5_readStatement (i := 36) rfl) (by decide) ?_
          have n0 : kwI b n p9 ≠ nI 0 := fun z => c29 (by rw [(kwI_j hk2 (by decide)).mp z]; rfl)
          have hkw : kwI b n p9 = nI 1 := (kwI_j hk2 (by decide)).mpr (i64_inj (w256_lt hT (tok_w hk2).1) (by decide) (by first | exact c54 | exact Classical.not_not.mp c54))
          have hst9 : stm b n f9 σ nm p9 = seK b n (stLa b n σ nm p9) := sm_of (stBo_1 hkw)
          exact fin (dg D_X5_readStatement (i := 40) rfl) hW hS rfl ⟨by rw [hst9], hF, by rw [hst9]; exact hp69_0, hFL, rfl⟩
    · refine lv_iload_n hx hb (dg D_X5_readStatement (i := 16) rfl) rfl (lv_at hl 2 rfl) ?_
      refine z_if_eq (tgt := 43) hx hb (dg D_X5_readStatement (i := 17) rfl) (by decide) (fun c33 => ?_) (fun c33 => ?_)
      · refine lv_aload_n hx hb (dg D_X5_readStatement (i := 21) rfl) rfl (lv_at hl 1 rfl) ?_
        refine n_iconst (a := 5) hx hb (dg D_X5_readStatement (i := 22) rfl) rfl ?_
        refine callVi X hW hS hR (c_X5_fail (I := I) (nI 5) (nI (tS b n p9)) (by first | exact hst | assumption | omega | decide | exact hP.1)) (by decide) UVX5_fail LK_X5_89 rfl (by decide) rfl rfl rfl (Nat.le_of_ble_eq_true rfl) hl hcs (dg D_X5_readStatement (i := 23) rfl) (fun r45 I45 L1 R1 H locs hq hW hS => ?_)
        obtain ⟨rfl, hT45, hp45_0, hp45_1, rfl, rfl⟩ := hq
        have hF : Fr (SCP β q) I I45 := Fr.tr hF hT45 (by intro a j h; simp only [SFc, SCP, Bool.or_eq_true, Bool.and_eq_true, beq_iff_eq, decide_eq_true_eq] at h ⊢; omega)
        have hTx : rowP I45 30 n (fun j => sg (b j)) := hTx.fr hT45 (fun j => Bool.eq_false_iff.mpr (fun h => by simp only [SFc, Bool.or_eq_true, Bool.and_eq_true, beq_iff_eq, decide_eq_true_eq] at h <;> omega))
        have hNi : NmI b n I45 N ds st nu := NmI.fr hNi hT45 (fun a j h1 h2 => Bool.eq_false_iff.mpr (fun h => by simp only [SFc, Bool.or_eq_true, Bool.and_eq_true, beq_iff_eq, decide_eq_true_eq] at h <;> omega))
        have hB : BrAt I45 β σ := BrAt.frI hB hT45 SFc_in (by omega)
        have hGa : GaAt I45 q σ := GaAt.frI hGa hT45 SFc_in (by omega)
        have hln : I45 66 1 = nI n := (hT45 66 1 rfl).trans hln
        have hen : I45 66 3 = nI (tE b n p9) := (hT45 66 3 rfl).trans hen
        have hst : I45 66 2 = nI (tS b n p9) := (hT45 66 2 rfl).trans hst
        have hki : I45 66 4 = nI (cK (tK b n p9)) := (hT45 66 4 rfl).trans hki
        have hkw : kwI b n p9 = nI 0 := (kwI_j hk2 (by decide)).mpr (i64_inj (w256_lt hT (tok_w hk2).1) (by decide) (by first | exact c29 | exact Classical.not_not.mp c29))
        have hst9 : stm b n f9 σ nm p9 = seK b n (stBr b n false σ nm p9) := (sm_of (stBo_0 hkw)).trans (by rw [c33])
        exact fin (dg D_X5_readStatement (i := 24) rfl) hW hS rfl ⟨by rw [hst9, stBr_f]; rfl, hF, by rw [hst9, stBr_f]; exact ⟨hp45_0, hp45_1, hB, hGa⟩, hFL, rfl⟩
      · refine lv_aload_n hx hb (dg D_X5_readStatement (i := 18) rfl) rfl (lv_at hl 1 rfl) ?_
        refine callVi X hW hS hR (c_X5_readBridge (I := I) b n σ p9 nm N ds st nu β q (by first | exact hTx | assumption | omega | decide | exact hP.1) (by first | exact hln | assumption | omega | decide | exact hP.1) (by first | exact hT | assumption | omega | decide | exact hP.1) (by first | exact hn | assumption | omega | decide | exact hP.1) (by first | exact hen | assumption | omega | decide | exact hP.1) (by first | exact hp | assumption | omega | decide | exact hP.1) (by first | exact hz | assumption | omega | decide | exact hP.1) (by first | exact hi | assumption | omega | decide | exact hP.1) (by first | exact hNi | assumption | omega | decide | exact hP.1) (by first | exact hNl | assumption | omega | decide | exact hP.1) (by first | exact hNR | assumption | omega | decide | exact hP.1) (by first | exact hβ | assumption | omega | decide | exact hP.1) (by first | exact hB | assumption | omega | decide | exact hP.1) (by first | exact hq | assumption | omega | decide | exact hP.1) (by first | exact hGa | assumption | omega | decide | exact hP.1) (by first | exact hR2 | assumption | omega | decide | exact hP.1) (by first | exact hR3 | assumption | omega | decide | exact hP.1) (by first | exact hRq | assumption | omega | decide | exact hP.1)) (by decide) UVX5_readBridge LK_X5_86 rfl (by decide) rfl rfl rfl (Nat.le_of_ble_eq_true rfl) hl hcs (dg D_X5_readStatement (i := 19) rfl) (fun r37 I37 Lc37 R1 H locs hq hW hS => ?_)
        obtain ⟨rfl, hT37, hp37_0, hL37, rfl⟩ := hq
        have hF : Fr (SCP β q) I I37 := Fr.tr hF hT37 (fun _ _ h => h)
        have hTx : rowP I37 30 n (fun j => sg (b j)) := hTx.fr hT37 (fun j => Bool.eq_false_iff.mpr (fun h => by simp only [SCP, Bool.or_eq_true, Bool.and_eq_true, beq_iff_eq, decide_eq_true_eq] at h <;> omega))
        have hFL : FL SLq L Lc37 := FL.tr hFL hL37 (fun _ _ h => h)
        have hNl : True := trivial
        refine lv_goto (tgt := 48) hx hb (dg D_X5_readStatement (i := 20) rfl) (by decide) ?_
        have hkw : kwI b n p9 = nI 0 := (kwI_j hk2 (by decide)).mpr (i64_inj (w256_lt hT (tok_w hk2).1) (by decide) (by first | exact c29 | exact Classical.not_not.mp c29))
        have hst9 : stm b n f9 σ nm p9 = seK b n (stBr b n true σ nm p9) := (sm_of (stBo_0 hkw)).trans (by rw [c33])
        exact fin (dg D_X5_readStatement (i := 24) rfl) hW hS rfl ⟨by rw [hst9], hF, by rw [hst9]; exact hp37_0, hFL, rfl⟩
  · refine lv_aload_n hx hb (dg D_X5_readStatement (i := 5) rfl) rfl (lv_at hl 0 rfl) ?_
    refine callVi X hW hS hR (c_X5_failOnToken (I := I) b n p9 (by first | exact hst | assumption | omega | decide | exact hP.1) (by first | exact hki | assumption | omega | decide | exact hP.1)) (by decide) UVX5_failOnToken LK_X5_76 rfl (by decide) rfl rfl rfl (Nat.le_of_ble_eq_true rfl) hl hcs (dg D_X5_readStatement (i := 6) rfl) (fun r12 I12 L1 R1 H locs hq hW hS => ?_)
    obtain ⟨rfl, hT12, hp12_0, hp12_1, rfl, rfl⟩ := hq
    have hF : Fr (SCP β q) I I12 := Fr.tr hF hT12 (by intro a j h; simp only [SFc, SCP, Bool.or_eq_true, Bool.and_eq_true, beq_iff_eq, decide_eq_true_eq] at h ⊢; omega)
    have hTx : rowP I12 30 n (fun j => sg (b j)) := hTx.fr hT12 (fun j => Bool.eq_false_iff.mpr (fun h => by simp only [SFc, Bool.or_eq_true, Bool.and_eq_true, beq_iff_eq, decide_eq_true_eq] at h <;> omega))
    have hNi : NmI b n I12 N ds st nu := NmI.fr hNi hT12 (fun a j h1 h2 => Bool.eq_false_iff.mpr (fun h => by simp only [SFc, Bool.or_eq_true, Bool.and_eq_true, beq_iff_eq, decide_eq_true_eq] at h <;> omega))
    have hB : BrAt I12 β σ := BrAt.frI hB hT12 SFc_in (by omega)
    have hGa : GaAt I12 q σ := GaAt.frI hGa hT12 SFc_in (by omega)
    have hln : I12 66 1 = nI n := (hT12 66 1 rfl).trans hln
    have hen : I12 66 3 = nI (tE b n p9) := (hT12 66 3 rfl).trans hen
    have hst : I12 66 2 = nI (tS b n p9) := (hT12 66 2 rfl).trans hst
    have hki : I12 66 4 = nI (cK (tK b n p9)) := (hT12 66 4 rfl).trans hki
    have hst9 : stm b n f9 σ nm p9 = .inl (e2 b n p9, tS b n p9) := stm_i (stBo_o (Or.inl (by unfold kwI; rw [if_neg (fun z => c8 (hck.2.2.2.1.mpr z))])))
    exact fin (dg D_X5_readStatement (i := 7) rfl) hW hS rfl ⟨by rw [hst9]; rfl, hF, by rw [hst9]; exact ⟨hp12_0, hp12_1, hB, hGa⟩, hFL, rfl⟩

