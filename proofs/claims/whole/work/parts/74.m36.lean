set_option maxHeartbeats 4000000 in
set_option maxRecDepth 100000 in
theorem c_X12_keywordHere {l : Launch} {G : va_G} {bs : Nat} {cy : Nat → ClassId} {I : CI} {L : CL} {R : CR} (b : Nat → Int32) (n : Nat) (s9 : Nat) (hb3 : I 73 = b) (hst : I 67 12 = nI s9) (hnx : I 67 13 = nI (lE b n s9)) (hT : TB b n) (hn : n ≤ 900) (hv : VP b n s9) : MTi l G bs cy MX12_keywordHere 5 [.ref (bs + 67)] I L R (fun r I1 L1 R1 => kwS b n s9 = r ∧ I = I1 ∧ L = L1 ∧ R = R1) := by
  refine MTi.of (own := RX12) pn_RX12 rfl (Nat.le_of_ble_eq_true rfl) ?_
  intro p e s m args below meth c Qf X hW hS fin ls hl
  have hx := X.1
  have hb := X.2.1
  have hR : RmOK (rmL 5 0 0) 5 := ⟨rfl, rfl⟩
  have hcs : 0 ≤ (rmL 5 0 0).cells ∧ 0 ≤ (rmL 5 0 0).slots := ⟨Nat.zero_le _, Nat.zero_le _⟩
  have hl : lv_has ls 6 [(0, .ref (bs + 67))] := hl
  have hle := lE_le (b := b) (Nat.le_of_lt hv.1)
  have hsn := hv.1
  refine n_iconst (a := 0) hx hb (dg D_X12_keywordHere (i := 0) rfl) rfl ?_
  refine lv_istore_n (lv' := [(1, .int (nI 0)), (0, .ref (bs + 67))]) hx hb (dg D_X12_keywordHere (i := 1) rfl) rfl hl (by decide) rfl (fun ls hl => ?_)
  refine lv_aload_n hx hb (dg D_X12_keywordHere (i := 2) rfl) rfl (lv_at hl 1 rfl) ?_
  refine r_geti (v := nI s9) X hW FI_X12_117 rfl (by decide) rfl hst (dg D_X12_keywordHere (i := 3) rfl) ?_
  refine lv_istore_n (lv' := [(2, .int (nI s9)), (1, .int (nI 0)), (0, .ref (bs + 67))]) hx hb (dg D_X12_keywordHere (i := 4) rfl) rfl hl (by decide) rfl (fun ls hl => ?_)
  refine n_iconst (a := 1) hx hb (dg D_X12_keywordHere (i := 5) rfl) rfl ?_
  refine lv_istore_n (lv' := [(3, .int (nI 1)), (2, .int (nI s9)), (1, .int (nI 0)), (0, .ref (bs + 67))]) hx hb (dg D_X12_keywordHere (i := 6) rfl) rfl hl (by decide) rfl (fun ls hl => ?_)
  refine n_iconst (a := 0) hx hb (dg D_X12_keywordHere (i := 7) rfl) rfl ?_
  refine lv_istore (lv' := [(4, .int (nI 0)), (3, .int (nI 1)), (2, .int (nI s9)), (1, .int (nI 0)), (0, .ref (bs + 67))]) hx hb (dg D_X12_keywordHere (i := 8) rfl) hl (by decide) rfl (fun ls hl => ?_)
  have loop12 := up_ind (P := fun i => ∀ (H : Heap) (locs : List Loc) (ls : Array Slot) (v1 : Int32) (v2 : Int32) (v3 : Int32) (v4 : Int32), v1 = nI (kxI i) → v2 = nI (s9 + (i - kxS i)) → v3 = bI (smB b s9 (lE b n s9) i) → v4 = nI i → (∀ z, z < kxI i → w256 b n s9 ≠ kwC.getD z 0) → Wd G bs cy I L R H → va_S (Aq bs) s.heap H locs → lv_has ls 6 [(0, .ref (bs + 67)), (1, .int v1), (2, .int v2), (3, .int v3), (4, .int v4)] → W p l e (rmL 5 0 0) s m args below meth c H locs 0 0 Qf (F0 m 12 ls [])) 48 (fun i hx12 ih12 => by
      intro H locs ls v1 v2 v3 v4 q1 q2 q3 q4 hn8 hW hS hl
      subst q1
      subst q2
      subst q3
      subst q4
      have hkx := kx_le i (by omega)
      refine lv_iload hx hb (dg D_X12_keywordHere (i := 9) rfl) (lv_at hl 4 rfl) ?_
      refine r_ldcK X (dg D_X12_keywordHere (i := 10) rfl) ?_
      refine callKi X hW hS hR (c_J0_length_8abf5 (I := I) ) (by decide) UVJ0_length_8abf5 LK_X12_149 rfl rfl (Nat.le_of_ble_eq_true rfl) hl hcs (dg D_X12_keywordHere (i := 11) rfl) (fun r16 I16 L1 R1 H locs hq hW hS => ?_)
      obtain ⟨rfl, rfl, rfl, rfl⟩ := hq
      refine n_icmp_ge (tgt := 103) hx hb (by omega) (by omega) (dg D_X12_keywordHere (i := 12) rfl) (by decide) (fun c19 => ?_) (fun c19 => ?_)
      · refine lv_iconst (v := -1) hx hb (dg D_X12_keywordHere (i := 54) rfl) (by decide) ?_
        exact fin (dg D_X12_keywordHere (i := 55) rfl) hW hS ⟨kwS_none (fun z hz => hn8 z (by rw [show i = 48 by omega, kx_48]; exact hz)), rfl, rfl, rfl⟩
      · refine r_ldcK X (dg D_X12_keywordHere (i := 13) rfl) ?_
        refine lv_iload hx hb (dg D_X12_keywordHere (i := 14) rfl) (lv_at hl 4 rfl) ?_
        refine callKi X hW hS hR (c_J0_charAt_5068e (I := I) i (by first | assumption | omega | decide | exact hP.1)) (by decide) UVJ0_charAt_5068e LK_X12_153 rfl rfl (Nat.le_of_ble_eq_true rfl) hl hcs (dg D_X12_keywordHere (i := 15) rfl) (fun r26 I26 L1 R1 H locs hq hW hS => ?_)
        obtain ⟨rfl, rfl, rfl, rfl⟩ := hq
        refine lv_istore (lv' := [(5, .int (nI (KW i))), (0, .ref (bs + 67)), (1, .int (nI (kxI i))), (2, .int (nI (s9 + (i - kxS i)))), (3, .int (bI (smB b s9 (lE b n s9) i))), (4, .int (nI i))]) hx hb (dg D_X12_keywordHere (i := 16) rfl) hl (by decide) rfl (fun ls hl => ?_)
        refine lv_iload hx hb (dg D_X12_keywordHere (i := 17) rfl) (lv_at hl 0 rfl) ?_
        refine lv_bipush (v := nI 32) hx hb (dg D_X12_keywordHere (i := 18) rfl) (by decide) ?_
        refine n_icmp_eq (tgt := 73) hx hb (by have := (kw_get i (by omega)).2.2; omega) (by omega) (dg D_X12_keywordHere (i := 19) rfl) (by decide) (fun c35 => ?_) (fun c35 => ?_)
        · refine lv_iload_n hx hb (dg D_X12_keywordHere (i := 38) rfl) rfl (lv_at hl 4 rfl) ?_
          refine z_if_eq (tgt := 87) hx hb (dg D_X12_keywordHere (i := 39) rfl) (by decide) (fun c74 => ?_) (fun c74 => ?_)
          · refine lv_iinc (v := nI (kxI i + 1)) (lv' := [(1, .int (nI (kxI i + 1))), (5, .int (nI (KW i))), (0, .ref (bs + 67)), (2, .int (nI (s9 + (i - kxS i)))), (3, .int (bI (smB b s9 (lE b n s9) i))), (4, .int (nI i))]) hx hb (dg D_X12_keywordHere (i := 46) rfl) hl (k := 2) rfl (nI_add _ _) (by decide) rfl (fun ls hl => ?_)
            refine lv_aload_n hx hb (dg D_X12_keywordHere (i := 47) rfl) rfl (lv_at hl 2 rfl) ?_
            refine r_geti (v := nI s9) X hW FI_X12_117 rfl (by decide) rfl hst (dg D_X12_keywordHere (i := 48) rfl) ?_
            refine lv_istore_n (lv' := [(2, .int (nI s9)), (1, .int (nI (kxI i + 1))), (5, .int (nI (KW i))), (0, .ref (bs + 67)), (3, .int (bI (smB b s9 (lE b n s9) i))), (4, .int (nI i))]) hx hb (dg D_X12_keywordHere (i := 49) rfl) rfl hl (by decide) rfl (fun ls hl => ?_)
            refine n_iconst (a := 1) hx hb (dg D_X12_keywordHere (i := 50) rfl) rfl ?_
            refine lv_istore_n (lv' := [(3, .int (nI 1)), (2, .int (nI s9)), (1, .int (nI (kxI i + 1))), (5, .int (nI (KW i))), (0, .ref (bs + 67)), (4, .int (nI i))]) hx hb (dg D_X12_keywordHere (i := 51) rfl) rfl hl (by decide) rfl (fun ls hl => ?_)
            refine lv_iinc (v := nI (i + 1)) (lv' := [(4, .int (nI (i + 1))), (3, .int (nI 1)), (2, .int (nI s9)), (1, .int (nI (kxI i + 1))), (5, .int (nI (KW i))), (0, .ref (bs + 67))]) hx hb (dg D_X12_keywordHere (i := 52) rfl) hl (k := 5) rfl (nI_add _ _) (by decide) rfl (fun ls hl => ?_)
            refine lv_goto (tgt := 12) hx hb (dg D_X12_keywordHere (i := 53) rfl) (by decide) ?_
            exact ih12 (by omega) _ _ _ _ _ _ _ (by rw [show kxI (i + 1) = kxI i + 1 from if_pos c35]) (by rw [show kxS (i + 1) = i + 1 from if_pos c35, Nat.sub_self]; rfl) (by rw [smB_0 c35]; rfl) (congrArg nI (by omega)) (by rw [show kxI (i + 1) = kxI i + 1 from if_pos c35]; exact fun z hz => by rcases Nat.lt_succ_iff_lt_or_eq.mp hz with h | h; exact hn8 z h; rw [h]; exact (fun w => by have h := ((kw_at hT hv (by omega) c35).mp w).1; rw [c74] at h; cases h)) hW hS (lv_sub hl [5, 3, 2, 1, 0] rfl)
          · refine lv_iload_n hx hb (dg D_X12_keywordHere (i := 40) rfl) rfl (lv_at hl 3 rfl) ?_
            refine lv_aload_n hx hb (dg D_X12_keywordHere (i := 41) rfl) rfl (lv_at hl 1 rfl) ?_
            refine r_geti (v := nI (lE b n s9)) X hW FI_X12_110 rfl (by decide) rfl hnx (dg D_X12_keywordHere (i := 42) rfl) ?_
            refine n_icmp_ne (tgt := 87) hx hb (by omega) (by omega) (dg D_X12_keywordHere (i := 43) rfl) (by decide) (fun c82 => ?_) (fun c82 => ?_)
            · refine lv_iinc (v := nI (kxI i + 1)) (lv' := [(1, .int (nI (kxI i + 1))), (5, .int (nI (KW i))), (0, .ref (bs + 67)), (2, .int (nI (s9 + (i - kxS i)))), (3, .int (bI (smB b s9 (lE b n s9) i))), (4, .int (nI i))]) hx hb (dg D_X12_keywordHere (i := 46) rfl) hl (k := 2) rfl (nI_add _ _) (by decide) rfl (fun ls hl => ?_)
              refine lv_aload_n hx hb (dg D_X12_keywordHere (i := 47) rfl) rfl (lv_at hl 2 rfl) ?_
              refine r_geti (v := nI s9) X hW FI_X12_117 rfl (by decide) rfl hst (dg D_X12_keywordHere (i := 48) rfl) ?_
              refine lv_istore_n (lv' := [(2, .int (nI s9)), (1, .int (nI (kxI i + 1))), (5, .int (nI (KW i))), (0, .ref (bs + 67)), (3, .int (bI (smB b s9 (lE b n s9) i))), (4, .int (nI i))]) hx hb (dg D_X12_keywordHere (i := 49) rfl) rfl hl (by decide) rfl (fun ls hl => ?_)
              refine n_iconst (a := 1) hx hb (dg D_X12_keywordHere (i := 50) rfl) rfl ?_
              refine lv_istore_n (lv' := [(3, .int (nI 1)), (2, .int (nI s9)), (1, .int (nI (kxI i + 1))), (5, .int (nI (KW i))), (0, .ref (bs + 67)), (4, .int (nI i))]) hx hb (dg D_X12_keywordHere (i := 51) rfl) rfl hl (by decide) rfl (fun ls hl => ?_)
              refine lv_iinc (v := nI (i + 1)) (lv' := [(4, .int (nI (i + 1))), (3, .int (nI 1)), (2, .int (nI s9)), (1, .int (nI (kxI i + 1))), (5, .int (nI (KW i))), (0, .ref (bs + 67))]) hx hb (dg D_X12_keywordHere (i := 52) rfl) hl (k := 5) rfl (nI_add _ _) (by decide) rfl (fun ls hl => ?_)
              refine lv_goto (tgt := 12) hx hb (dg D_X12_keywordHere (i := 53) rfl) (by decide) ?_
              exact ih12 (by omega) _ _ _ _ _ _ _ (by rw [show kxI (i + 1) = kxI i + 1 from if_pos c35]) (by rw [show kxS (i + 1) = i + 1 from if_pos c35, Nat.sub_self]; rfl) (by rw [smB_0 c35]; rfl) (congrArg nI (by omega)) (by rw [show kxI (i + 1) = kxI i + 1 from if_pos c35]; exact fun z hz => by rcases Nat.lt_succ_iff_lt_or_eq.mp hz with h | h; exact hn8 z h; rw [h]; exact (fun w => c82 ((kw_at hT hv (by omega) c35).mp w).2)) hW hS (lv_sub hl [5, 3, 2, 1, 0] rfl)
            · refine lv_iload_n hx hb (dg D_X12_keywordHere (i := 44) rfl) rfl (lv_at hl 2 rfl) ?_
              exact fin (dg D_X12_keywordHere (i := 45) rfl) hW hS ⟨kwS_hit (kx_sp i (by omega) c35).1 ((kw_at hT hv (by omega) c35).mpr (And.intro c74 (by omega))) hn8, rfl, rfl, rfl⟩
        · refine lv_iload_n hx hb (dg D_X12_keywordHere (i := 20) rfl) rfl (lv_at hl 4 rfl) ?_
          refine z_if_eq (tgt := 65) hx hb (dg D_X12_keywordHere (i := 21) rfl) (by decide) (fun c39 => ?_) (fun c39 => ?_)
          · refine n_iconst (a := 0) hx hb (dg D_X12_keywordHere (i := 34) rfl) rfl ?_
            refine lv_istore_n (lv' := [(3, .int (nI 0)), (5, .int (nI (KW i))), (0, .ref (bs + 67)), (1, .int (nI (kxI i))), (2, .int (nI (s9 + (i - kxS i)))), (4, .int (nI i))]) hx hb (dg D_X12_keywordHere (i := 35) rfl) rfl hl (by decide) rfl (fun ls hl => ?_)
            refine lv_iinc (v := nI (s9 + (i - kxS i) + 1)) (lv' := [(2, .int (nI (s9 + (i - kxS i) + 1))), (3, .int (nI 0)), (5, .int (nI (KW i))), (0, .ref (bs + 67)), (1, .int (nI (kxI i))), (4, .int (nI i))]) hx hb (dg D_X12_keywordHere (i := 36) rfl) hl (k := 4) rfl (nI_add _ _) (by decide) rfl (fun ls hl => ?_)
            refine lv_goto (tgt := 97) hx hb (dg D_X12_keywordHere (i := 37) rfl) (by decide) ?_
            refine lv_iinc (v := nI (i + 1)) (lv' := [(4, .int (nI (i + 1))), (2, .int (nI (s9 + (i - kxS i) + 1))), (3, .int (nI 0)), (5, .int (nI (KW i))), (0, .ref (bs + 67)), (1, .int (nI (kxI i)))]) hx hb (dg D_X12_keywordHere (i := 52) rfl) hl (k := 5) rfl (nI_add _ _) (by decide) rfl (fun ls hl => ?_)
            refine lv_goto (tgt := 12) hx hb (dg D_X12_keywordHere (i := 53) rfl) (by decide) ?_
            exact ih12 (by omega) _ _ _ _ _ _ _ (by rw [show kxI (i + 1) = kxI i from if_neg c35]) (by rw [show kxS (i + 1) = kxS i from if_neg c35]; exact congrArg nI (by omega)) (by rw [smB_s (by omega) c35, c39]; rfl) (congrArg nI (by omega)) (by rw [show kxI (i + 1) = kxI i from if_neg c35]; exact hn8) hW hS (lv_sub hl [4, 5, 1, 2, 0] rfl)
          · refine lv_iload_n hx hb (dg D_X12_keywordHere (i := 22) rfl) rfl (lv_at hl 3 rfl) ?_
            refine lv_aload_n hx hb (dg D_X12_keywordHere (i := 23) rfl) rfl (lv_at hl 1 rfl) ?_
            refine r_geti (v := nI (lE b n s9)) X hW FI_X12_110 rfl (by decide) rfl hnx (dg D_X12_keywordHere (i := 24) rfl) ?_
            refine n_icmp_ge (tgt := 65) hx hb (by omega) (by omega) (dg D_X12_keywordHere (i := 25) rfl) (by decide) (fun c47 => ?_) (fun c47 => ?_)
            · refine n_iconst (a := 0) hx hb (dg D_X12_keywordHere (i := 34) rfl) rfl ?_
              refine lv_istore_n (lv' := [(3, .int (nI 0)), (5, .int (nI (KW i))), (0, .ref (bs + 67)), (1, .int (nI (kxI i))), (2, .int (nI (s9 + (i - kxS i)))), (4, .int (nI i))]) hx hb (dg D_X12_keywordHere (i := 35) rfl) rfl hl (by decide) rfl (fun ls hl => ?_)
              refine lv_iinc (v := nI (s9 + (i - kxS i) + 1)) (lv' := [(2, .int (nI (s9 + (i - kxS i) + 1))), (3, .int (nI 0)), (5, .int (nI (KW i))), (0, .ref (bs + 67)), (1, .int (nI (kxI i))), (4, .int (nI i))]) hx hb (dg D_X12_keywordHere (i := 36) rfl) hl (k := 4) rfl (nI_add _ _) (by decide) rfl (fun ls hl => ?_)
              refine lv_goto (tgt := 97) hx hb (dg D_X12_keywordHere (i := 37) rfl) (by decide) ?_
              refine lv_iinc (v := nI (i + 1)) (lv' := [(4, .int (nI (i + 1))), (2, .int (nI (s9 + (i - kxS i) + 1))), (3, .int (nI 0)), (5, .int (nI (KW i))), (0, .ref (bs + 67)), (1, .int (nI (kxI i)))]) hx hb (dg D_X12_keywordHere (i := 52) rfl) hl (k := 5) rfl (nI_add _ _) (by decide) rfl (fun ls hl => ?_)
              refine lv_goto (tgt := 12) hx hb (dg D_X12_keywordHere (i := 53) rfl) (by decide) ?_
              exact ih12 (by omega) _ _ _ _ _ _ _ (by rw [show kxI (i + 1) = kxI i from if_neg c35]) (by rw [show kxS (i + 1) = kxS i from if_neg c35]; exact congrArg nI (by omega)) (by rw [smB_s (by omega) c35, decide_eq_false (fun z => by omega), Bool.and_false]; rfl) (congrArg nI (by omega)) (by rw [show kxI (i + 1) = kxI i from if_neg c35]; exact hn8) hW hS (lv_sub hl [4, 5, 1, 2, 0] rfl)
            · refine lv_aload_n hx hb (dg D_X12_keywordHere (i := 26) rfl) rfl (lv_at hl 1 rfl) ?_
              refine r_getc (t := 73) X hW FI_X12_25 rfl (by decide) rfl (dg D_X12_keywordHere (i := 27) rfl) ?_
              refine lv_iload_n hx hb (dg D_X12_keywordHere (i := 28) rfl) rfl (lv_at hl 3 rfl) ?_
              refine r_ald (j := s9 + (i - kxS i)) (v := b (s9 + (i - kxS i))) X hW rfl (by decide) rfl (by omega) (by decide) (congrFun hb3 _) (dg D_X12_keywordHere (i := 29) rfl) ?_
              refine lv_iload hx hb (dg D_X12_keywordHere (i := 30) rfl) (lv_at hl 0 rfl) ?_
              refine lv_icmp_ne (tgt := 65) hx hb (dg D_X12_keywordHere (i := 31) rfl) (by decide) (fun c58 => ?_) (fun c58 => ?_)
              · refine n_iconst (a := 0) hx hb (dg D_X12_keywordHere (i := 34) rfl) rfl ?_
                refine lv_istore_n (lv' := [(3, .int (nI 0)), (5, .int (nI (KW i))), (0, .ref (bs + 67)), (1, .int (nI (kxI i))), (2, .int (nI (s9 + (i - kxS i)))), (4, .int (nI i))]) hx hb (dg D_X12_keywordHere (i := 35) rfl) rfl hl (by decide) rfl (fun ls hl => ?_)
                refine lv_iinc (v := nI (s9 + (i - kxS i) + 1)) (lv' := [(2, .int (nI (s9 + (i - kxS i) + 1))), (3, .int (nI 0)), (5, .int (nI (KW i))), (0, .ref (bs + 67)), (1, .int (nI (kxI i))), (4, .int (nI i))]) hx hb (dg D_X12_keywordHere (i := 36) rfl) hl (k := 4) rfl (nI_add _ _) (by decide) rfl (fun ls hl => ?_)
                refine lv_goto (tgt := 97) hx hb (dg D_X12_keywordHere (i := 37) rfl) (by decide) ?_
                refine lv_iinc (v := nI (i + 1)) (lv' := [(4, .int (nI (i + 1))), (2, .int (nI (s9 + (i - kxS i) + 1))), (3, .int (nI 0)), (5, .int (nI (KW i))), (0, .ref (bs + 67)), (1, .int (nI (kxI i)))]) hx hb (dg D_X12_keywordHere (i := 52) rfl) hl (k := 5) rfl (nI_add _ _) (by decide) rfl (fun ls hl => ?_)
                refine lv_goto (tgt := 12) hx hb (dg D_X12_keywordHere (i := 53) rfl) (by decide) ?_
                exact ih12 (by omega) _ _ _ _ _ _ _ (by rw [show kxI (i + 1) = kxI i from if_neg c35]) (by rw [show kxS (i + 1) = kxS i from if_neg c35]; exact congrArg nI (by omega)) (by rw [smB_s (by omega) c35, decide_eq_false (fun z => c58 z.2), Bool.and_false]; rfl) (congrArg nI (by omega)) (by rw [show kxI (i + 1) = kxI i from if_neg c35]; exact hn8) hW hS (lv_sub hl [4, 5, 1, 2, 0] rfl)
              · refine n_iconst (a := 1) hx hb (dg D_X12_keywordHere (i := 32) rfl) rfl ?_
                refine lv_goto (tgt := 66) hx hb (dg D_X12_keywordHere (i := 33) rfl) (by decide) ?_
                refine lv_istore_n (lv' := [(3, .int (nI 1)), (5, .int (nI (KW i))), (0, .ref (bs + 67)), (1, .int (nI (kxI i))), (2, .int (nI (s9 + (i - kxS i)))), (4, .int (nI i))]) hx hb (dg D_X12_keywordHere (i := 35) rfl) rfl hl (by decide) rfl (fun ls hl => ?_)
                refine lv_iinc (v := nI (s9 + (i - kxS i) + 1)) (lv' := [(2, .int (nI (s9 + (i - kxS i) + 1))), (3, .int (nI 1)), (5, .int (nI (KW i))), (0, .ref (bs + 67)), (1, .int (nI (kxI i))), (4, .int (nI i))]) hx hb (dg D_X12_keywordHere (i := 36) rfl) hl (k := 4) rfl (nI_add _ _) (by decide) rfl (fun ls hl => ?_)
                refine lv_goto (tgt := 97) hx hb (dg D_X12_keywordHere (i := 37) rfl) (by decide) ?_
                refine lv_iinc (v := nI (i + 1)) (lv' := [(4, .int (nI (i + 1))), (2, .int (nI (s9 + (i - kxS i) + 1))), (3, .int (nI 1)), (5, .int (nI (KW i))), (0, .ref (bs + 67)), (1, .int (nI (kxI i)))]) hx hb (dg D_X12_keywordHere (i := 52) rfl) hl (k := 5) rfl (nI_add _ _) (by decide) rfl (fun ls hl => ?_)
                refine lv_goto (tgt := 12) hx hb (dg D_X12_keywordHere (i := 53) rfl) (by decide) ?_
                exact ih12 (by omega) _ _ _ _ _ _ _ (by rw [show kxI (i + 1) = kxI i from if_neg c35]) (by rw [show kxS (i + 1) = kxS i from if_neg c35]; exact congrArg nI (by omega)) (by rw [smB_s (by omega) c35, c39, decide_eq_true (And.intro (by omega) (by first | exact c58 | exact Classical.not_not.mp c58))]; rfl) (congrArg nI (by omega)) (by rw [show kxI (i + 1) = kxI i from if_neg c35]; exact hn8) hW hS (lv_sub hl [4, 5, 1, 2, 0] rfl))
  exact loop12 0 (Nat.zero_le _) _ _ _ _ _ _ _ (rfl) (rfl) (rfl) (congrArg nI (by omega)) (fun z hz => absurd hz (Nat.not_lt_zero z)) hW hS (lv_sub hl [4, 3, 2, 1, 0] rfl)

set_option maxHeartbeats 400000 in
set_option maxRecDepth 100000 in
theorem c_X12_advance {l : Launch} {G : va_G} {bs : Nat} {cy : Nat → ClassId} {I : CI} {L : CL} {R : CR} (b : Nat → Int32) (n : Nat) (p9 : Nat) (hb3 : I 73 = b) (hln : I 67 11 = nI n) (hnx : I 67 13 = nI p9) (hT : TB b n) (hn : n ≤ 900) (hp : p9 ≤ n) : MTi l G bs cy MX12_advance 6 [.ref (bs + 67)] I L R (fun r I1 L1 R1 => bI true = r ∧ Fr STk I I1 ∧ TokM b n I1 L1 p9 ∧ FL SLk L L1 ∧ R = R1) := by
  refine MTz.of (own := RX12) pn_RX12 rfl (Nat.le_of_ble_eq_true rfl) ?_
  intro p e s m args below meth c Qf X hW hS fin ls hl
  have hx := X.1
  have hb := X.2.1
  have hR : RmOK (rmL 6 0 0) 6 := ⟨rfl, rfl⟩
  have hcs : 0 ≤ (rmL 6 0 0).cells ∧ 0 ≤ (rmL 6 0 0).slots := ⟨Nat.zero_le _, Nat.zero_le _⟩
  have hl : lv_has ls 2 [(0, .ref (bs + 67))] := hl
  have hF : Fr STk I I := Fr.rf
  have hFL : FL SLk L L := FL.rf
  have loop0 := up_ind (P := fun z => ∀ (K0 : CI) (H : Heap) (locs : List Loc) (ls : Array Slot), (Fr STk I K0) → (K0 73 = b) → (K0 67 13 = nI z) → (K0 67 11 = nI n) → (runE isSp b n z = tS b n p9) → Wd G bs cy K0 L R H → va_S (Aq bs) s.heap H locs → lv_has ls 2 [(0, .ref (bs + 67))] → W p l e (rmL 6 0 0) s m args below meth c H locs 0 0 Qf (F0 m 0 ls [])) n (fun z hx0 ih0 => by
      intro K0 H locs ls hF hb3 nx hln hz1 hW hS hl
      refine lv_aload_n hx hb (dg D_X12_advance (i := 0) rfl) rfl (lv_at hl 0 rfl) ?_
      refine lv_aload_n hx hb (dg D_X12_advance (i := 1) rfl) rfl (lv_at hl 0 rfl) ?_
      refine r_geti (v := nI z) X hW FI_X12_110 rfl (by decide) rfl nx (dg D_X12_advance (i := 2) rfl) ?_
      refine callVi X hW hS hR (c_X12_byteAt (I := K0) b n z (by first | assumption | omega | decide | exact hP.1) (by first | assumption | omega | decide | exact hP.1) (by first | assumption | omega | decide | exact hP.1) (by first | assumption | omega | decide | exact hP.1)) (by decide) UVX12_byteAt LK_X12_113 rfl (by decide) rfl rfl rfl (Nat.le_of_ble_eq_true rfl) hl hcs (dg D_X12_advance (i := 3) rfl) (fun r5 I5 L1 R1 H locs hq hW hS => ?_)
      obtain ⟨rfl, rfl, rfl, rfl⟩ := hq
      refine lv_bipush (v := nI 32) hx hb (dg D_X12_advance (i := 4) rfl) (by decide) ?_
      refine lv_icmp_eq (tgt := 26) hx hb (dg D_X12_advance (i := 5) rfl) (by decide) (fun c10 => ?_) (fun c10 => ?_)
      · have hzs := bA_sp.mp (Or.inl c10)
        refine lv_aload_n hx hb (dg D_X12_advance (i := 12) rfl) rfl (lv_at hl 0 rfl) ?_
        refine lv_dup hx hb (dg D_X12_advance (i := 13) rfl) rfl ?_
        refine r_geti (v := nI z) X hW FI_X12_110 rfl (by decide) rfl nx (dg D_X12_advance (i := 14) rfl) ?_
        refine n_iconst (a := 1) hx hb (dg D_X12_advance (i := 15) rfl) rfl ?_
        refine n_iadd hx hb (dg D_X12_advance (i := 16) rfl) ?_
        refine r_puti (v := nI (z + 1)) (ty := .int) X hW hS FI_X12_110 rfl (by decide) rfl rfl (by decide +kernel) rfl rfl (dg D_X12_advance (i := 17) rfl) (fun H locs hW hS => ?_)
        have hF : Fr STk I (u2 K0 67 13 (nI (z + 1))) := Fr.put hF rfl
        have hb3 : (u2 K0 67 13 (nI (z + 1))) 73 = b := by rw [u2_ne (by decide)]; exact hb3
        obtain ⟨J33, eJ33⟩ : ∃ J, J = u2 K0 67 13 (nI (z + 1)) := ⟨_, rfl⟩
        rw [← eJ33] at hW hF hb3
        have hln : J33 67 11 = nI n := by rw [eJ33, u2_off (Or.inr (by decide))]; exact hln
        have nx : J33 67 13 = nI (z + 1) := by rw [eJ33]; exact u2_at
        refine lv_goto (tgt := 0) hx hb (dg D_X12_advance (i := 18) rfl) (by decide) ?_
        exact ih0 (by omega) J33 _ _ _ hF hb3 nx hln (by rw [← hz1]; exact (runE_step hzs.1 hzs.2).symm) hW hS (lv_sub hl [0] rfl)
      · refine lv_aload_n hx hb (dg D_X12_advance (i := 6) rfl) rfl (lv_at hl 0 rfl) ?_
        refine lv_aload_n hx hb (dg D_X12_advance (i := 7) rfl) rfl (lv_at hl 0 rfl) ?_
        refine r_geti (v := nI z) X hW FI_X12_110 rfl (by decide) rfl nx (dg D_X12_advance (i := 8) rfl) ?_
        refine callVi X hW hS hR (c_X12_byteAt (I := K0) b n z (by first | assumption | omega | decide | exact hP.1) (by first | assumption | omega | decide | exact hP.1) (by first | assumption | omega | decide | exact hP.1) (by first | assumption | omega | decide | exact hP.1)) (by decide) UVX12_byteAt LK_X12_113 rfl (by decide) rfl rfl rfl (Nat.le_of_ble_eq_true rfl) hl hcs (dg D_X12_advance (i := 9) rfl) (fun r18 I18 L1 R1 H locs hq hW hS => ?_)
        obtain ⟨rfl, rfl, rfl, rfl⟩ := hq
        refine lv_bipush (v := nI 10) hx hb (dg D_X12_advance (i := 10) rfl) (by decide) ?_
        refine lv_icmp_ne (tgt := 39) hx hb (dg D_X12_advance (i := 11) rfl) (by decide) (fun c23 => ?_) (fun c23 => ?_)
        · have hs9 : tS b n p9 = z := hz1.symm.trans (runE_stop (by omega) (fun h => by cases hq : isSp (b z) with | false => rfl | true => exact absurd (bA_sp.mpr ⟨h, hq⟩) (fun w => w.elim c10 c23)))
          refine lv_aload_n hx hb (dg D_X12_advance (i := 19) rfl) rfl (lv_at hl 0 rfl) ?_
          refine lv_aload_n hx hb (dg D_X12_advance (i := 20) rfl) rfl (lv_at hl 0 rfl) ?_
          refine r_geti (v := nI z) X hW FI_X12_110 rfl (by decide) rfl nx (dg D_X12_advance (i := 21) rfl) ?_
          refine r_puti (v := nI z) (ty := .int) X hW hS FI_X12_117 rfl (by decide) rfl rfl (by decide +kernel) rfl rfl (dg D_X12_advance (i := 22) rfl) (fun H locs hW hS => ?_)
          have hF : Fr STk I (u2 K0 67 12 (nI z)) := Fr.put hF rfl
          have hb3 : (u2 K0 67 12 (nI z)) 73 = b := by rw [u2_ne (by decide)]; exact hb3
          obtain ⟨J44, eJ44⟩ : ∃ J, J = u2 K0 67 12 (nI z) := ⟨_, rfl⟩
          rw [← eJ44] at hW hF hb3
          have hln : J44 67 11 = nI n := by rw [eJ44, u2_off (Or.inr (by decide))]; exact hln
          have nx : J44 67 13 = nI z := by rw [eJ44, u2_off (Or.inr (by decide))]; exact nx
          have hst : J44 67 12 = nI z := by rw [eJ44]; exact u2_at
          refine lv_aload_n hx hb (dg D_X12_advance (i := 23) rfl) rfl (lv_at hl 0 rfl) ?_
          refine lv_iconst (v := -1) hx hb (dg D_X12_advance (i := 24) rfl) (by decide) ?_
          refine r_puti (v := (-1)) (ty := .int) X hW hS FI_X12_120 rfl (by decide) rfl rfl (by decide +kernel) rfl rfl (dg D_X12_advance (i := 25) rfl) (fun H locs hW hS => ?_)
          have hF : Fr STk I (u2 J44 67 15 ((-1))) := Fr.put hF rfl
          have hb3 : (u2 J44 67 15 ((-1))) 73 = b := by rw [u2_ne (by decide)]; exact hb3
          obtain ⟨J49, eJ49⟩ : ∃ J, J = u2 J44 67 15 ((-1)) := ⟨_, rfl⟩
          rw [← eJ49] at hW hF hb3
          have hln : J49 67 11 = nI n := by rw [eJ49, u2_off (Or.inr (by decide))]; exact hln
          have nx : J49 67 13 = nI z := by rw [eJ49, u2_off (Or.inr (by decide))]; exact nx
          have hst : J49 67 12 = nI z := by rw [eJ49, u2_off (Or.inr (by decide))]; exact hst
          have hkw : J49 67 15 = (-1) := by rw [eJ49]; exact u2_at
          refine lv_aload_n hx hb (dg D_X12_advance (i := 26) rfl) rfl (lv_at hl 0 rfl) ?_
          refine lv_aload_n hx hb (dg D_X12_advance (i := 27) rfl) rfl (lv_at hl 0 rfl) ?_
          refine r_geti (v := nI z) X hW FI_X12_110 rfl (by decide) rfl nx (dg D_X12_advance (i := 28) rfl) ?_
          refine callVi X hW hS hR (c_X12_byteAt (I := J49) b n z (by first | assumption | omega | decide | exact hP.1) (by first | assumption | omega | decide | exact hP.1) (by first | assumption | omega | decide | exact hP.1) (by first | assumption | omega | decide | exact hP.1)) (by decide) UVX12_byteAt LK_X12_113 rfl (by decide) rfl rfl rfl (Nat.le_of_ble_eq_true rfl) hl hcs (dg D_X12_advance (i := 29) rfl) (fun r57 I57 L1 R1 H locs hq hW hS => ?_)
          obtain ⟨rfl, rfl, rfl, rfl⟩ := hq
          refine lv_istore_n (lv' := [(1, .int (bA b n z)), (0, .ref (bs + 67))]) hx hb (dg D_X12_advance (i := 30) rfl) rfl hl (by decide) rfl (fun ls hl => ?_)
          refine lv_iload_n hx hb (dg D_X12_advance (i := 31) rfl) rfl (lv_at hl 0 rfl) ?_
          refine lv_iconst (v := -1) hx hb (dg D_X12_advance (i := 32) rfl) (by decide) ?_
          refine lv_icmp_ne (tgt := 74) hx hb (dg D_X12_advance (i := 33) rfl) (by decide) (fun c63 => ?_) (fun c63 => ?_)
          · refine lv_iload_n hx hb (dg D_X12_advance (i := 38) rfl) rfl (lv_at hl 0 rfl) ?_
            refine callSi X hW hS hR (c_X12_isLetter (I := J49) (bA b n z)) (by decide) USX12_isLetter LK_X12_126 rfl rfl (Nat.le_of_ble_eq_true rfl) hl hcs (dg D_X12_advance (i := 39) rfl) (fun r75 I75 L1 R1 H locs hq hW hS => ?_)
            obtain ⟨rfl, rfl, rfl, rfl⟩ := hq
            refine z_if_eq (tgt := 208) hx hb (dg D_X12_advance (i := 40) rfl) (by decide) (fun c78 => ?_) (fun c78 => ?_)
            · refine lv_iload_n hx hb (dg D_X12_advance (i := 106) rfl) rfl (lv_at hl 0 rfl) ?_
              refine callSi X hW hS hR (c_X12_isDigit (I := J49) (bA b n z)) (by decide) USX12_isDigit LK_X12_141 rfl rfl (Nat.le_of_ble_eq_true rfl) hl hcs (dg D_X12_advance (i := 107) rfl) (fun r209 I209 L1 R1 H locs hq hW hS => ?_)
              obtain ⟨rfl, rfl, rfl, rfl⟩ := hq
              refine z_if_eq (tgt := 315) hx hb (dg D_X12_advance (i := 108) rfl) (by decide) (fun c212 => ?_) (fun c212 => ?_)
              · refine lv_aload_n hx hb (dg D_X12_advance (i := 161) rfl) rfl (lv_at hl 1 rfl) ?_
                refine lv_dup hx hb (dg D_X12_advance (i := 162) rfl) rfl ?_
                refine r_geti (v := nI z) X hW FI_X12_110 rfl (by decide) rfl nx (dg D_X12_advance (i := 163) rfl) ?_
                refine n_iconst (a := 1) hx hb (dg D_X12_advance (i := 164) rfl) rfl ?_
                refine n_iadd hx hb (dg D_X12_advance (i := 165) rfl) ?_
                refine r_puti (v := nI (z + 1)) (ty := .int) X hW hS FI_X12_110 rfl (by decide) rfl rfl (by decide +kernel) rfl rfl (dg D_X12_advance (i := 166) rfl) (fun H locs hW hS => ?_)
                have hF : Fr STk I (u2 J49 67 13 (nI (z + 1))) := Fr.put hF rfl
                have hb3 : (u2 J49 67 13 (nI (z + 1))) 73 = b := by rw [u2_ne (by decide)]; exact hb3
                obtain ⟨J322, eJ322⟩ : ∃ J, J = u2 J49 67 13 (nI (z + 1)) := ⟨_, rfl⟩
                rw [← eJ322] at hW hF hb3
                have hln : J322 67 11 = nI n := by rw [eJ322, u2_off (Or.inr (by decide))]; exact hln
                have nx : J322 67 13 = nI (z + 1) := by rw [eJ322]; exact u2_at
                have hst : J322 67 12 = nI z := by rw [eJ322, u2_off (Or.inr (by decide))]; exact hst
                have hkw : J322 67 15 = (-1) := by rw [eJ322, u2_off (Or.inr (by decide))]; exact hkw
                refine lv_aload_n hx hb (dg D_X12_advance (i := 167) rfl) rfl (lv_at hl 1 rfl) ?_
                refine lv_iload_n hx hb (dg D_X12_advance (i := 168) rfl) rfl (lv_at hl 0 rfl) ?_
                refine lv_bipush (v := nI 59) hx hb (dg D_X12_advance (i := 169) rfl) (by decide) ?_
                refine lv_icmp_ne (tgt := 336) hx hb (dg D_X12_advance (i := 170) rfl) (by decide) (fun c329 => ?_) (fun c329 => ?_)
                · refine n_iconst (a := 1) hx hb (dg D_X12_advance (i := 173) rfl) rfl ?_
                  refine r_puti (v := nI 1) (ty := .int) X hW hS FI_X12_123 rfl (by decide) rfl rfl (by decide +kernel) rfl rfl (dg D_X12_advance (i := 174) rfl) (fun H locs hW hS => ?_)
                  have hF : Fr STk I (u2 J322 67 14 (nI 1)) := Fr.put hF rfl
                  have hb3 : (u2 J322 67 14 (nI 1)) 73 = b := by rw [u2_ne (by decide)]; exact hb3
                  obtain ⟨J337, eJ337⟩ : ∃ J, J = u2 J322 67 14 (nI 1) := ⟨_, rfl⟩
                  rw [← eJ337] at hW hF hb3
                  have hln : J337 67 11 = nI n := by rw [eJ337, u2_off (Or.inr (by decide))]; exact hln
                  have nx : J337 67 13 = nI (z + 1) := by rw [eJ337, u2_off (Or.inr (by decide))]; exact nx
                  have hst : J337 67 12 = nI z := by rw [eJ337, u2_off (Or.inr (by decide))]; exact hst
                  have hkw : J337 67 15 = (-1) := by rw [eJ337, u2_off (Or.inr (by decide))]; exact hkw
                  have htk : J337 67 14 = nI 1 := by rw [eJ337]; exact u2_at
                  refine n_iconst (a := 1) hx hb (dg D_X12_advance (i := 175) rfl) rfl ?_
                  have hzn : z < n := by rcases Nat.lt_or_ge z n with q | q; exact q; exact absurd (bA_out q) c63
                  obtain ⟨ht1, ht2⟩ := tok_oth hs9 hzn (bA_nl (by omega) c78 hzn) (bA_nd (by omega) c212 hzn)
                  rw [if_neg (by rw [← bA_in (b := b) (n := n) hzn]; exact c329)] at ht2
                  exact fin (dg D_X12_advance (i := 176) rfl) hW hS (show _ = bI true from rfl) ⟨rfl, hF, ⟨by rw [hs9]; exact hst, by rw [ht1]; exact nx, by rw [ht2]; exact htk, by unfold kwI; rw [ht2]; exact hkw, fun w => absurd w (by rw [ht2]; decide), fun w => absurd w (by rw [ht2]; decide)⟩, hFL, rfl⟩
                · refine n_iconst (a := 4) hx hb (dg D_X12_advance (i := 171) rfl) rfl ?_
                  refine lv_goto (tgt := 337) hx hb (dg D_X12_advance (i := 172) rfl) (by decide) ?_
                  refine r_puti (v := nI 4) (ty := .int) X hW hS FI_X12_123 rfl (by decide) rfl rfl (by decide +kernel) rfl rfl (dg D_X12_advance (i := 174) rfl) (fun H locs hW hS => ?_)
                  have hF : Fr STk I (u2 J322 67 14 (nI 4)) := Fr.put hF rfl
                  have hb3 : (u2 J322 67 14 (nI 4)) 73 = b := by rw [u2_ne (by decide)]; exact hb3
                  obtain ⟨J337, eJ337⟩ : ∃ J, J = u2 J322 67 14 (nI 4) := ⟨_, rfl⟩
                  rw [← eJ337] at hW hF hb3
                  have hln : J337 67 11 = nI n := by rw [eJ337, u2_off (Or.inr (by decide))]; exact hln
                  have nx : J337 67 13 = nI (z + 1) := by rw [eJ337, u2_off (Or.inr (by decide))]; exact nx
                  have hst : J337 67 12 = nI z := by rw [eJ337, u2_off (Or.inr (by decide))]; exact hst
                  have hkw : J337 67 15 = (-1) := by rw [eJ337, u2_off (Or.inr (by decide))]; exact hkw
                  have htk : J337 67 14 = nI 4 := by rw [eJ337]; exact u2_at
                  refine n_iconst (a := 1) hx hb (dg D_X12_advance (i := 175) rfl) rfl ?_
                  have hzn : z < n := by rcases Nat.lt_or_ge z n with q | q; exact q; exact absurd (bA_out q) c63
                  obtain ⟨ht1, ht2⟩ := tok_oth hs9 hzn (bA_nl (by omega) c78 hzn) (bA_nd (by omega) c212 hzn)
                  rw [if_pos (by rw [← bA_in (b := b) (n := n) hzn]; exact (by first | exact c329 | exact Classical.not_not.mp c329))] at ht2
                  exact fin (dg D_X12_advance (i := 176) rfl) hW hS (show _ = bI true from rfl) ⟨rfl, hF, ⟨by rw [hs9]; exact hst, by rw [ht1]; exact nx, by rw [ht2]; exact htk, by unfold kwI; rw [ht2]; exact hkw, fun w => absurd w (by rw [ht2]; decide), fun w => absurd w (by rw [ht2]; decide)⟩, hFL, rfl⟩
              · refine lv_aload_n hx hb (dg D_X12_advance (i := 109) rfl) rfl (lv_at hl 1 rfl) ?_
                refine n_iconst (a := 0) hx hb (dg D_X12_advance (i := 110) rfl) rfl ?_
                refine r_puti (v := nI 0) (ty := .int) X hW hS FI_X12_144 rfl (by decide) rfl rfl (by decide +kernel) rfl rfl (dg D_X12_advance (i := 111) rfl) (fun H locs hW hS => ?_)
                have hF : Fr STk I (u2 J49 67 16 (nI 0)) := Fr.put hF rfl
                have hb3 : (u2 J49 67 16 (nI 0)) 73 = b := by rw [u2_ne (by decide)]; exact hb3
                obtain ⟨J217, eJ217⟩ : ∃ J, J = u2 J49 67 16 (nI 0) := ⟨_, rfl⟩
                rw [← eJ217] at hW hF hb3
                have hln : J217 67 11 = nI n := by rw [eJ217, u2_off (Or.inr (by decide))]; exact hln
                have nx : J217 67 13 = nI z := by rw [eJ217, u2_off (Or.inr (by decide))]; exact nx
                have hst : J217 67 12 = nI z := by rw [eJ217, u2_off (Or.inr (by decide))]; exact hst
                have hkw : J217 67 15 = (-1) := by rw [eJ217, u2_off (Or.inr (by decide))]; exact hkw
                have hv0 : J217 67 16 = nI 0 := by rw [eJ217]; exact u2_at
                have loop220 := up_ind (P := fun y => ∀ (K220 : CI) (H : Heap) (locs : List Loc) (ls : Array Slot), (Fr STk I K220) → (K220 73 = b) → (K220 67 13 = nI y) → (K220 67 16 = nI (vlN b z (y - z))) → (K220 67 11 = nI n) → (K220 67 12 = nI z) → (K220 67 15 = (-1)) → (z ≤ y) → (runE isDg b n y = runE isDg b n z) → Wd G bs cy K220 L R H → va_S (Aq bs) s.heap H locs → lv_has ls 2 [(0, .ref (bs + 67)), (1, .int (bA b n z))] → W p l e (rmL 6 0 0) s m args below meth c H locs 0 0 Qf (F0 m 220 ls [])) n (fun y hx220 ih220 => by
                    intro K220 H locs ls hF hb3 nx hvl hln hst hkw hy1 hy2 hW hS hl
                    refine lv_aload_n hx hb (dg D_X12_advance (i := 112) rfl) rfl (lv_at hl 0 rfl) ?_
                    refine lv_aload_n hx hb (dg D_X12_advance (i := 113) rfl) rfl (lv_at hl 0 rfl) ?_
                    refine r_geti (v := nI y) X hW FI_X12_110 rfl (by decide) rfl nx (dg D_X12_advance (i := 114) rfl) ?_
                    refine callVi X hW hS hR (c_X12_byteAt (I := K220) b n y (by first | assumption | omega | decide | exact hP.1) (by first | assumption | omega | decide | exact hP.1) (by first | assumption | omega | decide | exact hP.1) (by first | assumption | omega | decide | exact hP.1)) (by decide) UVX12_byteAt LK_X12_113 rfl (by decide) rfl rfl rfl (Nat.le_of_ble_eq_true rfl) hl hcs (dg D_X12_advance (i := 115) rfl) (fun r225 I225 L1 R1 H locs hq hW hS => ?_)
                    obtain ⟨rfl, rfl, rfl, rfl⟩ := hq
                    refine callSi X hW hS hR (c_X12_isDigit (I := K220) (bA b n y)) (by decide) USX12_isDigit LK_X12_141 rfl rfl (Nat.le_of_ble_eq_true rfl) hl hcs (dg D_X12_advance (i := 116) rfl) (fun r228 I228 L1 R1 H locs hq hW hS => ?_)
                    obtain ⟨rfl, rfl, rfl, rfl⟩ := hq
                    refine z_if_eq (tgt := 290) hx hb (dg D_X12_advance (i := 117) rfl) (by decide) (fun c231 => ?_) (fun c231 => ?_)
                    · refine lv_aload_n hx hb (dg D_X12_advance (i := 148) rfl) rfl (lv_at hl 0 rfl) ?_
                      refine lv_aload_n hx hb (dg D_X12_advance (i := 149) rfl) rfl (lv_at hl 0 rfl) ?_
                      refine r_geti (v := nI y) X hW FI_X12_110 rfl (by decide) rfl nx (dg D_X12_advance (i := 150) rfl) ?_
                      refine lv_aload_n hx hb (dg D_X12_advance (i := 151) rfl) rfl (lv_at hl 0 rfl) ?_
                      refine r_geti (v := nI z) X hW FI_X12_117 rfl (by decide) rfl hst (dg D_X12_advance (i := 152) rfl) ?_
                      refine n_isub hx hb (dg D_X12_advance (i := 153) rfl) (by omega) ?_
                      refine n_iconst (a := 4) hx hb (dg D_X12_advance (i := 154) rfl) rfl ?_
                      refine n_icmp_le (tgt := 308) hx hb (by omega) (by omega) (dg D_X12_advance (i := 155) rfl) (by decide) (fun c301 => ?_) (fun c301 => ?_)
                      · refine n_iconst (a := 3) hx hb (dg D_X12_advance (i := 158) rfl) rfl ?_
                        refine r_puti (v := nI 3) (ty := .int) X hW hS FI_X12_123 rfl (by decide) rfl rfl (by decide +kernel) rfl rfl (dg D_X12_advance (i := 159) rfl) (fun H locs hW hS => ?_)
                        have hF : Fr STk I (u2 K220 67 14 (nI 3)) := Fr.put hF rfl
                        have hb3 : (u2 K220 67 14 (nI 3)) 73 = b := by rw [u2_ne (by decide)]; exact hb3
                        obtain ⟨J309, eJ309⟩ : ∃ J, J = u2 K220 67 14 (nI 3) := ⟨_, rfl⟩
                        rw [← eJ309] at hW hF hb3
                        have hln : J309 67 11 = nI n := by rw [eJ309, u2_off (Or.inr (by decide))]; exact hln
                        have hst : J309 67 12 = nI z := by rw [eJ309, u2_off (Or.inr (by decide))]; exact hst
                        have hkw : J309 67 15 = (-1) := by rw [eJ309, u2_off (Or.inr (by decide))]; exact hkw
                        have nx : J309 67 13 = nI y := by rw [eJ309, u2_off (Or.inr (by decide))]; exact nx
                        have hvl : J309 67 16 = nI (vlN b z (y - z)) := by rw [eJ309, u2_off (Or.inr (by decide))]; exact hvl
                        have htk : J309 67 14 = nI 3 := by rw [eJ309]; exact u2_at
                        refine lv_goto (tgt := 340) hx hb (dg D_X12_advance (i := 160) rfl) (by decide) ?_
                        refine n_iconst (a := 1) hx hb (dg D_X12_advance (i := 175) rfl) rfl ?_
                        obtain ⟨hzn, hzD⟩ := bA_d c212
                        have hye : runE isDg b n z = y := hy2.symm.trans (runE_stop (by omega) (bA_nd (by omega) c231))
                        obtain ⟨ht1, ht2⟩ := tok_dig hs9 hzn (bA_nl (by omega) c78 hzn) hzD hye
                        rw [if_neg (by omega)] at ht2
                        exact fin (dg D_X12_advance (i := 176) rfl) hW hS (show _ = bI true from rfl) ⟨rfl, hF, ⟨by rw [hs9]; exact hst, by rw [ht1]; exact nx, by rw [ht2]; exact htk, by unfold kwI; rw [ht2]; exact hkw, fun _ => by unfold tV; rw [hs9, ht1, ← vl_wF (y - z) (by omega)]; exact hvl, fun w => absurd w (by rw [ht2]; decide)⟩, hFL, rfl⟩
                      · refine n_iconst (a := 1) hx hb (dg D_X12_advance (i := 156) rfl) rfl ?_
                        refine lv_goto (tgt := 309) hx hb (dg D_X12_advance (i := 157) rfl) (by decide) ?_
                        refine r_puti (v := nI 1) (ty := .int) X hW hS FI_X12_123 rfl (by decide) rfl rfl (by decide +kernel) rfl rfl (dg D_X12_advance (i := 159) rfl) (fun H locs hW hS => ?_)
                        have hF : Fr STk I (u2 K220 67 14 (nI 1)) := Fr.put hF rfl
                        have hb3 : (u2 K220 67 14 (nI 1)) 73 = b := by rw [u2_ne (by decide)]; exact hb3
                        obtain ⟨J309, eJ309⟩ : ∃ J, J = u2 K220 67 14 (nI 1) := ⟨_, rfl⟩
                        rw [← eJ309] at hW hF hb3
                        have hln : J309 67 11 = nI n := by rw [eJ309, u2_off (Or.inr (by decide))]; exact hln
                        have hst : J309 67 12 = nI z := by rw [eJ309, u2_off (Or.inr (by decide))]; exact hst
                        have hkw : J309 67 15 = (-1) := by rw [eJ309, u2_off (Or.inr (by decide))]; exact hkw
                        have nx : J309 67 13 = nI y := by rw [eJ309, u2_off (Or.inr (by decide))]; exact nx
                        have hvl : J309 67 16 = nI (vlN b z (y - z)) := by rw [eJ309, u2_off (Or.inr (by decide))]; exact hvl
                        have htk : J309 67 14 = nI 1 := by rw [eJ309]; exact u2_at
                        refine lv_goto (tgt := 340) hx hb (dg D_X12_advance (i := 160) rfl) (by decide) ?_
                        refine n_iconst (a := 1) hx hb (dg D_X12_advance (i := 175) rfl) rfl ?_
                        obtain ⟨hzn, hzD⟩ := bA_d c212
                        have hye : runE isDg b n z = y := hy2.symm.trans (runE_stop (by omega) (bA_nd (by omega) c231))
                        obtain ⟨ht1, ht2⟩ := tok_dig hs9 hzn (bA_nl (by omega) c78 hzn) hzD hye
                        rw [if_pos (by omega)] at ht2
                        exact fin (dg D_X12_advance (i := 176) rfl) hW hS (show _ = bI true from rfl) ⟨rfl, hF, ⟨by rw [hs9]; exact hst, by rw [ht1]; exact nx, by rw [ht2]; exact htk, by unfold kwI; rw [ht2]; exact hkw, fun w => absurd w (by rw [ht2]; decide), fun w => absurd w (by rw [ht2]; decide)⟩, hFL, rfl⟩
                    · refine lv_aload_n hx hb (dg D_X12_advance (i := 118) rfl) rfl (lv_at hl 0 rfl) ?_
                      refine lv_aload_n hx hb (dg D_X12_advance (i := 119) rfl) rfl (lv_at hl 0 rfl) ?_
                      refine r_geti (v := nI y) X hW FI_X12_110 rfl (by decide) rfl nx (dg D_X12_advance (i := 120) rfl) ?_
                      refine lv_aload_n hx hb (dg D_X12_advance (i := 121) rfl) rfl (lv_at hl 0 rfl) ?_
                      refine r_geti (v := nI z) X hW FI_X12_117 rfl (by decide) rfl hst (dg D_X12_advance (i := 122) rfl) ?_
                      refine n_isub hx hb (dg D_X12_advance (i := 123) rfl) (by omega) ?_
                      refine n_iconst (a := 4) hx hb (dg D_X12_advance (i := 124) rfl) rfl ?_
                      refine n_icmp_ge (tgt := 270) hx hb (by omega) (by omega) (dg D_X12_advance (i := 125) rfl) (by decide) (fun c245 => ?_) (fun c245 => ?_)
                      · refine lv_aload_n hx hb (dg D_X12_advance (i := 138) rfl) rfl (lv_at hl 0 rfl) ?_
                        refine r_geti (v := nI (vlN b z (y - z))) X hW FI_X12_144 rfl (by decide) rfl hvl (dg D_X12_advance (i := 139) rfl) ?_
                        refine r_puti (v := nI (vlN b z (y - z))) (ty := .int) X hW hS FI_X12_144 rfl (by decide) rfl rfl (by decide +kernel) rfl rfl (dg D_X12_advance (i := 140) rfl) (fun H locs hW hS => ?_)
                        have hF : Fr STk I (u2 K220 67 16 (nI (vlN b z (y - z)))) := Fr.put hF rfl
                        have hb3 : (u2 K220 67 16 (nI (vlN b z (y - z)))) 73 = b := by rw [u2_ne (by decide)]; exact hb3
                        obtain ⟨J274, eJ274⟩ : ∃ J, J = u2 K220 67 16 (nI (vlN b z (y - z))) := ⟨_, rfl⟩
                        rw [← eJ274] at hW hF hb3
                        have hln : J274 67 11 = nI n := by rw [eJ274, u2_off (Or.inr (by decide))]; exact hln
                        have hst : J274 67 12 = nI z := by rw [eJ274, u2_off (Or.inr (by decide))]; exact hst
                        have hkw : J274 67 15 = (-1) := by rw [eJ274, u2_off (Or.inr (by decide))]; exact hkw
                        have nx : J274 67 13 = nI y := by rw [eJ274, u2_off (Or.inr (by decide))]; exact nx
                        have hvl : J274 67 16 = nI (vlN b z (y - z)) := by rw [eJ274]; exact u2_at
                        refine lv_aload_n hx hb (dg D_X12_advance (i := 141) rfl) rfl (lv_at hl 0 rfl) ?_
                        refine lv_dup hx hb (dg D_X12_advance (i := 142) rfl) rfl ?_
                        refine r_geti (v := nI y) X hW FI_X12_110 rfl (by decide) rfl nx (dg D_X12_advance (i := 143) rfl) ?_
                        refine n_iconst (a := 1) hx hb (dg D_X12_advance (i := 144) rfl) rfl ?_
                        refine n_iadd hx hb (dg D_X12_advance (i := 145) rfl) ?_
                        refine r_puti (v := nI (y + 1)) (ty := .int) X hW hS FI_X12_110 rfl (by decide) rfl rfl (by decide +kernel) rfl rfl (dg D_X12_advance (i := 146) rfl) (fun H locs hW hS => ?_)
                        have hF : Fr STk I (u2 J274 67 13 (nI (y + 1))) := Fr.put hF rfl
                        have hb3 : (u2 J274 67 13 (nI (y + 1))) 73 = b := by rw [u2_ne (by decide)]; exact hb3
                        obtain ⟨J284, eJ284⟩ : ∃ J, J = u2 J274 67 13 (nI (y + 1)) := ⟨_, rfl⟩
                        rw [← eJ284] at hW hF hb3
                        have hln : J284 67 11 = nI n := by rw [eJ284, u2_off (Or.inr (by decide))]; exact hln
                        have hst : J284 67 12 = nI z := by rw [eJ284, u2_off (Or.inr (by decide))]; exact hst
                        have hkw : J284 67 15 = (-1) := by rw [eJ284, u2_off (Or.inr (by decide))]; exact hkw
                        have nx : J284 67 13 = nI (y + 1) := by rw [eJ284]; exact u2_at
                        have hvl : J284 67 16 = nI (vlN b z (y - z)) := by rw [eJ284, u2_off (Or.inr (by decide))]; exact hvl
                        refine lv_goto (tgt := 220) hx hb (dg D_X12_advance (i := 147) rfl) (by decide) ?_
                        exact ih220 (bA_d c231).1 J284 _ _ _ hF hb3 nx (by rw [show y + 1 - z = y - z + 1 by omega]; show _ = nI (if y - z < 4 then _ else _); rw [if_neg (by omega)]; exact hvl) hln hst hkw (by omega) (by rw [← hy2]; exact (runE_step (bA_d c231).1 (bA_d c231).2).symm) hW hS (lv_sub hl [0, 1] rfl)
                      · refine lv_bipush (v := nI 10) hx hb (dg D_X12_advance (i := 126) rfl) (by decide) ?_
                        refine lv_aload_n hx hb (dg D_X12_advance (i := 127) rfl) rfl (lv_at hl 0 rfl) ?_
                        refine r_geti (v := nI (vlN b z (y - z))) X hW FI_X12_144 rfl (by decide) rfl hvl (dg D_X12_advance (i := 128) rfl) ?_
                        refine n_imul hx hb (dg D_X12_advance (i := 129) rfl) ?_
                        refine lv_aload_n hx hb (dg D_X12_advance (i := 130) rfl) rfl (lv_at hl 0 rfl) ?_
                        refine lv_aload_n hx hb (dg D_X12_advance (i := 131) rfl) rfl (lv_at hl 0 rfl) ?_
                        refine r_geti (v := nI y) X hW FI_X12_110 rfl (by decide) rfl nx (dg D_X12_advance (i := 132) rfl) ?_
                        refine callVi X hW hS hR (c_X12_byteAt (I := K220) b n y (by first | assumption | omega | decide | exact hP.1) (by first | assumption | omega | decide | exact hP.1) (by first | assumption | omega | decide | exact hP.1) (by first | assumption | omega | decide | exact hP.1)) (by decide) UVX12_byteAt LK_X12_113 rfl (by decide) rfl rfl rfl (Nat.le_of_ble_eq_true rfl) hl hcs (dg D_X12_advance (i := 133) rfl) (fun r260 I260 L1 R1 H locs hq hW hS => ?_)
                        obtain ⟨rfl, rfl, rfl, rfl⟩ := hq
                        refine lv_iadd hx hb (dg D_X12_advance (i := 134) rfl) ?_
                        refine lv_bipush (v := nI 48) hx hb (dg D_X12_advance (i := 135) rfl) (by decide) ?_
                        refine lv_isub hx hb (dg D_X12_advance (i := 136) rfl) ?_
                        rw [show ((nI (10 * (vlN b z (y - z)))) + (bA b n y)) - (nI 48) = nI (10 * vlN b z (y - z) + d10 b y) from (by rw [bA_in (bA_d c231).1, (dig_d hT (bA_d c231).1 (bA_d c231).2).1, nI_add, nI_sub (by omega)]; exact congrArg nI (by omega))]
                        refine lv_goto (tgt := 274) hx hb (dg D_X12_advance (i := 137) rfl) (by decide) ?_
                        refine r_puti (v := nI (10 * vlN b z (y - z) + d10 b y)) (ty := .int) X hW hS FI_X12_144 rfl (by decide) rfl rfl (by decide +kernel) rfl rfl (dg D_X12_advance (i := 140) rfl) (fun H locs hW hS => ?_)
                        have hF : Fr STk I (u2 K220 67 16 (nI (10 * vlN b z (y - z) + d10 b y))) := Fr.put hF rfl
                        have hb3 : (u2 K220 67 16 (nI (10 * vlN b z (y - z) + d10 b y))) 73 = b := by rw [u2_ne (by decide)]; exact hb3
                        obtain ⟨J274, eJ274⟩ : ∃ J, J = u2 K220 67 16 (nI (10 * vlN b z (y - z) + d10 b y)) := ⟨_, rfl⟩
                        rw [← eJ274] at hW hF hb3
                        have hln : J274 67 11 = nI n := by rw [eJ274, u2_off (Or.inr (by decide))]; exact hln
                        have hst : J274 67 12 = nI z := by rw [eJ274, u2_off (Or.inr (by decide))]; exact hst
                        have hkw : J274 67 15 = (-1) := by rw [eJ274, u2_off (Or.inr (by decide))]; exact hkw
                        have nx : J274 67 13 = nI y := by rw [eJ274, u2_off (Or.inr (by decide))]; exact nx
                        have hvl : J274 67 16 = nI (10 * vlN b z (y - z) + d10 b y) := by rw [eJ274]; exact u2_at
                        refine lv_aload_n hx hb (dg D_X12_advance (i := 141) rfl) rfl (lv_at hl 0 rfl) ?_
                        refine lv_dup hx hb (dg D_X12_advance (i := 142) rfl) rfl ?_
                        refine r_geti (v := nI y) X hW FI_X12_110 rfl (by decide) rfl nx (dg D_X12_advance (i := 143) rfl) ?_
                        refine n_iconst (a := 1) hx hb (dg D_X12_advance (i := 144) rfl) rfl ?_
                        refine n_iadd hx hb (dg D_X12_advance (i := 145) rfl) ?_
                        refine r_puti (v := nI (y + 1)) (ty := .int) X hW hS FI_X12_110 rfl (by decide) rfl rfl (by decide +kernel) rfl rfl (dg D_X12_advance (i := 146) rfl) (fun H locs hW hS => ?_)
                        have hF : Fr STk I (u2 J274 67 13 (nI (y + 1))) := Fr.put hF rfl
                        have hb3 : (u2 J274 67 13 (nI (y + 1))) 73 = b := by rw [u2_ne (by decide)]; exact hb3
                        obtain ⟨J284, eJ284⟩ : ∃ J, J = u2 J274 67 13 (nI (y + 1)) := ⟨_, rfl⟩
                        rw [← eJ284] at hW hF hb3
                        have hln : J284 67 11 = nI n := by rw [eJ284, u2_off (Or.inr (by decide))]; exact hln
                        have hst : J284 67 12 = nI z := by rw [eJ284, u2_off (Or.inr (by decide))]; exact hst
                        have hkw : J284 67 15 = (-1) := by rw [eJ284, u2_off (Or.inr (by decide))]; exact hkw
                        have nx : J284 67 13 = nI (y + 1) := by rw [eJ284]; exact u2_at
                        have hvl : J284 67 16 = nI (10 * vlN b z (y - z) + d10 b y) := by rw [eJ284, u2_off (Or.inr (by decide))]; exact hvl
                        refine lv_goto (tgt := 220) hx hb (dg D_X12_advance (i := 147) rfl) (by decide) ?_
                        exact ih220 (bA_d c231).1 J284 _ _ _ hF hb3 nx (by rw [show y + 1 - z = y - z + 1 by omega]; show _ = nI (if y - z < 4 then _ else _); rw [if_pos (by omega), show z + (y - z) = y by omega]; exact hvl) hln hst hkw (by omega) (by rw [← hy2]; exact (runE_step (bA_d c231).1 (bA_d c231).2).symm) hW hS (lv_sub hl [0, 1] rfl))
                exact loop220 z (by omega) J217 _ _ _ hF hb3 nx (by rw [Nat.sub_self]; exact hv0) hln hst hkw (Nat.le_refl _) rfl hW hS (lv_sub hl [1, 0] rfl)
            · refine lv_aload_n hx hb (dg D_X12_advance (i := 41) rfl) rfl (lv_at hl 1 rfl) ?_
              refine lv_lconst (v := 0) hx hb (dg D_X12_advance (i := 42) rfl) rfl ?_
              refine r_putl (v := 0) X hW hS FI_X12_129 rfl (by decide) rfl rfl (by decide +kernel) (dg D_X12_advance (i := 43) rfl) (fun H locs hW hS => ?_)
              have hFL : FL SLk L (u2L L 67 19 0) := FL.put hFL rfl
              obtain ⟨LJ83, eLJ83⟩ : ∃ J, J = u2L L 67 19 0 := ⟨_, rfl⟩
              rw [← eLJ83] at hW hFL 
              have loop86 := up_ind (P := fun y => ∀ (K86 : CI) (KL86 : CL) (H : Heap) (locs : List Loc) (ls : Array Slot), (Fr STk I K86) → (K86 73 = b) → (K86 67 13 = nI y) → (K86 67 11 = nI n) → (K86 67 12 = nI z) → (K86 67 15 = (-1)) → (FL SLk L KL86) → (KL86 67 19 = nmI b z (y - z)) → (z ≤ y) → (runE isL b n y = lE b n z) → Wd G bs cy K86 KL86 R H → va_S (Aq bs) s.heap H locs → lv_has ls 2 [(0, .ref (bs + 67)), (1, .int (bA b n z))] → W p l e (rmL 6 0 0) s m args below meth c H locs 0 0 Qf (F0 m 86 ls [])) n (fun y hx86 ih86 => by
                  intro K86 KL86 H locs ls hF hb3 nx hln hst hkw hFL hnm hy1 hy2 hW hS hl
                  refine lv_aload_n hx hb (dg D_X12_advance (i := 44) rfl) rfl (lv_at hl 0 rfl) ?_
                  refine lv_aload_n hx hb (dg D_X12_advance (i := 45) rfl) rfl (lv_at hl 0 rfl) ?_
                  refine r_geti (v := nI y) X hW FI_X12_110 rfl (by decide) rfl nx (dg D_X12_advance (i := 46) rfl) ?_
                  refine callVi X hW hS hR (c_X12_byteAt (I := K86) b n y (by first | assumption | omega | decide | exact hP.1) (by first | assumption | omega | decide | exact hP.1) (by first | assumption | omega | decide | exact hP.1) (by first | assumption | omega | decide | exact hP.1)) (by decide) UVX12_byteAt LK_X12_113 rfl (by decide) rfl rfl rfl (Nat.le_of_ble_eq_true rfl) hl hcs (dg D_X12_advance (i := 47) rfl) (fun r91 I91 L1 R1 H locs hq hW hS => ?_)
                  obtain ⟨rfl, rfl, rfl, rfl⟩ := hq
                  refine callSi X hW hS hR (c_X12_isLetter (I := K86) (bA b n y)) (by decide) USX12_isLetter LK_X12_126 rfl rfl (Nat.le_of_ble_eq_true rfl) hl hcs (dg D_X12_advance (i := 48) rfl) (fun r94 I94 L1 R1 H locs hq hW hS => ?_)
                  obtain ⟨rfl, rfl, rfl, rfl⟩ := hq
                  refine z_if_eq (tgt := 162) hx hb (dg D_X12_advance (i := 49) rfl) (by decide) (fun c97 => ?_) (fun c97 => ?_)
                  · have hye : lE b n z = y := hy2.symm.trans (runE_stop (by omega) (bA_nl (by omega) c97))
                    refine lv_aload_n hx hb (dg D_X12_advance (i := 83) rfl) rfl (lv_at hl 0 rfl) ?_
                    refine lv_aload_n hx hb (dg D_X12_advance (i := 84) rfl) rfl (lv_at hl 0 rfl) ?_
                    refine r_geti (v := nI y) X hW FI_X12_110 rfl (by decide) rfl nx (dg D_X12_advance (i := 85) rfl) ?_
                    refine lv_aload_n hx hb (dg D_X12_advance (i := 86) rfl) rfl (lv_at hl 0 rfl) ?_
                    refine r_geti (v := nI z) X hW FI_X12_117 rfl (by decide) rfl hst (dg D_X12_advance (i := 87) rfl) ?_
                    refine n_isub hx hb (dg D_X12_advance (i := 88) rfl) (by omega) ?_
                    refine lv_bipush (v := nI 8) hx hb (dg D_X12_advance (i := 89) rfl) (by decide) ?_
                    refine n_icmp_le (tgt := 181) hx hb (by omega) (by omega) (dg D_X12_advance (i := 90) rfl) (by decide) (fun c174 => ?_) (fun c174 => ?_)
                    · refine n_iconst (a := 2) hx hb (dg D_X12_advance (i := 93) rfl) rfl ?_
                      refine r_puti (v := nI 2) (ty := .int) X hW hS FI_X12_123 rfl (by decide) rfl rfl (by decide +kernel) rfl rfl (dg D_X12_advance (i := 94) rfl) (fun H locs hW hS => ?_)
                      have hF : Fr STk I (u2 K86 67 14 (nI 2)) := Fr.put hF rfl
                      have hb3 : (u2 K86 67 14 (nI 2)) 73 = b := by rw [u2_ne (by decide)]; exact hb3
                      obtain ⟨J182, eJ182⟩ : ∃ J, J = u2 K86 67 14 (nI 2) := ⟨_, rfl⟩
                      rw [← eJ182] at hW hF hb3
                      have hln : J182 67 11 = nI n := by rw [eJ182, u2_off (Or.inr (by decide))]; exact hln
                      have hst : J182 67 12 = nI z := by rw [eJ182, u2_off (Or.inr (by decide))]; exact hst
                      have hkw : J182 67 15 = (-1) := by rw [eJ182, u2_off (Or.inr (by decide))]; exact hkw
                      have nx : J182 67 13 = nI y := by rw [eJ182, u2_off (Or.inr (by decide))]; exact nx
                      have htk : J182 67 14 = nI 2 := by rw [eJ182]; exact u2_at
                      refine lv_aload_n hx hb (dg D_X12_advance (i := 95) rfl) rfl (lv_at hl 0 rfl) ?_
                      refine lv_aload_n hx hb (dg D_X12_advance (i := 96) rfl) rfl (lv_at hl 0 rfl) ?_
                      refine r_geti (v := nI 2) X hW FI_X12_123 rfl (by decide) rfl htk (dg D_X12_advance (i := 97) rfl) ?_
                      refine n_iconst (a := 2) hx hb (dg D_X12_advance (i := 98) rfl) rfl ?_
                      refine n_icmp_ne (tgt := 201) hx hb (by omega) (by omega) (dg D_X12_advance (i := 99) rfl) (by decide) (fun c191 => ?_) (fun c191 => ?_)
                      · exact absurd c191 (by decide)
                      · refine lv_aload_n hx hb (dg D_X12_advance (i := 100) rfl) rfl (lv_at hl 0 rfl) ?_
                        refine callVi X hW hS hR (c_X12_keywordHere (I := J182) b n z (by first | assumption | omega | decide | exact hP.1) (by first | assumption | omega | decide | exact hP.1) (by rw [hye]; exact nx) (by first | assumption | omega | decide | exact hP.1) (by first | assumption | omega | decide | exact hP.1) (⟨(bA_l c78).1, (bA_l c78).2, by rw [hye]; omega⟩)) (by decide) UVX12_keywordHere LK_X12_137 rfl (by decide) rfl rfl rfl (Nat.le_of_ble_eq_true rfl) hl hcs (dg D_X12_advance (i := 101) rfl) (fun r195 I195 L1 R1 H locs hq hW hS => ?_)
                        obtain ⟨rfl, rfl, rfl, rfl⟩ := hq
                        refine lv_goto (tgt := 202) hx hb (dg D_X12_advance (i := 102) rfl) (by decide) ?_
                        refine r_puti (v := kwS b n z) (ty := .int) X hW hS FI_X12_120 rfl (by decide) rfl rfl (by decide +kernel) rfl rfl (dg D_X12_advance (i := 104) rfl) (fun H locs hW hS => ?_)
                        have hF : Fr STk I (u2 J182 67 15 (kwS b n z)) := Fr.put hF rfl
                        have hb3 : (u2 J182 67 15 (kwS b n z)) 73 = b := by rw [u2_ne (by decide)]; exact hb3
                        obtain ⟨J202, eJ202⟩ : ∃ J, J = u2 J182 67 15 (kwS b n z) := ⟨_, rfl⟩
                        rw [← eJ202] at hW hF hb3
                        have hln : J202 67 11 = nI n := by rw [eJ202, u2_off (Or.inr (by decide))]; exact hln
                        have hst : J202 67 12 = nI z := by rw [eJ202, u2_off (Or.inr (by decide))]; exact hst
                        have hkw : J202 67 15 = kwS b n z := by rw [eJ202]; exact u2_at
                        have nx : J202 67 13 = nI y := by rw [eJ202, u2_off (Or.inr (by decide))]; exact nx
                        have htk : J202 67 14 = nI 2 := by rw [eJ202, u2_off (Or.inr (by decide))]; exact htk
                        have hkw : J202 67 15 = kwS b n z := by rw [eJ202]; exact u2_at
                        refine lv_goto (tgt := 340) hx hb (dg D_X12_advance (i := 105) rfl) (by decide) ?_
                        refine n_iconst (a := 1) hx hb (dg D_X12_advance (i := 175) rfl) rfl ?_
                        obtain ⟨hzn, hzL⟩ := bA_l c78
                        have hye : lE b n z = y := hy2.symm.trans (runE_stop (by omega) (bA_nl (by omega) c97))
                        obtain ⟨ht1, ht2⟩ := tok_let hs9 hzn hzL hye
                        rw [if_neg (by omega)] at ht2
                        exact fin (dg D_X12_advance (i := 176) rfl) hW hS (show _ = bI true from rfl) ⟨rfl, hF, ⟨by rw [hs9]; exact hst, by rw [ht1]; exact nx, by rw [ht2]; exact htk, by unfold kwI; rw [ht2, if_pos rfl, hs9]; exact hkw, fun w => absurd w (by rw [ht2]; decide), fun _ => by rw [hs9, hnm, nm_wF hT (y - z) (by omega) (fun i hi => lE_in hT (Nat.le_of_lt hzn) (by omega))]; unfold w27; rw [hye]⟩, hFL, rfl⟩
                    · refine n_iconst (a := 1) hx hb (dg D_X12_advance (i := 91) rfl) rfl ?_
                      refine lv_goto (tgt := 182) hx hb (dg D_X12_advance (i := 92) rfl) (by decide) ?_
                      refine r_puti (v := nI 1) (ty := .int) X hW hS FI_X12_123 rfl (by decide) rfl rfl (by decide +kernel) rfl rfl (dg D_X12_advance (i := 94) rfl) (fun H locs hW hS => ?_)
                      have hF : Fr STk I (u2 K86 67 14 (nI 1)) := Fr.put hF rfl
                      have hb3 : (u2 K86 67 14 (nI 1)) 73 = b := by rw [u2_ne (by decide)]; exact hb3
                      obtain ⟨J182, eJ182⟩ : ∃ J, J = u2 K86 67 14 (nI 1) := ⟨_, rfl⟩
                      rw [← eJ182] at hW hF hb3
                      have hln : J182 67 11 = nI n := by rw [eJ182, u2_off (Or.inr (by decide))]; exact hln
                      have hst : J182 67 12 = nI z := by rw [eJ182, u2_off (Or.inr (by decide))]; exact hst
                      have hkw : J182 67 15 = (-1) := by rw [eJ182, u2_off (Or.inr (by decide))]; exact hkw
                      have nx : J182 67 13 = nI y := by rw [eJ182, u2_off (Or.inr (by decide))]; exact nx
                      have htk : J182 67 14 = nI 1 := by rw [eJ182]; exact u2_at
                      refine lv_aload_n hx hb (dg D_X12_advance (i := 95) rfl) rfl (lv_at hl 0 rfl) ?_
                      refine lv_aload_n hx hb (dg D_X12_advance (i := 96) rfl) rfl (lv_at hl 0 rfl) ?_
                      refine r_geti (v := nI 1) X hW FI_X12_123 rfl (by decide) rfl htk (dg D_X12_advance (i := 97) rfl) ?_
                      refine n_iconst (a := 2) hx hb (dg D_X12_advance (i := 98) rfl) rfl ?_
                      refine n_icmp_ne (tgt := 201) hx hb (by omega) (by omega) (dg D_X12_advance (i := 99) rfl) (by decide) (fun c191 => ?_) (fun c191 => ?_)
                      · refine lv_iconst (v := -1) hx hb (dg D_X12_advance (i := 103) rfl) (by decide) ?_
                        refine r_puti (v := (-1)) (ty := .int) X hW hS FI_X12_120 rfl (by decide) rfl rfl (by decide +kernel) rfl rfl (dg D_X12_advance (i := 104) rfl) (fun H locs hW hS => ?_)
                        have hF : Fr STk I (u2 J182 67 15 ((-1))) := Fr.put hF rfl
                        have hb3 : (u2 J182 67 15 ((-1))) 73 = b := by rw [u2_ne (by decide)]; exact hb3
                        obtain ⟨J202, eJ202⟩ : ∃ J, J = u2 J182 67 15 ((-1)) := ⟨_, rfl⟩
                        rw [← eJ202] at hW hF hb3
                        have hln : J202 67 11 = nI n := by rw [eJ202, u2_off (Or.inr (by decide))]; exact hln
                        have hst : J202 67 12 = nI z := by rw [eJ202, u2_off (Or.inr (by decide))]; exact hst
                        have hkw : J202 67 15 = (-1) := by rw [eJ202]; exact u2_at
                        have nx : J202 67 13 = nI y := by rw [eJ202, u2_off (Or.inr (by decide))]; exact nx
                        have htk : J202 67 14 = nI 1 := by rw [eJ202, u2_off (Or.inr (by decide))]; exact htk
                        have hkw : J202 67 15 = (-1) := by rw [eJ202]; exact u2_at
                        refine lv_goto (tgt := 340) hx hb (dg D_X12_advance (i := 105) rfl) (by decide) ?_
                        refine n_iconst (a := 1) hx hb (dg D_X12_advance (i := 175) rfl) rfl ?_
                        obtain ⟨hzn, hzL⟩ := bA_l c78
                        have hye : lE b n z = y := hy2.symm.trans (runE_stop (by omega) (bA_nl (by omega) c97))
                        obtain ⟨ht1, ht2⟩ := tok_let hs9 hzn hzL hye
                        rw [if_pos (by omega)] at ht2
                        exact fin (dg D_X12_advance (i := 176) rfl) hW hS (show _ = bI true from rfl) ⟨rfl, hF, ⟨by rw [hs9]; exact hst, by rw [ht1]; exact nx, by rw [ht2]; exact htk, by unfold kwI; rw [ht2]; exact hkw, fun w => absurd w (by rw [ht2]; decide), fun w => absurd w (by rw [ht2]; decide)⟩, hFL, rfl⟩
                      · exact absurd c191 (by decide)
                  · refine lv_aload_n hx hb (dg D_X12_advance (i := 50) rfl) rfl (lv_at hl 0 rfl) ?_
                    refine lv_aload_n hx hb (dg D_X12_advance (i := 51) rfl) rfl (lv_at hl 0 rfl) ?_
                    refine r_geti (v := nI y) X hW FI_X12_110 rfl (by decide) rfl nx (dg D_X12_advance (i := 52) rfl) ?_
                    refine lv_aload_n hx hb (dg D_X12_advance (i := 53) rfl) rfl (lv_at hl 0 rfl) ?_
                    refine r_geti (v := nI z) X hW FI_X12_117 rfl (by decide) rfl hst (dg D_X12_advance (i := 54) rfl) ?_
                    refine n_isub hx hb (dg D_X12_advance (i := 55) rfl) (by omega) ?_
                    refine lv_bipush (v := nI 8) hx hb (dg D_X12_advance (i := 56) rfl) (by decide) ?_
                    refine n_icmp_ge (tgt := 142) hx hb (by omega) (by omega) (dg D_X12_advance (i := 57) rfl) (by decide) (fun c112 => ?_) (fun c112 => ?_)
                    · refine lv_aload_n hx hb (dg D_X12_advance (i := 73) rfl) rfl (lv_at hl 0 rfl) ?_
                      refine r_getl (v := nmI b z (y - z)) X hW FI_X12_129 rfl (by decide) rfl hnm (dg D_X12_advance (i := 74) rfl) ?_
                      refine r_putl (v := nmI b z (y - z)) X hW hS FI_X12_129 rfl (by decide) rfl rfl (by decide +kernel) (dg D_X12_advance (i := 75) rfl) (fun H locs hW hS => ?_)
                      have hFL : FL SLk L (u2L KL86 67 19 (nmI b z (y - z))) := FL.put hFL rfl
                      obtain ⟨LJ146, eLJ146⟩ : ∃ J, J = u2L KL86 67 19 (nmI b z (y - z)) := ⟨_, rfl⟩
                      rw [← eLJ146] at hW hFL 
                      refine lv_aload_n hx hb (dg D_X12_advance (i := 76) rfl) rfl (lv_at hl 0 rfl) ?_
                      refine lv_dup hx hb (dg D_X12_advance (i := 77) rfl) rfl ?_
                      refine r_geti (v := nI y) X hW FI_X12_110 rfl (by decide) rfl nx (dg D_X12_advance (i := 78) rfl) ?_
                      refine n_iconst (a := 1) hx hb (dg D_X12_advance (i := 79) rfl) rfl ?_
                      refine n_iadd hx hb (dg D_X12_advance (i := 80) rfl) ?_
                      refine r_puti (v := nI (y + 1)) (ty := .int) X hW hS FI_X12_110 rfl (by decide) rfl rfl (by decide +kernel) rfl rfl (dg D_X12_advance (i := 81) rfl) (fun H locs hW hS => ?_)
                      have hF : Fr STk I (u2 K86 67 13 (nI (y + 1))) := Fr.put hF rfl
                      have hb3 : (u2 K86 67 13 (nI (y + 1))) 73 = b := by rw [u2_ne (by decide)]; exact hb3
                      obtain ⟨J156, eJ156⟩ : ∃ J, J = u2 K86 67 13 (nI (y + 1)) := ⟨_, rfl⟩
                      rw [← eJ156] at hW hF hb3
                      have hln : J156 67 11 = nI n := by rw [eJ156, u2_off (Or.inr (by decide))]; exact hln
                      have hst : J156 67 12 = nI z := by rw [eJ156, u2_off (Or.inr (by decide))]; exact hst
                      have hkw : J156 67 15 = (-1) := by rw [eJ156, u2_off (Or.inr (by decide))]; exact hkw
                      have nx : J156 67 13 = nI (y + 1) := by rw [eJ156]; exact u2_at
                      refine lv_goto (tgt := 86) hx hb (dg D_X12_advance (i := 82) rfl) (by decide) ?_
                      exact ih86 (bA_l c97).1 J156 LJ146 _ _ _ hF hb3 nx hln hst hkw hFL (by rw [eLJ146, show y + 1 - z = y - z + 1 by omega]; show _ = (if y - z < 8 then _ else _); rw [if_neg (by omega), u2L_at]) (by omega) (by rw [← hy2]; exact (runE_step (bA_l c97).1 (bA_l c97).2).symm) hW hS (lv_sub hl [0, 1] rfl)
                    · refine r_ldc2 X CK_X12_133 (dg D_X12_advance (i := 58) rfl) ?_
                      refine lv_aload_n hx hb (dg D_X12_advance (i := 59) rfl) rfl (lv_at hl 0 rfl) ?_
                      refine r_getl (v := nmI b z (y - z)) X hW FI_X12_129 rfl (by decide) rfl hnm (dg D_X12_advance (i := 60) rfl) ?_
                      refine lv_lmul hx hb (dg D_X12_advance (i := 61) rfl) ?_
                      refine lv_aload_n hx hb (dg D_X12_advance (i := 62) rfl) rfl (lv_at hl 0 rfl) ?_
                      refine lv_aload_n hx hb (dg D_X12_advance (i := 63) rfl) rfl (lv_at hl 0 rfl) ?_
                      refine r_geti (v := nI y) X hW FI_X12_110 rfl (by decide) rfl nx (dg D_X12_advance (i := 64) rfl) ?_
                      refine callVi X hW hS hR (c_X12_byteAt (I := K86) b n y (by first | assumption | omega | decide | exact hP.1) (by first | assumption | omega | decide | exact hP.1) (by first | assumption | omega | decide | exact hP.1) (by first | assumption | omega | decide | exact hP.1)) (by decide) UVX12_byteAt LK_X12_113 rfl (by decide) rfl rfl rfl (Nat.le_of_ble_eq_true rfl) hl hcs (dg D_X12_advance (i := 65) rfl) (fun r128 I128 L1 R1 H locs hq hW hS => ?_)
                      obtain ⟨rfl, rfl, rfl, rfl⟩ := hq
                      refine lv_i2l (v := (bA b n y).toInt64) hx hb (dg D_X12_advance (i := 66) rfl) rfl ?_
                      refine lv_ladd hx hb (dg D_X12_advance (i := 67) rfl) ?_
                      refine r_ldc2 X CK_X12_135 (dg D_X12_advance (i := 68) rfl) ?_
                      refine lv_lsub hx hb (dg D_X12_advance (i := 69) rfl) ?_
                      refine lv_lconst (v := 1) hx hb (dg D_X12_advance (i := 70) rfl) rfl ?_
                      refine lv_ladd hx hb (dg D_X12_advance (i := 71) rfl) ?_
                      refine lv_goto (tgt := 146) hx hb (dg D_X12_advance (i := 72) rfl) (by decide) ?_
                      refine r_putl (v := (((((27)) * (nmI b z (y - z))) + ((bA b n y).toInt64)) - ((97))) + 1) X hW hS FI_X12_129 rfl (by decide) rfl rfl (by decide +kernel) (dg D_X12_advance (i := 75) rfl) (fun H locs hW hS => ?_)
                      have hFL : FL SLk L (u2L KL86 67 19 ((((((27)) * (nmI b z (y - z))) + ((bA b n y).toInt64)) - ((97))) + 1)) := FL.put hFL rfl
                      obtain ⟨LJ146, eLJ146⟩ : ∃ J, J = u2L KL86 67 19 ((((((27)) * (nmI b z (y - z))) + ((bA b n y).toInt64)) - ((97))) + 1) := ⟨_, rfl⟩
                      rw [← eLJ146] at hW hFL 
                      refine lv_aload_n hx hb (dg D_X12_advance (i := 76) rfl) rfl (lv_at hl 0 rfl) ?_
                      refine lv_dup hx hb (dg D_X12_advance (i := 77) rfl) rfl ?_
                      refine r_geti (v := nI y) X hW FI_X12_110 rfl (by decide) rfl nx (dg D_X12_advance (i := 78) rfl) ?_
                      refine n_iconst (a := 1) hx hb (dg D_X12_advance (i := 79) rfl) rfl ?_
                      refine n_iadd hx hb (dg D_X12_advance (i := 80) rfl) ?_
                      refine r_puti (v := nI (y + 1)) (ty := .int) X hW hS FI_X12_110 rfl (by decide) rfl rfl (by decide +kernel) rfl rfl (dg D_X12_advance (i := 81) rfl) (fun H locs hW hS => ?_)
                      have hF : Fr STk I (u2 K86 67 13 (nI (y + 1))) := Fr.put hF rfl
                      have hb3 : (u2 K86 67 13 (nI (y + 1))) 73 = b := by rw [u2_ne (by decide)]; exact hb3
                      obtain ⟨J156, eJ156⟩ : ∃ J, J = u2 K86 67 13 (nI (y + 1)) := ⟨_, rfl⟩
                      rw [← eJ156] at hW hF hb3
                      have hln : J156 67 11 = nI n := by rw [eJ156, u2_off (Or.inr (by decide))]; exact hln
                      have hst : J156 67 12 = nI z := by rw [eJ156, u2_off (Or.inr (by decide))]; exact hst
                      have hkw : J156 67 15 = (-1) := by rw [eJ156, u2_off (Or.inr (by decide))]; exact hkw
                      have nx : J156 67 13 = nI (y + 1) := by rw [eJ156]; exact u2_at
                      refine lv_goto (tgt := 86) hx hb (dg D_X12_advance (i := 82) rfl) (by decide) ?_
                      exact ih86 (bA_l c97).1 J156 LJ146 _ _ _ hF hb3 nx hln hst hkw hFL (by rw [eLJ146, show y + 1 - z = y - z + 1 by omega]; show _ = (if y - z < 8 then _ else _); rw [if_pos (by omega), u2L_at, show z + (y - z) = y by omega, bA_in (bA_l c97).1]) (by omega) (by rw [← hy2]; exact (runE_step (bA_l c97).1 (bA_l c97).2).symm) hW hS (lv_sub hl [0, 1] rfl))
              exact loop86 z (by omega) J49 LJ83 _ _ _ hF hb3 nx hln hst hkw hFL (by rw [eLJ83, Nat.sub_self]; exact u2L_at) (Nat.le_refl _) rfl hW hS (lv_sub hl [1, 0] rfl)
          · refine lv_aload_n hx hb (dg D_X12_advance (i := 34) rfl) rfl (lv_at hl 1 rfl) ?_
            refine n_iconst (a := 0) hx hb (dg D_X12_advance (i := 35) rfl) rfl ?_
            refine r_puti (v := nI 0) (ty := .int) X hW hS FI_X12_123 rfl (by decide) rfl rfl (by decide +kernel) rfl rfl (dg D_X12_advance (i := 36) rfl) (fun H locs hW hS => ?_)
            have hF : Fr STk I (u2 J49 67 14 (nI 0)) := Fr.put hF rfl
            have hb3 : (u2 J49 67 14 (nI 0)) 73 = b := by rw [u2_ne (by decide)]; exact hb3
            obtain ⟨J68, eJ68⟩ : ∃ J, J = u2 J49 67 14 (nI 0) := ⟨_, rfl⟩
            rw [← eJ68] at hW hF hb3
            have hln : J68 67 11 = nI n := by rw [eJ68, u2_off (Or.inr (by decide))]; exact hln
            have nx : J68 67 13 = nI z := by rw [eJ68, u2_off (Or.inr (by decide))]; exact nx
            have hst : J68 67 12 = nI z := by rw [eJ68, u2_off (Or.inr (by decide))]; exact hst
            have hkw : J68 67 15 = (-1) := by rw [eJ68, u2_off (Or.inr (by decide))]; exact hkw
            have htk : J68 67 14 = nI 0 := by rw [eJ68]; exact u2_at
            refine lv_goto (tgt := 340) hx hb (dg D_X12_advance (i := 37) rfl) (by decide) ?_
            refine n_iconst (a := 1) hx hb (dg D_X12_advance (i := 175) rfl) rfl ?_
            obtain ⟨ht1, ht2⟩ := tok_end hs9 (bA_m1 hT (by first | exact c63 | exact Classical.not_not.mp c63))
            exact fin (dg D_X12_advance (i := 176) rfl) hW hS (show _ = bI true from rfl) ⟨rfl, hF, ⟨by rw [hs9]; exact hst, by rw [ht1]; exact nx, by rw [ht2]; exact htk, by unfold kwI; rw [ht2]; exact hkw, fun w => absurd w (by rw [ht2]; decide), fun w => absurd w (by rw [ht2]; decide)⟩, hFL, rfl⟩
        · have hzs := bA_sp.mp (Or.inr (by first | exact c23 | exact Classical.not_not.mp c23))
          refine lv_aload_n hx hb (dg D_X12_advance (i := 12) rfl) rfl (lv_at hl 0 rfl) ?_
          refine lv_dup hx hb (dg D_X12_advance (i := 13) rfl) rfl ?_
          refine r_geti (v := nI z) X hW FI_X12_110 rfl (by decide) rfl nx (dg D_X12_advance (i := 14) rfl) ?_
          refine n_iconst (a := 1) hx hb (dg D_X12_advance (i := 15) rfl) rfl ?_
          refine n_iadd hx hb (dg D_X12_advance (i := 16) rfl) ?_
          refine r_puti (v := nI (z + 1)) (ty := .int) X hW hS FI_X12_110 rfl (by decide) rfl rfl (by decide +kernel) rfl rfl (dg D_X12_advance (i := 17) rfl) (fun H locs hW hS => ?_)
          have hF : Fr STk I (u2 K0 67 13 (nI (z + 1))) := Fr.put hF rfl
          have hb3 : (u2 K0 67 13 (nI (z + 1))) 73 = b := by rw [u2_ne (by decide)]; exact hb3
          obtain ⟨J33, eJ33⟩ : ∃ J, J = u2 K0 67 13 (nI (z + 1)) := ⟨_, rfl⟩
          rw [← eJ33] at hW hF hb3
          have hln : J33 67 11 = nI n := by rw [eJ33, u2_off (Or.inr (by decide))]; exact hln
          have nx : J33 67 13 = nI (z + 1) := by rw [eJ33]; exact u2_at
          refine lv_goto (tgt := 0) hx hb (dg D_X12_advance (i := 18) rfl) (by decide) ?_
          exact ih0 (by omega) J33 _ _ _ hF hb3 nx hln (by rw [← hz1]; exact (runE_step hzs.1 hzs.2).symm) hW hS (lv_sub hl [0] rfl))
  exact loop0 p9 hp I _ _ _ hF hb3 hnx hln rfl hW hS (lv_sub hl [0] rfl)

