set_option maxHeartbeats 4000000 in
set_option maxRecDepth 100000 in
theorem c_L_among {l : Launch} {G : va_G} {bs : Nat} {cy : Nat → ClassId} {I : CI} {L : CL} {R : CR} (v : Int32) (n : Nat) (h0 : 0 < n) (hn9 : n < 2 ^ 31) : MTi l G bs cy ML_among 1 [.int v, .int (nI n)] I L R (fun r I1 L1 R1 => nI (amN v n) = r ∧ I = I1 ∧ L = L1 ∧ R = R1) := by
  refine MTi.of (own := RL) pn_RL rfl (Nat.le_of_ble_eq_true rfl) ?_
  intro p e s m args below meth c Qf X hW hS fin ls hl
  have hx := X.1
  have hb := X.2.1
  have hR : RmOK (rmL 1 0 0) 1 := ⟨rfl, rfl⟩
  have hcs : 0 ≤ (rmL 1 0 0).cells ∧ 0 ≤ (rmL 1 0 0).slots := ⟨Nat.zero_le _, Nat.zero_le _⟩
  have hl : lv_has ls 3 [(0, .int v), (1, .int (nI n))] := hl
  refine lv_iload_n hx hb (dg D_L_among (i := 0) rfl) rfl (lv_at hl 0 rfl) ?_
  refine lv_iload_n hx hb (dg D_L_among (i := 1) rfl) rfl (lv_at hl 1 rfl) ?_
  refine lv_irem hx hb (dg D_L_among (i := 2) rfl) (nI_ne0 (by omega) (by omega)) ?_
  refine lv_istore_n (lv' := [(2, .int (v - v / (nI n) * (nI n))), (0, .int v), (1, .int (nI n))]) hx hb (dg D_L_among (i := 3) rfl) rfl hl (by decide) rfl (fun ls hl => ?_)
  refine lv_iload_n hx hb (dg D_L_among (i := 4) rfl) rfl (lv_at hl 0 rfl) ?_
  refine lv_if_ge (tgt := 14) hx hb (dg D_L_among (i := 5) rfl) (by decide) (fun c5 => ?_) (fun c5 => ?_)
  · refine lv_iload_n hx hb (dg D_L_among (i := 10) rfl) rfl (lv_at hl 0 rfl) ?_
    exact fin (dg D_L_among (i := 11) rfl) hW hS ⟨by rw [← amI_eq h0 hn9]; unfold amI; rw [if_neg (Int32.not_lt.mpr c5)], rfl, rfl, rfl⟩
  · refine lv_iload_n hx hb (dg D_L_among (i := 6) rfl) rfl (lv_at hl 0 rfl) ?_
    refine lv_iload_n hx hb (dg D_L_among (i := 7) rfl) rfl (lv_at hl 2 rfl) ?_
    refine lv_iadd hx hb (dg D_L_among (i := 8) rfl) ?_
    refine lv_goto (tgt := 15) hx hb (dg D_L_among (i := 9) rfl) (by decide) ?_
    exact fin (dg D_L_among (i := 11) rfl) hW hS ⟨by rw [← amI_eq h0 hn9]; unfold amI; rw [if_pos (Int32.not_le.mp c5)], rfl, rfl, rfl⟩

set_option maxHeartbeats 4000000 in
set_option maxRecDepth 100000 in
theorem c_L_cell {l : Launch} {G : va_G} {bs : Nat} {cy : Nat → ClassId} {I : CI} {L : CL} {R : CR} (k : Nat) (hk9 : k < 2 ^ 31) (hc9 : (cy 71 : Nat) < 2 ^ 31) : MTi l G bs cy ML_cell 1 [.ref (cy 70), .int (nI k)] I L R (fun r I1 L1 R1 => chs cy k = r ∧ I = I1 ∧ L = L1 ∧ R = R1) := by
  refine MTi.of (own := RL) pn_RL rfl (Nat.le_of_ble_eq_true rfl) ?_
  intro p e s m args below meth c Qf X hW hS fin ls hl
  have hx := X.1
  have hb := X.2.1
  have hR : RmOK (rmL 1 0 0) 1 := ⟨rfl, rfl⟩
  have hcs : 0 ≤ (rmL 1 0 0).cells ∧ 0 ≤ (rmL 1 0 0).slots := ⟨Nat.zero_le _, Nat.zero_le _⟩
  have hl : lv_has ls 2 [(0, .ref (cy 70)), (1, .int (nI k))] := hl
  refine lv_iload_n hx hb (dg D_L_cell (i := 0) rfl) rfl (lv_at hl 1 rfl) ?_
  refine lv_aload_n hx hb (dg D_L_cell (i := 1) rfl) rfl (lv_at hl 0 rfl) ?_
  refine rL_slen X hS (dg D_L_cell (i := 2) rfl) ?_
  refine n_icmp_ge (tgt := 12) hx hb (by omega) (by omega) (dg D_L_cell (i := 3) rfl) (by decide) (fun c3 => ?_) (fun c3 => ?_)
  · refine lv_sipush (v := nI 7919) hx hb (dg D_L_cell (i := 8) rfl) (by decide) ?_
    refine lv_iload_n hx hb (dg D_L_cell (i := 9) rfl) rfl (lv_at hl 1 rfl) ?_
    refine n_imul hx hb (dg D_L_cell (i := 10) rfl) ?_
    refine n_iconst (a := 5) hx hb (dg D_L_cell (i := 11) rfl) rfl ?_
    refine n_iadd hx hb (dg D_L_cell (i := 12) rfl) ?_
    exact fin (dg D_L_cell (i := 13) rfl) hW hS ⟨by unfold chs; rw [if_neg (Nat.not_lt.mpr c3), nI_mul, nI_add], rfl, rfl, rfl⟩
  · refine lv_aload_n hx hb (dg D_L_cell (i := 4) rfl) rfl (lv_at hl 0 rfl) ?_
    refine lv_iload_n hx hb (dg D_L_cell (i := 5) rfl) rfl (lv_at hl 1 rfl) ?_
    refine rL_sld (j := k) X hS (by omega) (dg D_L_cell (i := 6) rfl) ?_
    refine lv_goto (tgt := 19) hx hb (dg D_L_cell (i := 7) rfl) (by decide) ?_
    exact fin (dg D_L_cell (i := 13) rfl) hW hS ⟨by unfold chs; rw [if_pos c3], rfl, rfl, rfl⟩

set_option maxHeartbeats 4000000 in
set_option maxRecDepth 100000 in
theorem c_L_end {l : Launch} {G : va_G} {bs : Nat} {cy : Nat → ClassId} {I : CI} {L : CL} {R : CR} (σ : Row) (x : Nat) (yr : Nat) (hi : Inv σ) (hd : DR σ) (hw : LwAt I σ) (hLb : LwB σ) (hx9 : x < nS σ) (hy9 : yr < Yn σ) : MTi l G bs cy ML_end 1 [.ref (ad bs 67), .int (nI x), .int (nI yr)] I L R (fun r I1 L1 R1 => (rgS σ x (yr + 1)).1 = r ∧ Fr SLf I I1 ∧ I1 67 17 = (rgS σ x (yr + 1)).2 ∧ L = L1 ∧ R = R1) := by
  refine MTi.of (own := RL) pn_RL rfl (Nat.le_of_ble_eq_true rfl) ?_
  intro p e s m args below meth c Qf X hW hS fin ls hl
  have hx := X.1
  have hb := X.2.1
  have hR : RmOK (rmL 1 0 0) 1 := ⟨rfl, rfl⟩
  have hcs : 0 ≤ (rmL 1 0 0).cells ∧ 0 ≤ (rmL 1 0 0).slots := ⟨Nat.zero_le _, Nat.zero_le _⟩
  have hl : lv_has ls 5 [(0, .ref (ad bs 67)), (1, .int (nI x)), (2, .int (nI yr))] := hl
  have hF : Fr SLf I I := Fr.rf
  obtain ⟨hY, hY1, hY12, hLn, hL4, hSn, hS12, hGn, hG5⟩ := id hi
  obtain ⟨hY6, hS5, hG2, hL3, hcl0⟩ := id hLb
  refine lv_aload_n hx hb (dg D_L_end (i := 0) rfl) rfl (lv_at hl 0 rfl) ?_
  refine rL_get X hW FI_L_19 rfl (dg D_L_end (i := 1) rfl) ?_
  refine lv_iload_n hx hb (dg D_L_end (i := 2) rfl) rfl (lv_at hl 1 rfl) ?_
  refine rL_ald (j := x) (v := σ (10 + 5 * x + 2)) X hW rfl ⟨by decide, by decide⟩ rfl (by omega) (by decide) (hw.ru (by omega)) (dg D_L_end (i := 3) rfl) ?_
  refine lv_istore_n (lv' := [(3, .int (σ (10 + 5 * x + 2))), (0, .ref (ad bs 67)), (1, .int (nI x)), (2, .int (nI yr))]) hx hb (dg D_L_end (i := 4) rfl) rfl hl (by decide) rfl (fun ls hl => ?_)
  refine lv_aload_n hx hb (dg D_L_end (i := 5) rfl) rfl (lv_at hl 1 rfl) ?_
  refine n_iconst (a := 0) hx hb (dg D_L_end (i := 6) rfl) rfl ?_
  refine rL_puti (v := nI 0) X hW hS FI_L_185 (by decide +kernel) (by decide +kernel) rfl (by decide) (dg D_L_end (i := 7) rfl) (fun H locs hW hS => ?_)
  have hF : Fr SLf I (u2 I 67 17 (nI 0)) := Fr.put hF rfl
  have hw : LwAt (u2 I 67 17 (nI 0)) σ := hw.left
  obtain ⟨J9, eJ9⟩ : ∃ J, J = u2 I 67 17 (nI 0) := ⟨_, rfl⟩
  rw [← eJ9] at hW hF hw
  refine n_iconst (a := 0) hx hb (dg D_L_end (i := 8) rfl) rfl ?_
  refine lv_istore (lv' := [(4, .int (nI 0)), (3, .int (σ (10 + 5 * x + 2))), (0, .ref (ad bs 67)), (1, .int (nI x)), (2, .int (nI yr))]) hx hb (dg D_L_end (i := 9) rfl) hl (by decide) rfl (fun ls hl => ?_)
  have loop15 := up_ind (P := fun y9 => ∀ (K15 : CI) (H : Heap) (locs : List Loc) (ls : Array Slot) (v3 : Int32) (v4 : Int32), v3 = (rgS σ x y9).1 → v4 = nI y9 → (Fr SLf I K15) → (LwAt K15 σ) → (K15 67 17 = (rgS σ x y9).2) → Wd G bs cy K15 L R H → va_S (Aq bs) s.heap H locs → lv_has ls 5 [(0, .ref (ad bs 67)), (1, .int (nI x)), (2, .int (nI yr)), (3, .int v3), (4, .int v4)] → W p l e (rmL 1 0 0) s m args below meth c H locs 0 0 Qf (F0 m 15 ls [])) ((yr + 1)) (fun y9 hx15 ih15 => by
      intro K15 H locs ls v3 v4 q3 q4 hF hw hL17 hW hS hl
      subst q3
      subst q4
      refine lv_iload hx hb (dg D_L_end (i := 10) rfl) (lv_at hl 4 rfl) ?_
      refine lv_iload_n hx hb (dg D_L_end (i := 11) rfl) rfl (lv_at hl 2 rfl) ?_
      refine n_icmp_gt (tgt := 86) hx hb (by omega) (by omega) (dg D_L_end (i := 12) rfl) (by decide) (fun c18 => ?_) (fun c18 => ?_)
      · refine lv_iload_n hx hb (dg D_L_end (i := 48) rfl) rfl (lv_at hl 3 rfl) ?_
        exact fin (dg D_L_end (i := 49) rfl) hW hS ⟨by rw [show y9 = yr + 1 by omega], hF, by rw [show yr + 1 = y9 by omega]; exact hL17, rfl, rfl⟩
      · refine lv_aload_n hx hb (dg D_L_end (i := 13) rfl) rfl (lv_at hl 0 rfl) ?_
        refine rL_get X hW FI_L_39 rfl (dg D_L_end (i := 14) rfl) ?_
        refine lv_iload_n hx hb (dg D_L_end (i := 15) rfl) rfl (lv_at hl 1 rfl) ?_
        refine rL_aald (j := x) X hW rfl (by omega) (dg D_L_end (i := 16) rfl) ?_
        refine lv_iload hx hb (dg D_L_end (i := 17) rfl) (lv_at hl 4 rfl) ?_
        refine rL_ald (j := y9) (v := pnt σ x y9) X hW (shBy (by omega)) ⟨by omega, by show _ < 83; omega⟩ rfl (by omega) (by decide) (hw.by (by omega) (by omega)) (dg D_L_end (i := 18) rfl) ?_
        refine lv_if_lt (tgt := 46) hx hb (dg D_L_end (i := 19) rfl) (by decide) (fun c30 => ?_) (fun c30 => ?_)
        · refine lv_aload_n hx hb (dg D_L_end (i := 27) rfl) rfl (lv_at hl 0 rfl) ?_
          refine rL_get (v := .int ((rgS σ x y9).2)) X hW FI_L_185 (congrArg (fun z => some (Value.int z)) hL17) (dg D_L_end (i := 28) rfl) ?_
          refine lv_if_le (tgt := 66) hx hb (dg D_L_end (i := 29) rfl) (by decide) (fun c50 => ?_) (fun c50 => ?_)
          · have hrg : rgS σ x (y9 + 1) = (mn (nI 100) ((rgS σ x y9).1 + σ (10 + 5 * x + 3)), (rgS σ x y9).2) := rg_g (decide_eq_false (fun z => z (pn_lt hi hd (by omega) (by omega) c30))) c50
            refine lv_bipush (v := nI 100) hx hb (dg D_L_end (i := 37) rfl) (by decide) ?_
            refine lv_iload_n hx hb (dg D_L_end (i := 38) rfl) rfl (lv_at hl 3 rfl) ?_
            refine lv_aload_n hx hb (dg D_L_end (i := 39) rfl) rfl (lv_at hl 0 rfl) ?_
            refine rL_get X hW FI_L_22 rfl (dg D_L_end (i := 40) rfl) ?_
            refine lv_iload_n hx hb (dg D_L_end (i := 41) rfl) rfl (lv_at hl 1 rfl) ?_
            refine rL_ald (j := x) (v := σ (10 + 5 * x + 3)) X hW rfl ⟨by decide, by decide⟩ rfl (by omega) (by decide) (hw.ra (by omega)) (dg D_L_end (i := 42) rfl) ?_
            refine lv_iadd hx hb (dg D_L_end (i := 43) rfl) ?_
            refine r_min (v := mn (nI 100) ((rgS σ x y9).1 + σ (10 + 5 * x + 3))) X hR (by decide) LK_L_188 (Nat.le_of_ble_eq_true rfl) hl hcs rfl (dg D_L_end (i := 44) rfl) ?_
            refine lv_istore_n (lv' := [(3, .int (mn (nI 100) ((rgS σ x y9).1 + σ (10 + 5 * x + 3)))), (0, .ref (ad bs 67)), (1, .int (nI x)), (2, .int (nI yr)), (4, .int (nI y9))]) hx hb (dg D_L_end (i := 45) rfl) rfl hl (by decide) rfl (fun ls hl => ?_)
            refine lv_iinc (v := nI (y9 + 1)) (lv' := [(4, .int (nI (y9 + 1))), (3, .int (mn (nI 100) ((rgS σ x y9).1 + σ (10 + 5 * x + 3)))), (0, .ref (ad bs 67)), (1, .int (nI x)), (2, .int (nI yr))]) hx hb (dg D_L_end (i := 46) rfl) hl (k := 4) rfl (nI_add _ _) (by decide) rfl (fun ls hl => ?_)
            refine lv_goto (tgt := 15) hx hb (dg D_L_end (i := 47) rfl) (by decide) ?_
            exact ih15 (by omega) K15 _ _ _ _ _ (by rw [hrg]) (congrArg nI (by omega)) hF hw (by rw [hrg]; exact hL17) hW hS (lv_sub hl [2, 3, 4, 1, 0] rfl)
          · have hrg : rgS σ x (y9 + 1) = ((rgS σ x y9).1, (rgS σ x y9).2 + Int32.ofInt (-1)) := rg_d (decide_eq_false (fun z => z (pn_lt hi hd (by omega) (by omega) c30))) (Int32.not_le.mpr (Int32.not_le.mp c50))
            refine lv_aload_n hx hb (dg D_L_end (i := 30) rfl) rfl (lv_at hl 0 rfl) ?_
            refine lv_dup hx hb (dg D_L_end (i := 31) rfl) rfl ?_
            refine rL_get (v := .int ((rgS σ x y9).2)) X hW FI_L_185 (congrArg (fun z => some (Value.int z)) hL17) (dg D_L_end (i := 32) rfl) ?_
            refine n_iconst (a := 1) hx hb (dg D_L_end (i := 33) rfl) rfl ?_
            refine lv_isub hx hb (dg D_L_end (i := 34) rfl) ?_
            refine rL_puti (v := ((rgS σ x y9).2) - (nI 1)) X hW hS FI_L_185 (by decide +kernel) (by decide +kernel) rfl (by decide) (dg D_L_end (i := 35) rfl) (fun H locs hW hS => ?_)
            have hF : Fr SLf I (u2 K15 67 17 (((rgS σ x y9).2) - (nI 1))) := Fr.put hF rfl
            have hw : LwAt (u2 K15 67 17 (((rgS σ x y9).2) - (nI 1))) σ := hw.left
            obtain ⟨J60, eJ60⟩ : ∃ J, J = u2 K15 67 17 (((rgS σ x y9).2) - (nI 1)) := ⟨_, rfl⟩
            rw [← eJ60] at hW hF hw
            refine lv_goto (tgt := 80) hx hb (dg D_L_end (i := 36) rfl) (by decide) ?_
            refine lv_iinc (v := nI (y9 + 1)) (lv' := [(4, .int (nI (y9 + 1))), (0, .ref (ad bs 67)), (1, .int (nI x)), (2, .int (nI yr)), (3, .int ((rgS σ x y9).1))]) hx hb (dg D_L_end (i := 46) rfl) hl (k := 4) rfl (nI_add _ _) (by decide) rfl (fun ls hl => ?_)
            refine lv_goto (tgt := 15) hx hb (dg D_L_end (i := 47) rfl) (by decide) ?_
            exact ih15 (by omega) J60 _ _ _ _ _ (by rw [hrg]) (congrArg nI (by omega)) hF hw (by rw [eJ60, u2_at, hrg]; exact sub1 _) hW hS (lv_sub hl [1, 2, 3, 4, 0] rfl)
        · have hrg : rgS σ x (y9 + 1) = (nI 0, σ 2) := rg_p (decide_eq_true (pn_ge c30))
          refine n_iconst (a := 0) hx hb (dg D_L_end (i := 20) rfl) rfl ?_
          refine lv_istore_n (lv' := [(3, .int (nI 0)), (0, .ref (ad bs 67)), (1, .int (nI x)), (2, .int (nI yr)), (4, .int (nI y9))]) hx hb (dg D_L_end (i := 21) rfl) rfl hl (by decide) rfl (fun ls hl => ?_)
          refine lv_aload_n hx hb (dg D_L_end (i := 22) rfl) rfl (lv_at hl 1 rfl) ?_
          refine lv_aload_n hx hb (dg D_L_end (i := 23) rfl) rfl (lv_at hl 1 rfl) ?_
          refine rL_get (v := .int (σ 2)) X hW FI_L_87 (congrArg (fun z => some (Value.int z)) hw.c2) (dg D_L_end (i := 24) rfl) ?_
          refine rL_puti (v := σ 2) X hW hS FI_L_185 (by decide +kernel) (by decide +kernel) rfl (by decide) (dg D_L_end (i := 25) rfl) (fun H locs hW hS => ?_)
          have hF : Fr SLf I (u2 K15 67 17 (σ 2)) := Fr.put hF rfl
          have hw : LwAt (u2 K15 67 17 (σ 2)) σ := hw.left
          obtain ⟨J40, eJ40⟩ : ∃ J, J = u2 K15 67 17 (σ 2) := ⟨_, rfl⟩
          rw [← eJ40] at hW hF hw
          refine lv_goto (tgt := 80) hx hb (dg D_L_end (i := 26) rfl) (by decide) ?_
          refine lv_iinc (v := nI (y9 + 1)) (lv' := [(4, .int (nI (y9 + 1))), (3, .int (nI 0)), (0, .ref (ad bs 67)), (1, .int (nI x)), (2, .int (nI yr))]) hx hb (dg D_L_end (i := 46) rfl) hl (k := 4) rfl (nI_add _ _) (by decide) rfl (fun ls hl => ?_)
          refine lv_goto (tgt := 15) hx hb (dg D_L_end (i := 47) rfl) (by decide) ?_
          exact ih15 (by omega) J40 _ _ _ _ _ (by rw [hrg]) (congrArg nI (by omega)) hF hw (by rw [eJ40, u2_at, hrg]) hW hS (lv_sub hl [2, 3, 4, 1, 0] rfl))
  exact loop15 0 (Nat.zero_le _) J9 _ _ _ _ _ (rfl) (congrArg nI (by omega)) hF hw (by rw [eJ9, u2_at]; rfl) hW hS (lv_sub hl [2, 3, 4, 1, 0] rfl)

set_option maxHeartbeats 4000000 in
set_option maxRecDepth 100000 in
theorem c_L_begin {l : Launch} {G : va_G} {bs : Nat} {cy : Nat → ClassId} {I : CI} {L : CL} {R : CR} (σ : Row) (x : Nat) (y : Nat) (hi : Inv σ) (hd : DR σ) (hw : LwAt I σ) (hLb : LwB σ) (hx9 : x < nS σ) (hy9 : y < Yn σ) : MTi l G bs cy ML_begin 2 [.ref (ad bs 67), .int (nI x), .int (nI y)] I L R (fun r I1 L1 R1 => (rgS σ x y).1 = r ∧ Fr SLf I I1 ∧ I1 67 17 = (rgS σ x y).2 ∧ L = L1 ∧ R = R1) := by
  refine MTi.of (own := RL) pn_RL rfl (Nat.le_of_ble_eq_true rfl) ?_
  intro p e s m args below meth c Qf X hW hS fin ls hl
  have hx := X.1
  have hb := X.2.1
  have hR : RmOK (rmL 2 0 0) 2 := ⟨rfl, rfl⟩
  have hcs : 0 ≤ (rmL 2 0 0).cells ∧ 0 ≤ (rmL 2 0 0).slots := ⟨Nat.zero_le _, Nat.zero_le _⟩
  have hl : lv_has ls 3 [(0, .ref (ad bs 67)), (1, .int (nI x)), (2, .int (nI y))] := hl
  have hF : Fr SLf I I := Fr.rf
  obtain ⟨hY, hY1, hY12, hLn, hL4, hSn, hS12, hGn, hG5⟩ := id hi
  obtain ⟨hY6, hS5, hG2, hL3, hcl0⟩ := id hLb
  refine lv_aload_n hx hb (dg D_L_begin (i := 0) rfl) rfl (lv_at hl 0 rfl) ?_
  refine n_iconst (a := 0) hx hb (dg D_L_begin (i := 1) rfl) rfl ?_
  refine rL_puti (v := nI 0) X hW hS FI_L_185 (by decide +kernel) (by decide +kernel) rfl (by decide) (dg D_L_begin (i := 2) rfl) (fun H locs hW hS => ?_)
  have hF : Fr SLf I (u2 I 67 17 (nI 0)) := Fr.put hF rfl
  have hw : LwAt (u2 I 67 17 (nI 0)) σ := hw.left
  obtain ⟨J2, eJ2⟩ : ∃ J, J = u2 I 67 17 (nI 0) := ⟨_, rfl⟩
  rw [← eJ2] at hW hF hw
  refine lv_iload_n hx hb (dg D_L_begin (i := 3) rfl) rfl (lv_at hl 2 rfl) ?_
  refine n_if_ne (tgt := 18) hx hb (by omega) (dg D_L_begin (i := 4) rfl) (by decide) (fun c6 => ?_) (fun c6 => ?_)
  · refine lv_aload_n hx hb (dg D_L_begin (i := 10) rfl) rfl (lv_at hl 0 rfl) ?_
    refine lv_iload_n hx hb (dg D_L_begin (i := 11) rfl) rfl (lv_at hl 1 rfl) ?_
    refine lv_iload_n hx hb (dg D_L_begin (i := 12) rfl) rfl (lv_at hl 2 rfl) ?_
    refine n_iconst (a := 1) hx hb (dg D_L_begin (i := 13) rfl) rfl ?_
    refine n_isub hx hb (dg D_L_begin (i := 14) rfl) (by omega) ?_
    refine callOi X hW hS hR (c_L_end (I := J2) σ x (y - 1) (by first | exact hi | assumption | omega | decide | exact hP.1) (by first | exact hd | assumption | omega | decide | exact hP.1) (by first | exact hw | assumption | omega | decide | exact hP.1) (by first | exact hLb | assumption | omega | decide | exact hP.1) (by first | exact hx9 | assumption | omega | decide | exact hP.1) (by first | exact hy9 | assumption | omega | decide | exact hP.1)) (by decide) UVL_end LK_L_193 rfl rfl (Nat.le_of_ble_eq_true rfl) hl hcs (dg D_L_begin (i := 15) rfl) (fun r23 I23 L1 R1 H locs hq hW hS => ?_)
    obtain ⟨rfl, hT23, hp23_0, rfl, rfl⟩ := hq
    have hF : Fr SLf I I23 := Fr.tr hF hT23 (fun _ _ h => h)
    have hw : LwAt I23 σ := hw.fr hT23
    exact fin (dg D_L_begin (i := 16) rfl) hW hS ⟨by rw [show y - 1 + 1 = y by omega], hF, by rw [show y - 1 + 1 = y by omega] at hp23_0; exact hp23_0, rfl, rfl⟩
  · refine lv_aload_n hx hb (dg D_L_begin (i := 5) rfl) rfl (lv_at hl 0 rfl) ?_
    refine rL_get X hW FI_L_19 rfl (dg D_L_begin (i := 6) rfl) ?_
    refine lv_iload_n hx hb (dg D_L_begin (i := 7) rfl) rfl (lv_at hl 1 rfl) ?_
    refine rL_ald (j := x) (v := σ (10 + 5 * x + 2)) X hW rfl ⟨by decide, by decide⟩ rfl (by omega) (by decide) (hw.ru (by omega)) (dg D_L_begin (i := 8) rfl) ?_
    refine lv_goto (tgt := 26) hx hb (dg D_L_begin (i := 9) rfl) (by decide) ?_
    exact fin (dg D_L_begin (i := 16) rfl) hW hS ⟨by rw [c6]; rfl, hF, by rw [eJ2, u2_at, c6]; rfl, rfl, rfl⟩

set_option maxHeartbeats 4000000 in
set_option maxRecDepth 100000 in
theorem c_L_effort {l : Launch} {G : va_G} {bs : Nat} {cy : Nat → ClassId} {I : CI} {L : CL} {R : CR} (σ : Row) (x : Nat) (y : Nat) (hi : Inv σ) (hd : DR σ) (hw : LwAt I σ) (hLb : LwB σ) (hx9 : x < nS σ) (hy9 : y < Yn σ) : MTi l G bs cy ML_effort 3 [.ref (ad bs 67), .int (nI x), .int (nI y)] I L R (fun r I1 L1 R1 => eff σ x y = r ∧ Fr SLf I I1 ∧ I1 67 17 = (rgS σ x y).2 ∧ L = L1 ∧ R = R1) := by
  refine MTi.of (own := RL) pn_RL rfl (Nat.le_of_ble_eq_true rfl) ?_
  intro p e s m args below meth c Qf X hW hS fin ls hl
  have hx := X.1
  have hb := X.2.1
  have hR : RmOK (rmL 3 0 0) 3 := ⟨rfl, rfl⟩
  have hcs : 0 ≤ (rmL 3 0 0).cells ∧ 0 ≤ (rmL 3 0 0).slots := ⟨Nat.zero_le _, Nat.zero_le _⟩
  have hl : lv_has ls 3 [(0, .ref (ad bs 67)), (1, .int (nI x)), (2, .int (nI y))] := hl
  have hF : Fr SLf I I := Fr.rf
  obtain ⟨hY, hY1, hY12, hLn, hL4, hSn, hS12, hGn, hG5⟩ := id hi
  obtain ⟨hY6, hS5, hG2, hL3, hcl0⟩ := id hLb
  refine lv_aload_n hx hb (dg D_L_effort (i := 0) rfl) rfl (lv_at hl 0 rfl) ?_
  refine rL_get X hW FI_L_16 rfl (dg D_L_effort (i := 1) rfl) ?_
  refine lv_iload_n hx hb (dg D_L_effort (i := 2) rfl) rfl (lv_at hl 1 rfl) ?_
  refine rL_ald (j := x) (v := σ (10 + 5 * x + 1)) X hW rfl ⟨by decide, by decide⟩ rfl (by omega) (by decide) (hw.ar (by omega)) (dg D_L_effort (i := 3) rfl) ?_
  refine lv_bipush (v := nI 100) hx hb (dg D_L_effort (i := 4) rfl) (by decide) ?_
  refine lv_aload_n hx hb (dg D_L_effort (i := 5) rfl) rfl (lv_at hl 0 rfl) ?_
  refine lv_iload_n hx hb (dg D_L_effort (i := 6) rfl) rfl (lv_at hl 1 rfl) ?_
  refine lv_iload_n hx hb (dg D_L_effort (i := 7) rfl) rfl (lv_at hl 2 rfl) ?_
  refine callOi X hW hS hR (c_L_begin (I := I) σ x y (by first | exact hi | assumption | omega | decide | exact hP.1) (by first | exact hd | assumption | omega | decide | exact hP.1) (by first | exact hw | assumption | omega | decide | exact hP.1) (by first | exact hLb | assumption | omega | decide | exact hP.1) (by first | exact hx9 | assumption | omega | decide | exact hP.1) (by first | exact hy9 | assumption | omega | decide | exact hP.1)) (by decide) UVL_begin LK_L_196 rfl rfl (Nat.le_of_ble_eq_true rfl) hl hcs (dg D_L_effort (i := 8) rfl) (fun r11 I11 L1 R1 H locs hq hW hS => ?_)
  obtain ⟨rfl, hT11, hp11_0, rfl, rfl⟩ := hq
  have hF : Fr SLf I I11 := Fr.tr hF hT11 (fun _ _ h => h)
  have hw : LwAt I11 σ := hw.fr hT11
  refine lv_iadd hx hb (dg D_L_effort (i := 9) rfl) ?_
  refine lv_imul hx hb (dg D_L_effort (i := 10) rfl) ?_
  refine lv_bipush (v := nI 100) hx hb (dg D_L_effort (i := 11) rfl) (by decide) ?_
  refine lv_idiv hx hb (dg D_L_effort (i := 12) rfl) (by decide) ?_
  exact fin (dg D_L_effort (i := 13) rfl) hW hS ⟨rfl, hF, hp11_0, rfl, rfl⟩

set_option maxHeartbeats 4000000 in
set_option maxRecDepth 100000 in
theorem c_L_load_ {l : Launch} {G : va_G} {bs : Nat} {cy : Nat → ClassId} {I : CI} {L : CL} {R : CR} (σ : Row) (g : Nat) (y : Nat) (hi : Inv σ) (hd : DR σ) (hw : LwAt I σ) (hLb : LwB σ) (hg9 : g < nG σ) (hy9 : y < Yn σ) : MTi l G bs cy ML_load_ 4 [.ref (ad bs 67), .int (nI g), .int (nI y)] I L R (fun r I1 L1 R1 => lod σ (nI g) y = r ∧ Fr SLf I I1 ∧ L = L1 ∧ R = R1) := by
  refine MTi.of (own := RL) pn_RL rfl (Nat.le_of_ble_eq_true rfl) ?_
  intro p e s m args below meth c Qf X hW hS fin ls hl
  have hx := X.1
  have hb := X.2.1
  have hR : RmOK (rmL 4 0 0) 4 := ⟨rfl, rfl⟩
  have hcs : 0 ≤ (rmL 4 0 0).cells ∧ 0 ≤ (rmL 4 0 0).slots := ⟨Nat.zero_le _, Nat.zero_le _⟩
  have hl : lv_has ls 5 [(0, .ref (ad bs 67)), (1, .int (nI g)), (2, .int (nI y))] := hl
  have hF : Fr SLf I I := Fr.rf
  obtain ⟨hY, hY1, hY12, hLn, hL4, hSn, hS12, hGn, hG5⟩ := id hi
  obtain ⟨hY6, hS5, hG2, hL3, hcl0⟩ := id hLb
  refine n_iconst (a := 0) hx hb (dg D_L_load_ (i := 0) rfl) rfl ?_
  refine lv_istore_n (lv' := [(3, .int (nI 0)), (0, .ref (ad bs 67)), (1, .int (nI g)), (2, .int (nI y))]) hx hb (dg D_L_load_ (i := 1) rfl) rfl hl (by decide) rfl (fun ls hl => ?_)
  refine n_iconst (a := 0) hx hb (dg D_L_load_ (i := 2) rfl) rfl ?_
  refine lv_istore (lv' := [(4, .int (nI 0)), (3, .int (nI 0)), (0, .ref (ad bs 67)), (1, .int (nI g)), (2, .int (nI y))]) hx hb (dg D_L_load_ (i := 3) rfl) hl (by decide) rfl (fun ls hl => ?_)
  have loop5 := up_ind (P := fun x => ∀ (K5 : CI) (H : Heap) (locs : List Loc) (ls : Array Slot) (v3 : Int32) (v4 : Int32), v3 = sumT (fun x => if pnt σ x y = nI g then eff σ x y else nI 0) x → v4 = nI x → (Fr SLf I K5) → (LwAt K5 σ) → Wd G bs cy K5 L R H → va_S (Aq bs) s.heap H locs → lv_has ls 5 [(0, .ref (ad bs 67)), (1, .int (nI g)), (2, .int (nI y)), (3, .int v3), (4, .int v4)] → W p l e (rmL 4 0 0) s m args below meth c H locs 0 0 Qf (F0 m 5 ls [])) (nS σ) (fun x hx5 ih5 => by
      intro K5 H locs ls v3 v4 q3 q4 hF hw hW hS hl
      subst q3
      subst q4
      refine lv_iload hx hb (dg D_L_load_ (i := 4) rfl) (lv_at hl 4 rfl) ?_
      refine lv_aload_n hx hb (dg D_L_load_ (i := 5) rfl) rfl (lv_at hl 0 rfl) ?_
      refine rL_get (v := .int (nI (nS σ))) X hW FI_L_93 (congrArg (fun z => some (Value.int z)) (hw.c4 hi)) (dg D_L_load_ (i := 6) rfl) ?_
      refine n_icmp_ge (tgt := 47) hx hb (by omega) (by omega) (dg D_L_load_ (i := 7) rfl) (by decide) (fun c11 => ?_) (fun c11 => ?_)
      · refine lv_iload_n hx hb (dg D_L_load_ (i := 27) rfl) rfl (lv_at hl 3 rfl) ?_
        exact fin (dg D_L_load_ (i := 28) rfl) hW hS ⟨by rw [show x = nS σ by omega]; rfl, hF, rfl, rfl⟩
      · refine lv_iload_n hx hb (dg D_L_load_ (i := 8) rfl) rfl (lv_at hl 3 rfl) ?_
        refine lv_aload_n hx hb (dg D_L_load_ (i := 9) rfl) rfl (lv_at hl 0 rfl) ?_
        refine rL_get X hW FI_L_39 rfl (dg D_L_load_ (i := 10) rfl) ?_
        refine lv_iload hx hb (dg D_L_load_ (i := 11) rfl) (lv_at hl 4 rfl) ?_
        refine rL_aald (j := x) X hW rfl (by omega) (dg D_L_load_ (i := 12) rfl) ?_
        refine lv_iload_n hx hb (dg D_L_load_ (i := 13) rfl) rfl (lv_at hl 2 rfl) ?_
        refine rL_ald (j := y) (v := pnt σ x y) X hW (shBy (by omega)) ⟨by omega, by show _ < 83; omega⟩ rfl (by omega) (by decide) (hw.by (by omega) (by omega)) (dg D_L_load_ (i := 14) rfl) ?_
        refine lv_iload_n hx hb (dg D_L_load_ (i := 15) rfl) rfl (lv_at hl 1 rfl) ?_
        refine lv_icmp_ne (tgt := 38) hx hb (dg D_L_load_ (i := 16) rfl) (by decide) (fun c25 => ?_) (fun c25 => ?_)
        · refine n_iconst (a := 0) hx hb (dg D_L_load_ (i := 22) rfl) rfl ?_
          refine lv_iadd hx hb (dg D_L_load_ (i := 23) rfl) ?_
          refine lv_istore_n (lv' := [(3, .int ((sumT (fun x => if pnt σ x y = nI g then eff σ x y else nI 0) x) + (nI 0))), (0, .ref (ad bs 67)), (1, .int (nI g)), (2, .int (nI y)), (4, .int (nI x))]) hx hb (dg D_L_load_ (i := 24) rfl) rfl hl (by decide) rfl (fun ls hl => ?_)
          refine lv_iinc (v := nI (x + 1)) (lv' := [(4, .int (nI (x + 1))), (3, .int ((sumT (fun x => if pnt σ x y = nI g then eff σ x y else nI 0) x) + (nI 0))), (0, .ref (ad bs 67)), (1, .int (nI g)), (2, .int (nI y))]) hx hb (dg D_L_load_ (i := 25) rfl) hl (k := 4) rfl (nI_add _ _) (by decide) rfl (fun ls hl => ?_)
          refine lv_goto (tgt := 5) hx hb (dg D_L_load_ (i := 26) rfl) (by decide) ?_
          exact ih5 (by omega) K5 _ _ _ _ _ (by show _ = _ + (if pnt σ x y = nI g then eff σ x y else nI 0); first | rw [if_neg c25] | rw [if_pos (Classical.not_not.mp c25)] | rw [if_pos c25]) (congrArg nI (by omega)) hF hw hW hS (lv_sub hl [2, 3, 4, 1, 0] rfl)
        · refine lv_aload_n hx hb (dg D_L_load_ (i := 17) rfl) rfl (lv_at hl 0 rfl) ?_
          refine lv_iload hx hb (dg D_L_load_ (i := 18) rfl) (lv_at hl 4 rfl) ?_
          refine lv_iload_n hx hb (dg D_L_load_ (i := 19) rfl) rfl (lv_at hl 2 rfl) ?_
          refine callOi X hW hS hR (c_L_effort (I := K5) σ x y (by first | exact hi | assumption | omega | decide | exact hP.1) (by first | exact hd | assumption | omega | decide | exact hP.1) (by first | exact hw | assumption | omega | decide | exact hP.1) (by first | exact hLb | assumption | omega | decide | exact hP.1) (by first | exact hx9 | assumption | omega | decide | exact hP.1) (by first | exact hy9 | assumption | omega | decide | exact hP.1)) (by decide) UVL_effort LK_L_199 rfl rfl (Nat.le_of_ble_eq_true rfl) hl hcs (dg D_L_load_ (i := 20) rfl) (fun r32 I32 L1 R1 H locs hq hW hS => ?_)
          obtain ⟨rfl, hT32, hp32_0, rfl, rfl⟩ := hq
          have hF : Fr SLf I I32 := Fr.tr hF hT32 (fun _ _ h => h)
          have hw : LwAt I32 σ := hw.fr hT32
          refine lv_goto (tgt := 39) hx hb (dg D_L_load_ (i := 21) rfl) (by decide) ?_
          refine lv_iadd hx hb (dg D_L_load_ (i := 23) rfl) ?_
          refine lv_istore_n (lv' := [(3, .int ((sumT (fun x => if pnt σ x y = nI g then eff σ x y else nI 0) x) + (eff σ x y))), (0, .ref (ad bs 67)), (1, .int (nI g)), (2, .int (nI y)), (4, .int (nI x))]) hx hb (dg D_L_load_ (i := 24) rfl) rfl hl (by decide) rfl (fun ls hl => ?_)
          refine lv_iinc (v := nI (x + 1)) (lv' := [(4, .int (nI (x + 1))), (3, .int ((sumT (fun x => if pnt σ x y = nI g then eff σ x y else nI 0) x) + (eff σ x y))), (0, .ref (ad bs 67)), (1, .int (nI g)), (2, .int (nI y))]) hx hb (dg D_L_load_ (i := 25) rfl) hl (k := 4) rfl (nI_add _ _) (by decide) rfl (fun ls hl => ?_)
          refine lv_goto (tgt := 5) hx hb (dg D_L_load_ (i := 26) rfl) (by decide) ?_
          exact ih5 (by omega) I32 _ _ _ _ _ (by show _ = _ + (if pnt σ x y = nI g then eff σ x y else nI 0); first | rw [if_neg c25] | rw [if_pos (Classical.not_not.mp c25)] | rw [if_pos c25]) (congrArg nI (by omega)) hF hw hW hS (lv_sub hl [2, 3, 4, 1, 0] rfl))
  exact loop5 0 (Nat.zero_le _) I _ _ _ _ _ (rfl) (congrArg nI (by omega)) hF hw hW hS (lv_sub hl [2, 3, 4, 1, 0] rfl)

set_option maxHeartbeats 4000000 in
set_option maxRecDepth 100000 in
theorem c_L_isSame {l : Launch} {G : va_G} {bs : Nat} {cy : Nat → ClassId} {I : CI} {L : CL} {R : CR} (σ : Row) (β : Nat) (q : Nat) (hi : Inv σ) (hd : DR σ) (hβ : isBr β) (hB : BrAt I β σ) (hq : isPl q) (hP : PlAt I q σ) (hRb : R q 0 = β) (hR7 : R 0 7 = β) (hR8 : R 0 8 = q) (hw : LwAt I σ) (hLb : LwB σ) : MTi l G bs cy ML_isSame 5 [.ref (ad bs 67), .ref (bs + 0)] I L R (fun r I1 L1 R1 => bI true = r ∧ Fr SLf I I1 ∧ L = L1 ∧ R = R1) := by
  refine MTz.of (own := RL) pn_RL rfl (Nat.le_of_ble_eq_true rfl) ?_
  intro p e s m args below meth c Qf X hW hS fin ls hl
  have hx := X.1
  have hb := X.2.1
  have hR : RmOK (rmL 5 0 0) 5 := ⟨rfl, rfl⟩
  have hcs : 0 ≤ (rmL 5 0 0).cells ∧ 0 ≤ (rmL 5 0 0).slots := ⟨Nat.zero_le _, Nat.zero_le _⟩
  have hl : lv_has ls 5 [(0, .ref (ad bs 67)), (1, .ref (bs + 0))] := hl
  have hF : Fr SLf I I := Fr.rf
  obtain ⟨hY, hY1, hY12, hLn, hL4, hSn, hS12, hGn, hG5⟩ := id hi
  obtain ⟨hY6, hS5, hG2, hL3, hcl0⟩ := id hLb
  have hbq := br_pl hβ hq
  have hq67 : q + 3 < 67 := by rcases hq with rfl | rfl <;> omega
  refine n_iconst (a := 0) hx hb (dg D_L_isSame (i := 0) rfl) rfl ?_
  refine lv_istore_n (lv' := [(2, .int (nI 0)), (0, .ref (ad bs 67)), (1, .ref (bs + 0))]) hx hb (dg D_L_isSame (i := 1) rfl) rfl hl (by decide) rfl (fun ls hl => ?_)
  have loop2 := up_ind (P := fun x => ∀ (K2 : CI) (H : Heap) (locs : List Loc) (ls : Array Slot) (v2 : Int32), v2 = nI x → (Fr SLf I K2) → (LwAt K2 σ) → (BrAt K2 β σ) → (PlAt K2 q σ) → Wd G bs cy K2 L R H → va_S (Aq bs) s.heap H locs → lv_has ls 5 [(0, .ref (ad bs 67)), (1, .ref (bs + 0)), (2, .int v2)] → W p l e (rmL 5 0 0) s m args below meth c H locs 0 0 Qf (F0 m 2 ls [])) (nS σ) (fun x hx2 ih2 => by
      intro K2 H locs ls v2 q2 hF hw hB hP hW hS hl
      subst q2
      refine lv_iload_n hx hb (dg D_L_isSame (i := 2) rfl) rfl (lv_at hl 2 rfl) ?_
      refine lv_aload_n hx hb (dg D_L_isSame (i := 3) rfl) rfl (lv_at hl 0 rfl) ?_
      refine rL_get (v := .int (nI (nS σ))) X hW FI_L_93 (congrArg (fun z => some (Value.int z)) (hw.c4 hi)) (dg D_L_isSame (i := 4) rfl) ?_
      refine n_icmp_ge (tgt := 135) hx hb (by omega) (by omega) (dg D_L_isSame (i := 5) rfl) (by decide) (fun c7 => ?_) (fun c7 => ?_)
      · refine n_iconst (a := 0) hx hb (dg D_L_isSame (i := 73) rfl) rfl ?_
        refine lv_istore_n (lv' := [(2, .int (nI 0)), (0, .ref (ad bs 67)), (1, .ref (bs + 0))]) hx hb (dg D_L_isSame (i := 74) rfl) rfl hl (by decide) rfl (fun ls hl => ?_)
        have loop137 := up_ind (P := fun g => ∀ (K137 : CI) (H : Heap) (locs : List Loc) (ls : Array Slot) (v2 : Int32), v2 = nI g → (Fr SLf I K137) → (LwAt K137 σ) → (BrAt K137 β σ) → (PlAt K137 q σ) → Wd G bs cy K137 L R H → va_S (Aq bs) s.heap H locs → lv_has ls 5 [(0, .ref (ad bs 67)), (1, .ref (bs + 0)), (2, .int v2)] → W p l e (rmL 5 0 0) s m args below meth c H locs 0 0 Qf (F0 m 137 ls [])) (nG σ) (fun g hx137 ih137 => by
            intro K137 H locs ls v2 q2 hF hw hB hP hW hS hl
            subst q2
            refine lv_iload_n hx hb (dg D_L_isSame (i := 75) rfl) rfl (lv_at hl 2 rfl) ?_
            refine lv_aload_n hx hb (dg D_L_isSame (i := 76) rfl) rfl (lv_at hl 0 rfl) ?_
            refine rL_get (v := .int (nI (nG σ))) X hW FI_L_96 (congrArg (fun z => some (Value.int z)) (hw.c5 hi)) (dg D_L_isSame (i := 77) rfl) ?_
            refine n_icmp_ge (tgt := 206) hx hb (by omega) (by omega) (dg D_L_isSame (i := 78) rfl) (by decide) (fun c142 => ?_) (fun c142 => ?_)
            · refine n_iconst (a := 1) hx hb (dg D_L_isSame (i := 114) rfl) rfl ?_
              exact fin (dg D_L_isSame (i := 115) rfl) hW hS (show _ = bI true from rfl) ⟨rfl, hF, rfl, rfl⟩
            · refine n_iconst (a := 0) hx hb (dg D_L_isSame (i := 79) rfl) rfl ?_
              refine lv_istore_n (lv' := [(3, .int (nI 0)), (0, .ref (ad bs 67)), (1, .ref (bs + 0)), (2, .int (nI g))]) hx hb (dg D_L_isSame (i := 80) rfl) rfl hl (by decide) rfl (fun ls hl => ?_)
              have loop147 := up_ind (P := fun y => ∀ (K147 : CI) (H : Heap) (locs : List Loc) (ls : Array Slot) (v3 : Int32), v3 = nI y → (Fr SLf I K147) → (LwAt K147 σ) → (BrAt K147 β σ) → (PlAt K147 q σ) → Wd G bs cy K147 L R H → va_S (Aq bs) s.heap H locs → lv_has ls 5 [(0, .ref (ad bs 67)), (1, .ref (bs + 0)), (2, .int (nI g)), (3, .int v3)] → W p l e (rmL 5 0 0) s m args below meth c H locs 0 0 Qf (F0 m 147 ls [])) (Yn σ) (fun y hx147 ih147 => by
                  intro K147 H locs ls v3 q3 hF hw hB hP hW hS hl
                  subst q3
                  refine lv_iload_n hx hb (dg D_L_isSame (i := 81) rfl) rfl (lv_at hl 3 rfl) ?_
                  refine lv_aload_n hx hb (dg D_L_isSame (i := 82) rfl) rfl (lv_at hl 0 rfl) ?_
                  refine rL_get (v := .int (nI (Yn σ))) X hW FI_L_81 (congrArg (fun z => some (Value.int z)) (hw.c0 hi)) (dg D_L_isSame (i := 83) rfl) ?_
                  refine n_icmp_ge (tgt := 200) hx hb (by omega) (by omega) (dg D_L_isSame (i := 84) rfl) (by decide) (fun c152 => ?_) (fun c152 => ?_)
                  · refine lv_iinc (v := nI (g + 1)) (lv' := [(2, .int (nI (g + 1))), (0, .ref (ad bs 67)), (1, .ref (bs + 0)), (3, .int (nI y))]) hx hb (dg D_L_isSame (i := 112) rfl) hl (k := 2) rfl (nI_add _ _) (by decide) rfl (fun ls hl => ?_)
                    refine lv_goto (tgt := 137) hx hb (dg D_L_isSame (i := 113) rfl) (by decide) ?_
                    exact ih137 (by omega) K147 _ _ _ _ (congrArg nI (by omega)) hF hw hB hP hW hS (lv_sub hl [1, 2, 0] rfl)
                  · refine lv_aload_n hx hb (dg D_L_isSame (i := 85) rfl) rfl (lv_at hl 1 rfl) ?_
                    refine lv_iload_n hx hb (dg D_L_isSame (i := 86) rfl) rfl (lv_at hl 2 rfl) ?_
                    refine lv_iload_n hx hb (dg D_L_isSame (i := 87) rfl) rfl (lv_at hl 3 rfl) ?_
                    refine callVi X hW hS hR (v_X11_loadOf (I := K147) σ β q g y (by first | exact hi | assumption | omega | decide | exact hP.1) (by first | exact hd | assumption | omega | decide | exact hP.1) (by first | exact hβ | assumption | omega | decide | exact hP.1) (by first | exact hB | assumption | omega | decide | exact hP.1) (by first | exact hq | assumption | omega | decide | exact hP.1) (by first | exact hP | assumption | omega | decide | exact hP.1) (by first | exact hRb | assumption | omega | decide | exact hP.1) (by first | exact hR7 | assumption | omega | decide | exact hP.1) (by first | exact hR8 | assumption | omega | decide | exact hP.1) (by first | exact hv9 | assumption | omega | decide | exact hP.1) (by first | exact hw9 | assumption | omega | decide | exact hP.1)) (by decide) UVX11_loadOf LK_L_214 rfl (by decide) rfl rfl rfl (Nat.le_of_ble_eq_true rfl) hl hcs (dg D_L_isSame (i := 88) rfl) (fun r158 I158 L1 R1 H locs hq hW hS => ?_)
                    obtain ⟨rfl, rfl, rfl, rfl⟩ := hq
                    refine lv_aload_n hx hb (dg D_L_isSame (i := 89) rfl) rfl (lv_at hl 0 rfl) ?_
                    refine lv_iload_n hx hb (dg D_L_isSame (i := 90) rfl) rfl (lv_at hl 2 rfl) ?_
                    refine lv_iload_n hx hb (dg D_L_isSame (i := 91) rfl) rfl (lv_at hl 3 rfl) ?_
                    refine callOi X hW hS hR (c_L_load_ (I := K147) σ g y (by first | exact hi | assumption | omega | decide | exact hP.1) (by first | exact hd | assumption | omega | decide | exact hP.1) (by first | exact hw | assumption | omega | decide | exact hP.1) (by first | exact hLb | assumption | omega | decide | exact hP.1) (by first | exact hg9 | assumption | omega | decide | exact hP.1) (by first | exact hy9 | assumption | omega | decide | exact hP.1)) (by decide) UVL_load_ LK_L_202 rfl rfl (Nat.le_of_ble_eq_true rfl) hl hcs (dg D_L_isSame (i := 92) rfl) (fun r164 I164 L1 R1 H locs hq hW hS => ?_)
                    obtain ⟨rfl, hT164, rfl, rfl⟩ := hq
                    have hF : Fr SLf I I164 := Fr.tr hF hT164 (fun _ _ h => h)
                    have hw : LwAt I164 σ := hw.fr hT164
                    have hB : BrAt I164 β σ := BrAt.fr hB hT164 (fun a j h1 h2 => SLf_no (by omega))
                    have hP : PlAt I164 q σ := PlAt.fr hP hT164 (fun a j h1 h2 => SLf_no (by omega))
                    refine lv_icmp_ne (tgt := 192) hx hb (dg D_L_isSame (i := 93) rfl) (by decide) (fun c167 => ?_) (fun c167 => ?_)
                    · exact absurd rfl c167
                    · refine lv_aload_n hx hb (dg D_L_isSame (i := 94) rfl) rfl (lv_at hl 1 rfl) ?_
                      refine lv_iload_n hx hb (dg D_L_isSame (i := 95) rfl) rfl (lv_at hl 2 rfl) ?_
                      refine lv_iload_n hx hb (dg D_L_isSame (i := 96) rfl) rfl (lv_at hl 3 rfl) ?_
                      refine callVi X hW hS hR (v_X11_capacity (I := I164) σ β q g y (by first | exact hi | assumption | omega | decide | exact hP.1) (by first | exact hd | assumption | omega | decide | exact hP.1) (by first | exact hβ | assumption | omega | decide | exact hP.1) (by first | exact hB | assumption | omega | decide | exact hP.1) (by first | exact hq | assumption | omega | decide | exact hP.1) (by first | exact hP | assumption | omega | decide | exact hP.1) (by first | exact hRb | assumption | omega | decide | exact hP.1) (by first | exact hR7 | assumption | omega | decide | exact hP.1) (by first | exact hR8 | assumption | omega | decide | exact hP.1) (by first | exact hv9 | assumption | omega | decide | exact hP.1) (by first | exact hw9 | assumption | omega | decide | exact hP.1)) (by decide) UVX11_capacity LK_L_217 rfl (by decide) rfl rfl rfl (Nat.le_of_ble_eq_true rfl) hl hcs (dg D_L_isSame (i := 97) rfl) (fun r173 I173 L1 R1 H locs hq hW hS => ?_)
                      obtain ⟨rfl, rfl, rfl, rfl⟩ := hq
                      refine lv_aload_n hx hb (dg D_L_isSame (i := 98) rfl) rfl (lv_at hl 0 rfl) ?_
                      refine rL_get X hW FI_L_28 rfl (dg D_L_isSame (i := 99) rfl) ?_
                      refine lv_iload_n hx hb (dg D_L_isSame (i := 100) rfl) rfl (lv_at hl 2 rfl) ?_
                      refine rL_ald (j := g) (v := σ (70 + 2 * g + 0)) X hW rfl ⟨by decide, by decide⟩ rfl (by omega) (by decide) (hw.sp (by omega)) (dg D_L_isSame (i := 101) rfl) ?_
                      refine lv_aload_n hx hb (dg D_L_isSame (i := 102) rfl) rfl (lv_at hl 0 rfl) ?_
                      refine rL_get X hW FI_L_34 rfl (dg D_L_isSame (i := 103) rfl) ?_
                      refine lv_iload_n hx hb (dg D_L_isSame (i := 104) rfl) rfl (lv_at hl 3 rfl) ?_
                      refine rL_ald (j := y) (v := σ (80 + y)) X hW rfl ⟨by decide, by decide⟩ rfl (by omega) (by decide) (hw.da (by omega)) (dg D_L_isSame (i := 105) rfl) ?_
                      refine lv_imul hx hb (dg D_L_isSame (i := 106) rfl) ?_
                      refine lv_icmp_eq (tgt := 194) hx hb (dg D_L_isSame (i := 107) rfl) (by decide) (fun c189 => ?_) (fun c189 => ?_)
                      · refine lv_iinc (v := nI (y + 1)) (lv' := [(3, .int (nI (y + 1))), (0, .ref (ad bs 67)), (1, .ref (bs + 0)), (2, .int (nI g))]) hx hb (dg D_L_isSame (i := 110) rfl) hl (k := 3) rfl (nI_add _ _) (by decide) rfl (fun ls hl => ?_)
                        refine lv_goto (tgt := 147) hx hb (dg D_L_isSame (i := 111) rfl) (by decide) ?_
                        exact ih147 (by omega) I164 _ _ _ _ (congrArg nI (by omega)) hF hw hB hP hW hS (lv_sub hl [1, 2, 3, 0] rfl)
                      · first | exact absurd rfl c189 | exact c189 rfl)
              exact loop147 0 (Nat.zero_le _) K137 _ _ _ _ (congrArg nI (by omega)) hF hw hB hP hW hS (lv_sub hl [1, 2, 3, 0] rfl))
        exact loop137 0 (Nat.zero_le _) K2 _ _ _ _ (congrArg nI (by omega)) hF hw hB hP hW hS (lv_sub hl [1, 2, 0] rfl)
      · refine r_ldc X CK_L_175 (dg D_L_isSame (i := 6) rfl) ?_
        refine lv_istore_n (lv' := [(3, .int ((-1000004))), (0, .ref (ad bs 67)), (1, .ref (bs + 0)), (2, .int (nI x))]) hx hb (dg D_L_isSame (i := 7) rfl) rfl hl (by decide) rfl (fun ls hl => ?_)
        refine lv_aload_n hx hb (dg D_L_isSame (i := 8) rfl) rfl (lv_at hl 1 rfl) ?_
        refine rL_get (v := .int (nI (Yn σ))) X hW FI_L_81 (congrArg (fun z => some (Value.int z)) (hw.c0 hi)) (dg D_L_isSame (i := 9) rfl) ?_
        refine n_iconst (a := 1) hx hb (dg D_L_isSame (i := 10) rfl) rfl ?_
        refine n_isub hx hb (dg D_L_isSame (i := 11) rfl) (by omega) ?_
        refine lv_istore (lv' := [(4, .int (nI ((Yn σ) - 1))), (3, .int ((-1000004))), (0, .ref (ad bs 67)), (1, .ref (bs + 0)), (2, .int (nI x))]) hx hb (dg D_L_isSame (i := 12) rfl) hl (by decide) rfl (fun ls hl => ?_)
        have loop21 := up_ind (P := fun z => ∀ (K21 : CI) (H : Heap) (locs : List Loc) (ls : Array Slot) (v3 : Int32) (v4 : Int32), v3 = dnI (fun z => decide (σ (10 + 5 * x + 4) < (rgS σ x (z + 1)).1)) (Yn σ) z → v4 = nI (Yn σ - z) + Int32.ofInt (-1) → (Fr SLf I K21) → (LwAt K21 σ) → (BrAt K21 β σ) → (PlAt K21 q σ) → Wd G bs cy K21 L R H → va_S (Aq bs) s.heap H locs → lv_has ls 5 [(0, .ref (ad bs 67)), (1, .ref (bs + 0)), (2, .int (nI x)), (3, .int v3), (4, .int v4)] → W p l e (rmL 5 0 0) s m args below meth c H locs 0 0 Qf (F0 m 21 ls [])) (Yn σ) (fun z hx21 ih21 => by
            intro K21 H locs ls v3 v4 q3 q4 hF hw hB hP hW hS hl
            subst q3
            subst q4
            refine lv_iload hx hb (dg D_L_isSame (i := 13) rfl) (lv_at hl 4 rfl) ?_
            refine lv_if_lt (tgt := 118) hx hb (dg D_L_isSame (i := 14) rfl) (by decide) (fun c23 => ?_) (fun c23 => ?_)
            · have hz23 : z = Yn σ := by rcases Nat.lt_or_ge z (Yn σ) with h | h; exact absurd c23 (by rw [show Yn σ - z = (Yn σ - z - 1) + 1 by omega, nI_dec]; exact nI_pos (by omega)); omega
              have h3 : dnI (fun z => decide (σ (10 + 5 * x + 4) < (rgS σ x (z + 1)).1)) (Yn σ) z = fp σ x := by rw [hz23]; exact dnI_fst
              rw [h3] at hl
              refine lv_aload_n hx hb (dg D_L_isSame (i := 64) rfl) rfl (lv_at hl 1 rfl) ?_
              refine lv_iload_n hx hb (dg D_L_isSame (i := 65) rfl) rfl (lv_at hl 2 rfl) ?_
              refine callVi X hW hS hR (v_X11_pastYear (I := K21) σ β q x (by first | exact hi | assumption | omega | decide | exact hP.1) (by first | exact hd | assumption | omega | decide | exact hP.1) (by first | exact hβ | assumption | omega | decide | exact hP.1) (by first | exact hB | assumption | omega | decide | exact hP.1) (by first | exact hq | assumption | omega | decide | exact hP.1) (by first | exact hP | assumption | omega | decide | exact hP.1) (by first | exact hRb | assumption | omega | decide | exact hP.1) (by first | exact hR7 | assumption | omega | decide | exact hP.1) (by first | exact hR8 | assumption | omega | decide | exact hP.1) (by first | exact hv9 | assumption | omega | decide | exact hP.1)) (by decide) UVX11_pastYear LK_L_180 rfl (by decide) rfl rfl rfl (Nat.le_of_ble_eq_true rfl) hl hcs (dg D_L_isSame (i := 66) rfl) (fun r120 I120 L1 R1 H locs hq hW hS => ?_)
              obtain ⟨rfl, rfl, rfl, rfl⟩ := hq
              refine lv_iload_n hx hb (dg D_L_isSame (i := 67) rfl) rfl (lv_at hl 3 rfl) ?_
              refine lv_icmp_eq (tgt := 129) hx hb (dg D_L_isSame (i := 68) rfl) (by decide) (fun c124 => ?_) (fun c124 => ?_)
              · refine lv_iinc (v := nI (x + 1)) (lv' := [(2, .int (nI (x + 1))), (0, .ref (ad bs 67)), (1, .ref (bs + 0)), (3, .int (fp σ x)), (4, .int (nI (Yn σ - z) + Int32.ofInt (-1)))]) hx hb (dg D_L_isSame (i := 71) rfl) hl (k := 2) rfl (nI_add _ _) (by decide) rfl (fun ls hl => ?_)
                refine lv_goto (tgt := 2) hx hb (dg D_L_isSame (i := 72) rfl) (by decide) ?_
                exact ih2 (by omega) K21 _ _ _ _ (congrArg nI (by omega)) hF hw hB hP hW hS (lv_sub hl [1, 2, 0] rfl)
              · first | exact absurd rfl c124 | exact c124 rfl
            · have hz23 : z < Yn σ := by rcases Nat.lt_or_ge z (Yn σ) with h | h; exact h; exact absurd (by rw [show Yn σ - z = 0 by omega]; decide) c23
              obtain ⟨t, ht⟩ : ∃ t, Yn σ - z = t + 1 := ⟨Yn σ - z - 1, by omega⟩
              rw [ht, nI_dec] at hl
              refine lv_aload_n hx hb (dg D_L_isSame (i := 15) rfl) rfl (lv_at hl 1 rfl) ?_
              refine lv_iload_n hx hb (dg D_L_isSame (i := 16) rfl) rfl (lv_at hl 2 rfl) ?_
              refine lv_iload hx hb (dg D_L_isSame (i := 17) rfl) (lv_at hl 4 rfl) ?_
              refine callVi X hW hS hR (v_X11_rustAfter (I := K21) σ β q x t (by first | exact hi | assumption | omega | decide | exact hP.1) (by first | exact hd | assumption | omega | decide | exact hP.1) (by first | exact hβ | assumption | omega | decide | exact hP.1) (by first | exact hB | assumption | omega | decide | exact hP.1) (by first | exact hq | assumption | omega | decide | exact hP.1) (by first | exact hP | assumption | omega | decide | exact hP.1) (by first | exact hRb | assumption | omega | decide | exact hP.1) (by first | exact hR7 | assumption | omega | decide | exact hP.1) (by first | exact hR8 | assumption | omega | decide | exact hP.1) (by first | exact hv9 | assumption | omega | decide | exact hP.1) (by first | exact hw9 | assumption | omega | decide | exact hP.1)) (by decide) UVX11_rustAfter LK_L_204 rfl (by decide) rfl rfl rfl (Nat.le_of_ble_eq_true rfl) hl hcs (dg D_L_isSame (i := 18) rfl) (fun r30 I30 L1 R1 H locs hq hW hS => ?_)
              obtain ⟨rfl, rfl, rfl, rfl⟩ := hq
              refine lv_aload_n hx hb (dg D_L_isSame (i := 19) rfl) rfl (lv_at hl 0 rfl) ?_
              refine lv_iload_n hx hb (dg D_L_isSame (i := 20) rfl) rfl (lv_at hl 2 rfl) ?_
              refine lv_iload hx hb (dg D_L_isSame (i := 21) rfl) (lv_at hl 4 rfl) ?_
              refine callOi X hW hS hR (c_L_end (I := K21) σ x t (by first | exact hi | assumption | omega | decide | exact hP.1) (by first | exact hd | assumption | omega | decide | exact hP.1) (by first | exact hw | assumption | omega | decide | exact hP.1) (by first | exact hLb | assumption | omega | decide | exact hP.1) (by first | exact hx9 | assumption | omega | decide | exact hP.1) (by first | exact hy9 | assumption | omega | decide | exact hP.1)) (by decide) UVL_end LK_L_193 rfl rfl (Nat.le_of_ble_eq_true rfl) hl hcs (dg D_L_isSame (i := 22) rfl) (fun r37 I37 L1 R1 H locs hq hW hS => ?_)
              obtain ⟨rfl, hT37, hp37_0, rfl, rfl⟩ := hq
              have hF : Fr SLf I I37 := Fr.tr hF hT37 (fun _ _ h => h)
              have hw : LwAt I37 σ := hw.fr hT37
              have hB : BrAt I37 β σ := BrAt.fr hB hT37 (fun a j h1 h2 => SLf_no (by omega))
              have hP : PlAt I37 q σ := PlAt.fr hP hT37 (fun a j h1 h2 => SLf_no (by omega))
              refine lv_icmp_ne (tgt := 91) hx hb (dg D_L_isSame (i := 23) rfl) (by decide) (fun c40 => ?_) (fun c40 => ?_)
              · exact absurd rfl c40
              · refine lv_aload_n hx hb (dg D_L_isSame (i := 24) rfl) rfl (lv_at hl 1 rfl) ?_
                refine lv_iload_n hx hb (dg D_L_isSame (i := 25) rfl) rfl (lv_at hl 2 rfl) ?_
                refine lv_iload hx hb (dg D_L_isSame (i := 26) rfl) (lv_at hl 4 rfl) ?_
                refine callVi X hW hS hR (v_X11_rustBefore (I := I37) σ β q x t (by first | exact hi | assumption | omega | decide | exact hP.1) (by first | exact hd | assumption | omega | decide | exact hP.1) (by first | exact hβ | assumption | omega | decide | exact hP.1) (by first | exact hB | assumption | omega | decide | exact hP.1) (by first | exact hq | assumption | omega | decide | exact hP.1) (by first | exact hP | assumption | omega | decide | exact hP.1) (by first | exact hRb | assumption | omega | decide | exact hP.1) (by first | exact hR7 | assumption | omega | decide | exact hP.1) (by first | exact hR8 | assumption | omega | decide | exact hP.1) (by first | exact hv9 | assumption | omega | decide | exact hP.1) (by first | exact hw9 | assumption | omega | decide | exact hP.1)) (by decide) UVX11_rustBefore LK_L_207 rfl (by decide) rfl rfl rfl (Nat.le_of_ble_eq_true rfl) hl hcs (dg D_L_isSame (i := 27) rfl) (fun r47 I47 L1 R1 H locs hq hW hS => ?_)
                obtain ⟨rfl, rfl, rfl, rfl⟩ := hq
                refine lv_aload_n hx hb (dg D_L_isSame (i := 28) rfl) rfl (lv_at hl 0 rfl) ?_
                refine lv_iload_n hx hb (dg D_L_isSame (i := 29) rfl) rfl (lv_at hl 2 rfl) ?_
                refine lv_iload hx hb (dg D_L_isSame (i := 30) rfl) (lv_at hl 4 rfl) ?_
                refine callOi X hW hS hR (c_L_begin (I := I37) σ x t (by first | exact hi | assumption | omega | decide | exact hP.1) (by first | exact hd | assumption | omega | decide | exact hP.1) (by first | exact hw | assumption | omega | decide | exact hP.1) (by first | exact hLb | assumption | omega | decide | exact hP.1) (by first | exact hx9 | assumption | omega | decide | exact hP.1) (by first | exact hy9 | assumption | omega | decide | exact hP.1)) (by decide) UVL_begin LK_L_196 rfl rfl (Nat.le_of_ble_eq_true rfl) hl hcs (dg D_L_isSame (i := 31) rfl) (fun r54 I54 L1 R1 H locs hq hW hS => ?_)
                obtain ⟨rfl, hT54, hp54_0, rfl, rfl⟩ := hq
                have hF : Fr SLf I I54 := Fr.tr hF hT54 (fun _ _ h => h)
                have hw : LwAt I54 σ := hw.fr hT54
                have hB : BrAt I54 β σ := BrAt.fr hB hT54 (fun a j h1 h2 => SLf_no (by omega))
                have hP : PlAt I54 q σ := PlAt.fr hP hT54 (fun a j h1 h2 => SLf_no (by omega))
                refine lv_icmp_ne (tgt := 91) hx hb (dg D_L_isSame (i := 32) rfl) (by decide) (fun c57 => ?_) (fun c57 => ?_)
                · exact absurd rfl c57
                · refine lv_aload_n hx hb (dg D_L_isSame (i := 33) rfl) rfl (lv_at hl 1 rfl) ?_
                  refine lv_iload_n hx hb (dg D_L_isSame (i := 34) rfl) rfl (lv_at hl 2 rfl) ?_
                  refine lv_iload hx hb (dg D_L_isSame (i := 35) rfl) (lv_at hl 4 rfl) ?_
                  refine callVi X hW hS hR (v_X11_guardLeft (I := I54) σ β q x t (by first | exact hi | assumption | omega | decide | exact hP.1) (by first | exact hd | assumption | omega | decide | exact hP.1) (by first | exact hβ | assumption | omega | decide | exact hP.1) (by first | exact hB | assumption | omega | decide | exact hP.1) (by first | exact hq | assumption | omega | decide | exact hP.1) (by first | exact hP | assumption | omega | decide | exact hP.1) (by first | exact hRb | assumption | omega | decide | exact hP.1) (by first | exact hR7 | assumption | omega | decide | exact hP.1) (by first | exact hR8 | assumption | omega | decide | exact hP.1) (by first | exact hv9 | assumption | omega | decide | exact hP.1) (by first | exact hw9 | assumption | omega | decide | exact hP.1)) (by decide) UVX11_guardLeft LK_L_210 rfl (by decide) rfl rfl rfl (Nat.le_of_ble_eq_true rfl) hl hcs (dg D_L_isSame (i := 36) rfl) (fun r64 I64 L1 R1 H locs hq hW hS => ?_)
                  obtain ⟨rfl, rfl, rfl, rfl⟩ := hq
                  have h17 := hp54_0
                  refine lv_aload_n hx hb (dg D_L_isSame (i := 37) rfl) rfl (lv_at hl 0 rfl) ?_
                  refine rL_get (v := .int ((rgS σ x t).2)) X hW FI_L_185 (congrArg (fun z => some (Value.int z)) h17) (dg D_L_isSame (i := 38) rfl) ?_
                  refine lv_icmp_ne (tgt := 91) hx hb (dg D_L_isSame (i := 39) rfl) (by decide) (fun c71 => ?_) (fun c71 => ?_)
                  · exact absurd rfl c71
                  · refine lv_aload_n hx hb (dg D_L_isSame (i := 40) rfl) rfl (lv_at hl 1 rfl) ?_
                    refine lv_iload_n hx hb (dg D_L_isSame (i := 41) rfl) rfl (lv_at hl 2 rfl) ?_
                    refine lv_iload hx hb (dg D_L_isSame (i := 42) rfl) (lv_at hl 4 rfl) ?_
                    refine callVi X hW hS hR (v_X11_effort (I := I54) σ β q x t (by first | exact hi | assumption | omega | decide | exact hP.1) (by first | exact hd | assumption | omega | decide | exact hP.1) (by first | exact hβ | assumption | omega | decide | exact hP.1) (by first | exact hB | assumption | omega | decide | exact hP.1) (by first | exact hq | assumption | omega | decide | exact hP.1) (by first | exact hP | assumption | omega | decide | exact hP.1) (by first | exact hRb | assumption | omega | decide | exact hP.1) (by first | exact hR7 | assumption | omega | decide | exact hP.1) (by first | exact hR8 | assumption | omega | decide | exact hP.1) (by first | exact hv9 | assumption | omega | decide | exact hP.1) (by first | exact hw9 | assumption | omega | decide | exact hP.1)) (by decide) UVX11_effort LK_L_213 rfl (by decide) rfl rfl rfl (Nat.le_of_ble_eq_true rfl) hl hcs (dg D_L_isSame (i := 43) rfl) (fun r78 I78 L1 R1 H locs hq hW hS => ?_)
                    obtain ⟨rfl, rfl, rfl, rfl⟩ := hq
                    refine lv_aload_n hx hb (dg D_L_isSame (i := 44) rfl) rfl (lv_at hl 0 rfl) ?_
                    refine lv_iload_n hx hb (dg D_L_isSame (i := 45) rfl) rfl (lv_at hl 2 rfl) ?_
                    refine lv_iload hx hb (dg D_L_isSame (i := 46) rfl) (lv_at hl 4 rfl) ?_
                    refine callOi X hW hS hR (c_L_effort (I := I54) σ x t (by first | exact hi | assumption | omega | decide | exact hP.1) (by first | exact hd | assumption | omega | decide | exact hP.1) (by first | exact hw | assumption | omega | decide | exact hP.1) (by first | exact hLb | assumption | omega | decide | exact hP.1) (by first | exact hx9 | assumption | omega | decide | exact hP.1) (by first | exact hy9 | assumption | omega | decide | exact hP.1)) (by decide) UVL_effort LK_L_199 rfl rfl (Nat.le_of_ble_eq_true rfl) hl hcs (dg D_L_isSame (i := 47) rfl) (fun r85 I85 L1 R1 H locs hq hW hS => ?_)
                    obtain ⟨rfl, hT85, hp85_0, rfl, rfl⟩ := hq
                    have hF : Fr SLf I I85 := Fr.tr hF hT85 (fun _ _ h => h)
                    have hw : LwAt I85 σ := hw.fr hT85
                    have hB : BrAt I85 β σ := BrAt.fr hB hT85 (fun a j h1 h2 => SLf_no (by omega))
                    have hP : PlAt I85 q σ := PlAt.fr hP hT85 (fun a j h1 h2 => SLf_no (by omega))
                    refine lv_icmp_eq (tgt := 93) hx hb (dg D_L_isSame (i := 48) rfl) (by decide) (fun c88 => ?_) (fun c88 => ?_)
                    · refine lv_aload_n hx hb (dg D_L_isSame (i := 51) rfl) rfl (lv_at hl 0 rfl) ?_
                      refine lv_iload_n hx hb (dg D_L_isSame (i := 52) rfl) rfl (lv_at hl 2 rfl) ?_
                      refine lv_iload hx hb (dg D_L_isSame (i := 53) rfl) (lv_at hl 4 rfl) ?_
                      refine callOi X hW hS hR (c_L_end (I := I85) σ x t (by first | exact hi | assumption | omega | decide | exact hP.1) (by first | exact hd | assumption | omega | decide | exact hP.1) (by first | exact hw | assumption | omega | decide | exact hP.1) (by first | exact hLb | assumption | omega | decide | exact hP.1) (by first | exact hx9 | assumption | omega | decide | exact hP.1) (by first | exact hy9 | assumption | omega | decide | exact hP.1)) (by decide) UVL_end LK_L_193 rfl rfl (Nat.le_of_ble_eq_true rfl) hl hcs (dg D_L_isSame (i := 54) rfl) (fun r97 I97 L1 R1 H locs hq hW hS => ?_)
                      obtain ⟨rfl, hT97, hp97_0, rfl, rfl⟩ := hq
                      have hF : Fr SLf I I97 := Fr.tr hF hT97 (fun _ _ h => h)
                      have hw : LwAt I97 σ := hw.fr hT97
                      have hB : BrAt I97 β σ := BrAt.fr hB hT97 (fun a j h1 h2 => SLf_no (by omega))
                      have hP : PlAt I97 q σ := PlAt.fr hP hT97 (fun a j h1 h2 => SLf_no (by omega))
                      refine lv_aload_n hx hb (dg D_L_isSame (i := 55) rfl) rfl (lv_at hl 0 rfl) ?_
                      refine rL_get X hW FI_L_25 rfl (dg D_L_isSame (i := 56) rfl) ?_
                      refine lv_iload_n hx hb (dg D_L_isSame (i := 57) rfl) rfl (lv_at hl 2 rfl) ?_
                      refine rL_ald (j := x) (v := σ (10 + 5 * x + 4)) X hW rfl ⟨by decide, by decide⟩ rfl (by omega) (by decide) (hw.li (by omega)) (dg D_L_isSame (i := 58) rfl) ?_
                      refine lv_icmp_le (tgt := 112) hx hb (dg D_L_isSame (i := 59) rfl) (by decide) (fun c106 => ?_) (fun c106 => ?_)
                      · refine lv_iinc (v := (nI t) + Int32.ofInt (-1)) (lv' := [(4, .int ((nI t) + Int32.ofInt (-1))), (0, .ref (ad bs 67)), (1, .ref (bs + 0)), (2, .int (nI x)), (3, .int (dnI (fun z => decide (σ (10 + 5 * x + 4) < (rgS σ x (z + 1)).1)) (Yn σ) z))]) hx hb (dg D_L_isSame (i := 62) rfl) hl (k := 4) rfl rfl (by decide) rfl (fun ls hl => ?_)
                        refine lv_goto (tgt := 21) hx hb (dg D_L_isSame (i := 63) rfl) (by decide) ?_
                        exact ih21 (by omega) I97 _ _ _ _ _ (by show _ = (if _ then _ else _); rw [show Yn σ - z - 1 = t by omega, if_neg (fun h => (Int32.not_lt.mpr c106) (of_decide_eq_true h))]) (by rw [show Yn σ - (z + 1) = t by omega]) hF hw hB hP hW hS (lv_sub hl [1, 2, 3, 4, 0] rfl)
                      · refine lv_iload hx hb (dg D_L_isSame (i := 60) rfl) (lv_at hl 4 rfl) ?_
                        refine lv_istore_n (lv' := [(3, .int (nI t)), (0, .ref (ad bs 67)), (1, .ref (bs + 0)), (2, .int (nI x)), (4, .int (nI t))]) hx hb (dg D_L_isSame (i := 61) rfl) rfl hl (by decide) rfl (fun ls hl => ?_)
                        refine lv_iinc (v := (nI t) + Int32.ofInt (-1)) (lv' := [(4, .int ((nI t) + Int32.ofInt (-1))), (3, .int (nI t)), (0, .ref (ad bs 67)), (1, .ref (bs + 0)), (2, .int (nI x))]) hx hb (dg D_L_isSame (i := 62) rfl) hl (k := 4) rfl rfl (by decide) rfl (fun ls hl => ?_)
                        refine lv_goto (tgt := 21) hx hb (dg D_L_isSame (i := 63) rfl) (by decide) ?_
                        exact ih21 (by omega) I97 _ _ _ _ _ (by show _ = (if _ then _ else _); rw [show Yn σ - z - 1 = t by omega, if_pos (decide_eq_true (Int32.not_le.mp c106))]) (by rw [show Yn σ - (z + 1) = t by omega]) hF hw hB hP hW hS (lv_sub hl [2, 3, 4, 1, 0] rfl)
                    · first | exact absurd rfl c88 | exact c88 rfl)
        exact loop21 0 (Nat.zero_le _) K2 _ _ _ _ _ (rfl) (by rw [Nat.sub_zero, show Yn σ = (Yn σ - 1) + 1 by omega, nI_dec]; rfl) hF hw hB hP hW hS (lv_sub hl [2, 3, 4, 1, 0] rfl))
  exact loop2 0 (Nat.zero_le _) I _ _ _ _ (congrArg nI (by omega)) hF hw hB hP hW hS (lv_sub hl [1, 2, 0] rfl)

