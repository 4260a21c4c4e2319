set_option maxHeartbeats 4000000 in
set_option maxRecDepth 100000 in
theorem c_X6_follow {l : Launch} {G : va_G} {bs : Nat} {cy : Nat → ClassId} {I : CI} {L : CL} {R : CR} (σ : Row) (β : Nat) (q : Nat) (x : Nat) (hi : Inv σ) (hβ : isBr β) (hB : BrAt I β σ) (hq : isPl q) (hGa : GaAt I q σ) (hRb : R q 0 = β) (hx5 : x < nS σ) : MTv l G bs cy MX6_follow 2 [.ref (bs + q), .int (nI x)] I L R (fun I1 L1 R1 => Fr (SRu q x) I I1 ∧ RuAt I1 q σ x ∧ L = L1 ∧ R = R1) := by
  refine MTv.of (own := RX6) pn_RX6 rfl (Nat.le_of_ble_eq_true rfl) ?_
  intro p e s m args below meth c Qf X hW hS fin ls hl
  have hx := X.1
  have hb := X.2.1
  have hR : RmOK (rmL 2 0 0) 2 := ⟨rfl, rfl⟩
  have hcs : 0 ≤ (rmL 2 0 0).cells ∧ 0 ≤ (rmL 2 0 0).slots := ⟨Nat.zero_le _, Nat.zero_le _⟩
  have hl : lv_has ls 6 [(0, .ref (bs + q)), (1, .int (nI x))] := hl
  have hF : Fr (SRu q x) I I := Fr.rf
  obtain ⟨hY, hY1, hY12, hLn, hL4, hSn, hS12, hGn, hG5⟩ := id hi
  have hbq := br_pl hβ hq
  refine lv_aload_n hx hb (dg D_X6_follow (i := 0) rfl) rfl (lv_at hl 0 rfl) ?_
  refine r_getr (v := β) X hW FI_X6_21 (shP hq) (ncP0 hq) rfl hRb (dg D_X6_follow (i := 1) rfl) ?_
  refine rn_getc (t := β + 4) X hW FN_X6_50 (shB hβ) (ncB0 hβ) rfl (dg D_X6_follow (i := 2) rfl) ?_
  refine lv_iload_n hx hb (dg D_X6_follow (i := 3) rfl) rfl (lv_at hl 1 rfl) ?_
  refine r_ald (j := x) (v := σ (10 + 5 * x + 2)) X hW (shB4 hβ) (ncB hβ (by decide)) rfl (by omega) (by omega) (hB.ru (by omega)) (dg D_X6_follow (i := 4) rfl) ?_
  refine lv_istore_n (lv' := [(2, .int (σ (10 + 5 * x + 2))), (0, .ref (bs + q)), (1, .int (nI x))]) hx hb (dg D_X6_follow (i := 5) rfl) rfl hl (by decide) rfl (fun ls hl => ?_)
  refine n_iconst (a := 0) hx hb (dg D_X6_follow (i := 6) rfl) rfl ?_
  refine lv_istore_n (lv' := [(3, .int (nI 0)), (2, .int (σ (10 + 5 * x + 2))), (0, .ref (bs + q)), (1, .int (nI x))]) hx hb (dg D_X6_follow (i := 7) rfl) rfl hl (by decide) rfl (fun ls hl => ?_)
  refine lv_iload_n hx hb (dg D_X6_follow (i := 8) rfl) rfl (lv_at hl 3 rfl) ?_
  refine lv_bipush (v := nI 13) hx hb (dg D_X6_follow (i := 9) rfl) (by decide) ?_
  refine n_imul hx hb (dg D_X6_follow (i := 10) rfl) ?_
  refine lv_istore (lv' := [(4, .int (nI (x * 13))), (3, .int (nI 0)), (2, .int (σ (10 + 5 * x + 2))), (0, .ref (bs + q)), (1, .int (nI x))]) hx hb (dg D_X6_follow (i := 11) rfl) hl (by decide) rfl (fun ls hl => ?_)
  refine n_iconst (a := 0) hx hb (dg D_X6_follow (i := 12) rfl) rfl ?_
  refine lv_istore (lv' := [(5, .int (nI 0)), (4, .int (nI (x * 13))), (3, .int (nI 0)), (2, .int (σ (10 + 5 * x + 2))), (0, .ref (bs + q)), (1, .int (nI x))]) hx hb (dg D_X6_follow (i := 13) rfl) hl (by decide) rfl (fun ls hl => ?_)
  have loop21 := up_ind (P := fun y => ∀ (K21 : CI) (H : Heap) (locs : List Loc) (ls : Array Slot) (v2 : Int32) (v3 : Int32) (v4 : Int32) (v5 : Int32), v2 = (rgS σ x y).1 → v3 = (rgS σ x y).2 → v4 = nI (x * 13 + y) → v5 = nI y → (Fr (SRu q x) I K21) → (BrAt K21 β σ) → (GaAt K21 q σ) → (rowM K21 (q + 2) (x * 13) y (fun z => (rgS σ x z).1)) → (rowM K21 (q + 3) (x * 13) y (fun z => (rgS σ x z).2)) → Wd G bs cy K21 L R H → va_S (Aq bs) s.heap H locs → lv_has ls 6 [(0, .ref (bs + q)), (1, .int (nI x)), (2, .int v2), (3, .int v3), (4, .int v4), (5, .int v5)] → W p l e (rmL 2 0 0) s m args below meth c H locs 0 0 Qf (F0 m 21 ls [])) (Yn σ) (fun y hx21 ih21 => by
      intro K21 H locs ls v2 v3 v4 v5 q2 q3 q4 q5 hF hB hGa hRu hGu hW hS hl
      subst q2
      subst q3
      subst q4
      subst q5
      refine lv_iload hx hb (dg D_X6_follow (i := 14) rfl) (lv_at hl 5 rfl) ?_
      refine lv_aload_n hx hb (dg D_X6_follow (i := 15) rfl) rfl (lv_at hl 0 rfl) ?_
      refine r_getr (v := β) X hW FI_X6_21 (shP hq) (ncP0 hq) rfl hRb (dg D_X6_follow (i := 16) rfl) ?_
      refine rn_geti (v := nI (Yn σ)) X hW FN_X6_53 (shB hβ) (ncB0 hβ) rfl (hB.c0 hi) (dg D_X6_follow (i := 17) rfl) ?_
      refine n_icmp_ge (tgt := 108) hx hb (by omega) (by omega) (dg D_X6_follow (i := 18) rfl) (by decide) (fun c30 => ?_) (fun c30 => ?_)
      · refine lv_aload_n hx hb (dg D_X6_follow (i := 58) rfl) rfl (lv_at hl 0 rfl) ?_
        refine r_getc (t := q + 2) X hW FI_X6_15 (shP hq) (ncP0 hq) rfl (dg D_X6_follow (i := 59) rfl) ?_
        refine lv_iload hx hb (dg D_X6_follow (i := 60) rfl) (lv_at hl 4 rfl) ?_
        refine lv_iload_n hx hb (dg D_X6_follow (i := 61) rfl) rfl (lv_at hl 2 rfl) ?_
        refine r_ast (j := x * 13 + y) (v := (rgS σ x y).1) X hW hS (shP2 hq) (ncP hq (by decide)) rfl (by omega) (by omega) (dg D_X6_follow (i := 62) rfl) (fun H locs hW hS => ?_)
        have hF : Fr (SRu q x) I (u2 K21 (q + 2) (x * 13 + y) ((rgS σ x y).1)) := Fr.put hF (SRu_2 (by omega) (by omega))
        have hB : BrAt (u2 K21 (q + 2) (x * 13 + y) ((rgS σ x y).1)) β σ := BrAt.pu hB (by omega)
        have hGa : GaAt (u2 K21 (q + 2) (x * 13 + y) ((rgS σ x y).1)) q σ := GaAt.pu hGa (by omega)
        obtain ⟨J115, eJ115⟩ : ∃ J, J = u2 K21 (q + 2) (x * 13 + y) ((rgS σ x y).1) := ⟨_, rfl⟩
        rw [← eJ115] at hW hF hB hGa
        exact fin (dg D_X6_follow (i := 63) rfl) hW hS ⟨hF, ⟨fun z hz => by rw [eJ115]; exact (rowM.ext hRu rfl) z (by omega), fun z hz => by rw [eJ115, u2_ne (by omega)]; exact hGu z (by omega)⟩, rfl, rfl⟩
      · refine lv_aload_n hx hb (dg D_X6_follow (i := 19) rfl) rfl (lv_at hl 0 rfl) ?_
        refine r_getc (t := q + 2) X hW FI_X6_15 (shP hq) (ncP0 hq) rfl (dg D_X6_follow (i := 20) rfl) ?_
        refine lv_iload hx hb (dg D_X6_follow (i := 21) rfl) (lv_at hl 4 rfl) ?_
        refine lv_iload_n hx hb (dg D_X6_follow (i := 22) rfl) rfl (lv_at hl 2 rfl) ?_
        refine r_ast (j := x * 13 + y) (v := (rgS σ x y).1) X hW hS (shP2 hq) (ncP hq (by decide)) rfl (by omega) (by omega) (dg D_X6_follow (i := 23) rfl) (fun H locs hW hS => ?_)
        have hF : Fr (SRu q x) I (u2 K21 (q + 2) (x * 13 + y) ((rgS σ x y).1)) := Fr.put hF (SRu_2 (by omega) (by omega))
        have hB : BrAt (u2 K21 (q + 2) (x * 13 + y) ((rgS σ x y).1)) β σ := BrAt.pu hB (by omega)
        have hGa : GaAt (u2 K21 (q + 2) (x * 13 + y) ((rgS σ x y).1)) q σ := GaAt.pu hGa (by omega)
        obtain ⟨J40, eJ40⟩ : ∃ J, J = u2 K21 (q + 2) (x * 13 + y) ((rgS σ x y).1) := ⟨_, rfl⟩
        rw [← eJ40] at hW hF hB hGa
        refine lv_aload_n hx hb (dg D_X6_follow (i := 24) rfl) rfl (lv_at hl 0 rfl) ?_
        refine r_getc (t := q + 3) X hW FI_X6_18 (shP hq) (ncP0 hq) rfl (dg D_X6_follow (i := 25) rfl) ?_
        refine lv_iload hx hb (dg D_X6_follow (i := 26) rfl) (lv_at hl 4 rfl) ?_
        refine lv_iload_n hx hb (dg D_X6_follow (i := 27) rfl) rfl (lv_at hl 3 rfl) ?_
        refine r_ast (j := x * 13 + y) (v := (rgS σ x y).2) X hW hS (shP3 hq) (ncP hq (by decide)) rfl (by omega) (by omega) (dg D_X6_follow (i := 28) rfl) (fun H locs hW hS => ?_)
        have hF : Fr (SRu q x) I (u2 J40 (q + 3) (x * 13 + y) ((rgS σ x y).2)) := Fr.put hF (SRu_3 (by omega) (by omega))
        have hB : BrAt (u2 J40 (q + 3) (x * 13 + y) ((rgS σ x y).2)) β σ := BrAt.pu hB (by omega)
        have hGa : GaAt (u2 J40 (q + 3) (x * 13 + y) ((rgS σ x y).2)) q σ := GaAt.pu hGa (by omega)
        obtain ⟨J48, eJ48⟩ : ∃ J, J = u2 J40 (q + 3) (x * 13 + y) ((rgS σ x y).2) := ⟨_, rfl⟩
        rw [← eJ48] at hW hF hB hGa
        refine lv_aload_n hx hb (dg D_X6_follow (i := 29) rfl) rfl (lv_at hl 0 rfl) ?_
        refine lv_iload hx hb (dg D_X6_follow (i := 30) rfl) (lv_at hl 5 rfl) ?_
        refine lv_iload_n hx hb (dg D_X6_follow (i := 31) rfl) rfl (lv_at hl 1 rfl) ?_
        refine callVi X hW hS hR (c_X6_isPainted (I := J48) σ q y x (by first | assumption | omega | decide | exact hP.1) (by first | assumption | omega | decide | exact hP.1) (by first | assumption | omega | decide | exact hP.1) (by first | assumption | omega | decide | exact hP.1)) (by decide) UVX6_isPainted LK_X6_56 (shP hq) (ncP0 hq) rfl rfl rfl (Nat.le_of_ble_eq_true rfl) hl hcs (dg D_X6_follow (i := 32) rfl) (fun r53 I53 L1 R1 H locs hq hW hS => ?_)
        obtain ⟨rfl, rfl, rfl, rfl⟩ := hq
        refine z_if_eq (tgt := 72) hx hb (dg D_X6_follow (i := 33) rfl) (by decide) (fun c56 => ?_) (fun c56 => ?_)
        · refine lv_iload_n hx hb (dg D_X6_follow (i := 41) rfl) rfl (lv_at hl 3 rfl) ?_
          refine lv_if_le (tgt := 82) hx hb (dg D_X6_follow (i := 42) rfl) (by decide) (fun c73 => ?_) (fun c73 => ?_)
          · have hrg : rgS σ x (y + 1) = (mn (nI 100) ((rgS σ x y).1 + σ (10 + 5 * x + 3)), (rgS σ x y).2) := rg_g c56 c73
            refine lv_bipush (v := nI 100) hx hb (dg D_X6_follow (i := 45) rfl) (by decide) ?_
            refine lv_iload_n hx hb (dg D_X6_follow (i := 46) rfl) rfl (lv_at hl 2 rfl) ?_
            refine lv_aload_n hx hb (dg D_X6_follow (i := 47) rfl) rfl (lv_at hl 0 rfl) ?_
            refine r_getr (v := β) X hW FI_X6_21 (shP hq) (ncP0 hq) rfl hRb (dg D_X6_follow (i := 48) rfl) ?_
            refine rn_getc (t := β + 5) X hW FN_X6_63 (shB hβ) (ncB0 hβ) rfl (dg D_X6_follow (i := 49) rfl) ?_
            refine lv_iload_n hx hb (dg D_X6_follow (i := 50) rfl) rfl (lv_at hl 1 rfl) ?_
            refine r_ald (j := x) (v := σ (10 + 5 * x + 3)) X hW (shB5 hβ) (ncB hβ (by decide)) rfl (by omega) (by omega) (hB.ra (by omega)) (dg D_X6_follow (i := 51) rfl) ?_
            refine lv_iadd hx hb (dg D_X6_follow (i := 52) rfl) ?_
            refine r_min (v := mn (nI 100) ((rgS σ x y).1 + σ (10 + 5 * x + 3))) X hR (by decide) LK_X6_66 (Nat.le_of_ble_eq_true rfl) hl hcs rfl (dg D_X6_follow (i := 53) rfl) ?_
            refine lv_istore_n (lv' := [(2, .int (mn (nI 100) ((rgS σ x y).1 + σ (10 + 5 * x + 3)))), (0, .ref (bs + q)), (1, .int (nI x)), (3, .int ((rgS σ x y).2)), (4, .int (nI (x * 13 + y))), (5, .int (nI y))]) hx hb (dg D_X6_follow (i := 54) rfl) rfl hl (by decide) rfl (fun ls hl => ?_)
            refine lv_iinc (v := nI (x * 13 + y + 1)) (lv' := [(4, .int (nI (x * 13 + y + 1))), (2, .int (mn (nI 100) ((rgS σ x y).1 + σ (10 + 5 * x + 3)))), (0, .ref (bs + q)), (1, .int (nI x)), (3, .int ((rgS σ x y).2)), (5, .int (nI y))]) hx hb (dg D_X6_follow (i := 55) rfl) hl (k := 4) rfl (nI_add _ _) (by decide) rfl (fun ls hl => ?_)
            refine lv_iinc (v := nI (y + 1)) (lv' := [(5, .int (nI (y + 1))), (4, .int (nI (x * 13 + y + 1))), (2, .int (mn (nI 100) ((rgS σ x y).1 + σ (10 + 5 * x + 3)))), (0, .ref (bs + q)), (1, .int (nI x)), (3, .int ((rgS σ x y).2))]) hx hb (dg D_X6_follow (i := 56) rfl) hl (k := 5) rfl (nI_add _ _) (by decide) rfl (fun ls hl => ?_)
            refine lv_goto (tgt := 21) hx hb (dg D_X6_follow (i := 57) rfl) (by decide) ?_
            exact ih21 (by omega) J48 _ _ _ _ _ _ _ (by rw [hrg]) (by rw [hrg]) (congrArg nI (by omega)) (congrArg nI (by omega)) hF hB hGa (by rw [eJ48, eJ40]; exact (rowM.ext hRu rfl).keep (by omega)) (by rw [eJ48]; exact rowM.ext (by rw [eJ40]; exact hGu.keep (by omega)) rfl) hW hS (lv_sub hl [3, 4, 2, 5, 1, 0] rfl)
          · have hrg : rgS σ x (y + 1) = ((rgS σ x y).1, (rgS σ x y).2 + Int32.ofInt (-1)) := rg_d c56 c73
            refine lv_iinc (v := ((rgS σ x y).2) + Int32.ofInt (-1)) (lv' := [(3, .int (((rgS σ x y).2) + Int32.ofInt (-1))), (0, .ref (bs + q)), (1, .int (nI x)), (2, .int ((rgS σ x y).1)), (4, .int (nI (x * 13 + y))), (5, .int (nI y))]) hx hb (dg D_X6_follow (i := 43) rfl) hl (k := 3) rfl rfl (by decide) rfl (fun ls hl => ?_)
            refine lv_goto (tgt := 99) hx hb (dg D_X6_follow (i := 44) rfl) (by decide) ?_
            refine lv_iinc (v := nI (x * 13 + y + 1)) (lv' := [(4, .int (nI (x * 13 + y + 1))), (3, .int (((rgS σ x y).2) + Int32.ofInt (-1))), (0, .ref (bs + q)), (1, .int (nI x)), (2, .int ((rgS σ x y).1)), (5, .int (nI y))]) hx hb (dg D_X6_follow (i := 55) rfl) hl (k := 4) rfl (nI_add _ _) (by decide) rfl (fun ls hl => ?_)
            refine lv_iinc (v := nI (y + 1)) (lv' := [(5, .int (nI (y + 1))), (4, .int (nI (x * 13 + y + 1))), (3, .int (((rgS σ x y).2) + Int32.ofInt (-1))), (0, .ref (bs + q)), (1, .int (nI x)), (2, .int ((rgS σ x y).1))]) hx hb (dg D_X6_follow (i := 56) rfl) hl (k := 5) rfl (nI_add _ _) (by decide) rfl (fun ls hl => ?_)
            refine lv_goto (tgt := 21) hx hb (dg D_X6_follow (i := 57) rfl) (by decide) ?_
            exact ih21 (by omega) J48 _ _ _ _ _ _ _ (by rw [hrg]) (by rw [hrg]) (congrArg nI (by omega)) (congrArg nI (by omega)) hF hB hGa (by rw [eJ48, eJ40]; exact (rowM.ext hRu rfl).keep (by omega)) (by rw [eJ48]; exact rowM.ext (by rw [eJ40]; exact hGu.keep (by omega)) rfl) hW hS (lv_sub hl [3, 4, 5, 2, 1, 0] rfl)
        · have hrg : rgS σ x (y + 1) = (nI 0, σ 2) := rg_p c56
          refine n_iconst (a := 0) hx hb (dg D_X6_follow (i := 34) rfl) rfl ?_
          refine lv_istore_n (lv' := [(2, .int (nI 0)), (0, .ref (bs + q)), (1, .int (nI x)), (3, .int ((rgS σ x y).2)), (4, .int (nI (x * 13 + y))), (5, .int (nI y))]) hx hb (dg D_X6_follow (i := 35) rfl) rfl hl (by decide) rfl (fun ls hl => ?_)
          refine lv_aload_n hx hb (dg D_X6_follow (i := 36) rfl) rfl (lv_at hl 1 rfl) ?_
          refine r_getr (v := β) X hW FI_X6_21 (shP hq) (ncP0 hq) rfl hRb (dg D_X6_follow (i := 37) rfl) ?_
          refine rn_geti (v := σ 2) X hW FN_X6_60 (shB hβ) (ncB0 hβ) rfl hB.c2 (dg D_X6_follow (i := 38) rfl) ?_
          refine lv_istore_n (lv' := [(3, .int (σ 2)), (2, .int (nI 0)), (0, .ref (bs + q)), (1, .int (nI x)), (4, .int (nI (x * 13 + y))), (5, .int (nI y))]) hx hb (dg D_X6_follow (i := 39) rfl) rfl hl (by decide) rfl (fun ls hl => ?_)
          refine lv_goto (tgt := 99) hx hb (dg D_X6_follow (i := 40) rfl) (by decide) ?_
          refine lv_iinc (v := nI (x * 13 + y + 1)) (lv' := [(4, .int (nI (x * 13 + y + 1))), (3, .int (σ 2)), (2, .int (nI 0)), (0, .ref (bs + q)), (1, .int (nI x)), (5, .int (nI y))]) hx hb (dg D_X6_follow (i := 55) rfl) hl (k := 4) rfl (nI_add _ _) (by decide) rfl (fun ls hl => ?_)
          refine lv_iinc (v := nI (y + 1)) (lv' := [(5, .int (nI (y + 1))), (4, .int (nI (x * 13 + y + 1))), (3, .int (σ 2)), (2, .int (nI 0)), (0, .ref (bs + q)), (1, .int (nI x))]) hx hb (dg D_X6_follow (i := 56) rfl) hl (k := 5) rfl (nI_add _ _) (by decide) rfl (fun ls hl => ?_)
          refine lv_goto (tgt := 21) hx hb (dg D_X6_follow (i := 57) rfl) (by decide) ?_
          exact ih21 (by omega) J48 _ _ _ _ _ _ _ (by rw [hrg]) (by rw [hrg]) (congrArg nI (by omega)) (congrArg nI (by omega)) hF hB hGa (by rw [eJ48, eJ40]; exact (rowM.ext hRu rfl).keep (by omega)) (by rw [eJ48]; exact rowM.ext (by rw [eJ40]; exact hGu.keep (by omega)) rfl) hW hS (lv_sub hl [4, 5, 3, 2, 1, 0] rfl))
  exact loop21 0 (Nat.zero_le _) I _ _ _ _ _ _ _ (rfl) (rfl) (congrArg nI (by omega)) (congrArg nI (by omega)) hF hB hGa rowM.zero rowM.zero hW hS (lv_sub hl [4, 5, 3, 2, 1, 0] rfl)

set_option maxHeartbeats 4000000 in
set_option maxRecDepth 100000 in
theorem c_X6_followAll {l : Launch} {G : va_G} {bs : Nat} {cy : Nat → ClassId} {I : CI} {L : CL} {R : CR} (σ : Row) (β : Nat) (q : Nat) (hi : Inv σ) (hβ : isBr β) (hB : BrAt I β σ) (hq : isPl q) (hGa : GaAt I q σ) (hRb : R q 0 = β) : MTv l G bs cy MX6_followAll 3 [.ref (bs + q)] I L R (fun I1 L1 R1 => Fr (SRw q) I I1 ∧ PlAt I1 q σ ∧ L = L1 ∧ R = R1) := by
  refine MTv.of (own := RX6) pn_RX6 rfl (Nat.le_of_ble_eq_true rfl) ?_
  intro p e s m args below meth c Qf X hW hS fin ls hl
  have hx := X.1
  have hb := X.2.1
  have hR : RmOK (rmL 3 0 0) 3 := ⟨rfl, rfl⟩
  have hcs : 0 ≤ (rmL 3 0 0).cells ∧ 0 ≤ (rmL 3 0 0).slots := ⟨Nat.zero_le _, Nat.zero_le _⟩
  have hl : lv_has ls 2 [(0, .ref (bs + q))] := hl
  have hF : Fr (SRw q) I I := Fr.rf
  obtain ⟨hY, hY1, hY12, hLn, hL4, hSn, hS12, hGn, hG5⟩ := id hi
  have hbq := br_pl hβ hq
  refine n_iconst (a := 0) hx hb (dg D_X6_followAll (i := 0) rfl) rfl ?_
  refine lv_istore_n (lv' := [(1, .int (nI 0)), (0, .ref (bs + q))]) hx hb (dg D_X6_followAll (i := 1) rfl) rfl hl (by decide) rfl (fun ls hl => ?_)
  have loop2 := up_ind (P := fun x => ∀ (K2 : CI) (H : Heap) (locs : List Loc) (ls : Array Slot) (v1 : Int32), v1 = nI x → (Fr (SRw q) I K2) → (BrAt K2 β σ) → (GaAt K2 q σ) → (∀ z, z < x → RuAt K2 q σ z) → Wd G bs cy K2 L R H → va_S (Aq bs) s.heap H locs → lv_has ls 2 [(0, .ref (bs + q)), (1, .int v1)] → W p l e (rmL 3 0 0) s m args below meth c H locs 0 0 Qf (F0 m 2 ls [])) (nS σ) (fun x hx2 ih2 => by
      intro K2 H locs ls v1 q1 hF hB hGa hR9 hW hS hl
      subst q1
      refine lv_iload_n hx hb (dg D_X6_followAll (i := 2) rfl) rfl (lv_at hl 1 rfl) ?_
      refine lv_aload_n hx hb (dg D_X6_followAll (i := 3) rfl) rfl (lv_at hl 0 rfl) ?_
      refine r_getr (v := β) X hW FI_X6_21 (shP hq) (ncP0 hq) rfl hRb (dg D_X6_followAll (i := 4) rfl) ?_
      refine rn_geti (v := nI (nS σ)) X hW FN_X6_46 (shB hβ) (ncB0 hβ) rfl (hB.c4 hi) (dg D_X6_followAll (i := 5) rfl) ?_
      refine n_icmp_ge (tgt := 24) hx hb (by omega) (by omega) (dg D_X6_followAll (i := 6) rfl) (by decide) (fun c10 => ?_) (fun c10 => ?_)
      · exact fin (dg D_X6_followAll (i := 12) rfl) hW hS ⟨hF, PlAt.of hGa (fun z hz => hR9 z (by omega)), rfl, rfl⟩
      · refine lv_aload_n hx hb (dg D_X6_followAll (i := 7) rfl) rfl (lv_at hl 0 rfl) ?_
        refine lv_iload_n hx hb (dg D_X6_followAll (i := 8) rfl) rfl (lv_at hl 1 rfl) ?_
        refine callVv X hW hS hR (c_X6_follow (I := K2) σ β q x (by first | assumption | omega | decide | exact hP.1) (by first | assumption | omega | decide | exact hP.1) (by first | assumption | omega | decide | exact hP.1) (by first | assumption | omega | decide | exact hP.1) (by first | assumption | omega | decide | exact hP.1) (by first | assumption | omega | decide | exact hP.1) (by first | assumption | omega | decide | exact hP.1)) (by decide) UVX6_follow LK_X6_34 (shP hq) (ncP0 hq) rfl rfl rfl (Nat.le_of_ble_eq_true rfl) hl hcs (dg D_X6_followAll (i := 9) rfl) (fun I15 L1 R1 H locs hq hW hS => ?_)
        obtain ⟨hT15, hp15_0, rfl, rfl⟩ := hq
        have hF : Fr (SRw q) I I15 := Fr.tr hF hT15 (by intro a j h; simp only [SRu, SRw, Bool.or_eq_true, Bool.and_eq_true, beq_iff_eq, decide_eq_true_eq] at h ⊢; omega)
        have hB : BrAt I15 β σ := BrAt.frI hB hT15 SRu_in (by omega)
        have hGa : GaAt I15 q σ := GaAt.frI hGa hT15 SRu_in (by omega)
        refine lv_iinc (v := nI (x + 1)) (lv' := [(1, .int (nI (x + 1))), (0, .ref (bs + q))]) hx hb (dg D_X6_followAll (i := 10) rfl) hl (k := 1) rfl (nI_add _ _) (by decide) rfl (fun ls hl => ?_)
        refine lv_goto (tgt := 2) hx hb (dg D_X6_followAll (i := 11) rfl) (by decide) ?_
        exact ih2 (by omega) I15 _ _ _ _ (congrArg nI (by omega)) hF hB hGa (fun z hz => by rcases Nat.lt_succ_iff_lt_or_eq.mp hz with h | h; exact SRu_RuAt (hR9 z h) hT15 (by omega) hY12; rw [h]; exact hp15_0) hW hS (lv_sub hl [1, 0] rfl))
  exact loop2 0 (Nat.zero_le _) I _ _ _ _ (congrArg nI (by omega)) hF hB hGa (fun z hz => absurd hz (Nat.not_lt_zero z)) hW hS (lv_sub hl [1, 0] rfl)

set_option maxHeartbeats 4000000 in
set_option maxRecDepth 100000 in
theorem c_X6_put {l : Launch} {G : va_G} {bs : Nat} {cy : Nat → ClassId} {I : CI} {L : CL} {R : CR} (σ : Row) (β : Nat) (q : Nat) (y : Nat) (x : Nat) (g : Int32) (hi : Inv σ) (hβ : isBr β) (hB : BrAt I β σ) (hq : isPl q) (hGa : GaAt I q σ) (hRb : R q 0 = β) (hx5 : x < nS σ) (hy5 : y < 12) : MTv l G bs cy MX6_put 3 [.ref (bs + q), .int (nI y), .int (nI x), .int g] I L R (fun I1 L1 R1 => Fr (SPu q) I I1 ∧ GaAt I1 q (setP σ x y g) ∧ RuAt I1 q (setP σ x y g) x ∧ L = L1 ∧ R = R1) := by
  refine MTv.of (own := RX6) pn_RX6 rfl (Nat.le_of_ble_eq_true rfl) ?_
  intro p e s m args below meth c Qf X hW hS fin ls hl
  have hx := X.1
  have hb := X.2.1
  have hR : RmOK (rmL 3 0 0) 3 := ⟨rfl, rfl⟩
  have hcs : 0 ≤ (rmL 3 0 0).cells ∧ 0 ≤ (rmL 3 0 0).slots := ⟨Nat.zero_le _, Nat.zero_le _⟩
  have hl : lv_has ls 4 [(0, .ref (bs + q)), (1, .int (nI y)), (2, .int (nI x)), (3, .int g)] := hl
  have hF : Fr (SPu q) I I := Fr.rf
  obtain ⟨hY, hY1, hY12, hLn, hL4, hSn, hS12, hGn, hG5⟩ := id hi
  have hbq := br_pl hβ hq
  refine lv_aload_n hx hb (dg D_X6_put (i := 0) rfl) rfl (lv_at hl 0 rfl) ?_
  refine r_getc (t := q + 1) X hW FI_X6_11 (shP hq) (ncP0 hq) rfl (dg D_X6_put (i := 1) rfl) ?_
  refine lv_iload_n hx hb (dg D_X6_put (i := 2) rfl) rfl (lv_at hl 1 rfl) ?_
  refine lv_bipush (v := nI 12) hx hb (dg D_X6_put (i := 3) rfl) (by decide) ?_
  refine n_imul hx hb (dg D_X6_put (i := 4) rfl) ?_
  refine lv_iload_n hx hb (dg D_X6_put (i := 5) rfl) rfl (lv_at hl 2 rfl) ?_
  refine n_iadd hx hb (dg D_X6_put (i := 6) rfl) ?_
  refine lv_iload_n hx hb (dg D_X6_put (i := 7) rfl) rfl (lv_at hl 3 rfl) ?_
  refine r_ast (j := (y * 12) + x) (v := g) X hW hS (shP1 hq) (ncP hq (by decide)) rfl (by omega) (by omega) (dg D_X6_put (i := 8) rfl) (fun H locs hW hS => ?_)
  have hF : Fr (SPu q) I (u2 I (q + 1) ((y * 12) + x) g) := Fr.put hF SPu_1
  have hB : BrAt (u2 I (q + 1) ((y * 12) + x) g) β σ := BrAt.pu hB (by omega)
  have hGa : GaAt (u2 I (q + 1) ((y * 12) + x) g) q (setP σ x y g) := GaAt.put hGa (by omega) (by omega)
  obtain ⟨J11, eJ11⟩ : ∃ J, J = u2 I (q + 1) ((y * 12) + x) g := ⟨_, rfl⟩
  rw [← eJ11] at hW hF hB hGa
  refine lv_aload_n hx hb (dg D_X6_put (i := 9) rfl) rfl (lv_at hl 0 rfl) ?_
  refine lv_iload_n hx hb (dg D_X6_put (i := 10) rfl) rfl (lv_at hl 2 rfl) ?_
  refine callVv X hW hS hR (c_X6_follow (I := J11) (setP σ x y g) β q x (Inv_setP hi) (by first | assumption | omega | decide | exact hP.1) (BrAt_Sm hB Sm_setP hi) (by first | assumption | omega | decide | exact hP.1) (by first | assumption | omega | decide | exact hP.1) (by first | assumption | omega | decide | exact hP.1) (by rw [nS_setP]; exact hx5)) (by decide) UVX6_follow LK_X6_34 (shP hq) (ncP0 hq) rfl rfl rfl (Nat.le_of_ble_eq_true rfl) hl hcs (dg D_X6_put (i := 11) rfl) (fun I14 L1 R1 H locs hq hW hS => ?_)
  obtain ⟨hT14, hp14_0, rfl, rfl⟩ := hq
  have hF : Fr (SPu q) I I14 := Fr.tr hF hT14 (by intro a j h; simp only [SRu, SPu, Bool.or_eq_true, Bool.and_eq_true, beq_iff_eq, decide_eq_true_eq] at h ⊢; omega)
  have hB : BrAt I14 β σ := BrAt.frI hB hT14 SRu_in (by omega)
  have hGa : GaAt I14 q (setP σ x y g) := GaAt.frI hGa hT14 SRu_in (by omega)
  exact fin (dg D_X6_put (i := 12) rfl) hW hS ⟨hF, hGa, hp14_0, rfl, rfl⟩

set_option maxHeartbeats 4000000 in
set_option maxRecDepth 100000 in
theorem cP_X6_put {l : Launch} {G : va_G} {bs : Nat} {cy : Nat → ClassId} {I : CI} {L : CL} {R : CR} (σ : Row) (β : Nat) (q : Nat) (y : Nat) (x : Nat) (g : Int32) (hi : Inv σ) (hβ : isBr β) (hB : BrAt I β σ) (hq : isPl q) (hGa : GaAt I q σ) (hRb : R q 0 = β) (hx5 : x < nS σ) (hy5 : y < 12) (hP : PlAt I q σ) : MTv l G bs cy MX6_put 3 [.ref (bs + q), .int (nI y), .int (nI x), .int g] I L R (fun I1 L1 R1 => Fr (SPu q) I I1 ∧ PlAt I1 q (setP σ x y g) ∧ L = L1 ∧ R = R1) := by
  refine MTv.of (own := RX6) pn_RX6 rfl (Nat.le_of_ble_eq_true rfl) ?_
  intro p e s m args below meth c Qf X hW hS fin ls hl
  have hx := X.1
  have hb := X.2.1
  have hR : RmOK (rmL 3 0 0) 3 := ⟨rfl, rfl⟩
  have hcs : 0 ≤ (rmL 3 0 0).cells ∧ 0 ≤ (rmL 3 0 0).slots := ⟨Nat.zero_le _, Nat.zero_le _⟩
  have hl : lv_has ls 4 [(0, .ref (bs + q)), (1, .int (nI y)), (2, .int (nI x)), (3, .int g)] := hl
  have hF : Fr (SPu q) I I := Fr.rf
  obtain ⟨hY, hY1, hY12, hLn, hL4, hSn, hS12, hGn, hG5⟩ := id hi
  have hbq := br_pl hβ hq
  have hRo : ∀ z, z < nS σ → z ≠ x → RuAt I q σ z := fun z hz _ => hP.ru hz
  refine lv_aload_n hx hb (dg D_X6_put (i := 0) rfl) rfl (lv_at hl 0 rfl) ?_
  refine r_getc (t := q + 1) X hW FI_X6_11 (shP hq) (ncP0 hq) rfl (dg D_X6_put (i := 1) rfl) ?_
  refine lv_iload_n hx hb (dg D_X6_put (i := 2) rfl) rfl (lv_at hl 1 rfl) ?_
  refine lv_bipush (v := nI 12) hx hb (dg D_X6_put (i := 3) rfl) (by decide) ?_
  refine n_imul hx hb (dg D_X6_put (i := 4) rfl) ?_
  refine lv_iload_n hx hb (dg D_X6_put (i := 5) rfl) rfl (lv_at hl 2 rfl) ?_
  refine n_iadd hx hb (dg D_X6_put (i := 6) rfl) ?_
  refine lv_iload_n hx hb (dg D_X6_put (i := 7) rfl) rfl (lv_at hl 3 rfl) ?_
  refine r_ast (j := (y * 12) + x) (v := g) X hW hS (shP1 hq) (ncP hq (by decide)) rfl (by omega) (by omega) (dg D_X6_put (i := 8) rfl) (fun H locs hW hS => ?_)
  have hF : Fr (SPu q) I (u2 I (q + 1) ((y * 12) + x) g) := Fr.put hF SPu_1
  have hB : BrAt (u2 I (q + 1) ((y * 12) + x) g) β σ := BrAt.pu hB (by omega)
  have hGa : GaAt (u2 I (q + 1) ((y * 12) + x) g) q (setP σ x y g) := GaAt.put hGa (by omega) (by omega)
  have hRo : ∀ z, z < nS σ → z ≠ x → RuAt (u2 I (q + 1) ((y * 12) + x) g) q σ z := fun z h1 h2 => (hRo z h1 h2).frI fr_u2 in_u2 (by omega)
  obtain ⟨J11, eJ11⟩ : ∃ J, J = u2 I (q + 1) ((y * 12) + x) g := ⟨_, rfl⟩
  rw [← eJ11] at hW hF hB hGa hRo
  refine lv_aload_n hx hb (dg D_X6_put (i := 9) rfl) rfl (lv_at hl 0 rfl) ?_
  refine lv_iload_n hx hb (dg D_X6_put (i := 10) rfl) rfl (lv_at hl 2 rfl) ?_
  refine callVv X hW hS hR (c_X6_follow (I := J11) (setP σ x y g) β q x (Inv_setP hi) (by first | assumption | omega | decide | exact hP.1) (BrAt_Sm hB Sm_setP hi) (by first | assumption | omega | decide | exact hP.1) (by first | assumption | omega | decide | exact hP.1) (by first | assumption | omega | decide | exact hP.1) (by rw [nS_setP]; exact hx5)) (by decide) UVX6_follow LK_X6_34 (shP hq) (ncP0 hq) rfl rfl rfl (Nat.le_of_ble_eq_true rfl) hl hcs (dg D_X6_put (i := 11) rfl) (fun I14 L1 R1 H locs hq hW hS => ?_)
  obtain ⟨hT14, hp14_0, rfl, rfl⟩ := hq
  have hF : Fr (SPu q) I I14 := Fr.tr hF hT14 (by intro a j h; simp only [SRu, SPu, Bool.or_eq_true, Bool.and_eq_true, beq_iff_eq, decide_eq_true_eq] at h ⊢; omega)
  have hB : BrAt I14 β σ := BrAt.frI hB hT14 SRu_in (by omega)
  have hGa : GaAt I14 q (setP σ x y g) := GaAt.frI hGa hT14 SRu_in (by omega)
  have hRo : ∀ z, z < nS σ → z ≠ x → RuAt I14 q σ z := fun z h1 h2 => SRu_RuAt (hRo z h1 h2) hT14 h2 hY12
  exact fin (dg D_X6_put (i := 12) rfl) hW hS ⟨hF, PlAt.of hGa (fun z hz => by rw [nS_setP] at hz; by_cases e : z = x; rw [e]; exact hp14_0; exact RuAt_setP (hRo z hz e) e (by omega) (by omega)), rfl, rfl⟩

set_option maxHeartbeats 4000000 in
set_option maxRecDepth 100000 in
theorem c_X6_start {l : Launch} {G : va_G} {bs : Nat} {cy : Nat → ClassId} {I : CI} {L : CL} {R : CR} (σ : Row) (β : Nat) (q : Nat) (hi : Inv σ) (hβ : isBr β) (hB : BrAt I β σ) (hq : isPl q) : MTv l G bs cy MX6_start 4 [.ref (bs + q), .ref (bs + β)] I L R (fun I1 L1 R1 => Fr (SPu q) I I1 ∧ PlAt I1 q (clP σ) ∧ L = L1 ∧ R1 = u2R R q 0 β) := by
  refine MTv.of (own := RX6) pn_RX6 rfl (Nat.le_of_ble_eq_true rfl) ?_
  intro p e s m args below meth c Qf X hW hS fin ls hl
  have hx := X.1
  have hb := X.2.1
  have hR : RmOK (rmL 4 0 0) 4 := ⟨rfl, rfl⟩
  have hcs : 0 ≤ (rmL 4 0 0).cells ∧ 0 ≤ (rmL 4 0 0).slots := ⟨Nat.zero_le _, Nat.zero_le _⟩
  have hl : lv_has ls 2 [(0, .ref (bs + q)), (1, .ref (bs + β))] := hl
  have hF : Fr (SPu q) I I := Fr.rf
  obtain ⟨hY, hY1, hY12, hLn, hL4, hSn, hS12, hGn, hG5⟩ := id hi
  have hbq := br_pl hβ hq
  refine lv_aload_n hx hb (dg D_X6_start (i := 0) rfl) rfl (lv_at hl 0 rfl) ?_
  refine lv_aload_n hx hb (dg D_X6_start (i := 1) rfl) rfl (lv_at hl 1 rfl) ?_
  refine r_putr (v := β) (C := "SpanPainter$Bridge") X hW hS FI_X6_21 (shP hq) (ncP0 hq) rfl rfl (by decide +kernel) (dg D_X6_start (i := 2) rfl) (fun H locs hW hS => ?_)
  refine lv_aload_n hx hb (dg D_X6_start (i := 3) rfl) rfl (lv_at hl 0 rfl) ?_
  refine r_getc (t := q + 1) X hW FI_X6_11 (shP hq) (ncP0 hq) rfl (dg D_X6_start (i := 4) rfl) ?_
  refine lv_iconst (v := -1) hx hb (dg D_X6_start (i := 5) rfl) (by decide) ?_
  refine callSv X hW hS hR (c_J7_fill_53178 (I := I) (q + 1) 144 ((-1)) (shP1 hq) (ncP hq (by decide)) (by decide)) (by decide) USJ7_fill_53178 LK_X6_25 rfl rfl (Nat.le_of_ble_eq_true rfl) hl hcs (dg D_X6_start (i := 6) rfl) (fun I10 L1 R1 H locs hq hW hS => ?_)
  obtain ⟨hT10, hp10_0, rfl, rfl⟩ := hq
  have hF : Fr (SPu q) I I10 := Fr.tr hF hT10 (by intro a j h; simp only [SC, SPu, Bool.or_eq_true, Bool.and_eq_true, beq_iff_eq, decide_eq_true_eq] at h ⊢; omega)
  have hB : BrAt I10 β σ := BrAt.frI hB hT10 in_SC (by omega)
  have hGa : GaAt I10 q (clP σ) := GaAt_fill hp10_0
  refine lv_aload_n hx hb (dg D_X6_start (i := 7) rfl) rfl (lv_at hl 0 rfl) ?_
  refine callVv X hW hS hR (c_X6_followAll (I := I10) (clP σ) β q (Sm_Inv Sm_cl hi) (by first | assumption | omega | decide | exact hP.1) (BrAt_Sm hB Sm_cl hi) (by first | assumption | omega | decide | exact hP.1) (by first | assumption | omega | decide | exact hP.1) (u2R_at)) (by decide) UVX6_followAll LK_X6_31 (shP hq) (ncP0 hq) rfl rfl rfl (Nat.le_of_ble_eq_true rfl) hl hcs (dg D_X6_start (i := 8) rfl) (fun I14 L1 R1 H locs hq hW hS => ?_)
  obtain ⟨hT14, hp14_0, rfl, rfl⟩ := hq
  have hF : Fr (SPu q) I I14 := Fr.tr hF hT14 (by intro a j h; simp only [SRw, SPu, Bool.or_eq_true, Bool.and_eq_true, beq_iff_eq, decide_eq_true_eq] at h ⊢; omega)
  have hB : BrAt I14 β σ := BrAt.frI hB hT14 SRw_in (by omega)
  exact fin (dg D_X6_start (i := 9) rfl) hW hS ⟨hF, hp14_0, rfl, rfl⟩

set_option maxHeartbeats 4000000 in
set_option maxRecDepth 100000 in
theorem c_X6_saveTo {l : Launch} {G : va_G} {bs : Nat} {cy : Nat → ClassId} {I : CI} {L : CL} {R : CR} (σ : Row) (q : Nat) (h : Nat) (hq : isPl q) (hGa : GaAt I q σ) (hh : shp h = .inr (0, 186)) (hNh : h < NC) (hh3 : h < 27) : MTv l G bs cy MX6_saveTo 1 [.ref (bs + q), .ref (bs + h)] I L R (fun I1 L1 R1 => Fr (SC h) I I1 ∧ SvP (I1 h) σ ∧ (∀ j, j < 42 → I1 h j = I h j) ∧ L = L1 ∧ R = R1) := by
  refine MTv.of (own := RX6) pn_RX6 rfl (Nat.le_of_ble_eq_true rfl) ?_
  intro p e s m args below meth c Qf X hW hS fin ls hl
  have hx := X.1
  have hb := X.2.1
  have hR : RmOK (rmL 1 0 0) 1 := ⟨rfl, rfl⟩
  have hcs : 0 ≤ (rmL 1 0 0).cells ∧ 0 ≤ (rmL 1 0 0).slots := ⟨Nat.zero_le _, Nat.zero_le _⟩
  have hl : lv_has ls 2 [(0, .ref (bs + q)), (1, .ref (bs + h))] := hl
  have hF : Fr (SC h) I I := Fr.rf
  refine lv_aload_n hx hb (dg D_X6_saveTo (i := 0) rfl) rfl (lv_at hl 0 rfl) ?_
  refine r_getc (t := q + 1) X hW FI_X6_11 (shP hq) (ncP0 hq) rfl (dg D_X6_saveTo (i := 1) rfl) ?_
  refine n_iconst (a := 0) hx hb (dg D_X6_saveTo (i := 2) rfl) rfl ?_
  refine lv_aload_n hx hb (dg D_X6_saveTo (i := 3) rfl) rfl (lv_at hl 1 rfl) ?_
  refine lv_bipush (v := nI 42) hx hb (dg D_X6_saveTo (i := 4) rfl) (by decide) ?_
  refine lv_sipush (v := nI 144) hx hb (dg D_X6_saveTo (i := 5) rfl) (by decide) ?_
  refine r_copy (fr := 0) (at9 := 42) (cn := 144) X hW hS hR (Nat.le_of_ble_eq_true rfl) LK_X6_40 (shP1 hq) (ncP hq (by decide)) hh hNh (by omega) (by omega) (by omega) (by decide) hl (dg D_X6_saveTo (i := 6) rfl) (fun H locs hW hS => ?_)
  obtain ⟨J11, eJ11⟩ : ∃ J, J = uR I h (cpR (I (q + 1)) (I h) 0 42 144) := ⟨_, rfl⟩
  rw [← eJ11] at hW
  have hT11 : Fr (SC h) I J11 := by rw [eJ11]; exact fr_uR
  have hp11_0 : J11 h = cpR (I (q + 1)) (I h) 0 42 144 := by rw [eJ11, uR_eq]
  have hF : Fr (SC h) I J11 := Fr.tr hF hT11 (fun _ _ h => h)
  exact fin (dg D_X6_saveTo (i := 7) rfl) hW hS ⟨hF, SvP.of hGa hp11_0, fun j hj => by rw [hp11_0]; exact if_neg (by omega), rfl, rfl⟩

set_option maxHeartbeats 4000000 in
set_option maxRecDepth 100000 in
theorem c_X6_restoreFrom {l : Launch} {G : va_G} {bs : Nat} {cy : Nat → ClassId} {I : CI} {L : CL} {R : CR} (σ : Row) (β : Nat) (q : Nat) (h : Nat) (hi : Inv σ) (hβ : isBr β) (hB : BrAt I β σ) (hq : isPl q) (hRb : R q 0 = β) (hh : shp h = .inr (0, 186)) (hNh : h < NC) (hh3 : h < 27) (hSv : SvP (I h) σ) : MTv l G bs cy MX6_restoreFrom 4 [.ref (bs + q), .ref (bs + h)] I L R (fun I1 L1 R1 => Fr (SPu q) I I1 ∧ PlAt I1 q σ ∧ L = L1 ∧ R = R1) := by
  refine MTv.of (own := RX6) pn_RX6 rfl (Nat.le_of_ble_eq_true rfl) ?_
  intro p e s m args below meth c Qf X hW hS fin ls hl
  have hx := X.1
  have hb := X.2.1
  have hR : RmOK (rmL 4 0 0) 4 := ⟨rfl, rfl⟩
  have hcs : 0 ≤ (rmL 4 0 0).cells ∧ 0 ≤ (rmL 4 0 0).slots := ⟨Nat.zero_le _, Nat.zero_le _⟩
  have hl : lv_has ls 2 [(0, .ref (bs + q)), (1, .ref (bs + h))] := hl
  have hF : Fr (SPu q) I I := Fr.rf
  obtain ⟨hY, hY1, hY12, hLn, hL4, hSn, hS12, hGn, hG5⟩ := id hi
  have hbq := br_pl hβ hq
  refine lv_aload_n hx hb (dg D_X6_restoreFrom (i := 0) rfl) rfl (lv_at hl 1 rfl) ?_
  refine lv_bipush (v := nI 42) hx hb (dg D_X6_restoreFrom (i := 1) rfl) (by decide) ?_
  refine lv_aload_n hx hb (dg D_X6_restoreFrom (i := 2) rfl) rfl (lv_at hl 0 rfl) ?_
  refine r_getc (t := q + 1) X hW FI_X6_11 (shP hq) (ncP0 hq) rfl (dg D_X6_restoreFrom (i := 3) rfl) ?_
  refine n_iconst (a := 0) hx hb (dg D_X6_restoreFrom (i := 4) rfl) rfl ?_
  refine lv_sipush (v := nI 144) hx hb (dg D_X6_restoreFrom (i := 5) rfl) (by decide) ?_
  refine r_copy (fr := 42) (at9 := 0) (cn := 144) X hW hS hR (Nat.le_of_ble_eq_true rfl) LK_X6_40 hh hNh (shP1 hq) (ncP hq (by decide)) (by omega) (by omega) (by omega) (by decide) hl (dg D_X6_restoreFrom (i := 6) rfl) (fun H locs hW hS => ?_)
  obtain ⟨J11, eJ11⟩ : ∃ J, J = uR I (q + 1) (cpR (I h) (I (q + 1)) 42 0 144) := ⟨_, rfl⟩
  rw [← eJ11] at hW
  have hT11 : Fr (SC (q + 1)) I J11 := by rw [eJ11]; exact fr_uR
  have hp11_0 : J11 (q + 1) = cpR (I h) (I (q + 1)) 42 0 144 := by rw [eJ11, uR_eq]
  have hF : Fr (SPu q) I J11 := Fr.tr hF hT11 (by intro a j h; simp only [SC, SPu, Bool.or_eq_true, Bool.and_eq_true, beq_iff_eq, decide_eq_true_eq] at h ⊢; omega)
  have hB : BrAt J11 β σ := BrAt.frI hB hT11 in_SC (by omega)
  have hGa : GaAt J11 q σ := SvP.ga (h := h) (f := I (q + 1)) (by rw [hF.row (fun j => SPu_in.no (by omega) j)]; exact hSv) (by rw [hF.row (a := h) (fun j => SPu_in.no (by omega) j)]; exact hp11_0)
  refine lv_aload_n hx hb (dg D_X6_restoreFrom (i := 7) rfl) rfl (lv_at hl 0 rfl) ?_
  refine callVv X hW hS hR (c_X6_followAll (I := J11) σ β q (by first | assumption | omega | decide | exact hP.1) (by first | assumption | omega | decide | exact hP.1) (by first | assumption | omega | decide | exact hP.1) (by first | assumption | omega | decide | exact hP.1) (by first | assumption | omega | decide | exact hP.1) (by first | assumption | omega | decide | exact hP.1)) (by decide) UVX6_followAll LK_X6_31 (shP hq) (ncP0 hq) rfl rfl rfl (Nat.le_of_ble_eq_true rfl) hl hcs (dg D_X6_restoreFrom (i := 8) rfl) (fun I15 L1 R1 H locs hq hW hS => ?_)
  obtain ⟨hT15, hp15_0, rfl, rfl⟩ := hq
  have hF : Fr (SPu q) I I15 := Fr.tr hF hT15 (by intro a j h; simp only [SRw, SPu, Bool.or_eq_true, Bool.and_eq_true, beq_iff_eq, decide_eq_true_eq] at h ⊢; omega)
  have hB : BrAt I15 β σ := BrAt.frI hB hT15 SRw_in (by omega)
  exact fin (dg D_X6_restoreFrom (i := 9) rfl) hW hS ⟨hF, hp15_0, rfl, rfl⟩

