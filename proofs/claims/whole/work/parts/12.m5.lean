set_option maxHeartbeats 4000000 in
set_option maxRecDepth 100000 in
theorem c_X12_reset {l : Launch} {G : va_G} {bs : Nat} {cy : Nat → ClassId} {I : CI} {L : CL} {R : CR} (a : Nat) (na : Nat) (ha : shp a = .inr (0, na)) (hNa : a < NC) (hna : na = 248) : MTv l G bs cy MX12_reset 1 [.ref (bs + a)] I L R (fun I1 L1 R1 => Fr (SC a) I I1 ∧ I1 a = iniR (I a) ∧ L = L1 ∧ R = R1) := by
  refine MTv.of (own := RX12) pn_RX12 rfl (Nat.le_of_ble_eq_true rfl) ?_
  intro p e s m args below meth c Qf X hW hS fin ls hl
  have hx := X.1
  have hb := X.2.1
  have hR : RmOK (rmL 1 0 0) 1 := ⟨rfl, rfl⟩
  have hcs : 0 ≤ (rmL 1 0 0).cells ∧ 0 ≤ (rmL 1 0 0).slots := ⟨Nat.zero_le _, Nat.zero_le _⟩
  have hl : lv_has ls 2 [(0, .ref (bs + a))] := hl
  have hF : Fr (SC a) I I := Fr.rf
  refine n_iconst (a := 0) hx hb (dg D_X12_reset (i := 0) rfl) rfl ?_
  refine lv_istore_n (lv' := [(1, .int (nI 0)), (0, .ref (bs + a))]) hx hb (dg D_X12_reset (i := 1) rfl) rfl hl (by decide) rfl (fun ls hl => ?_)
  have loop2 := up_ind (P := fun i => ∀ (K2 : CI) (H : Heap) (locs : List Loc) (ls : Array Slot) (v1 : Int32), v1 = nI i → (Fr (SC a) I K2) → (K2 a = zeR (I a) i) → Wd G bs cy K2 L R H → va_S (Aq bs) s.heap H locs → lv_has ls 2 [(0, .ref (bs + a)), (1, .int v1)] → W p l e (rmL 1 0 0) s m args below meth c H locs 0 0 Qf (F0 m 2 ls [])) 248 (fun i hx2 ih2 => by
      intro K2 H locs ls v1 q1 hF hC hW hS hl
      subst q1
      refine lv_iload_n hx hb (dg D_X12_reset (i := 2) rfl) rfl (lv_at hl 1 rfl) ?_
      refine lv_sipush (v := nI 248) hx hb (dg D_X12_reset (i := 3) rfl) (by decide) ?_
      refine n_icmp_ge (tgt := 19) hx hb (by omega) (by omega) (dg D_X12_reset (i := 4) rfl) (by decide) (fun c6 => ?_) (fun c6 => ?_)
      · refine lv_aload_n hx hb (dg D_X12_reset (i := 11) rfl) rfl (lv_at hl 0 rfl) ?_
        refine n_iconst (a := 0) hx hb (dg D_X12_reset (i := 12) rfl) rfl ?_
        refine lv_bipush (v := nI 8) hx hb (dg D_X12_reset (i := 13) rfl) (by decide) ?_
        refine r_ast (j := 0) (v := nI 8) X hW hS ha hNa rfl (by omega) (by omega) (dg D_X12_reset (i := 14) rfl) (fun H locs hW hS => ?_)
        have hF : Fr (SC a) I (u2 K2 a 0 (nI 8)) := Fr.put hF SC_eq
        obtain ⟨J23, eJ23⟩ : ∃ J, J = u2 K2 a 0 (nI 8) := ⟨_, rfl⟩
        rw [← eJ23] at hW hF
        refine lv_aload_n hx hb (dg D_X12_reset (i := 15) rfl) rfl (lv_at hl 0 rfl) ?_
        refine n_iconst (a := 1) hx hb (dg D_X12_reset (i := 16) rfl) rfl ?_
        refine n_iconst (a := 2) hx hb (dg D_X12_reset (i := 17) rfl) rfl ?_
        refine r_ast (j := 1) (v := nI 2) X hW hS ha hNa rfl (by omega) (by omega) (dg D_X12_reset (i := 18) rfl) (fun H locs hW hS => ?_)
        have hF : Fr (SC a) I (u2 J23 a 1 (nI 2)) := Fr.put hF SC_eq
        obtain ⟨J27, eJ27⟩ : ∃ J, J = u2 J23 a 1 (nI 2) := ⟨_, rfl⟩
        rw [← eJ27] at hW hF
        refine lv_aload_n hx hb (dg D_X12_reset (i := 19) rfl) rfl (lv_at hl 0 rfl) ?_
        refine n_iconst (a := 2) hx hb (dg D_X12_reset (i := 20) rfl) rfl ?_
        refine n_iconst (a := 3) hx hb (dg D_X12_reset (i := 21) rfl) rfl ?_
        refine r_ast (j := 2) (v := nI 3) X hW hS ha hNa rfl (by omega) (by omega) (dg D_X12_reset (i := 22) rfl) (fun H locs hW hS => ?_)
        have hF : Fr (SC a) I (u2 J27 a 2 (nI 3)) := Fr.put hF SC_eq
        obtain ⟨J31, eJ31⟩ : ∃ J, J = u2 J27 a 2 (nI 3) := ⟨_, rfl⟩
        rw [← eJ31] at hW hF
        refine n_iconst (a := 0) hx hb (dg D_X12_reset (i := 23) rfl) rfl ?_
        refine lv_istore_n (lv' := [(1, .int (nI 0)), (0, .ref (bs + a))]) hx hb (dg D_X12_reset (i := 24) rfl) rfl hl (by decide) rfl (fun ls hl => ?_)
        have loop34 := up_ind (P := fun y => ∀ (K34 : CI) (H : Heap) (locs : List Loc) (ls : Array Slot) (v1 : Int32), v1 = nI y → (Fr (SC a) I K34) → (K34 a = dyR (upd (upd (upd (zeR (I a) 248) 0 (nI 8)) 1 (nI 2)) 2 (nI 3)) y) → Wd G bs cy K34 L R H → va_S (Aq bs) s.heap H locs → lv_has ls 2 [(0, .ref (bs + a)), (1, .int v1)] → W p l e (rmL 1 0 0) s m args below meth c H locs 0 0 Qf (F0 m 34 ls [])) 12 (fun y hx34 ih34 => by
            intro K34 H locs ls v1 q1 hF hC hW hS hl
            subst q1
            refine lv_iload_n hx hb (dg D_X12_reset (i := 25) rfl) rfl (lv_at hl 1 rfl) ?_
            refine lv_bipush (v := nI 12) hx hb (dg D_X12_reset (i := 26) rfl) (by decide) ?_
            refine n_icmp_ge (tgt := 54) hx hb (by omega) (by omega) (dg D_X12_reset (i := 27) rfl) (by decide) (fun c37 => ?_) (fun c37 => ?_)
            · exact fin (dg D_X12_reset (i := 36) rfl) hW hS ⟨hF, by rw [hC, show y = 12 by omega]; rfl, rfl, rfl⟩
            · refine lv_aload_n hx hb (dg D_X12_reset (i := 28) rfl) rfl (lv_at hl 0 rfl) ?_
              refine lv_bipush (v := nI 80) hx hb (dg D_X12_reset (i := 29) rfl) (by decide) ?_
              refine lv_iload_n hx hb (dg D_X12_reset (i := 30) rfl) rfl (lv_at hl 1 rfl) ?_
              refine n_iadd hx hb (dg D_X12_reset (i := 31) rfl) ?_
              refine lv_bipush (v := nI 100) hx hb (dg D_X12_reset (i := 32) rfl) (by decide) ?_
              refine r_ast (j := 80 + y) (v := nI 100) X hW hS ha hNa rfl (by omega) (by omega) (dg D_X12_reset (i := 33) rfl) (fun H locs hW hS => ?_)
              have hF : Fr (SC a) I (u2 K34 a (80 + y) (nI 100)) := Fr.put hF SC_eq
              obtain ⟨J47, eJ47⟩ : ∃ J, J = u2 K34 a (80 + y) (nI 100) := ⟨_, rfl⟩
              rw [← eJ47] at hW hF
              refine lv_iinc (v := nI (y + 1)) (lv' := [(1, .int (nI (y + 1))), (0, .ref (bs + a))]) hx hb (dg D_X12_reset (i := 34) rfl) hl (k := 1) rfl (nI_add _ _) (by decide) rfl (fun ls hl => ?_)
              refine lv_goto (tgt := 34) hx hb (dg D_X12_reset (i := 35) rfl) (by decide) ?_
              exact ih34 (by omega) J47 _ _ _ _ (congrArg nI (by omega)) hF (by rw [eJ47, u2_eq, hC]; exact dyR_s) hW hS (lv_sub hl [1, 0] rfl))
        exact loop34 0 (Nat.zero_le _) J31 _ _ _ _ (congrArg nI (by omega)) hF (by rw [eJ31, u2_eq, eJ27, u2_eq, eJ23, u2_eq, hC, show i = 248 by omega]; exact dyR_0.symm) hW hS (lv_sub hl [1, 0] rfl)
      · refine lv_aload_n hx hb (dg D_X12_reset (i := 5) rfl) rfl (lv_at hl 0 rfl) ?_
        refine lv_iload_n hx hb (dg D_X12_reset (i := 6) rfl) rfl (lv_at hl 1 rfl) ?_
        refine n_iconst (a := 0) hx hb (dg D_X12_reset (i := 7) rfl) rfl ?_
        refine r_ast (j := i) (v := nI 0) X hW hS ha hNa rfl (by omega) (by omega) (dg D_X12_reset (i := 8) rfl) (fun H locs hW hS => ?_)
        have hF : Fr (SC a) I (u2 K2 a i (nI 0)) := Fr.put hF SC_eq
        obtain ⟨J12, eJ12⟩ : ∃ J, J = u2 K2 a i (nI 0) := ⟨_, rfl⟩
        rw [← eJ12] at hW hF
        refine lv_iinc (v := nI (i + 1)) (lv' := [(1, .int (nI (i + 1))), (0, .ref (bs + a))]) hx hb (dg D_X12_reset (i := 9) rfl) hl (k := 1) rfl (nI_add _ _) (by decide) rfl (fun ls hl => ?_)
        refine lv_goto (tgt := 2) hx hb (dg D_X12_reset (i := 10) rfl) (by decide) ?_
        exact ih2 (by omega) J12 _ _ _ _ (congrArg nI (by omega)) hF (by rw [eJ12, u2_eq, hC]; exact zeR_s) hW hS (lv_sub hl [1, 0] rfl))
  exact loop2 0 (Nat.zero_le _) I _ _ _ _ (congrArg nI (by omega)) hF zeR_0.symm hW hS (lv_sub hl [1, 0] rfl)

set_option maxHeartbeats 4000000 in
set_option maxRecDepth 100000 in
theorem c_X12_copy {l : Launch} {G : va_G} {bs : Nat} {cy : Nat → ClassId} {I : CI} {L : CL} {R : CR} (a : Nat) (na : Nat) (f9 : Nat) (b : Nat) (nb : Nat) (t9 : Nat) (ha : shp a = .inr (0, na)) (hNa : a < NC) (hb9 : shp b = .inr (0, nb)) (hNb : b < NC) (hab : a ≠ b) (hfa : f9 + 248 ≤ na) (htb : t9 + 248 ≤ nb) (hnn : na < 100000 ∧ nb < 100000) : MTv l G bs cy MX12_copy 1 [.ref (bs + a), .int (nI f9), .ref (bs + b), .int (nI t9)] I L R (fun I1 L1 R1 => Fr (SC b) I I1 ∧ I1 b = cpR (I a) (I b) f9 t9 248 ∧ L = L1 ∧ R = R1) := by
  refine MTv.of (own := RX12) pn_RX12 rfl (Nat.le_of_ble_eq_true rfl) ?_
  intro p e s m args below meth c Qf X hW hS fin ls hl
  have hx := X.1
  have hb := X.2.1
  have hR : RmOK (rmL 1 0 0) 1 := ⟨rfl, rfl⟩
  have hcs : 0 ≤ (rmL 1 0 0).cells ∧ 0 ≤ (rmL 1 0 0).slots := ⟨Nat.zero_le _, Nat.zero_le _⟩
  have hl : lv_has ls 5 [(0, .ref (bs + a)), (1, .int (nI f9)), (2, .ref (bs + b)), (3, .int (nI t9))] := hl
  have hF : Fr (SC b) I I := Fr.rf
  refine n_iconst (a := 0) hx hb (dg D_X12_copy (i := 0) rfl) rfl ?_
  refine lv_istore (lv' := [(4, .int (nI 0)), (0, .ref (bs + a)), (1, .int (nI f9)), (2, .ref (bs + b)), (3, .int (nI t9))]) hx hb (dg D_X12_copy (i := 1) rfl) hl (by decide) rfl (fun ls hl => ?_)
  have loop3 := up_ind (P := fun i => ∀ (K3 : CI) (H : Heap) (locs : List Loc) (ls : Array Slot) (v4 : Int32), v4 = nI i → (Fr (SC b) I K3) → (K3 b = cpR (I a) (I b) f9 t9 i) → Wd G bs cy K3 L R H → va_S (Aq bs) s.heap H locs → lv_has ls 5 [(0, .ref (bs + a)), (1, .int (nI f9)), (2, .ref (bs + b)), (3, .int (nI t9)), (4, .int v4)] → W p l e (rmL 1 0 0) s m args below meth c H locs 0 0 Qf (F0 m 3 ls [])) 248 (fun i hx3 ih3 => by
      intro K3 H locs ls v4 q4 hF hC hW hS hl
      subst q4
      refine lv_iload hx hb (dg D_X12_copy (i := 2) rfl) (lv_at hl 4 rfl) ?_
      refine lv_sipush (v := nI 248) hx hb (dg D_X12_copy (i := 3) rfl) (by decide) ?_
      refine n_icmp_ge (tgt := 29) hx hb (by omega) (by omega) (dg D_X12_copy (i := 4) rfl) (by decide) (fun c8 => ?_) (fun c8 => ?_)
      · exact fin (dg D_X12_copy (i := 17) rfl) hW hS ⟨hF, by rw [hC, show i = 248 by omega], rfl, rfl⟩
      · refine lv_aload_n hx hb (dg D_X12_copy (i := 5) rfl) rfl (lv_at hl 2 rfl) ?_
        refine lv_iload_n hx hb (dg D_X12_copy (i := 6) rfl) rfl (lv_at hl 3 rfl) ?_
        refine lv_iload hx hb (dg D_X12_copy (i := 7) rfl) (lv_at hl 4 rfl) ?_
        refine n_iadd hx hb (dg D_X12_copy (i := 8) rfl) ?_
        refine lv_aload_n hx hb (dg D_X12_copy (i := 9) rfl) rfl (lv_at hl 0 rfl) ?_
        refine lv_iload_n hx hb (dg D_X12_copy (i := 10) rfl) rfl (lv_at hl 1 rfl) ?_
        refine lv_iload hx hb (dg D_X12_copy (i := 11) rfl) (lv_at hl 4 rfl) ?_
        refine n_iadd hx hb (dg D_X12_copy (i := 12) rfl) ?_
        refine r_ald (j := f9 + i) (v := I a (f9 + i)) X hW ha hNa rfl (by omega) (by omega) (hF _ _ (SC_ne hab)) (dg D_X12_copy (i := 13) rfl) ?_
        refine r_ast (j := t9 + i) (v := I a (f9 + i)) X hW hS hb9 hNb rfl (by omega) (by omega) (dg D_X12_copy (i := 14) rfl) (fun H locs hW hS => ?_)
        have hF : Fr (SC b) I (u2 K3 b (t9 + i) (I a (f9 + i))) := Fr.put hF SC_eq
        obtain ⟨J22, eJ22⟩ : ∃ J, J = u2 K3 b (t9 + i) (I a (f9 + i)) := ⟨_, rfl⟩
        rw [← eJ22] at hW hF
        refine lv_iinc (v := nI (i + 1)) (lv' := [(4, .int (nI (i + 1))), (0, .ref (bs + a)), (1, .int (nI f9)), (2, .ref (bs + b)), (3, .int (nI t9))]) hx hb (dg D_X12_copy (i := 15) rfl) hl (k := 4) rfl (nI_add _ _) (by decide) rfl (fun ls hl => ?_)
        refine lv_goto (tgt := 3) hx hb (dg D_X12_copy (i := 16) rfl) (by decide) ?_
        exact ih3 (by omega) J22 _ _ _ _ (congrArg nI (by omega)) hF (by rw [eJ22, u2_eq, hC]; exact cpR_s) hW hS (lv_sub hl [1, 2, 3, 4, 0] rfl))
  exact loop3 0 (Nat.zero_le _) I _ _ _ _ (congrArg nI (by omega)) hF cpR_0.symm hW hS (lv_sub hl [1, 2, 3, 4, 0] rfl)

