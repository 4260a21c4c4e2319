set_option maxHeartbeats 4000000 in
set_option maxRecDepth 100000 in
theorem v_J7_fill {l : Launch} {G : va_G} {bs : Nat} {cy : Nat → ClassId} {I : CI} {L : CL} {R : CR} (x : Nat) (v : Int32) (hx9 : x < 5) : MTv l G bs cy MJ7_fill_53178 1 [.ref (ad bs (78 + x)), .int v] I L R (fun I1 L1 R1 => Fr (SC (78 + x)) I I1 ∧ I1 (78 + x) = flR (I (78 + x)) v 6 ∧ L = L1 ∧ R = R1) := by
  refine MTv.of (own := RJ7) pn_RJ7 rfl (Nat.le_of_ble_eq_true rfl) ?_
  intro p e s m args below meth c Qf X hW hS fin ls hl
  have hx := X.1
  have hb := X.2.1
  have hR : RmOK (rmL 1 0 0) 1 := ⟨rfl, rfl⟩
  have hcs : 0 ≤ (rmL 1 0 0).cells ∧ 0 ≤ (rmL 1 0 0).slots := ⟨Nat.zero_le _, Nat.zero_le _⟩
  have hl : lv_has ls 4 [(0, .ref (ad bs (78 + x))), (1, .int v)] := hl
  have hF : Fr (SC (78 + x)) I I := Fr.rf
  refine n_iconst (a := 0) hx hb (dg D_J7_fill_53178 (i := 0) rfl) rfl ?_
  refine lv_istore_n (lv' := [(2, .int (nI 0)), (0, .ref (ad bs (78 + x))), (1, .int v)]) hx hb (dg D_J7_fill_53178 (i := 1) rfl) rfl hl (by decide) rfl (fun ls hl => ?_)
  refine lv_aload_n hx hb (dg D_J7_fill_53178 (i := 2) rfl) rfl (lv_at hl 1 rfl) ?_
  refine rL_alen X hW (shBy (by omega)) (by decide) ⟨by omega, by show _ < 83; omega⟩ (dg D_J7_fill_53178 (i := 3) rfl) ?_
  refine lv_istore_n (lv' := [(3, .int (nI 6)), (2, .int (nI 0)), (0, .ref (ad bs (78 + x))), (1, .int v)]) hx hb (dg D_J7_fill_53178 (i := 4) rfl) rfl hl (by decide) rfl (fun ls hl => ?_)
  have loop5 := up_ind (P := fun i => ∀ (K5 : CI) (H : Heap) (locs : List Loc) (ls : Array Slot) (v2 : Int32), v2 = nI i → (Fr (SC (78 + x)) I K5) → (K5 (78 + x) = flR (I (78 + x)) v i) → Wd G bs cy K5 L R H → va_S (Aq bs) s.heap H locs → lv_has ls 4 [(0, .ref (ad bs (78 + x))), (1, .int v), (2, .int v2), (3, .int (nI 6))] → W p l e (rmL 1 0 0) s m args below meth c H locs 0 0 Qf (F0 m 5 ls [])) 6 (fun i hx5 ih5 => by
      intro K5 H locs ls v2 q2 hF hC hW hS hl
      subst q2
      refine lv_iload_n hx hb (dg D_J7_fill_53178 (i := 5) rfl) rfl (lv_at hl 2 rfl) ?_
      refine lv_iload_n hx hb (dg D_J7_fill_53178 (i := 6) rfl) rfl (lv_at hl 3 rfl) ?_
      refine n_icmp_ge (tgt := 20) hx hb (by omega) (by omega) (dg D_J7_fill_53178 (i := 7) rfl) (by decide) (fun c7 => ?_) (fun c7 => ?_)
      · exact fin (dg D_J7_fill_53178 (i := 14) rfl) hW hS ⟨hF, by rw [hC, show i = 6 by omega], rfl, rfl⟩
      · refine lv_aload_n hx hb (dg D_J7_fill_53178 (i := 8) rfl) rfl (lv_at hl 0 rfl) ?_
        refine lv_iload_n hx hb (dg D_J7_fill_53178 (i := 9) rfl) rfl (lv_at hl 2 rfl) ?_
        refine lv_iload_n hx hb (dg D_J7_fill_53178 (i := 10) rfl) rfl (lv_at hl 1 rfl) ?_
        refine rL_ast (j := i) (v := v) X hW hS (shBy (by omega)) ⟨by omega, by show _ < 83; omega⟩ rfl (by omega) (by decide) (dg D_J7_fill_53178 (i := 11) rfl) (fun H locs hW hS => ?_)
        have hF : Fr (SC (78 + x)) I (u2 K5 (78 + x) i v) := Fr.put hF SC_eq
        obtain ⟨J13, eJ13⟩ : ∃ J, J = u2 K5 (78 + x) i v := ⟨_, rfl⟩
        rw [← eJ13] at hW hF
        refine lv_iinc (v := nI (i + 1)) (lv' := [(2, .int (nI (i + 1))), (0, .ref (ad bs (78 + x))), (1, .int v), (3, .int (nI 6))]) hx hb (dg D_J7_fill_53178 (i := 12) rfl) hl (k := 2) rfl (nI_add _ _) (by decide) rfl (fun ls hl => ?_)
        refine lv_goto (tgt := 5) hx hb (dg D_J7_fill_53178 (i := 13) rfl) (by decide) ?_
        exact ih5 (by omega) J13 _ _ _ _ (congrArg nI (by omega)) hF (by rw [eJ13, u2_eq, hC]; exact flR_s) hW hS (lv_sub hl [1, 2, 0, 3] rfl))
  exact loop5 0 (Nat.zero_le _) I _ _ _ _ (congrArg nI (by omega)) hF flR_0.symm hW hS (lv_sub hl [2, 3, 1, 0] rfl)

