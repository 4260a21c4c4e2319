set_option maxHeartbeats 1000000 in
set_option maxRecDepth 100000 in
theorem c_L_four {l : Launch} {G : va_G} {bs : Nat} {cy : Nat → ClassId} {sz : Nat} {A : Nat → Prop} (hAg : ∀ z, A z → Ag bs z) (hAn : ∀ z, sz ≤ z → A z) (a : Nat) (w : Nat) (tx : List Nat) (k : Nat) (hk : k < 1000) (hl3 : tx.length ≤ 65536) : JSi l G bs cy ML_four 5 [.ref a, .int (nI k)] sz A [] [(a, w, tx)] (fun r => r = foT tx k 4) := by
  refine JSi.of (own := RL) pn_RL rfl (Nat.le_of_ble_eq_true rfl) ?_
  intro p e s m args below meth c Qf X hsz hP hSs fin ls hl
  have hx := X.1
  have hb := X.2.1
  have hR : RmOK (rmL 5 0 0) 5 := ⟨rfl, rfl⟩
  have hcs : 0 ≤ (rmL 5 0 0).cells ∧ 0 ≤ (rmL 5 0 0).slots := ⟨Nat.zero_le _, Nat.zero_le _⟩
  have hS : va_S A s.heap s.heap [] := va_S.rf
  have hAs : ∀ z, s.heap.size ≤ z → A z := fun z h => hAn z (by rw [← hsz]; exact h)
  have hl : lv_has ls 4 [(0, .ref a), (1, .int (nI k))] := hl
  have hx9 := hSs _ (List.mem_singleton.mpr rfl)
  refine n_iconst (a := 0) hx hb (dg D_L_four (i := 0) rfl) rfl ?_
  refine lv_istore_n (lv' := [(2, .int (nI 0)), (0, .ref a), (1, .int (nI k))]) hx hb (dg D_L_four (i := 1) rfl) rfl hl (by decide) rfl (fun ls hl => ?_)
  refine lv_iload_n hx hb (dg D_L_four (i := 2) rfl) rfl (lv_at hl 2 rfl) ?_
  refine lv_istore_n (lv' := [(3, .int (nI k)), (2, .int (nI 0)), (0, .ref a), (1, .int (nI k))]) hx hb (dg D_L_four (i := 3) rfl) rfl hl (by decide) rfl (fun ls hl => ?_)
  have loop4 := up_ind (P := fun i => ∀ ls : Array Slot, lv_has ls 4 [(0, .ref a), (1, .int (nI k)), (2, .int (foT tx k i)), (3, .int (nI (k + i)))] → W p l e (rmL 5 0 0) s m args below meth c s.heap [] 0 0 Qf (F0 m 4 ls [])) 4 (fun i hx4 ih4 => by
      intro ls hl
      refine lv_iload_n hx hb (dg D_L_four (i := 4) rfl) rfl (lv_at hl 3 rfl) ?_
      refine lv_iload_n hx hb (dg D_L_four (i := 5) rfl) rfl (lv_at hl 1 rfl) ?_
      refine n_iconst (a := 4) hx hb (dg D_L_four (i := 6) rfl) rfl ?_
      refine n_iadd hx hb (dg D_L_four (i := 7) rfl) ?_
      refine n_icmp_ge (tgt := 41) hx hb (by omega) (by omega) (dg D_L_four (i := 8) rfl) (by decide) (fun c8 => ?_) (fun c8 => ?_)
      · refine lv_iload_n hx hb (dg D_L_four (i := 25) rfl) rfl (lv_at hl 2 rfl) ?_
        exact fin (dg D_L_four (i := 26) rfl) rfl (by rw [show (4 : Nat) = i by omega])
      · refine lv_iload_n hx hb (dg D_L_four (i := 9) rfl) rfl (lv_at hl 2 rfl) ?_
        refine lv_bipush (v := nI 8) hx hb (dg D_L_four (i := 10) rfl) (by decide) ?_
        refine lv_ishl hx hb (dg D_L_four (i := 11) rfl) ?_
        refine lv_iload_n hx hb (dg D_L_four (i := 12) rfl) rfl (lv_at hl 3 rfl) ?_
        refine lv_aload_n hx hb (dg D_L_four (i := 13) rfl) rfl (lv_at hl 0 rfl) ?_
        refine jVi X hAg hS hR (c_J0_length_8abf5 (l := l) (G := G) (bs := bs) (cy := cy) (A := A) hAg (fun z h => hAs z (Nat.le_trans hS.1 h)) a w tx) (by decide) UVJ0_length_8abf5 LK_L_42 (r_recvT (hx9.kept hS.2.1)) (fun k q h => by cases h) (fun x9 h9 => by rw [List.mem_singleton.mp h9]; exact hx9.kept hS.2.1) rfl rfl (Nat.le_of_ble_eq_true rfl) hl hcs (dg D_L_four (i := 14) rfl) (fun r9 hr9 => ?_)
        subst hr9
        refine n_icmp_ge (tgt := 31) hx hb (by omega) (by omega) (dg D_L_four (i := 15) rfl) (by decide) (fun c20 => ?_) (fun c20 => ?_)
        · refine lv_bipush (v := nI 32) hx hb (dg D_L_four (i := 20) rfl) (by decide) ?_
          refine lv_ior hx hb (dg D_L_four (i := 21) rfl) ?_
          refine lv_istore_n (lv' := [(2, .int (((foT tx k i) <<< ((nI 8) &&& 31)) ||| (nI 32))), (0, .ref a), (1, .int (nI k)), (3, .int (nI (k + i)))]) hx hb (dg D_L_four (i := 22) rfl) rfl hl (by decide) rfl (fun ls hl => ?_)
          refine lv_iinc (v := nI (k + i + 1)) (lv' := [(3, .int (nI (k + i + 1))), (2, .int (((foT tx k i) <<< ((nI 8) &&& 31)) ||| (nI 32))), (0, .ref a), (1, .int (nI k))]) hx hb (dg D_L_four (i := 23) rfl) hl (k := 3) rfl (nI_add _ _) (by decide) rfl (fun ls hl => ?_)
          refine lv_goto (tgt := 4) hx hb (dg D_L_four (i := 24) rfl) (by decide) ?_
          rw [show nI 32 = nI (chT tx (k + i)) from congrArg nI (chT_out (by omega)).symm] at hl
          exact ih4 (by omega) _ (lv_sub hl [2, 3, 1, 0] rfl)
        · refine lv_aload_n hx hb (dg D_L_four (i := 16) rfl) rfl (lv_at hl 0 rfl) ?_
          refine lv_iload_n hx hb (dg D_L_four (i := 17) rfl) rfl (lv_at hl 3 rfl) ?_
          refine jVi X hAg hS hR (c_J0_charAt_5068e (l := l) (G := G) (bs := bs) (cy := cy) (A := A) hAg (fun z h => hAs z (Nat.le_trans hS.1 h)) a w tx (k + i) (by first | assumption | omega)) (by decide) UVJ0_charAt_5068e LK_L_48 (r_recvT (hx9.kept hS.2.1)) (fun k q h => by cases h) (fun x9 h9 => by rw [List.mem_singleton.mp h9]; exact hx9.kept hS.2.1) rfl rfl (Nat.le_of_ble_eq_true rfl) hl hcs (dg D_L_four (i := 18) rfl) (fun r9 hr9 => ?_)
          subst hr9
          refine lv_goto (tgt := 33) hx hb (dg D_L_four (i := 19) rfl) (by decide) ?_
          refine lv_ior hx hb (dg D_L_four (i := 21) rfl) ?_
          refine lv_istore_n (lv' := [(2, .int (((foT tx k i) <<< ((nI 8) &&& 31)) ||| (nI (tx.getD (k + i) 0)))), (0, .ref a), (1, .int (nI k)), (3, .int (nI (k + i)))]) hx hb (dg D_L_four (i := 22) rfl) rfl hl (by decide) rfl (fun ls hl => ?_)
          refine lv_iinc (v := nI (k + i + 1)) (lv' := [(3, .int (nI (k + i + 1))), (2, .int (((foT tx k i) <<< ((nI 8) &&& 31)) ||| (nI (tx.getD (k + i) 0)))), (0, .ref a), (1, .int (nI k))]) hx hb (dg D_L_four (i := 23) rfl) hl (k := 3) rfl (nI_add _ _) (by decide) rfl (fun ls hl => ?_)
          refine lv_goto (tgt := 4) hx hb (dg D_L_four (i := 24) rfl) (by decide) ?_
          rw [show tx.getD (k + i) 0 = chT tx (k + i) from (chT_in (by omega)).symm] at hl
          exact ih4 (by omega) _ (lv_sub hl [2, 3, 1, 0] rfl))
  exact loop4 0 (Nat.zero_le _) _ (lv_sub hl [2, 3, 1, 0] rfl)

