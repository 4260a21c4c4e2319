set_option maxHeartbeats 4000000 in
set_option maxRecDepth 100000 in
theorem c_L_load {l : Launch} {G : va_G} {bs : Nat} {cy : Nat → ClassId} {I : CI} {L : CL} {R : CR} (a : Nat) (w : Nat) (tx : List Nat) (b0 : Nat → Int32) (ρ : Row) (β : Nat) (γ : Nat) (q : Nat) (u : Nat) (hb0 : TxAt I 0 b0) (hl3 : tx.length ≤ 300) (hγ : isBr γ) (hu : isPl u) (hR7 : R 0 7 = β) (hR8 : R 0 8 = q) (hR9 : R 0 9 = γ) (hR10 : R 0 10 = u) {sz : Nat} : MAx l G bs cy ML_load 8 [.ref (bs + 0), .ref a] sz (a, w, tx) I L R (fun r I1 L1 R1 => ∃ I0, Fr STx I I0 ∧ QLd tx ρ β γ q u I0 L R r I1 L1 R1) 0 0 := by
  refine MAx.of (own := RL) pn_RL rfl (Nat.le_of_ble_eq_true rfl) ?_
  intro p e s m args below meth c Qf X hW hS hT fin ls hl
  have hx := X.1
  have hb := X.2.1
  have hR : RmOK (rmL 8 0 0) 8 := ⟨rfl, rfl⟩
  have hcs : 0 ≤ (rmL 8 0 0).cells ∧ 0 ≤ (rmL 8 0 0).slots := ⟨Nat.zero_le _, Nat.zero_le _⟩
  have hsz0 := hW.sz
  have hA : AOK bs s.heap.size (Ar bs s.heap.size) := ArOK hsz0
  have hl : lv_has ls 3 [(0, .ref (bs + 0)), (1, .ref a)] := hl
  have hF : Fr STx I I := Fr.rf
  have hx9 := (hT.2.1 _ List.mem_cons_self).1
  have hcT : ∀ j, chT tx j < 128 := chT_lt hx9.2.2.2.2.1
  refine n_iconst (a := 0) hx hb (dg D_L_load (i := 0) rfl) rfl ?_
  refine lv_istore_n (lv' := [(2, .int (nI 0)), (0, .ref (bs + 0)), (1, .ref a)]) hx hb (dg D_L_load (i := 1) rfl) rfl hl (by decide) rfl (fun ls hl => ?_)
  have loop2 := up_ind (P := fun x => ∀ (K2 : CI) (H : Heap) (locs : List Loc) (ls : Array Slot), (Fr STx I K2) → (TxAt K2 (20 * x) (chB tx)) → TW G cy bs s H [] [(a, w, tx)] → Wd G bs cy K2 L R H → va_S (Ar bs s.heap.size) s.heap H locs → lv_has ls 3 [(0, .ref (bs + 0)), (1, .ref a), (2, .int (nI (20 * x)))] → W p l e (rmL 8 0 0) s m args below meth c H locs 0 0 Qf (F0 m 2 ls [])) 15 (fun x hx2 ih2 => by
      intro K2 H locs ls hF hTx hT hW hS hl
      have hcs : 0 + 0 ≤ (rmL 8 0 0).cells ∧ 0 + 0 ≤ (rmL 8 0 0).slots := ⟨by show _ ≤ 0; omega, by show _ ≤ 0; omega⟩
      refine lv_iload_n hx hb (dg D_L_load (i := 2) rfl) rfl (lv_at hl 2 rfl) ?_
      refine lv_aload_n hx hb (dg D_L_load (i := 3) rfl) rfl (lv_at hl 1 rfl) ?_
      refine g_len (x := (a, w, tx)) (n9 := tx.length) X hA hW hT hS hR (by decide) (List.mem_of_getElem? (i := 0) rfl) rfl (Nat.le_of_ble_eq_true rfl) hl hcs (dg D_L_load (i := 4) rfl) ?_
      refine n_icmp_ge (tgt := 57) hx hb (by omega) (by omega) (dg D_L_load (i := 5) rfl) (by decide) (fun c7 => ?_) (fun c7 => ?_)
      · refine lv_aload_n hx hb (dg D_L_load (i := 34) rfl) rfl (lv_at hl 0 rfl) ?_
        refine lv_aload_n hx hb (dg D_L_load (i := 35) rfl) rfl (lv_at hl 1 rfl) ?_
        refine g_len (x := (a, w, tx)) (n9 := tx.length) X hA hW hT hS hR (by decide) (List.mem_of_getElem? (i := 0) rfl) rfl (Nat.le_of_ble_eq_true rfl) hl hcs (dg D_L_load (i := 36) rfl) ?_
        refine gC_i X hA hW hT hS hR (v_X11_load (chB tx) ρ (20 * x) β γ q u tx.length hTx (TB_ch hx9.2.2.2.2.1 _) (by omega) hγ hu hR7 hR8 hR9 hR10 (by omega)) (Nat.le_of_ble_eq_true rfl) UVX11_load LK_L_62 rfl (by decide) rfl rfl rfl (Nat.le_of_ble_eq_true rfl) hl hcs (dg D_L_load (i := 37) rfl) (fun r62 I62 L62 R62 H locs hq62 hW hT hS => ?_)
        have hQ62 : QLd tx ρ β γ q u K2 L R r62 I62 L62 R62 := hq62
        exact fin (dg D_L_load (i := 38) rfl) (by omega) (by omega) hW hS ⟨K2, hF, hQ62⟩
      · refine lv_aload_n hx hb (dg D_L_load (i := 6) rfl) rfl (lv_at hl 0 rfl) ?_
        refine lv_aload_n hx hb (dg D_L_load (i := 7) rfl) rfl (lv_at hl 1 rfl) ?_
        refine lv_iload_n hx hb (dg D_L_load (i := 8) rfl) rfl (lv_at hl 2 rfl) ?_
        refine g_fo (x := (a, w, tx)) (k := 20 * x) (v9 := foT tx (20 * x) 4) X hA hW hT hS hR (by decide) (List.mem_of_getElem? (i := 0) rfl) (by omega) rfl (Nat.le_of_ble_eq_true rfl) hl hcs (dg D_L_load (i := 9) rfl) ?_
        refine lv_aload_n hx hb (dg D_L_load (i := 10) rfl) rfl (lv_at hl 1 rfl) ?_
        refine lv_iload_n hx hb (dg D_L_load (i := 11) rfl) rfl (lv_at hl 2 rfl) ?_
        refine n_iconst (a := 4) hx hb (dg D_L_load (i := 12) rfl) rfl ?_
        refine n_iadd hx hb (dg D_L_load (i := 13) rfl) ?_
        refine g_fo (x := (a, w, tx)) (k := (20 * x) + 4) (v9 := foT tx ((20 * x) + 4) 4) X hA hW hT hS hR (by decide) (List.mem_of_getElem? (i := 0) rfl) (by omega) rfl (Nat.le_of_ble_eq_true rfl) hl hcs (dg D_L_load (i := 14) rfl) ?_
        refine lv_aload_n hx hb (dg D_L_load (i := 15) rfl) rfl (lv_at hl 1 rfl) ?_
        refine lv_iload_n hx hb (dg D_L_load (i := 16) rfl) rfl (lv_at hl 2 rfl) ?_
        refine lv_bipush (v := nI 8) hx hb (dg D_L_load (i := 17) rfl) (by decide) ?_
        refine n_iadd hx hb (dg D_L_load (i := 18) rfl) ?_
        refine g_fo (x := (a, w, tx)) (k := (20 * x) + 8) (v9 := foT tx ((20 * x) + 8) 4) X hA hW hT hS hR (by decide) (List.mem_of_getElem? (i := 0) rfl) (by omega) rfl (Nat.le_of_ble_eq_true rfl) hl hcs (dg D_L_load (i := 19) rfl) ?_
        refine lv_aload_n hx hb (dg D_L_load (i := 20) rfl) rfl (lv_at hl 1 rfl) ?_
        refine lv_iload_n hx hb (dg D_L_load (i := 21) rfl) rfl (lv_at hl 2 rfl) ?_
        refine lv_bipush (v := nI 12) hx hb (dg D_L_load (i := 22) rfl) (by decide) ?_
        refine n_iadd hx hb (dg D_L_load (i := 23) rfl) ?_
        refine g_fo (x := (a, w, tx)) (k := (20 * x) + 12) (v9 := foT tx ((20 * x) + 12) 4) X hA hW hT hS hR (by decide) (List.mem_of_getElem? (i := 0) rfl) (by omega) rfl (Nat.le_of_ble_eq_true rfl) hl hcs (dg D_L_load (i := 24) rfl) ?_
        refine lv_aload_n hx hb (dg D_L_load (i := 25) rfl) rfl (lv_at hl 1 rfl) ?_
        refine lv_iload_n hx hb (dg D_L_load (i := 26) rfl) rfl (lv_at hl 2 rfl) ?_
        refine lv_bipush (v := nI 16) hx hb (dg D_L_load (i := 27) rfl) (by decide) ?_
        refine n_iadd hx hb (dg D_L_load (i := 28) rfl) ?_
        refine g_fo (x := (a, w, tx)) (k := (20 * x) + 16) (v9 := foT tx ((20 * x) + 16) 4) X hA hW hT hS hR (by decide) (List.mem_of_getElem? (i := 0) rfl) (by omega) rfl (Nat.le_of_ble_eq_true rfl) hl hcs (dg D_L_load (i := 29) rfl) ?_
        refine gC_i X hA hW hT hS hR (c_X11_feed (I := K2) (20 * x) (chB tx) (foT tx (20 * x) 4) (foT tx ((20 * x) + 4) 4) (foT tx ((20 * x) + 8) 4) (foT tx ((20 * x) + 12) 4) (foT tx ((20 * x) + 16) 4) (by first | exact hT | assumption | omega | decide | exact hP.1) (by first | exact hn9 | assumption | omega | decide | exact hP.1)) (by decide) UVX11_feed LK_L_56 rfl (by decide) rfl rfl rfl (Nat.le_of_ble_eq_true rfl) hl hcs (dg D_L_load (i := 30) rfl) (fun r47 I47 L1 R1 H locs hq hW hT hS => ?_)
        obtain ⟨rfl, hT47, hp47_0, rfl, rfl⟩ := hq
        have hF : Fr STx I I47 := Fr.tr hF hT47 (fun _ _ h => h)
        refine lv_pop hx hb (dg D_L_load (i := 31) rfl) rfl ?_
        refine lv_iinc (v := nI (20 * x + 20)) (lv' := [(2, .int (nI (20 * x + 20))), (0, .ref (bs + 0)), (1, .ref a)]) hx hb (dg D_L_load (i := 32) rfl) hl (k := 2) rfl (nI_add _ _) (by decide) rfl (fun ls hl => ?_)
        refine lv_goto (tgt := 2) hx hb (dg D_L_load (i := 33) rfl) (by decide) ?_
        have hTx := hp47_0
        rw [if_pos (by omega), fdT_id hcT] at hTx
        refine W.widen (k := 0) (n := 0) (by omega) (by omega) ?_
        exact ih2 (by omega) I47 _ _ _ hF hTx hT hW hS (lv_sub hl [1, 2, 0] rfl))
  refine W.widen (k := 0) (n := 0) (by omega) (by omega) ?_
  exact loop2 0 (Nat.zero_le _) I _ _ _ hF ⟨hb0.1, fun z hz => absurd hz (Nat.not_lt_zero z)⟩ hT hW hS (lv_sub hl [1, 2, 0] rfl)

