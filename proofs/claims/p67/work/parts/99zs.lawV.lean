/-! the law's painters' rows are filled -/
section LB2
variable {p : Program} {l : Launch} {e : Env} {Rm : Room} {s : State} {m : MethodId} {args : Array Value} {below : List Frame} {meth : Method} {c : Code} {H : Heap} {locs : List Loc} {Q : State → Prop}
variable {ls : Array Slot} {G : va_G} {bs : Nat} {cy : Nat → ClassId} {I : CI} {L : CL} {R : CR} {b c0 s0 : Nat}
set_option maxHeartbeats 4000000 in
set_option maxRecDepth 100000 in
theorem law_P2 (X : Cx p s m args c cL_law 9 RL G bs cy) (hA : AOK bs s.heap.size (Ar bs s.heap.size)) (hR : RmL Rm) (hc : c0 ≤ Rm.cells) (hs : s0 ≤ Rm.slots) (hW : Wd G bs cy I L R H) (hT : TW G cy bs s H [] []) (hS : va_S (Ar bs s.heap.size) s.heap H locs) (hl : lv_has ls 9 [(2, .ref (bs + 0)), (1, .ref (ad bs 67)), (0, .ref b)])
    (kk : ∀ (K : CI) (H : Heap) (locs : List Loc) (ls : Array Slot), (∀ a j, a < 78 → K a j = I a j) → (∀ z y, z < 5 → y < 6 → K (78 + z) y = -1) → Wd G bs cy K L R H → TW G cy bs s H [] [] → va_S (Ar bs s.heap.size) s.heap H locs → lv_has ls 9 [(2, .ref (bs + 0)), (1, .ref (ad bs 67)), (0, .ref b)] → W p l e Rm s m args below meth c H locs (c0) (s0) Q (F0 m 89 ls [])) : W p l e Rm s m args below meth c H locs (c0) (s0) Q (F0 m 52 ls []) := by
  have hx := X.1
  have hb := X.2.1
  refine lv_aload_n hx hb (dg D_L_law (i := 26) rfl) rfl (lv_at hl 1 rfl) ?_
  refine rL_get (v := .ref (ad bs 77)) X hW FI_L_39 rfl (dg D_L_law (i := 27) rfl) ?_
  refine lv_astore_n (lv' := [(3, .ref (ad bs 77)), (2, .ref (bs + 0)), (1, .ref (ad bs 67)), (0, .ref b)]) hx hb (dg D_L_law (i := 28) rfl) rfl hl (by decide) rfl (fun ls hl => ?_)
  refine lv_aload_n hx hb (dg D_L_law (i := 29) rfl) rfl (lv_at hl 0 rfl) ?_
  refine rL_alen (k := 77) (ty := 5) (n := 5) X hW rfl (by decide) ⟨by decide, by decide⟩ (dg D_L_law (i := 30) rfl) ?_
  refine lv_istore (lv' := [(4, .int (nI 5)), (3, .ref (ad bs 77)), (2, .ref (bs + 0)), (1, .ref (ad bs 67)), (0, .ref b)]) hx hb (dg D_L_law (i := 31) rfl) hl (by decide) rfl (fun ls hl => ?_)
  refine n_iconst (a := 0) hx hb (dg D_L_law (i := 32) rfl) rfl ?_
  refine lv_istore (lv' := [(5, .int (nI 0)), (4, .int (nI 5)), (3, .ref (ad bs 77)), (2, .ref (bs + 0)), (1, .ref (ad bs 67)), (0, .ref b)]) hx hb (dg D_L_law (i := 33) rfl) hl (by decide) rfl (fun ls hl => ?_)
  have loop := up_ind (P := fun x => ∀ (K : CI) (H : Heap) (locs : List Loc) (ls : Array Slot), (∀ a j, a < 78 → K a j = I a j) → (∀ z y, z < x → y < 6 → K (78 + z) y = -1) → Wd G bs cy K L R H → TW G cy bs s H [] [] → va_S (Ar bs s.heap.size) s.heap H locs → lv_has ls 9 [(5, .int (nI x)), (4, .int (nI 5)), (3, .ref (ad bs 77)), (2, .ref (bs + 0)), (1, .ref (ad bs 67)), (0, .ref b)] → W p l e Rm s m args below meth c H locs (c0) (s0) Q (F0 m 64 ls [])) 5 (fun x hx5 ih => by
    intro K H locs ls g1 g2 hW hT hS hl
    refine lv_iload hx hb (dg D_L_law (i := 34) rfl) (lv_at hl 0 rfl) ?_
    refine lv_iload hx hb (dg D_L_law (i := 35) rfl) (lv_at hl 1 rfl) ?_
    refine n_icmp_ge (tgt := 89) hx hb (by omega) (by omega) (dg D_L_law (i := 36) rfl) (by decide) (fun c68 => ?_) (fun c68 => ?_)
    · exact kk K H locs ls g1 (fun z y hz hy => g2 z y (by omega) hy) hW hT hS (lv_sub hl [3, 4, 5] rfl)
    · refine lv_aload_n hx hb (dg D_L_law (i := 37) rfl) rfl (lv_at hl 2 rfl) ?_
      refine lv_iload hx hb (dg D_L_law (i := 38) rfl) (lv_at hl 0 rfl) ?_
      refine rL_aald (j := x) X hW rfl (by omega) (dg D_L_law (i := 39) rfl) ?_
      refine lv_astore (lv' := [(6, .ref (ad bs (78 + x))), (5, .int (nI x)), (4, .int (nI 5)), (3, .ref (ad bs 77)), (2, .ref (bs + 0)), (1, .ref (ad bs 67)), (0, .ref b)]) hx hb (dg D_L_law (i := 40) rfl) hl (by decide) rfl (fun ls hl => ?_)
      refine lv_aload hx hb (dg D_L_law (i := 41) rfl) (lv_at hl 0 rfl) ?_
      refine lv_iconst (v := -1) hx hb (dg D_L_law (i := 42) rfl) (by decide) ?_
      refine kS_v X hA hW hT hS hR (v_J7_fill x (-1) (by omega)) (by decide) (by decide) USJ7_fill_53178 LK_L_152 rfl rfl (Nat.le_of_ble_eq_true rfl) hl ⟨hc, hs⟩ (dg D_L_law (i := 43) rfl) (fun K1 L1 R1 H locs hq hW hT hS => ?_)
      obtain ⟨hF, hf, rfl, rfl⟩ := hq
      refine lv_iinc (v := nI (x + 1)) (lv' := [(5, .int (nI (x + 1))), (6, .ref (ad bs (78 + x))), (4, .int (nI 5)), (3, .ref (ad bs 77)), (2, .ref (bs + 0)), (1, .ref (ad bs 67)), (0, .ref b)]) hx hb (dg D_L_law (i := 44) rfl) hl (k := 1) rfl (nI_add x 1) (by decide) rfl (fun ls hl => ?_)
      refine lv_goto (tgt := 64) hx hb (dg D_L_law (i := 45) rfl) (by decide) ?_
      refine ih (by omega) K1 H locs ls (fun a j h => (hF a j (SC_ne (by omega))).trans (g1 a j h)) (fun z y hz hy => ?_) hW hT hS (lv_sub hl [0, 2, 3, 4, 5, 6] rfl)
      by_cases ez : z = x
      · subst ez; rw [hf]; exact if_pos hy
      · exact (hF (78 + z) y (SC_ne (by omega))).trans (g2 z y (by omega) hy))
  exact loop 0 (Nat.zero_le _) I H locs ls (fun _ _ _ => rfl) (fun z y h => absurd h (Nat.not_lt_zero z)) hW hT hS (lv_sub hl [0, 1, 2, 3, 4, 5] rfl)
end LB2
