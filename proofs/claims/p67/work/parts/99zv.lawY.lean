/-! the law's body, from its bridge to its end -/
theorem LwAt.ofA {I K : CI} {σ : Row} (h : LwA I σ) (g1 : ∀ a j, a < 78 → K a j = I a j) (g2 : ∀ x y, x < 5 → y < 6 → K (78 + x) y = pnt σ x y) : LwAt K σ := by
  obtain ⟨h1, h2, h3, h4⟩ := h
  refine ⟨?_, fun x hx => ?_, fun g hg => ?_, fun y hy => ?_, g2⟩
  · rw [g1 _ _ (by decide), g1 _ _ (by decide), g1 _ _ (by decide), g1 _ _ (by decide), g1 _ _ (by decide), g1 _ _ (by decide)]; exact h1
  · rw [g1 _ _ (by decide), g1 _ _ (by decide), g1 _ _ (by decide), g1 _ _ (by decide), g1 _ _ (by decide)]; exact h2 x hx
  · rw [g1 _ _ (by decide)]; exact h3 g hg
  · rw [g1 _ _ (by decide)]; exact h4 y hy
section LB5
variable {p : Program} {l : Launch} {e : Env} {Rm : Room} {s : State} {m : MethodId} {args : Array Value} {below : List Frame} {meth : Method} {c : Code} {H : Heap} {locs : List Loc} {Q : State → Prop}
variable {ls : Array Slot} {G : va_G} {bs : Nat} {cy : Nat → ClassId} {I : CI} {L : CL} {R : CR} {b c0 s0 : Nat}
set_option maxHeartbeats 4000000 in
set_option maxRecDepth 100000 in
theorem law_body (X : Cx p s m args c cL_law 9 RL G bs cy) (hA : AOK bs s.heap.size (Ar bs s.heap.size)) (hR : RmL Rm) (hl0 : l.stackTraces = false) (hc : c0 + 482 ≤ Rm.cells) (hs : s0 + 212066 ≤ Rm.slots) (ρ : Row) (b0 : Nat → Int32) {β γ q u : Nat} (hγ : isBr γ) (hu : isPl u) (hR7 : R 0 7 = β) (hR8 : R 0 8 = q) (hR9 : R 0 9 = γ) (hR10 : R 0 10 = u) (hR67 : R 67 0 = cy 70) (hat : I 67 1 = nI 0) (hb0 : TxAt I 0 b0) (h91 : I 9 1 = nI 15) (hW : Wd G bs cy I L R H) (hT : TW G cy bs s H [] []) (hS : va_S (Ar bs s.heap.size) s.heap H locs) (hl : lv_has ls 9 [(2, .ref (bs + 0)), (1, .ref (ad bs 67)), (0, .ref b)])
    (fin : ∀ (H : Heap) (locs : List Loc) (ls : Array Slot), va_S (Ar bs s.heap.size) s.heap H locs → W p l e Rm s m args below meth c H locs (c0 + 466 + 0 + 15 + 1) (s0 + 212000 + 0 + 60 + 6) Q (F0 m 308 ls [.int (nI 1)])) : W p l e Rm s m args below meth c H locs (c0) (s0) Q (F0 m 21 ls []) := by
  have hx := X.1
  have hb := X.2.1
  refine law_P1 X hA hR hl0 (by omega) (by omega) ρ b0 hγ hu hR7 hR8 hR9 hR10 hR67 hat hb0 hW hT hS hl (fun σ I2 L2 R2 H locs ls hi hd hLB hLA hpc hnp hB hP h91b h92 hR7 hR8 hRb hR67 hat hpos hW hT hS hl => ?_)
  refine law_P2 X hA hR (by omega) (by omega) hW hT hS hl (fun K H locs ls g1 g2 hW hT hS hl => ?_)
  refine n_iconst (a := 0) hx hb (dg D_L_law (i := 46) rfl) rfl ?_
  refine lv_istore_n (lv' := [(3, .int (nI 0)), (2, .ref (bs + 0)), (1, .ref (ad bs 67)), (0, .ref b)]) hx hb (dg D_L_law (i := 47) rfl) rfl hl (by decide) rfl (fun ls hl => ?_)
  refine n_iconst (a := 0) hx hb (dg D_L_law (i := 48) rfl) rfl ?_
  refine lv_istore (lv' := [(4, .int (nI 0)), (3, .int (nI 0)), (2, .ref (bs + 0)), (1, .ref (ad bs 67)), (0, .ref b)]) hx hb (dg D_L_law (i := 49) rfl) hl (by decide) rfl (fun ls hl => ?_)
  have hwK : LwAt K σ := LwAt.ofA hLA g1 (fun x y hx hy => (g2 x y hx hy).trans (hnp x y (by omega) (by omega)).symm)
  have hlo : ∀ a j, a < 67 → K a j = I2 a j := fun a j h => g1 a j (by omega)
  have hH : HisN K 0 (fun _ => σ) 15 := ⟨by decide, by decide, (hlo 9 1 (by decide)).trans (h91b.trans h91), (hlo 9 2 (by decide)).trans h92, fun t h => absurd h (Nat.not_lt_zero t)⟩
  refine law_P3 (c0 := c0 + 466 + 0) (s0 := s0 + 212000 + 0) X hA hR hl0 (by omega) (by omega) hγ hu hR7 hR8 hRb hR67 hpos.2.2 (fun τ k U nw K1 H locs ls hi hd hB hP hH hU hk hk9 h6 hW hT hS hl => ?_) 0 (Nat.zero_le _) σ 0 (fun _ => σ) 15 K H locs ls hi hd hLB hwK (hB.kp hγ hlo) (hP.kp hu hlo) hH USt.nil hpc (Nat.le_refl 0) hpos.1 hpos.2.1 ((g1 67 1 (by decide)).trans hat) hW hT hS (lv_sub hl [0, 1, 2, 3, 4] rfl)
  refine lv_iload_n hx hb (dg D_L_law (i := 127) rfl) rfl (lv_at hl 0 rfl) ?_
  refine lv_istore (lv' := [(4, .int (nI k)), (3, .int (nI k)), (2, .ref (bs + 0)), (1, .ref (ad bs 67)), (0, .ref b)]) hx hb (dg D_L_law (i := 128) rfl) hl (by decide) rfl (fun ls hl => ?_)
  exact law_P4 (c0 := c0 + 466 + 0 + 15) (s0 := s0 + 212000 + 0 + 60) X hA hR hl0 (by omega) (by omega) hγ hu hR7 hR8 hRb (fun H locs ls hS => fin H locs ls hS) k τ U nw K1 H locs ls hi hd hB hP hH hU hk hk9 h6 hW hT hS (lv_sub hl [0, 2, 3, 4] rfl)
end LB5
