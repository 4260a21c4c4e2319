/-! all is undone, and what is not there is refused -/
theorem STb_hi {β q a j : Nat} (hβ : isBr β) (hq : isPl q) (h : 67 ≤ a) : STb β q a j = false := by
  unfold STb
  rw [beq_false_of_ne (show a ≠ 9 by omega), decide_eq_false (show ¬ (β ≤ a ∧ a ≤ β + 10) by rcases hβ with rfl | rfl <;> omega), beq_false_of_ne (show a ≠ q + 1 by rcases hq with rfl | rfl <;> omega), beq_false_of_ne (show a ≠ q + 2 by rcases hq with rfl | rfl <;> omega), beq_false_of_ne (show a ≠ q + 3 by rcases hq with rfl | rfl <;> omega)]
  rfl
section LB4
variable {p : Program} {l : Launch} {e : Env} {Rm : Room} {s : State} {m : MethodId} {args : Array Value} {below : List Frame} {meth : Method} {c : Code} {H : Heap} {locs : List Loc} {Q : State → Prop}
variable {ls : Array Slot} {G : va_G} {bs : Nat} {cy : Nat → ClassId} {I : CI} {L : CL} {R : CR} {b c0 s0 : Nat}
set_option maxHeartbeats 4000000 in
set_option maxRecDepth 100000 in
theorem law_P4 (X : Cx p s m args c cL_law 9 RL G bs cy) (hA : AOK bs s.heap.size (Ar bs s.heap.size)) (hR : RmL Rm) (hl0 : l.stackTraces = false) (hc : c0 + 1 ≤ Rm.cells) (hs : s0 + 6 ≤ Rm.slots) {β q : Nat} (hβ : isBr β) (hq : isPl q) (hR7 : R 0 7 = β) (hR8 : R 0 8 = q) (hRb : R q 0 = β)
    (fin : ∀ (H : Heap) (locs : List Loc) (ls : Array Slot), va_S (Ar bs s.heap.size) s.heap H locs → W p l e Rm s m args below meth c H locs (c0 + 1) (s0 + 6) Q (F0 m 308 ls [.int (nI 1)])) :
    ∀ (k : Nat) (σ : Row) (U : Nat → Row) (nw : Nat) (K : CI) (H : Heap) (locs : List Loc) (ls : Array Slot), Inv σ → DR σ → BrAt K β σ → PlAt K q σ → HisN K k U nw → USt σ k U → pcN σ = k → k ≤ 15 → K 67 6 = nI (nS σ) → Wd G bs cy K L R H → TW G cy bs s H [] [] → va_S (Ar bs s.heap.size) s.heap H locs → lv_has ls 9 [(4, .int (nI k)), (2, .ref (bs + 0)), (1, .ref (ad bs 67)), (0, .ref b)] → W p l e Rm s m args below meth c H locs (c0) (s0) Q (F0 m 248 ls []) := by
  have hx := X.1
  have hb := X.2.1
  intro k
  induction k with
  | zero =>
    intro σ U nw K H locs ls hi hd hB hP hH hU hk hk9 h6 hW hT hS hl
    refine lv_iload hx hb (dg D_L_law (i := 129) rfl) (lv_at hl 0 rfl) ?_
    refine n_if_le (tgt := 283) hx hb (by omega) (dg D_L_law (i := 130) rfl) (by decide) (fun _ => ?_) (fun h => absurd h (Nat.lt_irrefl 0))
    refine lv_aload_n hx hb (dg D_L_law (i := 147) rfl) rfl (lv_at hl 1 rfl) ?_
    refine kC_i X hA hW hT hS hR (k := 0) (c_X11_undo σ β q 0 U nw hi hd hβ hB hq hP hRb hR7 hR8 hH (fun t ht => absurd ht (Nat.not_lt_zero t))) (by decide) (by decide) UVX11_undo LK_L_172 rfl (by decide) rfl rfl rfl (Nat.le_of_ble_eq_true rfl) hl ⟨by omega, by omega⟩ (dg D_L_law (i := 148) rfl) (fun r K1 L9 R9 H locs hq9 hW hT hS => ?_)
    obtain ⟨hr, hF, hrest, rfl, rfl⟩ := hq9
    rw [if_pos rfl] at hr hrest
    subst hr
    obtain ⟨hB1, hP1, hH1⟩ := hrest
    have hlo : ∀ a j, 67 ≤ a → K1 a j = K a j := fun a j h => hF a j (STb_hi hβ hq h)
    refine r_ldc X CK_L_175 (dg D_L_law (i := 149) rfl) ?_
    refine lv_icmp_ne (tgt := 307) hx hb (dg D_L_law (i := 150) rfl) (by decide) (fun h => absurd rfl h) (fun _ => ?_)
    refine lv_aload_n hx hb (dg D_L_law (i := 151) rfl) rfl (lv_at hl 1 rfl) ?_
    refine lv_aload_n hx hb (dg D_L_law (i := 152) rfl) rfl (lv_at hl 2 rfl) ?_
    refine rL_get (v := .int (nI (nS σ))) X hW FI_L_93 (congrArg (fun z => some (Value.int z)) ((hlo 67 6 (by decide)).trans h6)) (dg D_L_law (i := 153) rfl) ?_
    refine kW_i X hA hW hT hS hR (c_L_isRefused σ β q hl0 hi hd hβ hB1 hq hP1 hRb hR7 hR8) (by decide) UWL_isRefused LK_L_176 rfl rfl (Nat.le_of_ble_eq_true rfl) hl ⟨by omega, by omega⟩ (dg D_L_law (i := 154) rfl) (fun r K2 L9 R9 H locs hq9 hW hT hS => ?_)
    obtain ⟨hr, -, -, -⟩ := hq9
    subst hr
    refine n_if_eq (tgt := 307) hx hb (by omega) (dg D_L_law (i := 155) rfl) (by decide) (fun h => absurd h (by decide)) (fun _ => ?_)
    refine n_iconst (a := 1) hx hb (dg D_L_law (i := 156) rfl) rfl ?_
    refine lv_goto (tgt := 308) hx hb (dg D_L_law (i := 157) rfl) (by decide) ?_
    exact fin H locs ls hS
  | succ k ih =>
    intro σ U nw K H locs ls hi hd hB hP hH hU hk hk9 h6 hW hT hS hl
    obtain ⟨hi1, hd1, hk1, hS1, hU1⟩ := hU.dn
    refine lv_iload hx hb (dg D_L_law (i := 129) rfl) (lv_at hl 0 rfl) ?_
    refine n_if_le (tgt := 283) hx hb (by omega) (dg D_L_law (i := 130) rfl) (by decide) (fun h => absurd h (Nat.succ_ne_zero k)) (fun _ => ?_)
    refine lv_aload_n hx hb (dg D_L_law (i := 131) rfl) rfl (lv_at hl 1 rfl) ?_
    refine kC_i X hA hW hT hS hR (k := 0) (c_X11_undo σ β q (k + 1) U nw hi hd hβ hB hq hP hRb hR7 hR8 hH (fun t ht => ⟨(hU t ht).1, (hU t ht).2.1⟩)) (by decide) (by decide) UVX11_undo LK_L_172 rfl (by decide) rfl rfl rfl (Nat.le_of_ble_eq_true rfl) hl ⟨by omega, by omega⟩ (dg D_L_law (i := 132) rfl) (fun r K1 L9 R9 H locs hq9 hW hT hS => ?_)
    obtain ⟨hr, hF, hrest, rfl, rfl⟩ := hq9
    rw [if_neg (Nat.succ_ne_zero k)] at hr hrest
    subst hr
    obtain ⟨hB1, hP1, hH1⟩ := hrest
    have hlo : ∀ a j, 67 ≤ a → K1 a j = K a j := fun a j h => hF a j (STb_hi hβ hq h)
    refine lv_iload hx hb (dg D_L_law (i := 133) rfl) (lv_at hl 0 rfl) ?_
    refine n_iconst (a := 1) hx hb (dg D_L_law (i := 134) rfl) rfl ?_
    refine n_isub hx hb (dg D_L_law (i := 135) rfl) (by omega) ?_
    refine n_icmp_ne (tgt := 275) hx hb (by omega) (by omega) (dg D_L_law (i := 136) rfl) (by decide) (fun h => absurd rfl h) (fun _ => ?_)
    refine lv_aload_n hx hb (dg D_L_law (i := 137) rfl) rfl (lv_at hl 1 rfl) ?_
    refine kC_i X hA hW hT hS hR (k := 0) (c_X11_paintings (U 0) β q hl0 hi1 hd1 hβ hB1 hq hP1 hRb hR7 hR8) (by decide) (by decide) UVX11_paintings LK_L_149 rfl (by decide) rfl rfl rfl (Nat.le_of_ble_eq_true rfl) hl ⟨by omega, by omega⟩ (dg D_L_law (i := 138) rfl) (fun r I9 L9 R9 H locs hq hW hT hS => ?_)
    obtain ⟨hr, rfl, rfl, rfl⟩ := hq
    rw [pc_sum hd1 hi1, hk1] at hr
    subst hr
    refine lv_iload hx hb (dg D_L_law (i := 139) rfl) (lv_at hl 0 rfl) ?_
    refine n_iconst (a := 1) hx hb (dg D_L_law (i := 140) rfl) rfl ?_
    refine n_isub hx hb (dg D_L_law (i := 141) rfl) (by omega) ?_
    refine n_icmp_eq (tgt := 277) hx hb (by omega) (by omega) (dg D_L_law (i := 142) rfl) (by decide) (fun _ => ?_) (fun h => absurd (by omega) h)
    refine lv_iinc (v := nI k) (lv' := [(4, .int (nI k)), (2, .ref (bs + 0)), (1, .ref (ad bs 67)), (0, .ref b)]) hx hb (dg D_L_law (i := 145) rfl) hl (k := 0) rfl (nI_dec k) (by decide) rfl (fun ls hl => ?_)
    refine lv_goto (tgt := 248) hx hb (dg D_L_law (i := 146) rfl) (by decide) ?_
    exact ih (U 0) (popU U) _ K1 H locs ls hi1 hd1 hB1 hP1 hH1 hU1 hk1 (by omega) (((hlo 67 6 (by decide)).trans h6).trans (by rw [hS1])) hW hT hS hl
end LB4
