/-! fifteen paintings -/
section KP
variable {σ : Row} {I J : CI} {β q k nw : Nat} {U : Nat → Row}
theorem BrAt.kp (h : BrAt I β σ) (hβ : isBr β) (hF : ∀ a j, a < 67 → J a j = I a j) : BrAt J β σ := h.fr (S := fun a _ => decide (67 ≤ a)) (fun a j h => hF a j (by have := of_decide_eq_false h; omega)) (fun a j h1 h2 => decide_eq_false (by rcases hβ with rfl | rfl <;> omega))
theorem PlAt.kp (h : PlAt I q σ) (hq : isPl q) (hF : ∀ a j, a < 67 → J a j = I a j) : PlAt J q σ := h.fr (S := fun a _ => decide (67 ≤ a)) (fun a j h => hF a j (by have := of_decide_eq_false h; omega)) (fun a j h1 h2 => decide_eq_false (by rcases hq with rfl | rfl <;> omega))
theorem HisN.kp (h : HisN I k U nw) (hF : ∀ a j, a < 67 → J a j = I a j) : HisN J k U nw := h.frI (S := fun a _ => decide (67 ≤ a)) (fun a j h => hF a j (by have := of_decide_eq_false h; omega)) (fun a j h1 h2 => decide_eq_false (by omega))
theorem LwAt.kp (h : LwAt I σ) (hF : ∀ a j, 67 ≤ a → (a = 67 → 2 ≤ j) → J a j = I a j) : LwAt J σ := by
  obtain ⟨h1, h2, h3, h4, h5⟩ := h
  refine ⟨?_, fun x hx => ?_, fun g hg => ?_, fun y hy => ?_, fun x y hx hy => ?_⟩
  · rw [hF _ _ (by decide) (by decide), hF _ _ (by decide) (by decide), hF _ _ (by decide) (by decide), hF _ _ (by decide) (by decide), hF _ _ (by decide) (by decide), hF _ _ (by decide) (by decide)]; exact h1
  · rw [hF _ _ (by decide) (by omega), hF _ _ (by decide) (by omega), hF _ _ (by decide) (by omega), hF _ _ (by decide) (by omega), hF _ _ (by decide) (by omega)]; exact h2 x hx
  · rw [hF _ _ (by decide) (by omega)]; exact h3 g hg
  · rw [hF _ _ (by decide) (by omega)]; exact h4 y hy
  · rw [hF _ _ (by omega) (by omega)]; exact h5 x y hx hy
theorem SAt_no {a j : Nat} (h : a = 67 → 2 ≤ j) : SAt a j = false := by
  unfold SAt
  by_cases e : a = 67
  · rw [show (j == 1) = false from beq_false_of_ne (by have := h e; omega), Bool.and_false]
  · rw [beq_false_of_ne e, Bool.false_and]
theorem SAt_lo {a j : Nat} (h : a < 67) : SAt a j = false := SAt_no (by omega)
theorem SEd_hi (hβ : isBr β) (hq : isPl q) {a j : Nat} (h : 67 ≤ a) : SEd β q a j = false := by
  unfold SEd
  rw [decide_eq_false (show ¬ (9 ≤ a ∧ a ≤ 26) by omega), decide_eq_false (show ¬ (β ≤ a ∧ a ≤ β + 10) by rcases hβ with rfl | rfl <;> omega), beq_false_of_ne (show a ≠ q + 1 by rcases hq with rfl | rfl <;> omega), beq_false_of_ne (show a ≠ q + 2 by rcases hq with rfl | rfl <;> omega), beq_false_of_ne (show a ≠ q + 3 by rcases hq with rfl | rfl <;> omega)]
  rfl
end KP
section LB3
variable {p : Program} {l : Launch} {e : Env} {Rm : Room} {s : State} {m : MethodId} {args : Array Value} {below : List Frame} {meth : Method} {c : Code} {H : Heap} {locs : List Loc} {Q : State → Prop}
variable {ls : Array Slot} {G : va_G} {bs : Nat} {cy : Nat → ClassId} {I : CI} {L : CL} {R : CR} {b c0 s0 : Nat}
set_option maxHeartbeats 8000000 in
set_option maxRecDepth 100000 in
theorem law_P3 (X : Cx p s m args c cL_law 9 RL G bs cy) (hA : AOK bs s.heap.size (Ar bs s.heap.size)) (hR : RmL Rm) (hl0 : l.stackTraces = false) (hc : c0 + 15 ≤ Rm.cells) (hs : s0 + 60 ≤ Rm.slots) {β q a0 : Nat} (hβ : isBr β) (hq : isPl q) (hR7 : R 0 7 = β) (hR8 : R 0 8 = q) (hRb : R q 0 = β) (hR67 : R 67 0 = cy 70) (ha0 : a0 ≤ 100)
    (kk : ∀ (σ : Row) (k : Nat) (U : Nat → Row) (nw : Nat) (K : CI) (H : Heap) (locs : List Loc) (ls : Array Slot), Inv σ → DR σ → BrAt K β σ → PlAt K q σ → HisN K k U nw → USt σ k U → pcN σ = k → k ≤ 15 → K 67 6 = nI (nS σ) → Wd G bs cy K L R H → TW G cy bs s H [] [] → va_S (Ar bs s.heap.size) s.heap H locs → lv_has ls 9 [(3, .int (nI k)), (2, .ref (bs + 0)), (1, .ref (ad bs 67)), (0, .ref b)] → W p l e Rm s m args below meth c H locs (c0 + 15) (s0 + 60) Q (F0 m 245 ls [])) :
    ∀ n, n ≤ 15 → ∀ (σ : Row) (k : Nat) (U : Nat → Row) (nw : Nat) (K : CI) (H : Heap) (locs : List Loc) (ls : Array Slot), Inv σ → DR σ → LwB σ → LwAt K σ → BrAt K β σ → PlAt K q σ → HisN K k U nw → USt σ k U → pcN σ = k → k ≤ n → 1 ≤ nS σ → 1 ≤ nG σ → K 67 1 = nI (a0 + 3 * n) → Wd G bs cy K L R H → TW G cy bs s H [] [] → va_S (Ar bs s.heap.size) s.heap H locs → lv_has ls 9 [(4, .int (nI n)), (3, .int (nI k)), (2, .ref (bs + 0)), (1, .ref (ad bs 67)), (0, .ref b)] → W p l e Rm s m args below meth c H locs (c0 + n) (s0 + 4 * n) Q (F0 m 94 ls []) := by
  have hx := X.1
  have hb := X.2.1
  refine up_ind (P := fun n => ∀ (σ : Row) (k : Nat) (U : Nat → Row) (nw : Nat) (K : CI) (H : Heap) (locs : List Loc) (ls : Array Slot), Inv σ → DR σ → LwB σ → LwAt K σ → BrAt K β σ → PlAt K q σ → HisN K k U nw → USt σ k U → pcN σ = k → k ≤ n → 1 ≤ nS σ → 1 ≤ nG σ → K 67 1 = nI (a0 + 3 * n) → Wd G bs cy K L R H → TW G cy bs s H [] [] → va_S (Ar bs s.heap.size) s.heap H locs → lv_has ls 9 [(4, .int (nI n)), (3, .int (nI k)), (2, .ref (bs + 0)), (1, .ref (ad bs 67)), (0, .ref b)] → W p l e Rm s m args below meth c H locs (c0 + n) (s0 + 4 * n) Q (F0 m 94 ls [])) 15 (fun n hn9 ih => ?_)
  intro σ k U nw K H locs ls hi hd hLb hw hB hP hH hU hk hkn hS1 hG1 hat hW hT hS hl
  obtain ⟨hY, hY1, hY12, hLn, hL4, hSn, hS12, hGn, hG5⟩ := id hi
  obtain ⟨hY6, hS5, hG2, hL3, hcl0⟩ := id hLb
  refine lv_iload hx hb (dg D_L_law (i := 50) rfl) (lv_at hl 0 rfl) ?_
  refine lv_bipush (v := nI 15) hx hb (dg D_L_law (i := 51) rfl) (by decide) ?_
  refine n_icmp_ge (tgt := 245) hx hb (by omega) (by omega) (dg D_L_law (i := 52) rfl) (by decide) (fun c98 => ?_) (fun c98 => ?_)
  · refine W.widen (k := c0 + 15) (n := s0 + 60) (by omega) (by omega) ?_
    exact kk σ k U nw K H locs ls hi hd hB hP hH hU hk (by omega) (hw.c4 hi) hW hT hS (lv_sub hl [1, 2, 3, 4] rfl)
  · refine lv_aload_n hx hb (dg D_L_law (i := 53) rfl) rfl (lv_at hl 3 rfl) ?_
    refine lv_aload_n hx hb (dg D_L_law (i := 54) rfl) rfl (lv_at hl 3 rfl) ?_
    refine rL_get (v := .int (nI (Yn σ))) X hW FI_L_81 (congrArg (fun z => some (Value.int z)) (hw.c0 hi)) (dg D_L_law (i := 55) rfl) ?_
    refine kO_i X hA hW hT hS hR (c_L_chosen (a0 + 3 * n) (Yn σ) hR67 hat (by omega) (by omega) (by omega)) (by decide) (by decide) UVL_chosen LK_L_78 rfl rfl (Nat.le_of_ble_eq_true rfl) hl ⟨by omega, by omega⟩ (dg D_L_law (i := 56) rfl) (fun r K1 L9 R9 H locs hq hW hT hS => ?_)
    obtain ⟨hr, hF, hat1, rfl, rfl⟩ := hq
    subst hr
    have hy9 : drw cy (a0 + 3 * n) (Yn σ) < Yn σ := amN_lt (by omega)
    generalize drw cy (a0 + 3 * n) (Yn σ) = y at hy9 ⊢
    have hw : LwAt K1 σ := hw.kp (fun a j h h2 => hF a j (SAt_no h2))
    have hB := hB.kp hβ (fun a j h => hF a j (SAt_lo h))
    have hP := hP.kp hq (fun a j h => hF a j (SAt_lo h))
    have hH := hH.kp (fun a j h => hF a j (SAt_lo h))
    refine lv_istore (lv' := [(5, .int (nI y)), (4, .int (nI n)), (3, .int (nI k)), (2, .ref (bs + 0)), (1, .ref (ad bs 67)), (0, .ref b)]) hx hb (dg D_L_law (i := 57) rfl) hl (by decide) rfl (fun ls hl => ?_)
    refine lv_aload_n hx hb (dg D_L_law (i := 58) rfl) rfl (lv_at hl 4 rfl) ?_
    refine lv_aload_n hx hb (dg D_L_law (i := 59) rfl) rfl (lv_at hl 4 rfl) ?_
    refine rL_get (v := .int (nI (nS σ))) X hW FI_L_93 (congrArg (fun z => some (Value.int z)) (hw.c4 hi)) (dg D_L_law (i := 60) rfl) ?_
    refine kO_i X hA hW hT hS hR (c_L_chosen (a0 + 3 * n + 1) (nS σ) hR67 hat1 (by omega) (by omega) (by omega)) (by decide) (by decide) UVL_chosen LK_L_78 rfl rfl (Nat.le_of_ble_eq_true rfl) hl ⟨by omega, by omega⟩ (dg D_L_law (i := 61) rfl) (fun r K2 L9 R9 H locs hq hW hT hS => ?_)
    obtain ⟨hr, hF, hat2, rfl, rfl⟩ := hq
    subst hr
    have hx9 : drw cy (a0 + 3 * n + 1) (nS σ) < nS σ := amN_lt (by omega)
    generalize drw cy (a0 + 3 * n + 1) (nS σ) = x at hx9 ⊢
    have hw : LwAt K2 σ := hw.kp (fun a j h h2 => hF a j (SAt_no h2))
    have hB := hB.kp hβ (fun a j h => hF a j (SAt_lo h))
    have hP := hP.kp hq (fun a j h => hF a j (SAt_lo h))
    have hH := hH.kp (fun a j h => hF a j (SAt_lo h))
    refine lv_istore (lv' := [(6, .int (nI x)), (5, .int (nI y)), (4, .int (nI n)), (3, .int (nI k)), (2, .ref (bs + 0)), (1, .ref (ad bs 67)), (0, .ref b)]) hx hb (dg D_L_law (i := 62) rfl) hl (by decide) rfl (fun ls hl => ?_)
    refine lv_aload_n hx hb (dg D_L_law (i := 63) rfl) rfl (lv_at hl 5 rfl) ?_
    refine lv_aload_n hx hb (dg D_L_law (i := 64) rfl) rfl (lv_at hl 5 rfl) ?_
    refine rL_get (v := .int (nI (nG σ))) X hW FI_L_96 (congrArg (fun z => some (Value.int z)) (hw.c5 hi)) (dg D_L_law (i := 65) rfl) ?_
    refine kO_i X hA hW hT hS hR (c_L_chosen (a0 + 3 * n + 1 + 1) (nG σ) hR67 hat2 (by omega) (by omega) (by omega)) (by decide) (by decide) UVL_chosen LK_L_78 rfl rfl (Nat.le_of_ble_eq_true rfl) hl ⟨by omega, by omega⟩ (dg D_L_law (i := 66) rfl) (fun r K3 L9 R9 H locs hq hW hT hS => ?_)
    obtain ⟨hr, hF, hat3, rfl, rfl⟩ := hq
    subst hr
    have hg9 : drw cy (a0 + 3 * n + 1 + 1) (nG σ) < nG σ := amN_lt (by omega)
    generalize drw cy (a0 + 3 * n + 1 + 1) (nG σ) = g at hg9 ⊢
    have hw : LwAt K3 σ := hw.kp (fun a j h h2 => hF a j (SAt_no h2))
    have hB := hB.kp hβ (fun a j h => hF a j (SAt_lo h))
    have hP := hP.kp hq (fun a j h => hF a j (SAt_lo h))
    have hH := hH.kp (fun a j h => hF a j (SAt_lo h))
    refine lv_istore (lv' := [(7, .int (nI g)), (6, .int (nI x)), (5, .int (nI y)), (4, .int (nI n)), (3, .int (nI k)), (2, .ref (bs + 0)), (1, .ref (ad bs 67)), (0, .ref b)]) hx hb (dg D_L_law (i := 67) rfl) hl (by decide) rfl (fun ls hl => ?_)
    refine lv_aload_n hx hb (dg D_L_law (i := 68) rfl) rfl (lv_at hl 6 rfl) ?_
    refine lv_iload hx hb (dg D_L_law (i := 69) rfl) (lv_at hl 2 rfl) ?_
    refine lv_iload hx hb (dg D_L_law (i := 70) rfl) (lv_at hl 1 rfl) ?_
    refine lv_iload hx hb (dg D_L_law (i := 71) rfl) (lv_at hl 0 rfl) ?_
    refine kA_i X hA hW hT hS hR (c_L_refused σ y x g hi hd hw hLb hy9 hx9 hg9) (by decide) (by decide) UVL_refused LK_L_158 rfl rfl (Nat.le_of_ble_eq_true rfl) hl ⟨by omega, by omega⟩ (dg D_L_law (i := 72) rfl) (fun r K4 L9 R9 H locs hq hW hT hS => ?_)
    obtain ⟨hr, hF, eL, eR⟩ := hq
    rw [eL, eR] at hW
    subst hr
    have hw : LwAt K4 σ := hw.fr hF
    have hB := hB.kp hβ (fun a j h => hF a j (SLf_no (by omega)))
    have hP := hP.kp hq (fun a j h => hF a j (SLf_no (by omega)))
    have hH := hH.kp (fun a j h => hF a j (SLf_no (by omega)))
    have hat4 : K4 67 1 = _ := (hF 67 1 rfl).trans hat3
    refine lv_istore (lv' := [(8, .int (rfs σ y x g)), (7, .int (nI g)), (6, .int (nI x)), (5, .int (nI y)), (4, .int (nI n)), (3, .int (nI k)), (2, .ref (bs + 0)), (1, .ref (ad bs 67)), (0, .ref b)]) hx hb (dg D_L_law (i := 73) rfl) hl (by decide) rfl (fun ls hl => ?_)
    refine lv_aload_n hx hb (dg D_L_law (i := 74) rfl) rfl (lv_at hl 6 rfl) ?_
    refine lv_iload hx hb (dg D_L_law (i := 75) rfl) (lv_at hl 3 rfl) ?_
    refine lv_iload hx hb (dg D_L_law (i := 76) rfl) (lv_at hl 2 rfl) ?_
    refine lv_iload hx hb (dg D_L_law (i := 77) rfl) (lv_at hl 1 rfl) ?_
    refine kC_i X hA hW hT hS hR (k := 0) (v_X11_refusal σ β q y x g hi hd hβ hB hq hP hRb hR7 hR8 hy9 hx9 hg9) (by decide) (by decide) UVX11_refusal LK_L_162 rfl (by decide) rfl rfl rfl (Nat.le_of_ble_eq_true rfl) hl ⟨by omega, by omega⟩ (dg D_L_law (i := 78) rfl) (fun r I9 L9 R9 H locs hq hW hT hS => ?_)
    obtain ⟨rfl, rfl, rfl, rfl⟩ := hq
    refine lv_iload hx hb (dg D_L_law (i := 79) rfl) (lv_at hl 0 rfl) ?_
    refine lv_icmp_ne (tgt := 189) hx hb (dg D_L_law (i := 80) rfl) (by decide) (fun h => absurd rfl h) (fun _ => ?_)
    refine lv_aload_n hx hb (dg D_L_law (i := 81) rfl) rfl (lv_at hl 6 rfl) ?_
    refine lv_iload hx hb (dg D_L_law (i := 82) rfl) (lv_at hl 3 rfl) ?_
    refine lv_iload hx hb (dg D_L_law (i := 83) rfl) (lv_at hl 2 rfl) ?_
    refine lv_iload hx hb (dg D_L_law (i := 84) rfl) (lv_at hl 1 rfl) ?_
    refine kC_i X hA hW hT hS hR (k := 0) (v_X11_paint σ β q k U nw y x g hi hd hβ hB hq hP hRb hR7 hR8 hH hy9 hx9 hg9) (by decide) (by decide) UVX11_paint LK_L_165 rfl (by decide) rfl rfl rfl (Nat.le_of_ble_eq_true rfl) hl ⟨by omega, by omega⟩ (dg D_L_law (i := 85) rfl) (fun r K5 L9 R9 H locs hq hW hT hS => ?_)
    obtain ⟨hr, hF, hE, rfl, rfl⟩ := hq
    have hw5 : LwAt K5 σ := hw.kp (fun a j h h2 => hF a j (SEd_hi hβ hq h))
    have hat5 : K5 67 1 = nI (a0 + 3 * (n + 1)) := ((hF 67 1 (SEd_hi hβ hq (by decide))).trans hat4).trans (congrArg nI (by omega))
    by_cases hz : rfs σ y x g = 0
    · have hn0 := paR_ok hi hx9 hy9 hg9 hz
      rw [hr] at hn0
      rw [paO_ok hi hx9 hy9 hg9 hz] at hE
      have hz0 : rfs σ y x g = nI 0 := hz
      have hp := rfs_0 hz
      have hi1 : Inv (setP σ x y (nI g)) := Inv_setP hi
      have hd1 : DR (setP σ x y (nI g)) := DR_setP hi hd hx9 hy9 hg9
      have hLb1 : LwB (setP σ x y (nI g)) := hLb.put hi
      have hk1 : pcN (setP σ x y (nI g)) = k + 1 := by rw [pcN_setP hi hx9 hy9 hg9 hp, hk]
      have hU1 : USt (setP σ x y (nI g)) (k + 1) (pushU σ U) := hU.up hi hd hk (Sta_Sm Sm_setP)
      have hS91 : 1 ≤ nS (setP σ x y (nI g)) := by rw [(Sta_Sm (Sm_setP (x := x) (y := y) (g := nI g))).S]; exact hS1
      have hG91 : 1 ≤ nG (setP σ x y (nI g)) := by rw [(Sta_Sm (Sm_setP (x := x) (y := y) (g := nI g))).G]; exact hG1
      obtain ⟨hB1, hP1, hH1⟩ := hE
      have hB1 : BrAt K5 β (setP σ x y (nI g)) := hB1
      have hP1 : PlAt K5 q (setP σ x y (nI g)) := hP1
      have hH1 : HisN K5 (min 16 (k + 1)) (pushU σ U) ((nw + 1) % 16) := hH1
      rw [show min 16 (k + 1) = k + 1 by omega] at hH1
      refine lv_if_lt (tgt := 175) hx hb (dg D_L_law (i := 86) rfl) (by decide) (fun h => absurd h hn0) (fun _ => ?_)
      refine n_iconst (a := 1) hx hb (dg D_L_law (i := 87) rfl) rfl ?_
      refine lv_goto (tgt := 176) hx hb (dg D_L_law (i := 88) rfl) (by decide) ?_
      rw [hz0] at hl
      refine lv_iload hx hb (dg D_L_law (i := 90) rfl) (lv_at hl 0 rfl) ?_
      refine n_if_ne (tgt := 185) hx hb (by omega) (dg D_L_law (i := 91) rfl) (by decide) (fun h => absurd rfl h) (fun _ => ?_)
      refine n_iconst (a := 1) hx hb (dg D_L_law (i := 92) rfl) rfl ?_
      refine lv_goto (tgt := 186) hx hb (dg D_L_law (i := 93) rfl) (by decide) ?_
      refine n_icmp_eq (tgt := 191) hx hb (by omega) (by omega) (dg D_L_law (i := 95) rfl) (by decide) (fun _ => ?_) (fun h => absurd rfl h)
      refine lv_iload hx hb (dg D_L_law (i := 98) rfl) (lv_at hl 0 rfl) ?_
      refine n_if_ne (tgt := 208) hx hb (by omega) (dg D_L_law (i := 99) rfl) (by decide) (fun h => absurd rfl h) (fun _ => ?_)
      refine lv_aload_n hx hb (dg D_L_law (i := 100) rfl) rfl (lv_at hl 7 rfl) ?_
      refine rL_get (v := .ref (ad bs 77)) X hW FI_L_39 rfl (dg D_L_law (i := 101) rfl) ?_
      refine lv_iload hx hb (dg D_L_law (i := 102) rfl) (lv_at hl 2 rfl) ?_
      refine rL_aald (j := x) X hW rfl (by omega) (dg D_L_law (i := 103) rfl) ?_
      refine lv_iload hx hb (dg D_L_law (i := 104) rfl) (lv_at hl 3 rfl) ?_
      refine lv_iload hx hb (dg D_L_law (i := 105) rfl) (lv_at hl 1 rfl) ?_
      refine gL_ast (j := y) (v := nI g) X hA hW hT hS (shBy (by omega)) ⟨by omega, by show _ < 83; omega⟩ rfl (by omega) (by decide) (dg D_L_law (i := 106) rfl) (fun H locs hW hT hS => ?_)
      have hw1 : LwAt (u2 K5 (78 + x) y (nI g)) (setP σ x y (nI g)) := LwAt.put hi hw5 (by omega) (by omega)
      have hat6 : u2 K5 (78 + x) y (nI g) 67 1 = nI (a0 + 3 * (n + 1)) := by rw [u2_ne (by omega)]; exact hat5
      have hlo : ∀ a j, a < 67 → u2 K5 (78 + x) y (nI g) a j = K5 a j := fun a j h => by rw [u2_ne (by omega)]
      have hB1 := hB1.kp hβ hlo
      have hP1 := hP1.kp hq hlo
      have hH1 := hH1.kp hlo
      generalize u2 K5 (78 + x) y (nI g) = K6 at hW hw1 hat6 hB1 hP1 hH1
      refine lv_iload_n hx hb (dg D_L_law (i := 107) rfl) rfl (lv_at hl 5 rfl) ?_
      refine lv_iload hx hb (dg D_L_law (i := 108) rfl) (lv_at hl 0 rfl) ?_
      refine n_if_ne (tgt := 218) hx hb (by omega) (dg D_L_law (i := 109) rfl) (by decide) (fun h => absurd rfl h) (fun _ => ?_)
      refine n_iconst (a := 1) hx hb (dg D_L_law (i := 110) rfl) rfl ?_
      refine lv_goto (tgt := 219) hx hb (dg D_L_law (i := 111) rfl) (by decide) ?_
      refine n_iadd hx hb (dg D_L_law (i := 113) rfl) ?_
      refine lv_istore_n (lv' := [(3, .int (nI (k + 1))), (8, .int (nI 0)), (7, .int (nI g)), (6, .int (nI x)), (5, .int (nI y)), (4, .int (nI n)), (2, .ref (bs + 0)), (1, .ref (ad bs 67)), (0, .ref b)]) hx hb (dg D_L_law (i := 114) rfl) rfl hl (by decide) rfl (fun ls hl => ?_)
      refine lv_aload_n hx hb (dg D_L_law (i := 115) rfl) rfl (lv_at hl 6 rfl) ?_
      refine kC_i X hA hW hT hS hR (k := 0) (c_X11_paintings (setP σ x y (nI g)) β q hl0 hi1 hd1 hβ hB1 hq hP1 hRb hR7 hR8) (by decide) (by decide) UVX11_paintings LK_L_149 rfl (by decide) rfl rfl rfl (Nat.le_of_ble_eq_true rfl) hl ⟨by omega, by omega⟩ (dg D_L_law (i := 116) rfl) (fun r I9 L9 R9 H locs hq hW hT hS => ?_)
      obtain ⟨hr, rfl, rfl, rfl⟩ := hq
      rw [pc_sum hd1 hi1, hk1] at hr
      subst hr
      refine lv_iload_n hx hb (dg D_L_law (i := 117) rfl) rfl (lv_at hl 0 rfl) ?_
      refine n_icmp_ne (tgt := 237) hx hb (by omega) (by omega) (dg D_L_law (i := 118) rfl) (by decide) (fun h => absurd rfl h) (fun _ => ?_)
      refine lv_aload_n hx hb (dg D_L_law (i := 119) rfl) rfl (lv_at hl 7 rfl) ?_
      refine lv_aload_n hx hb (dg D_L_law (i := 120) rfl) rfl (lv_at hl 6 rfl) ?_
      refine kO_i X hA hW hT hS hR (c_L_isSame (setP σ x y (nI g)) β q hi1 hd1 hβ hB1 hq hP1 hRb hR7 hR8 hw1 hLb1) (by decide) (by decide) UVL_isSame LK_L_168 rfl rfl (Nat.le_of_ble_eq_true rfl) hl ⟨by omega, by omega⟩ (dg D_L_law (i := 121) rfl) (fun r K7 L9 R9 H locs hq hW hT hS => ?_)
      obtain ⟨hr, hF, rfl, rfl⟩ := hq
      subst hr
      refine z_if_ne (tgt := 239) hx hb (dg D_L_law (i := 122) rfl) (by decide) (fun _ => ?_) (fun h => absurd h (by decide))
      refine lv_iinc (v := nI (n + 1)) (lv' := [(4, .int (nI (n + 1))), (3, .int (nI (k + 1))), (8, .int (nI 0)), (7, .int (nI g)), (6, .int (nI x)), (5, .int (nI y)), (2, .ref (bs + 0)), (1, .ref (ad bs 67)), (0, .ref b)]) hx hb (dg D_L_law (i := 125) rfl) hl (k := 5) rfl (nI_add n 1) (by decide) rfl (fun ls hl => ?_)
      refine lv_goto (tgt := 94) hx hb (dg D_L_law (i := 126) rfl) (by decide) ?_
      refine W.widen (k := c0 + (n + 1)) (n := s0 + 4 * (n + 1)) (by omega) (by omega) ?_
      exact ih (by omega) ((setP σ x y (nI g))) (k + 1) (pushU σ U) _ K7 H locs ls hi1 hd1 hLb1 (hw1.fr hF) (hB1.kp hβ (fun a j h => hF a j (SLf_no (by omega)))) (hP1.kp hq (fun a j h => hF a j (SLf_no (by omega)))) (hH1.kp (fun a j h => hF a j (SLf_no (by omega)))) hU1 hk1 (by omega) hS91 hG91 ((hF 67 1 rfl).trans hat6) hW hT hS (lv_sub hl [0, 1, 6, 7, 8] rfl)
    · have hn0 := paR_ko hi hx9 hy9 hg9 hz
      rw [hr] at hn0
      rw [paO_ko hi hx9 hy9 hg9 hz] at hE
      have hi1 := hi
      have hd1 := hd
      have hLb1 := hLb
      have hk1 := hk
      have hU1 := hU
      have hS91 := hS1
      have hG91 := hG1
      obtain ⟨hB1, hP1, hH1⟩ := hE
      have hB1 : BrAt K5 β σ := hB1
      have hP1 : PlAt K5 q σ := hP1
      have hH1 : HisN K5 k U nw := hH1
      have hw1 := hw5
      have hat6 := hat5
      refine lv_if_lt (tgt := 175) hx hb (dg D_L_law (i := 86) rfl) (by decide) (fun _ => ?_) (fun h => absurd hn0 h)
      refine n_iconst (a := 0) hx hb (dg D_L_law (i := 89) rfl) rfl ?_
      refine lv_iload hx hb (dg D_L_law (i := 90) rfl) (lv_at hl 0 rfl) ?_
      refine lv_if_ne (tgt := 185) hx hb (dg D_L_law (i := 91) rfl) (by decide) (fun _ => ?_) (fun h => absurd h hz)
      refine n_iconst (a := 0) hx hb (dg D_L_law (i := 94) rfl) rfl ?_
      refine n_icmp_eq (tgt := 191) hx hb (by omega) (by omega) (dg D_L_law (i := 95) rfl) (by decide) (fun _ => ?_) (fun h => absurd rfl h)
      refine lv_iload hx hb (dg D_L_law (i := 98) rfl) (lv_at hl 0 rfl) ?_
      refine lv_if_ne (tgt := 208) hx hb (dg D_L_law (i := 99) rfl) (by decide) (fun _ => ?_) (fun h => absurd h hz)
      refine lv_iload_n hx hb (dg D_L_law (i := 107) rfl) rfl (lv_at hl 5 rfl) ?_
      refine lv_iload hx hb (dg D_L_law (i := 108) rfl) (lv_at hl 0 rfl) ?_
      refine lv_if_ne (tgt := 218) hx hb (dg D_L_law (i := 109) rfl) (by decide) (fun _ => ?_) (fun h => absurd h hz)
      refine n_iconst (a := 0) hx hb (dg D_L_law (i := 112) rfl) rfl ?_
      refine n_iadd hx hb (dg D_L_law (i := 113) rfl) ?_
      refine lv_istore_n (lv' := [(3, .int (nI (k + 0))), (8, .int (rfs σ y x g)), (7, .int (nI g)), (6, .int (nI x)), (5, .int (nI y)), (4, .int (nI n)), (2, .ref (bs + 0)), (1, .ref (ad bs 67)), (0, .ref b)]) hx hb (dg D_L_law (i := 114) rfl) rfl hl (by decide) rfl (fun ls hl => ?_)
      rw [Nat.add_zero] at hl
      refine lv_aload_n hx hb (dg D_L_law (i := 115) rfl) rfl (lv_at hl 6 rfl) ?_
      refine kC_i X hA hW hT hS hR (k := 0) (c_X11_paintings σ β q hl0 hi1 hd1 hβ hB1 hq hP1 hRb hR7 hR8) (by decide) (by decide) UVX11_paintings LK_L_149 rfl (by decide) rfl rfl rfl (Nat.le_of_ble_eq_true rfl) hl ⟨by omega, by omega⟩ (dg D_L_law (i := 116) rfl) (fun r I9 L9 R9 H locs hq hW hT hS => ?_)
      obtain ⟨hr, rfl, rfl, rfl⟩ := hq
      rw [pc_sum hd1 hi1, hk1] at hr
      subst hr
      refine lv_iload_n hx hb (dg D_L_law (i := 117) rfl) rfl (lv_at hl 0 rfl) ?_
      refine n_icmp_ne (tgt := 237) hx hb (by omega) (by omega) (dg D_L_law (i := 118) rfl) (by decide) (fun h => absurd rfl h) (fun _ => ?_)
      refine lv_aload_n hx hb (dg D_L_law (i := 119) rfl) rfl (lv_at hl 7 rfl) ?_
      refine lv_aload_n hx hb (dg D_L_law (i := 120) rfl) rfl (lv_at hl 6 rfl) ?_
      refine kO_i X hA hW hT hS hR (c_L_isSame σ β q hi1 hd1 hβ hB1 hq hP1 hRb hR7 hR8 hw1 hLb1) (by decide) (by decide) UVL_isSame LK_L_168 rfl rfl (Nat.le_of_ble_eq_true rfl) hl ⟨by omega, by omega⟩ (dg D_L_law (i := 121) rfl) (fun r K7 L9 R9 H locs hq hW hT hS => ?_)
      obtain ⟨hr, hF, rfl, rfl⟩ := hq
      subst hr
      refine z_if_ne (tgt := 239) hx hb (dg D_L_law (i := 122) rfl) (by decide) (fun _ => ?_) (fun h => absurd h (by decide))
      refine lv_iinc (v := nI (n + 1)) (lv' := [(4, .int (nI (n + 1))), (3, .int (nI k)), (8, .int (rfs σ y x g)), (7, .int (nI g)), (6, .int (nI x)), (5, .int (nI y)), (2, .ref (bs + 0)), (1, .ref (ad bs 67)), (0, .ref b)]) hx hb (dg D_L_law (i := 125) rfl) hl (k := 5) rfl (nI_add n 1) (by decide) rfl (fun ls hl => ?_)
      refine lv_goto (tgt := 94) hx hb (dg D_L_law (i := 126) rfl) (by decide) ?_
      refine W.widen (k := c0 + (n + 1)) (n := s0 + 4 * (n + 1)) (by omega) (by omega) ?_
      exact ih (by omega) (σ) (k) (U) _ K7 H locs ls hi1 hd1 hLb1 (hw1.fr hF) (hB1.kp hβ (fun a j h => hF a j (SLf_no (by omega)))) (hP1.kp hq (fun a j h => hF a j (SLf_no (by omega)))) (hH1.kp (fun a j h => hF a j (SLf_no (by omega)))) hU1 hk1 (by omega) hS91 hG91 ((hF 67 1 rfl).trans hat6) hW hT hS (lv_sub hl [0, 1, 6, 7, 8] rfl)
end LB3
