/-! what the law stands on at its start: all of it -/
theorem nI_rep (x : Int32) : nI x.toBitVec.toNat = x := by
  apply Int32.toBitVec_inj.mp
  show BitVec.ofNat 32 _ = _
  rw [BitVec.ofNat_toNat, BitVec.setWidth_eq]
theorem vk_S_cg {N : Nat} {len : List Nat} {byt : List (List Int32)} {adK adV adK' adV' : Nat → Nat} {A : Nat → Prop} {U : State} {H : Heap} (h : vk_S N len byt adK adV A U H) (h1 : ∀ i, i < N → adK' i = adK i) (h2 : ∀ i, i < N → adV' i = adV i) : vk_S N len byt adK' adV' A U H :=
  ⟨fun i hi => by rw [h1 i hi, h2 i hi]; exact h.1 i hi, fun i j hi hj e => h.2 i j hi hj (by rw [← h1 i hi, ← h1 j hj]; exact e)⟩
def cyF (ci cb cl cz ca : ClassId) (adK adV : Nat → Nat) (t1 t2 b N : Nat) (xs : Nat → Int32) (k : Nat) : ClassId :=
  if k < 20 then (if k = 0 then ci else if k = 1 then cb else if k = 2 then cl else if k = 3 then cz else ca) else if k < 40 then adK (k - 20) else if k < 60 then adV (k - 40) else if k = 60 then t1 else if k = 61 then t2 else if k = 70 then b else if k = 71 then N else (xs (k - 100)).toBitVec.toNat
set_option maxHeartbeats 400000 in
set_option maxRecDepth 100000 in
theorem law_X {p : Program} {s : State} {m : MethodId} {meth : Method} {c : Code} {b N : Nat} {xs : Nat → Int32} (hN : N ≤ 260) (C0 : lw_At p s m meth c b N xs) : ∃ (G : va_G) (cy : Nat → ClassId), Cx p s m #[Value.ref b] c cL_law 9 RL G (s.heap.size + 16) cy ∧ va_AOA .int s ∧ cy 70 = b ∧ cy 5 = cy 4 := by
  obtain ⟨hx, hb, hr, hml, hown, hts, hX, hbl, hlocks, hgv⟩ := C0
  have hf : ∀ w ∈ lwG, w.before #[Value.ref b] s = true := flat_of_before _ hgv
  have hA : ∀ a : Nat, a < s.heap.size → ¬ Ag (s.heap.size + 16) a := fun a h h2 => by have : s.heap.size + 16 ≤ a + 16 := h2; omega
  have ht2 := t2_ok hts
  have htw : ∀ w ∈ wsL_law, w.before #[Value.ref b] s = true := fun w h => ht2 w (wsL_law_in w h)
  have hcl : ∀ k : Nat, ∃ q : ClassId × (Nat → Nat), ∀ r : vw_C, vwCl[k]? = some r → u_Kn s r.1 r.2.1 r.2.2 q.1 q.2 := by
    intro k
    match k with
    | 0 =>
      obtain ⟨cC, iS, h⟩ := u_known (C := RX0) (T := TX0) (N := 1) (n := 1) htw inlX0 (htw _ (inR_2 _ (List.mem_of_getElem? (i := 9) rfl)))
      exact ⟨(cC, iS), fun r hr => by cases hr; exact h⟩
    | 1 =>
      obtain ⟨cC, iS, h⟩ := u_known (C := RX1) (T := TX1) (N := 16) (n := 16) htw inlX1 (htw _ (inR_3 _ (List.mem_of_getElem? (i := 11) rfl)))
      exact ⟨(cC, iS), fun r hr => by cases hr; exact h⟩
    | 2 =>
      obtain ⟨cC, iS, h⟩ := u_known (C := RX2) (T := TX2) (N := 3) (n := 3) htw inlX2 (htw _ (inR_2 _ (List.mem_of_getElem? (i := 21) rfl)))
      exact ⟨(cC, iS), fun r hr => by cases hr; exact h⟩
    | 3 =>
      obtain ⟨cC, iS, h⟩ := u_known (C := RX3) (T := TX3) (N := 4) (n := 4) htw inlX3 (htw _ (inR_7 _ (List.mem_of_getElem? (i := 0) rfl)))
      exact ⟨(cC, iS), fun r hr => by cases hr; exact h⟩
    | 4 =>
      obtain ⟨cC, iS, h⟩ := u_known (C := RX4) (T := TX4) (N := 2) (n := 2) htw inlX4 (htw _ (inR_3 _ (List.mem_of_getElem? (i := 1) rfl)))
      exact ⟨(cC, iS), fun r hr => by cases hr; exact h⟩
    | 5 =>
      obtain ⟨cC, iS, h⟩ := u_known (C := RX5) (T := TX5) (N := 6) (n := 6) htw inlX5 (htw _ (inR_3 _ (List.mem_of_getElem? (i := 22) rfl)))
      exact ⟨(cC, iS), fun r hr => by cases hr; exact h⟩
    | 6 =>
      obtain ⟨cC, iS, h⟩ := u_known (C := RX6) (T := TX6) (N := 4) (n := 4) htw inlX6 (htw _ (inR_3 _ (List.mem_of_getElem? (i := 14) rfl)))
      exact ⟨(cC, iS), fun r hr => by cases hr; exact h⟩
    | 7 =>
      obtain ⟨cC, iS, h⟩ := u_known (C := RX7) (T := TX7) (N := 2) (n := 2) htw inlX7 (htw _ (inR_2 _ (List.mem_of_getElem? (i := 17) rfl)))
      exact ⟨(cC, iS), fun r hr => by cases hr; exact h⟩
    | 8 =>
      obtain ⟨cC, iS, h⟩ := u_known (C := RX8) (T := TX8) (N := 2) (n := 2) htw inlX8 (htw _ (inR_2 _ (List.mem_of_getElem? (i := 13) rfl)))
      exact ⟨(cC, iS), fun r hr => by cases hr; exact h⟩
    | 9 =>
      obtain ⟨cC, iS, h⟩ := u_known (C := RX9) (T := TX9) (N := 2) (n := 2) htw inlX9 (htw _ (inR_3 _ (List.mem_of_getElem? (i := 8) rfl)))
      exact ⟨(cC, iS), fun r hr => by cases hr; exact h⟩
    | 10 =>
      obtain ⟨cC, iS, h⟩ := u_known (C := RX10) (T := TX10) (N := 7) (n := 7) htw inlX10 (htw _ (inR_7 _ (List.mem_of_getElem? (i := 6) rfl)))
      exact ⟨(cC, iS), fun r hr => by cases hr; exact h⟩
    | 11 =>
      obtain ⟨cC, iS, h⟩ := u_known (C := RX11) (T := TX11) (N := 13) (n := 13) htw inlX11 (htw _ (inR_1 _ (List.mem_of_getElem? (i := 5) rfl)))
      exact ⟨(cC, iS), fun r hr => by cases hr; exact h⟩
    | 12 =>
      obtain ⟨cC, iS, h⟩ := u_known (C := RL) (T := TL) (N := 18) (n := 18) htw inlL (htw _ (inR_1 _ (List.mem_of_getElem? (i := 1) rfl)))
      exact ⟨(cC, iS), fun r hr => by cases hr; exact h⟩
    | 13 =>
      obtain ⟨cC, iS, h⟩ := u_known (C := RJ0) (T := TJ0) (N := 4) (n := 4) htw inlJ0 (htw _ (inR_16 _ (List.mem_of_getElem? (i := 9) rfl)))
      exact ⟨(cC, iS), fun r hr => by cases hr; exact h⟩
    | 14 =>
      obtain ⟨cC, iS, h⟩ := u_known (C := RJ4) (T := TJ4) (N := 4) (n := 4) htw inlJ4 (htw _ (inR_8 _ (List.mem_of_getElem? (i := 7) rfl)))
      exact ⟨(cC, iS), fun r hr => by cases hr; exact h⟩
    | k + 15 => exact ⟨(0, fun _ => 0), fun r hr => by simp [vwCl] at hr⟩
  obtain ⟨gg, hgg⟩ := Classical.axiomOfChoice hcl
  obtain ⟨ci, hi1, hi2⟩ := arr_of (htw _ AC_int) (fun C h => by cases h)
  obtain ⟨cb, hb1, hb2⟩ := arr_of (htw _ AC_byte) (fun C h => by cases h)
  obtain ⟨cl, hl1, hl2⟩ := arr_of (htw _ AC_long) (fun C h => by cases h)
  obtain ⟨cz, hz1, hz2⟩ := arr_of (htw _ AC_boolean) (fun C h => by cases h)
  have hov := hts _ st_in.2.2
  obtain ⟨comp, ca, kA, g1, g2, g3, g4⟩ := Cond.arrayOver_specA (t := .int) hov
  obtain ⟨adK, adV, hS1, hS2⟩ := vk_Sof (args := #[Value.ref b]) (s := s) (N := 9) (tm := tmL) (len := litN) (byt := litB) (A := Ag (s.heap.size + 16))
    (fun i hi => (lit_in i hi).2.2.2.2.2) (fun i hi => hf _ (lit_in i hi).1) (fun i hi => hf _ (lit_in i hi).2.1) (fun i hi => hf _ (lit_in i hi).2.2.1) (fun i hi => hf _ (lit_in i hi).2.2.2.1)
    (fun i hi j hj => hf _ (lit_el i hi j hj)) (fun i j hi hj h => (lit_ne i hi j hj h).imp (hf _) (hf _)) hA
  obtain ⟨t1, ht1, hT1⟩ := va_Tof (args := #[Value.ref b]) (s := s) (tm := .static "java/lang/Integer" "DigitOnes" "[B") (ty := .byte) (N := 100) (f := fun j => .int (nI (48 + j % 10))) (A := Ag (s.heap.size + 16)) (by decide) (hf _ sd_in.1.1) (va_eqt (hf _ sd_in.1.2)) (fun j hj => va_eqt (hf _ (dgOnes j hj))) hA
  obtain ⟨t2, ht2e, hT2⟩ := va_Tof (args := #[Value.ref b]) (s := s) (tm := .static "java/lang/Integer" "DigitTens" "[B") (ty := .byte) (N := 100) (f := fun j => .int (nI (48 + j / 10))) (A := Ag (s.heap.size + 16)) (by decide) (hf _ sd_in.2.1) (va_eqt (hf _ sd_in.2.2)) (fun j hj => va_eqt (hf _ (dgTens j hj))) hA
  obtain ⟨scr, x1, x2, x3, x4, x5⟩ := hX
  have e20 : ∀ i, i < 9 → cyF ci cb cl cz ca adK adV t1 t2 b N xs (20 + i) = adK i := fun i hi => by
    unfold cyF
    rw [if_neg (by omega), if_pos (by omega), Nat.add_sub_cancel_left]
  have e40 : ∀ i, i < 9 → cyF ci cb cl cz ca adK adV t1 t2 b N xs (40 + i) = adV i := fun i hi => by
    unfold cyF
    rw [if_neg (by omega), if_neg (by omega), if_pos (by omega), Nat.add_sub_cancel_left]
  have e70 : cyF ci cb cl cz ca adK adV t1 t2 b N xs 70 = b := rfl
  have e71 : cyF ci cb cl cz ca adK adV t1 t2 b N xs 71 = N := rfl
  have e100 : ∀ j, nI (cyF ci cb cl cz ca adK adV t1 t2 b N xs (100 + j)) = xs j := fun j => by
    unfold cyF
    rw [if_neg (by omega), if_neg (by omega), if_neg (by omega), if_neg (by omega), if_neg (by omega), if_neg (by omega), if_neg (by omega), Nat.add_sub_cancel_left, nI_rep]
  refine ⟨(fun k => (gg k).1, fun k => (gg k).2), cyF ci cb cl cz ca adK adV t1 t2 b N xs, ⟨hx, hb, hml, hown, htw, ⟨fun k r hr => hgg k r hr, ?_⟩, ?_⟩, va_AOA.of hov, rfl, rfl⟩
  · intro k q hq
    match k with
    | 0 => cases hq; exact ⟨hi1, hi2⟩
    | 1 => cases hq; exact ⟨hb1, hb2⟩
    | 2 => cases hq; exact ⟨hl1, hl2⟩
    | 3 => cases hq; exact ⟨hz1, hz2⟩
    | 4 => cases hq; exact ⟨fun n z => ⟨fun k h => (by cases h), kA, g2, comp, g3⟩, g4⟩
    | 5 => cases hq; exact ⟨fun n z => ⟨fun k h => (by cases h), kA, g2, comp, g3⟩, g4⟩
    | k + 6 => simp [tyLs] at hq
  · refine ⟨⟨fun w hw => va_Nw.of (nest_ok w hw).1 (hts w (nest_in w hw)), fun q hq => ?_⟩, vx_Zqof (hts _ st_in.1.1) (hts _ st_in.2.1.1) (hf _ sg_in.1) hA, vx_Zqof (hts _ st_in.1.2.1) (hts _ st_in.2.1.1) (hf _ sg_in.2.1) hA, by omega, fun i hi => ?_, vk_S_cg hS1 e20 e40, va_Zof (hts _ st_in.1.2.2.1) (hts _ st_in.2.1.2.1) (va_eqt (hf _ sg_in.2.2.1)) hA, va_Zqof (hts _ st_in.1.2.2.2.1) (hts _ st_in.2.1.2.2.1) (hf _ sg_in.2.2.2) hA, va_Zof (hts _ st_in.1.2.2.2.2.1) (hts _ st_in.2.1.2.2.2) ht1 hA, va_Zof (hts _ st_in.1.2.2.2.2.2) (hts _ st_in.2.1.2.2.2) ht2e hA, hT1, hT2, ⟨scr, x1, x2, x3, ?_, ?_, fun j hj => ?_, hA b hbl⟩, ?_⟩
    · obtain ⟨h1, h2⟩ := str_in q hq
      obtain ⟨a, c9, cA, kA, q1, -⟩ := Cond.exactly_spec (args := #[Value.ref b]) (first := s) (o := none) (s := s) (idx := []) (hf _ h2)
      exact ⟨a, vk_R.of (hts _ h1) q1⟩
    · rw [e20 i hi]
      exact vk_R.of (hts _ (lit_in i hi).2.2.2.2.1) (hS2 i hi)
    · rw [e71]; omega
    · rw [e71, x4]
    · rw [e71] at hj
      exact (x5 j hj).trans (congrArg (fun z => some (Value.int z)) (e100 j).symm)
    · rw [e71]; exact Nat.lt_of_le_of_lt hN (by decide)
