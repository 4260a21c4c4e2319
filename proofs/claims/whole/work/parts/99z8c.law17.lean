/-! what the law stands on at its start: all of it -/
set_option maxHeartbeats 400000 in
set_option maxRecDepth 100000 in
theorem law_X {p : Program} {s : State} {m : MethodId} {meth : Method} {c : Code} {b N : Nat} {xs : Nat → Int32} (hN : N ≤ 3072) (C0 : lw_At p s m meth c b N xs) : ∃ (G : va_G) (cy : Nat → ClassId), LX p s m #[Value.ref b] c G s.heap.size cy b N xs ∧ va_AOA .int s := by
  obtain ⟨hx, hb, hr, hml, hown, hts, hX, hbl, hlocks, hgv⟩ := C0
  have hf : ∀ w ∈ lwG, w.before #[Value.ref b] s = true := flat_of_before _ hgv
  have hA : ∀ a : Nat, a < s.heap.size → ¬ Aq s.heap.size a := fun a h => Nat.not_le.mpr h
  have htw : ∀ w ∈ wsL_law, w.before #[Value.ref b] s = true := fun w h => hts w (wsL_law_in w h)
  have hcl : ∀ k : Nat, ∃ q : ClassId × (Nat → Nat), ∀ r : vw_C, vwCl[k]? = some r → u_Kn s r.1 r.2.1 r.2.2 q.1 q.2 := by
    intro k
    match k with
    | 0 =>
      obtain ⟨cC, iS, h⟩ := u_known (C := RX0) (T := TX0) (N := 1) (n := 1) htw inlX0 (htw _ (inR_1 _ (List.mem_of_getElem? (i := 15) rfl)))
      exact ⟨(cC, iS), fun r hr => by cases hr; exact h⟩
    | 1 =>
      obtain ⟨cC, iS, h⟩ := u_known (C := RX1) (T := TX1) (N := 16) (n := 16) htw inlX1 (htw _ (inR_2 _ (List.mem_of_getElem? (i := 17) rfl)))
      exact ⟨(cC, iS), fun r hr => by cases hr; exact h⟩
    | 2 =>
      obtain ⟨cC, iS, h⟩ := u_known (C := RX2) (T := TX2) (N := 3) (n := 3) htw inlX2 (htw _ (inR_2 _ (List.mem_of_getElem? (i := 3) rfl)))
      exact ⟨(cC, iS), fun r hr => by cases hr; exact h⟩
    | 3 =>
      obtain ⟨cC, iS, h⟩ := u_known (C := RX3) (T := TX3) (N := 4) (n := 4) htw inlX3 (htw _ (inR_6 _ (List.mem_of_getElem? (i := 7) rfl)))
      exact ⟨(cC, iS), fun r hr => by cases hr; exact h⟩
    | 4 =>
      obtain ⟨cC, iS, h⟩ := u_known (C := RX4) (T := TX4) (N := 2) (n := 2) htw inlX4 (htw _ (inR_2 _ (List.mem_of_getElem? (i := 7) rfl)))
      exact ⟨(cC, iS), fun r hr => by cases hr; exact h⟩
    | 5 =>
      obtain ⟨cC, iS, h⟩ := u_known (C := RX5) (T := TX5) (N := 6) (n := 6) htw inlX5 (htw _ (inR_3 _ (List.mem_of_getElem? (i := 4) rfl)))
      exact ⟨(cC, iS), fun r hr => by cases hr; exact h⟩
    | 6 =>
      obtain ⟨cC, iS, h⟩ := u_known (C := RX6) (T := TX6) (N := 4) (n := 4) htw inlX6 (htw _ (inR_2 _ (List.mem_of_getElem? (i := 20) rfl)))
      exact ⟨(cC, iS), fun r hr => by cases hr; exact h⟩
    | 7 =>
      obtain ⟨cC, iS, h⟩ := u_known (C := RX7) (T := TX7) (N := 2) (n := 2) htw inlX7 (htw _ (inR_1 _ (List.mem_of_getElem? (i := 23) rfl)))
      exact ⟨(cC, iS), fun r hr => by cases hr; exact h⟩
    | 8 =>
      obtain ⟨cC, iS, h⟩ := u_known (C := RX8) (T := TX8) (N := 2) (n := 2) htw inlX8 (htw _ (inR_1 _ (List.mem_of_getElem? (i := 19) rfl)))
      exact ⟨(cC, iS), fun r hr => by cases hr; exact h⟩
    | 9 =>
      obtain ⟨cC, iS, h⟩ := u_known (C := RX9) (T := TX9) (N := 2) (n := 2) htw inlX9 (htw _ (inR_2 _ (List.mem_of_getElem? (i := 14) rfl)))
      exact ⟨(cC, iS), fun r hr => by cases hr; exact h⟩
    | 10 =>
      obtain ⟨cC, iS, h⟩ := u_known (C := RX10) (T := TX10) (N := 7) (n := 7) htw inlX10 (htw _ (inR_6 _ (List.mem_of_getElem? (i := 13) rfl)))
      exact ⟨(cC, iS), fun r hr => by cases hr; exact h⟩
    | 11 =>
      obtain ⟨cC, iS, h⟩ := u_known (C := RX11) (T := TX11) (N := 13) (n := 13) htw inlX11 (htw _ (inR_1 _ (List.mem_of_getElem? (i := 1) rfl)))
      exact ⟨(cC, iS), fun r hr => by cases hr; exact h⟩
    | 12 =>
      obtain ⟨cC, iS, h⟩ := u_known (C := RX12) (T := TX12) (N := 39) (n := 39) htw inlX12 (htw _ (inR_1 _ (List.mem_of_getElem? (i := 4) rfl)))
      exact ⟨(cC, iS), fun r hr => by cases hr; exact h⟩
    | k + 13 => exact ⟨(0, fun _ => 0), fun r hr => by simp [vwCl] at hr⟩
  obtain ⟨gg, hgg⟩ := Classical.axiomOfChoice hcl
  obtain ⟨ci, hi1, hi2⟩ := arr_of (htw _ AC_int) (fun C h => by cases h)
  obtain ⟨cb, hb1, hb2⟩ := arr_of (htw _ AC_byte) (fun C h => by cases h)
  obtain ⟨cl, hl1, hl2⟩ := arr_of (htw _ AC_long) (fun C h => by cases h)
  obtain ⟨cd, hd1, hd2⟩ := arr_of (htw _ AC_double) (fun C h => by cases h)
  have hov := hts _ st_in.2.2
  obtain ⟨comp, ca, kA, g1, g2, g3, g4⟩ := Cond.arrayOver_specA (t := .int) hov
  obtain ⟨adK, adV, hS1, hS2⟩ := vk_Sof (args := #[Value.ref b]) (s := s) (N := 1) (tm := fun _ => .string RX12 147) (len := [48]) (byt := [kwB]) (A := Aq s.heap.size)
    (fun i hi => by have e : i = 0 := by omega
                    subst e; decide) (fun i _ => hf _ kw_ex.1) (fun i _ => hf _ kw_ex.2.1) (fun i _ => hf _ kw_ex.2.2.1)
    (fun i hi => by have e : i = 0 := by omega
                    subst e; exact hf _ kw_ex.2.2.2.1)
    (fun i hi j hj => by have e : i = 0 := by omega
                         subst e; exact hf _ (kw_in j hj))
    (fun i j hi hj h => absurd (show i = j by omega) h) hA
  refine ⟨(fun k => (gg k).1, fun k => (gg k).2), fun k => match k with
    | 0 => ci
    | 1 => cb
    | 2 => cl
    | 3 => cd
    | 4 => ca
    | 10 => adK 0
    | 11 => adV 0
    | _ => 0, ⟨⟨hx, hb, hml, hown, htw, ⟨fun k r hr => hgg k r hr, ?_⟩, ?_⟩, hX, hbl, hbl, va_Nc.of (hf _ sg_in.2.2.2.2), hN⟩, va_AOA.of hov⟩
  · intro k q hq
    match k with
    | 0 => cases hq; exact ⟨hi1, hi2⟩
    | 1 => cases hq; exact ⟨hb1, hb2⟩
    | 2 => cases hq; exact ⟨hl1, hl2⟩
    | 3 => cases hq; exact ⟨hd1, hd2⟩
    | 4 => cases hq; exact ⟨fun n z => ⟨fun k h => (by cases h), kA, g2, comp, g3⟩, g4⟩
    | k + 5 => simp [tyL] at hq
  · refine ⟨⟨fun w hw => va_Nw.of (nest_ok w hw).1 (hts w (nest_in w hw)), fun q hq => ?_⟩, vx_Zqof (hts _ st_in.1.1) (hts _ st_in.2.1.1) (hf _ sg_in.1) hA, vx_Zqof (hts _ st_in.1.2.1) (hts _ st_in.2.1.1) (hf _ sg_in.2.1) hA, vk_R.of (hts _ kw_ex.2.2.2.2) (hS2 0 (by decide)), ?_, va_Zof (hts _ st_in.1.2.2.1) (hts _ st_in.2.1.2.1) (va_eqt (hf _ sg_in.2.2.1)) hA, va_Zqof (hts _ st_in.1.2.2.2) (hts _ st_in.2.1.2.2) (hf _ sg_in.2.2.2.1) hA⟩
    · obtain ⟨h1, h2⟩ := str_in q hq
      obtain ⟨a, c9, cA, kA, q1, -⟩ := Cond.exactly_spec (args := #[Value.ref b]) (first := s) (o := none) (s := s) (idx := []) (hf _ h2)
      exact ⟨a, vk_R.of (hts _ h1) q1⟩
    · refine ⟨fun i hi => ?_, fun i j hi hj _ => by omega⟩
      have e : i = 0 := by omega
      subst e
      exact hS1.1 0 (by decide)
