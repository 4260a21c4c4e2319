/-! the two sides of the other methods -/
theorem MTi.lv {l : Launch} {G : va_G} {bs : Nat} {cy : Nat → ClassId} {μ : MI} {n n' : Nat} {av : List Value} {I : CI} {L : CL} {R : CR} {Q : Int32 → CI → CL → CR → Prop} (h : MTi l G bs cy μ n av I L R Q) (hn : n ≤ n') : MTi l G bs cy μ n' av I L R Q := by
  intro p e ha hcs hk s m args below hfr happ hP hK
  obtain ⟨a1, a2, a3, a4, a5, a6, a7, a8⟩ := (Spec.appliesLoose_iff hfr).mp happ
  exact h p e ha hcs hk s m args below hfr ((Spec.appliesLoose_iff hfr).mpr ⟨a1, a2, a3, a4, a5, a6, hasRoom_sub (r := rmL n 0 0) (r' := rmL n' 0 0) hn (Nat.mul_le_mul_left 60 hn) (Nat.le_refl _) (Nat.le_refl _) a7, a8⟩) hP hK
section S14
variable {I I1 I2 : CI} {R R1 R2 : CR} {σ σ' : Row} {k k' n n' : Nat} {b b' : Nat → Int32} {U U' : Nat → Row} {o o' : Out} {β q γ u nw nw' : Nat} {S : Nat → Nat → Bool}
theorem CSt.go (h : CSt I R σ k n b U o β q γ u nw) (hF : Fr S I I1) (h0 : S 0 11 = false) (h1 : S 0 12 = false) (h2 : S 67 9 = false) (h3 : S 67 10 = false) (hR : RKp R R1 q) (hB : BrAt I1 β σ') (hP : PlAt I1 q σ') (hH : HisN I1 k' U' nw') (hT : TxAt I1 n' b') (hO : OuAt I1 o') : CSt I1 R1 σ' k' n' b' U' o' β q γ u nw' := by
  obtain ⟨a1, a2, a3, a4, a5, a6, a7, a8, a9, a10, a11, a12, a13, a14, a15, a16, a17, a18⟩ := h
  obtain ⟨r1, r2, r3, r4, r5⟩ := hR
  exact ⟨a1, a2, a3, a4, a5, a6, r1.trans a7, r2.trans a8, r3.trans a9, r4.trans a10, r5.trans a11, hB, hP, hH, hT, hO, by rw [hF _ _ h0, hF _ _ h2]; exact a17, by rw [hF _ _ h1, hF _ _ h3]; exact a18⟩
theorem SPu_no (hq : isPl q) {a j : Nat} (h : a < 53 ∨ 61 ≤ a) : SPu q a j = false := by
  unfold SPu; simp only [Bool.or_eq_false_iff, beq_eq_false_iff_ne]; rcases hq with rfl | rfl <;> omega
theorem CSt.pu (h : CSt I R σ k n b U o β q γ u nw) (hF : Fr (SPu q) I I1) (hP : PlAt I1 q σ) : CSt I1 R σ k n b U o β q γ u nw := by
  obtain ⟨a1, a2, a3, a4, a5, a6, a7, a8, a9, a10, a11, a12, a13, a14, a15, a16, a17, a18⟩ := id h
  exact h.go hF (SPu_no a2 (by omega)) (SPu_no a2 (by omega)) (SPu_no a2 (by omega)) (SPu_no a2 (by omega)) RKp.rf (a12.fr hF (fun a j h1 h2 => SPu_no a2 (by rcases a1 with rfl | rfl <;> omega))) hP (a14.frI hF (fun a j h1 h2 => SPu_no a2 (by omega))) (a15.frI hF (fun a j h1 h2 => SPu_no a2 (by omega))) (a16.frI hF (fun a j h1 h2 => SPu_no a2 (by omega)))
end S14
set_option maxHeartbeats 400000 in
set_option maxRecDepth 100000 in
theorem st_bestPainting {l : Launch} {G : va_G} {bs : Nat} {cy : Nat → ClassId} {I : CI} {L : CL} {R : CR} (hl0 : l.stackTraces = false) (hL : LSt I R) (v1 : Int32) : StB l G bs cy I L R ML_bestPainting [(0, 9, 12, 19)] 8 1 6 [.int v1] MX12_bestPainting 7 := by
  obtain ⟨σ, k, n, b, U, o, β, q, γ, u, nw, hM, hC, hU⟩ := hL
  obtain ⟨m1, m2, m3, m4, m5, m6, m7, m8, m9, m10, m11, m12, m13⟩ := id hM
  obtain ⟨c1, c2, c3, c4, c5, c6, c7, c8, c9, c10, c11, c12, c13, c14, c15, c16, c17, c18⟩ := id hC
  refine ⟨_, WTn.up (w_bestPainting v1 (c_X11_bestPainting σ β q v1 hl0 m2 m3 c1 c12 c2 c13 c11 c7 c8) (fun E h => h.1)), fun r1 I1 L1 R1 h1 => ?_⟩
  rcases h1 with ⟨rfl, w1, L', ⟨⟨hc, hv⟩, e1, e2, rfl, rfl⟩, rfl⟩ | ⟨q9, hq9, rfl, hpx, rfl, rfl, rfl⟩
  · have hM1 := hM.cl e1 (fun a j h => SPu_no c2 (by omega))
    have hC1 := hC.pu e1 e2
    refine ⟨_, c_X12_bestPainting σ v1 hM1.1 m2, fun r2 I2 L2 R2 h2 => ?_⟩
    obtain ⟨f0, f1, f2, f3, rfl, f5⟩ := h2
    exact ⟨by rw [f2, hc]; rfl, fun _ => by rw [f0 hc, ← hv]; exact u2L_at9, q_end hM1 hC1 hU f1 f3 OKM_SQ f5⟩
  · refine ⟨_, c_X12_bestPainting σ v1 hM.1 m2, fun r2 I2 L2 R2 h2 => ?_⟩
    obtain ⟨f0, f1, f2, f3, rfl, f5⟩ := h2
    rw [List.mem_singleton.mp hq9] at hpx ⊢
    exact ⟨by rw [f2, hpx.2]; rfl, fun h => absurd h (by decide), q_end hM hC hU f1 f3 OKM_SQ f5⟩
set_option maxHeartbeats 400000 in
set_option maxRecDepth 100000 in
theorem st_needlessPaintings {l : Launch} {G : va_G} {bs : Nat} {cy : Nat → ClassId} {I : CI} {L : CL} {R : CR} (hl0 : l.stackTraces = false) (hL : LSt I R) (v1 : Int32) : StB l G bs cy I L R ML_needlessPaintings [(0, 9, 12, 19)] 8 1 6 [.int v1] MX12_needlessPaintings 6 := by
  obtain ⟨σ, k, n, b, U, o, β, q, γ, u, nw, hM, hC, hU⟩ := hL
  obtain ⟨m1, m2, m3, m4, m5, m6, m7, m8, m9, m10, m11, m12, m13⟩ := id hM
  obtain ⟨c1, c2, c3, c4, c5, c6, c7, c8, c9, c10, c11, c12, c13, c14, c15, c16, c17, c18⟩ := id hC
  refine ⟨_, WTn.up (w_needlessPaintings v1 (c_X11_needlessPaintings σ β q v1 hl0 m2 m3 c1 c12 c2 c13 c11 c7 c8) (fun E h => h.1)), fun r1 I1 L1 R1 h1 => ?_⟩
  rcases h1 with ⟨rfl, w1, L', ⟨⟨hc, hv⟩, e1, e2, rfl, rfl⟩, rfl⟩ | ⟨q9, hq9, rfl, hpx, rfl, rfl, rfl⟩
  · have hM1 := hM.cl e1 (fun a j h => SPu_no c2 (by omega))
    have hC1 := hC.pu e1 e2
    refine ⟨_, c_X12_needlessPaintings σ v1 hM1.1 m2, fun r2 I2 L2 R2 h2 => ?_⟩
    obtain ⟨f0, f1, f2, f3, rfl, f5⟩ := h2
    exact ⟨by rw [f2, hc]; rfl, fun _ => by rw [f0 hc, ← hv]; exact u2L_at9, q_end hM1 hC1 hU f1 f3 OKM_SQ f5⟩
  · refine ⟨_, c_X12_needlessPaintings σ v1 hM.1 m2, fun r2 I2 L2 R2 h2 => ?_⟩
    obtain ⟨f0, f1, f2, f3, rfl, f5⟩ := h2
    rw [List.mem_singleton.mp hq9] at hpx ⊢
    exact ⟨by rw [f2, hpx.2]; rfl, fun h => absurd h (by decide), q_end hM hC hU f1 f3 OKM_SQ f5⟩
set_option maxHeartbeats 400000 in
set_option maxRecDepth 100000 in
theorem st_outputByte {l : Launch} {G : va_G} {bs : Nat} {cy : Nat → ClassId} {I : CI} {L : CL} {R : CR} (hl0 : l.stackTraces = false) (hL : LSt I R) (v1 : Int32) : StB l G bs cy I L R ML_outputByte [(0, 9, 12, 19)] 7 1 6 [.int v1] MX12_outputByte 2 := by
  obtain ⟨σ, k, n, b, U, o, β, q, γ, u, nw, hM, hC, hU⟩ := hL
  obtain ⟨m1, m2, m3, m4, m5, m6, m7, m8, m9, m10, m11, m12, m13⟩ := id hM
  obtain ⟨c1, c2, c3, c4, c5, c6, c7, c8, c9, c10, c11, c12, c13, c14, c15, c16, c17, c18⟩ := id hC
  refine ⟨_, WTn.up (w_outputByte v1 (c_X11_outputByte o v1 hl0 c16 m13) (fun E h => h.1)), fun r1 I1 L1 R1 h1 => ?_⟩
  rcases h1 with ⟨rfl, w1, L', ⟨⟨hc, hv⟩, rfl, rfl, rfl⟩, rfl⟩ | ⟨q9, hq9, rfl, hpx, rfl, rfl, rfl⟩
  · refine ⟨_, c_X12_outputByte v1 o hM.2.2.2.2.2.2.2.2.2.2.1 hM.2.2.2.2.2.2.2.2.2.2.2.1 m13, fun r2 I2 L2 R2 h2 => ?_⟩
    obtain ⟨f0, f1, f2, rfl, f4⟩ := h2
    exact ⟨by rw [f2, hc]; rfl, fun _ => by rw [f0 hc, ← hv]; exact u2L_at9, q_end hM hC hU f1 (ST_68 f1 hM.1) OKM_ST f4⟩
  · refine ⟨_, c_X12_outputByte v1 o hM.2.2.2.2.2.2.2.2.2.2.1 hM.2.2.2.2.2.2.2.2.2.2.2.1 m13, fun r2 I2 L2 R2 h2 => ?_⟩
    obtain ⟨f0, f1, f2, rfl, f4⟩ := h2
    rw [List.mem_singleton.mp hq9] at hpx ⊢
    exact ⟨by rw [f2, hpx.2]; rfl, fun h => absurd h (by decide), q_end hM hC hU f1 (ST_68 f1 m1) OKM_ST f4⟩
set_option maxHeartbeats 400000 in
set_option maxRecDepth 100000 in
theorem st_autoPastWithout {l : Launch} {G : va_G} {bs : Nat} {cy : Nat → ClassId} {I : CI} {L : CL} {R : CR} (hl0 : l.stackTraces = false) (hL : LSt I R) (v1 : Int32) : StB l G bs cy I L R ML_autoPastWithout [(0, 9, 12, 19)] 8 1 6 [.int v1] MX12_autoPastWithout 7 := by
  obtain ⟨σ, k, n, b, U, o, β, q, γ, u, nw, hM, hC, hU⟩ := hL
  obtain ⟨m1, m2, m3, m4, m5, m6, m7, m8, m9, m10, m11, m12, m13⟩ := id hM
  obtain ⟨c1, c2, c3, c4, c5, c6, c7, c8, c9, c10, c11, c12, c13, c14, c15, c16, c17, c18⟩ := id hC
  refine ⟨_, WTn.up (w_autoPastWithout v1 (c_X11_autoPastWithout σ β q u v1 hl0 m2 m3 c1 c12 c2 c13 c11 c7 c8 c4 c10 c6) (fun E h => h.1)), fun r1 I1 L1 R1 h1 => ?_⟩
  rcases h1 with ⟨rfl, w1, L', ⟨⟨hc, hv⟩, e0, rfl, e2⟩, rfl⟩ | ⟨q9, hq9, rfl, hpx, rfl, rfl, rfl⟩
  · have hg9 := (tN_lt hc (cn3 m2).2.2.1).2
    have hw9 : wiG (tN v1) = nI 31 ^^^ nI 1 <<< (v1 &&& 31) := by unfold wiG; rw [← hg9]
    have hM1 := hM.cl e0 (OK_SAp (β := β) (q := q) c4).1
    have hC1 := hC.fr e0 ((OK_SAp (β := β) (q := q) c4).2 c1 c2 c6) (RKp.FR c4 c2 c6 e2)
    refine ⟨_, c_X12_autoPastWithout σ v1 hM1.1 m2 m3, fun r2 I2 L2 R2 h2 => ?_⟩
    obtain ⟨f0, f1, f2, f3, rfl, f5⟩ := h2
    exact ⟨by rw [f2, hc]; rfl, fun _ => by rw [f0 hc, ← hw9, ← hv]; exact u2L_at9, q_end hM1 hC1 hU f1 f3 OKM_SAP f5⟩
  · refine ⟨_, c_X12_autoPastWithout σ v1 hM.1 m2 m3, fun r2 I2 L2 R2 h2 => ?_⟩
    obtain ⟨f0, f1, f2, f3, rfl, f5⟩ := h2
    rw [List.mem_singleton.mp hq9] at hpx ⊢
    exact ⟨by rw [f2, hpx.2]; rfl, fun h => absurd h (by decide), q_end hM hC hU f1 f3 OKM_SAP f5⟩
set_option maxHeartbeats 400000 in
set_option maxRecDepth 100000 in
theorem st_errorKind {l : Launch} {G : va_G} {bs : Nat} {cy : Nat → ClassId} {I : CI} {L : CL} {R : CR} (hl0 : l.stackTraces = false) (hL : LSt I R) : StA l G bs cy I L R MX11_errorKind 1 [] MX12_errorKind 1 := by
  obtain ⟨σ, k, n, b, U, o, β, q, γ, u, nw, hM, hC, hU⟩ := hL
  obtain ⟨m1, m2, m3, m4, m5, m6, m7, m8, m9, m10, m11, m12, m13⟩ := id hM
  obtain ⟨c1, c2, c3, c4, c5, c6, c7, c8, c9, c10, c11, c12, c13, c14, c15, c16, c17, c18⟩ := id hC
  refine ⟨_, c_X11_errorKind (I 0 11) rfl, fun r1 I1 L1 R1 h1 => ?_⟩
  obtain ⟨e9, rfl, rfl, rfl⟩ := h1
  refine ⟨_, c_X12_errorKind (I 67 9) rfl, fun r2 I2 L2 R2 h2 => ?_⟩
  obtain ⟨f0, f1, f2, rfl, f4⟩ := h2
  exact ⟨e9.symm.trans (c17.trans f0), q_end hM hC hU f1 (ST_68 f1 m1) OKM_ST f4⟩
set_option maxHeartbeats 400000 in
set_option maxRecDepth 100000 in
theorem st_errorPosition {l : Launch} {G : va_G} {bs : Nat} {cy : Nat → ClassId} {I : CI} {L : CL} {R : CR} (hl0 : l.stackTraces = false) (hL : LSt I R) : StA l G bs cy I L R MX11_errorPosition 1 [] MX12_errorPosition 1 := by
  obtain ⟨σ, k, n, b, U, o, β, q, γ, u, nw, hM, hC, hU⟩ := hL
  obtain ⟨m1, m2, m3, m4, m5, m6, m7, m8, m9, m10, m11, m12, m13⟩ := id hM
  obtain ⟨c1, c2, c3, c4, c5, c6, c7, c8, c9, c10, c11, c12, c13, c14, c15, c16, c17, c18⟩ := id hC
  refine ⟨_, c_X11_errorPosition (I 0 12) rfl, fun r1 I1 L1 R1 h1 => ?_⟩
  obtain ⟨e9, rfl, rfl, rfl⟩ := h1
  refine ⟨_, c_X12_errorPosition (I 67 10) rfl, fun r2 I2 L2 R2 h2 => ?_⟩
  obtain ⟨f0, f1, f2, rfl, f4⟩ := h2
  exact ⟨e9.symm.trans (c18.trans f0), q_end hM hC hU f1 (ST_68 f1 m1) OKM_ST f4⟩
set_option maxHeartbeats 400000 in
set_option maxRecDepth 100000 in
theorem st_write {l : Launch} {G : va_G} {bs : Nat} {cy : Nat → ClassId} {I : CI} {L : CL} {R : CR} (hl0 : l.stackTraces = false) (hL : LSt I R) : StA l G bs cy I L R MX11_write 3 [] MX12_write 3 := by
  obtain ⟨σ, k, n, b, U, o, β, q, γ, u, nw, hM, hC, hU⟩ := hL
  obtain ⟨m1, m2, m3, m4, m5, m6, m7, m8, m9, m10, m11, m12, m13⟩ := id hM
  obtain ⟨c1, c2, c3, c4, c5, c6, c7, c8, c9, c10, c11, c12, c13, c14, c15, c16, c17, c18⟩ := id hC
  refine ⟨_, c_X11_write σ β q o.1 m2 m3 c1 c12 c2 c13 c11 c7 c8, fun r1 I1 L1 R1 h1 => ?_⟩
  obtain ⟨e0, e1, e2, rfl, rfl⟩ := h1
  have hl : ∀ a j, a < 27 ∨ 28 < a → SOu a j = false := fun a j h => by unfold SOu; simp only [Bool.or_eq_false_iff, Bool.and_eq_false_iff, beq_eq_false_iff_ne]; omega
  have hM1 := hM.cl e1 (fun a j h => hl a j (by omega))
  have hC1 : CSt I1 R σ k n b U (wrO σ o.1) β q γ u nw := hC.go e1 (hl _ _ (by omega)) (hl _ _ (by omega)) (hl _ _ (by omega)) (hl _ _ (by omega)) RKp.rf (c12.fr e1 (fun a j h1 h2 => hl a j (by rcases c1 with rfl | rfl <;> omega))) (c13.fr e1 (fun a j h1 h2 => hl a j (by rcases c2 with rfl | rfl <;> omega))) (c14.frI e1 (fun a j h1 h2 => hl a j (by omega))) (c15.frI e1 (fun a j h1 h2 => hl a j (by omega))) e2
  refine ⟨_, c_X12_write σ hM1.1 m2 m3, fun r2 I2 L2 R2 h2 => ?_⟩
  obtain ⟨f0, f1, f2, f3, f4, rfl, f6⟩ := h2
  have h85 : I1 85 = o.1 := hM1.2.2.2.2.2.2.2.2.2.2.2.1
  rw [h85] at f0 f3 f4
  have hk : ∀ a j, a ≠ 85 → (a = 67 → j ≠ 38 ∧ j ≠ 6) → SW a j = false := fun a j h h2 => by unfold SW; simp only [Bool.or_eq_false_iff, Bool.and_eq_false_iff, beq_eq_false_iff_ne]; omega
  obtain ⟨n1, n2, n3, n4, n5, n6, n7, n8, n9, n10, n11, n12, n13⟩ := hM1
  refine ⟨e0.symm.trans f0, σ, k, n, b, U, wrO σ o.1, β, q, γ, u, nw, ⟨?_, n2, n3, ?_, n5, n6.row (f1.row (fun j => hk _ j (by omega) (by omega))), ?_, n8, ?_, n10, f3, f4, wrO_le m2 m3⟩, hC1.fr f1 (fun a j h => hk a j (by rcases c1 with rfl | rfl <;> rcases c2 with rfl | rfl <;> omega) (by rcases c1 with rfl | rfl <;> rcases c2 with rfl | rfl <;> omega)) (RKp.eq f6), hU⟩
  · rw [f1.row (fun j => hk _ j (by omega) (by omega))]; exact n1
  · rw [f1 _ _ (hk _ _ (by omega) (by omega))]; exact n4
  · rw [f1 _ _ (hk _ _ (by omega) (by omega))]; exact n7
  · rw [f1.row (fun j => hk _ j (by omega) (by omega))]; exact n9
set_option maxHeartbeats 400000 in
set_option maxRecDepth 100000 in
theorem st_feed {l : Launch} {G : va_G} {bs : Nat} {cy : Nat → ClassId} {I : CI} {L : CL} {R : CR} (hl0 : l.stackTraces = false) (hL : LSt I R) (v1 v2 v3 v4 v5 : Int32) : StA l G bs cy I L R MX11_feed 2 [.int v1, .int v2, .int v3, .int v4, .int v5] MX12_feed 2 := by
  obtain ⟨σ, k, n, b, U, o, β, q, γ, u, nw, hM, hC, hU⟩ := hL
  obtain ⟨m1, m2, m3, m4, m5, m6, m7, m8, m9, m10, m11, m12, m13⟩ := id hM
  obtain ⟨c1, c2, c3, c4, c5, c6, c7, c8, c9, c10, c11, c12, c13, c14, c15, c16, c17, c18⟩ := id hC
  refine ⟨_, c_X11_feed n b v1 v2 v3 v4 v5 c15 m8, fun r1 I1 L1 R1 h1 => ?_⟩
  obtain ⟨e0, e1, e2, rfl, rfl⟩ := h1
  have hl : ∀ a j, a < 29 ∨ 30 < a → STx a j = false := fun a j h => by unfold STx; simp only [Bool.or_eq_false_iff, Bool.and_eq_false_iff, beq_eq_false_iff_ne]; omega
  have hM1 := hM.cl e1 (fun a j h => hl a j (by omega))
  have hCg : ∀ n' b', TxAt I1 n' b' → CSt I1 R σ k n' b' U o β q γ u nw := fun n' b' hT => hC.go e1 (hl _ _ (by omega)) (hl _ _ (by omega)) (hl _ _ (by omega)) (hl _ _ (by omega)) RKp.rf (c12.fr e1 (fun a j h1 h2 => hl a j (by rcases c1 with rfl | rfl <;> omega))) (c13.fr e1 (fun a j h1 h2 => hl a j (by rcases c2 with rfl | rfl <;> omega))) (c14.frI e1 (fun a j h1 h2 => hl a j (by omega))) hT (c16.frI e1 (fun a j h1 h2 => hl a j (by omega)))
  obtain ⟨n1, n2, n3, n4, n5, n6, n7, n8, n9, n10, n11, n12, n13⟩ := hM1
  refine ⟨_, c_X12_feed n v1 v2 v3 v4 v5 n7 m8, fun r2 I2 L2 R2 h2 => ?_⟩
  obtain ⟨f0, f1, f2, f3, f4, rfl, f6⟩ := h2
  have hk : ∀ a j, a ≠ 73 → (a = 67 → j ≠ 8 ∧ j ≠ 6) → SFD a j = false := fun a j h h2 => by unfold SFD; simp only [Bool.or_eq_false_iff, Bool.and_eq_false_iff, beq_eq_false_iff_ne]; omega
  rw [n9] at f4
  have hst : ∀ n' b', n' ≤ 900 → TB b' n' → I2 67 8 = nI n' → I2 73 = b' → TxAt I1 n' b' → LSt I2 R2 := fun n' b' q1 q2 q3 q4 q5 => ⟨σ, k, n', b', U, o, β, q, γ, u, nw, ⟨by rw [f1.row (fun j => hk _ j (by omega) (by omega))]; exact n1, n2, n3, by rw [f1 _ _ (hk _ _ (by omega) (by omega))]; exact n4, n5, n6.row (f1.row (fun j => hk _ j (by omega) (by omega))), q3, q1, q4, q2, by rw [f1 _ _ (hk _ _ (by omega) (by omega))]; exact n11, by rw [f1.row (fun j => hk _ j (by omega) (by omega))]; exact n12, n13⟩, (hCg n' b' q5).fr f1 (fun a j h => hk a j (by rcases c1 with rfl | rfl <;> rcases c2 with rfl | rfl <;> omega) (by rcases c1 with rfl | rfl <;> rcases c2 with rfl | rfl <;> omega)) (RKp.eq f6), hU⟩
  refine ⟨e0.symm.trans f0, ?_⟩
  by_cases h9 : n + 20 ≤ 900
  · rw [if_pos h9] at e2 f3 f4
    exact hst _ _ h9 (TB_fdT n10) f3 f4 e2
  · rw [if_neg h9] at e2 f3 f4
    exact hst _ _ n8 n10 f3 f4 e2
set_option maxHeartbeats 400000 in
set_option maxRecDepth 100000 in
theorem st_undo {l : Launch} {G : va_G} {bs : Nat} {cy : Nat → ClassId} {I : CI} {L : CL} {R : CR} (hl0 : l.stackTraces = false) (hL : LSt I R) : StA l G bs cy I L R MX11_undo 6 [] MX12_undo 2 := by
  obtain ⟨σ, k, n, b, U, o, β, q, γ, u, nw, hM, hC, hU⟩ := hL
  obtain ⟨m1, m2, m3, m4, m5, m6, m7, m8, m9, m10, m11, m12, m13⟩ := id hM
  obtain ⟨c1, c2, c3, c4, c5, c6, c7, c8, c9, c10, c11, c12, c13, c14, c15, c16, c17, c18⟩ := id hC
  refine ⟨_, c_X11_undo σ β q k U nw m2 m3 c1 c12 c2 c13 c11 c7 c8 c14 (fun t ht => ⟨(hU t ht).1, (hU t ht).2.1⟩), fun r1 I1 L1 R1 h1 => ?_⟩
  obtain ⟨e0, e1, e2, rfl, rfl⟩ := h1
  have hl : ∀ a j, (67 ≤ a ∨ a = 0 ∨ (27 ≤ a ∧ a ≤ 30)) → STb β q a j = false := fun a j h => by
    unfold STb; simp only [Bool.or_eq_false_iff, beq_eq_false_iff_ne, decide_eq_false_iff_not]
    rcases c1 with rfl | rfl <;> rcases c2 with rfl | rfl <;> omega
  have hM1 := hM.cl e1 (fun a j h => hl a j (by omega))
  have hCg : ∀ σ' k' U' nw', BrAt I1 β σ' → PlAt I1 q σ' → HisN I1 k' U' nw' → CSt I1 R σ' k' n b U' o β q γ u nw' := fun σ' k' U' nw' g1 g2 g3 => hC.go e1 (hl _ _ (by omega)) (hl _ _ (by omega)) (hl _ _ (by omega)) (hl _ _ (by omega)) RKp.rf g1 g2 g3 (c15.frI e1 (fun a j h1 h2 => hl a j (by omega))) (c16.frI e1 (fun a j h1 h2 => hl a j (by omega)))
  obtain ⟨n1, n2, n3, n4, n5, n6, n7, n8, n9, n10, n11, n12, n13⟩ := hM1
  refine ⟨_, c_X12_undo σ k U n1 n6 n4, fun r2 I2 L2 R2 h2 => ?_⟩
  obtain ⟨f0, f1, f2, f3, f4, f5, rfl, f7⟩ := h2
  have hst : ∀ σ' U' nw', Inv σ' → DR σ' → I2 68 = σ' → HisM I2 (k - 1) U' → CSt I1 R σ' (k - 1) n b U' o β q γ u nw' → USt σ' (k - 1) U' → LSt I2 R2 := fun σ' U' nw' q1 q2 q3 q4 q5 q6 => ⟨σ', k - 1, n, b, U', o, β, q, γ, u, nw', ⟨q3, q1, q2, f5, by omega, q4, by rw [f1 _ _ (OKE_SU _ _ (by omega))]; exact n7, n8, by rw [f1.row (fun j => OKE_SU _ j (by omega))]; exact n9, n10, by rw [f1 _ _ (OKE_SU _ _ (by omega))]; exact n11, by rw [f1.row (fun j => OKE_SU _ j (by omega))]; exact n12, n13⟩, q5.fr f1 (OKE_SU.c c1 c2) (RKp.eq f7), q6⟩
  refine ⟨e0.symm.trans f0, ?_⟩
  by_cases hk : k = 0
  · subst hk
    rw [if_pos rfl] at e2 f3 f4
    exact hst σ U nw m2 m3 f3 f4 (hCg _ _ _ _ e2.1 e2.2.1 e2.2.2) hU
  · rw [if_neg hk] at e2 f3 f4
    obtain ⟨u1, u2, u3⟩ := hU 0 (by omega)
    have he : ∀ j, j < 248 → mixR (U 0) σ j = U 0 j := fun j hj => if_pos hj
    refine hst (mixR (U 0) σ) (popU U) ((nw + 15) % 16) (Inv_eq u2 he) (DR_eq u2 u3 he) f3 f4 (hCg _ _ _ _ (BrAt_eq u2 e2.1 he) (PlAt_eq u2 e2.2.1 he) e2.2.2) (fun t ht => ?_)
    obtain ⟨w1, w2, w3⟩ := hU (t + 1) (by omega)
    have hs : Sta (mixR (U 0) σ) (U 0) := Sta_Sm (fun j hj => (he j (by omega)).symm)
    exact ⟨(hs.tr u1.sy).tr w1, w2, w3⟩
set_option maxHeartbeats 400000 in
set_option maxRecDepth 100000 in
theorem st_load {l : Launch} {G : va_G} {bs : Nat} {cy : Nat → ClassId} {I : CI} {L : CL} {R : CR} (hl0 : l.stackTraces = false) (hL : LSt I R) (v1 : Int32) : StB l G bs cy I L R ML_load [(0, 9, 12, 13)] 8 1 6 [.int v1] MX12_load 11 := by
  obtain ⟨σ, k, n, b, U, o, β, q, γ, u, nw, hM, hC, hU⟩ := hL
  obtain ⟨m1, m2, m3, m4, m5, m6, m7, m8, m9, m10, m11, m12, m13⟩ := id hM
  obtain ⟨c1, c2, c3, c4, c5, c6, c7, c8, c9, c10, c11, c12, c13, c14, c15, c16, c17, c18⟩ := id hC
  refine ⟨_, WTn.up (w_load v1 (c_X11_load b (I 69) n β γ q u v1 hl0 c15 m10 m8 c3 c4 c7 c8 c9 c10) (fun E h => h.1)), fun r1 I1 L1 R1 h1 => ?_⟩
  rcases h1 with ⟨rfl, w1, L', ⟨⟨hc, hv⟩, e1, e2, e3, e4, e5, e6, e7⟩, rfl⟩ | ⟨q9, hq9, rfl, hpx, rfl, rfl, rfl⟩
  · obtain ⟨j, hj, rfl⟩ := inB_of hc (by omega)
    rw [tN_nI (by omega)] at hv e2 e3 e5 e6
    have hsl : ∀ a z, (67 ≤ a ∨ a = 27 ∨ a = 28) → SLo γ u a z = false := fun a z h => by
      unfold SLo SLe SRD STx SHk; simp only [Bool.or_eq_false_iff, Bool.and_eq_false_iff, beq_eq_false_iff_ne, decide_eq_false_iff_not]
      rcases c3 with rfl | rfl <;> rcases c4 with rfl | rfl <;> omega
    have hM1 := hM.cl e1 (fun a z h => hsl a z (Or.inl h))
    have h69 : I1 69 = I 69 := e1.row (fun z => hsl _ z (Or.inl (by decide)))
    have hO : OuAt I1 o := c16.frI e1 (fun a z h1 h2 => hsl a z (by omega))
    obtain ⟨n1, n2, n3, n4, n5, n6, n7, n8, n9, n10, n11, n12, n13⟩ := hM1
    refine ⟨_, c_X12_load b j σ (I 69) n k n9 (fun z hz => n10 z (by omega)) n8 (by omega) n7 n4 n1 h69, fun r2 I2 L2 R2 h2 => ?_⟩
    obtain ⟨f0, f1, f2, f3, f4, f5, f6, f7, f8, rfl⟩ := h2
    generalize hP : prs b j (I 69) = P at hv e2 e3 e5 e6 f0 f4 f5 f6 f7
    have hk : ∀ a z, (a < 67 ∨ a = 72 ∨ a = 73 ∨ a = 85 ∨ (a = 67 ∧ z = 38)) → SLd a z = false := fun a z h => by
      unfold SLd; simp only [Bool.or_eq_false_iff, Bool.and_eq_false_iff, beq_eq_false_iff_ne, decide_eq_false_iff_not]; omega
    refine ⟨f2, fun _ => ?_, ?_⟩
    · rw [f8 86 0 rfl, u2L_at9, hv, f0]
    have hm : ∀ σ' k', I2 68 = σ' → Inv σ' → DR σ' → I2 67 5 = nI k' → k' ≤ 16 → HisM I2 k' U → MSt I2 σ' k' 0 b U o := fun σ' k' q1 q2 q3 q4 q5 q6 => ⟨q1, q2, q3, q4, q5, q6, f3, Nat.zero_le _, by rw [f1.row (fun z => hk _ z (by omega))]; exact n9, fun z hz => absurd hz (Nat.not_lt_zero z), by rw [f1 _ _ (hk _ _ (by omega))]; exact n11, by rw [f1.row (fun z => hk _ z (by omega))]; exact n12, n13⟩
    have hT2 : TxAt I2 0 b := e4.frI f1 (fun a z h1 h2 => hk a z (by omega))
    have hO2 : OuAt I2 o := hO.frI f1 (fun a z h1 h2 => hk a z (by omega))
    have h11 : I2 0 11 = I2 67 9 := by rw [f1 _ _ (hk _ _ (by omega)), e2, f4]
    have h12 : I2 0 12 = I2 67 10 := by rw [f1 _ _ (hk _ _ (by omega)), e3, f5]
    have hb9 : ∀ z a, isBr z → a ≤ z + 10 → a < 67 := fun z a h1 h2 => by rcases h1 with rfl | rfl <;> omega
    have hp9 : ∀ z a, isPl z → a ≤ z + 3 → a < 67 := fun z a h1 h2 => by rcases h1 with rfl | rfl <;> omega
    cases ho : okP P with
    | true =>
      rw [ho, if_pos rfl] at f6 f7
      obtain ⟨g1, g2, g3, g4, g5⟩ := e5 ho
      obtain ⟨i1, i2⟩ := prs_ok (b := b) (n := j) (ρ := I 69) (by rw [hP]; exact ho)
      rw [hP] at i1 i2
      have hq0 : ∀ z : CR, u2R z 0 9 β 0 9 = β := fun z => by simp [u2R]
      refine ⟨ovl (rOf P) σ, 0, 0, b, U, o, γ, u, β, q, nw, hm _ _ f6 (Inv_eq i1 ovl_eq) (DR_eq i1 i2 ovl_eq) f7 (by decide) ⟨Nat.zero_le _, fun t z h => absurd h (Nat.not_lt_zero t)⟩, ⟨c3, c4, c1, c2, fun e => c5 e.symm, fun e => c6 e.symm, ?_, ?_, ?_, ?_, ?_, (BrAt_eq i1 g1 ovl_eq).fr f1 (fun a z h1 h2 => hk a z (Or.inl (hb9 γ a c3 h2))), (PlAt_eq i1 g2 ovl_eq).fr f1 (fun a z h1 h2 => hk a z (Or.inl (hp9 u a c4 h2))), HisN.nil U ?_ ?_ c14.2.1, hT2, hO2, h11, h12⟩, fun t h => absurd h (Nat.not_lt_zero t)⟩
      · subst g5; simp [u2R]
      · subst g5; rcases c4 with rfl | rfl <;> simp [u2R]
      · subst g5; simp [u2R]
      · subst g5; simp [u2R]
      · subst g5; rcases c4 with rfl | rfl <;> simp [u2R]
      · rw [f1 _ _ (hk _ _ (by omega)), g4]; exact c14.2.2.1
      · rw [f1 _ _ (hk _ _ (by omega))]; exact g3
    | false =>
      rw [ho, if_neg (by decide)] at f6 f7
      obtain ⟨g1, g2⟩ := e6 ho
      have g1 : Fr (SLe γ u) I I1 := g1
      have hse : ∀ a z, ((β ≤ a ∧ a ≤ β + 10) ∨ (q ≤ a ∧ a ≤ q + 3) ∨ (9 ≤ a ∧ a ≤ 26)) → SLe γ u a z = false := fun a z h => by
        unfold SLe SRD STx; simp only [Bool.or_eq_false_iff, Bool.and_eq_false_iff, beq_eq_false_iff_ne, decide_eq_false_iff_not]
        rcases c1 with rfl | rfl <;> rcases c2 with rfl | rfl <;> rcases c3 with rfl | rfl <;> rcases c4 with rfl | rfl <;> omega
      have hB1 : BrAt I1 β σ := c12.fr g1 (fun a z h1 h2 => hse a z (Or.inl ⟨h1, h2⟩))
      have hP1 : PlAt I1 q σ := c13.fr g1 (fun a z h1 h2 => hse a z (Or.inr (Or.inl ⟨h1, h2⟩)))
      have hH1 : HisN I1 k U nw := c14.frI g1 (fun a z h1 h2 => hse a z (by omega))
      refine ⟨σ, k, 0, b, U, o, β, q, γ, u, nw, hm _ _ f6 m2 m3 f7 n5 (n6.row (f1.row (fun z => hk _ z (by omega)))), ⟨c1, c2, c3, c4, c5, c6, ?_, ?_, ?_, ?_, ?_, hB1.fr f1 (fun a z h1 h2 => hk a z (Or.inl (hb9 β a c1 h2))), hP1.fr f1 (fun a z h1 h2 => hk a z (Or.inl (hp9 q a c2 h2))), hH1.frI f1 (fun a z h1 h2 => hk a z (by omega)), hT2, hO2, h11, h12⟩, hU⟩
      · subst g2; rcases c4 with rfl | rfl <;> simp [u2R, c7]
      · subst g2; rcases c4 with rfl | rfl <;> simp [u2R, c8]
      · subst g2; rcases c4 with rfl | rfl <;> simp [u2R, c9]
      · subst g2; rcases c4 with rfl | rfl <;> simp [u2R, c10]
      · rw [g2, u2R_ne (fun e => c6 e.symm), u2R_ne (by rcases c2 with rfl | rfl <;> decide), u2R_ne (by rcases c2 with rfl | rfl <;> decide)]; exact c11
  · rw [List.mem_singleton.mp hq9] at hpx ⊢
    refine ⟨_, (cT_X12_load v1 n m7 ((ld_bad (by omega)).trans hpx.2)).lv (by decide), fun r2 I2 L2 R2 h2 => ?_⟩
    obtain ⟨f0, f1, f2, rfl, f4⟩ := h2
    exact ⟨f2, fun h => absurd h (by decide), q_end hM hC hU f1 (ST_68 f1 m1) OKM_ST f4⟩
