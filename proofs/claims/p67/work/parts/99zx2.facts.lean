/-! what the law stands on at its start -/
theorem in_wsL : ∀ w ∈ wsL0, w ∈ lw_tbl := by decide +kernel
theorem in_wsX11 : ∀ w ∈ wsX110, w ∈ lw_tbl := by decide +kernel
theorem in_wsX0 : ∀ w ∈ wsX00, w ∈ lw_tbl := by decide +kernel
theorem in_wsX8 : ∀ w ∈ wsX80, w ∈ lw_tbl := by decide +kernel
theorem in_wsX7 : ∀ w ∈ wsX70, w ∈ lw_tbl := by decide +kernel
theorem in_wsX2 : ∀ w ∈ wsX20, w ∈ lw_tbl := by decide +kernel
theorem in_wsX4 : ∀ w ∈ wsX40, w ∈ lw_tbl := by decide +kernel
theorem in_wsX9 : ∀ w ∈ wsX90, w ∈ lw_tbl := by decide +kernel
theorem in_wsX1 : ∀ w ∈ wsX10, w ∈ lw_tbl := by decide +kernel
theorem in_wsX6 : ∀ w ∈ wsX60, w ∈ lw_tbl := by decide +kernel
theorem in_wsX5 : ∀ w ∈ wsX50, w ∈ lw_tbl := by decide +kernel
theorem in_wsX3 : ∀ w ∈ wsX30, w ∈ lw_tbl := by decide +kernel
theorem in_wsX10 : ∀ w ∈ wsX100, w ∈ lw_tbl := by decide +kernel
theorem in_wsJ4 : ∀ w ∈ wsJ40, w ∈ lw_tbl := by decide +kernel
theorem in_wsJ0 : ∀ w ∈ wsJ00, w ∈ lw_tbl := by decide +kernel
theorem wsL_law_in0 : ∀ w ∈ wsL_law0, w ∈ lw_t2 := fun w h => (List.mem_append.mp h).elim (fun h => (List.mem_append.mp h).elim (fun h => (List.mem_append.mp h).elim (fun h => (List.mem_append.mp h).elim (fun h => (List.mem_append.mp h).elim (fun h => (List.mem_append.mp h).elim (fun h => (List.mem_append.mp h).elim (fun h => (List.mem_append.mp h).elim (fun h => (List.mem_append.mp h).elim (fun h => (List.mem_append.mp h).elim (fun h => (List.mem_append.mp h).elim (fun h => (List.mem_append.mp h).elim (fun h => (List.mem_append.mp h).elim (fun h => (List.mem_append.mp h).elim (fun h => (List.mem_append.mp h).elim (fun h => (List.mem_append.mp h).elim (fun h => (List.mem_append.mp h).elim (in_wsL_law0_r1 w) (fun h => (List.mem_append.mp h).elim (in_wsL_law0_r2 w) (fun h => (List.mem_append.mp h).elim (in_wsL_law0_r3 w) (fun h => (List.mem_append.mp h).elim (in_wsL_law0_r4 w) (fun h => (List.mem_append.mp h).elim (in_wsL_law0_r5 w) (fun h => (List.mem_append.mp h).elim (in_wsL_law0_r6 w) (fun h => (List.mem_append.mp h).elim (in_wsL_law0_r7 w) (fun h => (List.mem_append.mp h).elim (in_wsL_law0_r8 w) (fun h => (List.mem_append.mp h).elim (in_wsL_law0_r9 w) (fun h => (List.mem_append.mp h).elim (in_wsL_law0_r10 w) (fun h => (List.mem_append.mp h).elim (in_wsL_law0_r11 w) (fun h => (List.mem_append.mp h).elim (in_wsL_law0_r12 w) (fun h => (List.mem_append.mp h).elim (in_wsL_law0_r13 w) (fun h => (List.mem_append.mp h).elim (in_wsL_law0_r14 w) (fun h => (List.mem_append.mp h).elim (in_wsL_law0_r15 w) (fun h => (List.mem_append.mp h).elim (in_wsL_law0_r16 w) (fun h => (List.mem_append.mp h).elim (in_wsL_law0_r17 w) (fun h => (List.mem_append.mp h).elim (in_wsL_law0_r18 w) (fun h => (List.mem_append.mp h).elim (in_wsL_law0_r19 w) (fun h => (List.mem_append.mp h).elim (in_wsL_law0_r20 w) (fun h => (List.mem_append.mp h).elim (in_wsL_law0_r21 w) (fun h => (List.mem_append.mp h).elim (in_wsL_law0_r22 w) (fun h => (List.mem_append.mp h).elim (in_wsL_law0_r23 w) (fun h => (List.mem_append.mp h).elim (in_wsL_law0_r24 w) (fun h => (List.mem_append.mp h).elim (in_wsL_law0_r25 w) (fun h => (List.mem_append.mp h).elim (in_wsL_law0_r26 w) (fun h => (List.mem_append.mp h).elim (in_wsL_law0_r27 w) (fun h => (List.mem_append.mp h).elim (in_wsL_law0_r28 w) (fun h => (List.mem_append.mp h).elim (in_wsL_law0_r29 w) (fun h => (List.mem_append.mp h).elim (in_wsL_law0_r30 w) (fun h => (List.mem_append.mp h).elim (in_wsL_law0_r31 w) (fun h => (List.mem_append.mp h).elim (in_wsL_law0_r32 w) (fun h => (List.mem_append.mp h).elim (in_wsL_law0_r33 w) (fun h => (List.mem_append.mp h).elim (in_wsL_law0_r34 w) (fun h => (List.mem_append.mp h).elim (in_wsL_law0_r35 w) (fun h => (List.mem_append.mp h).elim (in_wsL_law0_r36 w) (in_wsL_law0_r37 w))))))))))))))))))))))))))))))))))))) (fun h => List.mem_append_left _ (in_wsL w h))) (fun h => List.mem_append_left _ (in_wsX11 w h))) (fun h => List.mem_append_left _ (in_wsX0 w h))) (fun h => List.mem_append_left _ (in_wsX8 w h))) (fun h => List.mem_append_left _ (in_wsX7 w h))) (fun h => List.mem_append_left _ (in_wsX2 w h))) (fun h => List.mem_append_left _ (in_wsX4 w h))) (fun h => List.mem_append_left _ (in_wsX9 w h))) (fun h => List.mem_append_left _ (in_wsX1 w h))) (fun h => List.mem_append_left _ (in_wsX6 w h))) (fun h => List.mem_append_left _ (in_wsX5 w h))) (fun h => List.mem_append_left _ (in_wsX3 w h))) (fun h => List.mem_append_left _ (in_wsX10 w h))) (fun h => List.mem_append_left _ (in_wsJ4 w h))) (fun h => List.mem_append_left _ (in_wsJ0 w h))) (fun h => absurd h List.not_mem_nil)
theorem wsL_law_x0 : ∀ w ∈ (vx_atS RX11 107 "java/lang/IllegalArgumentException" ["java/lang/RuntimeException", "java/lang/Exception"]).filter goodWord, w ∈ lw_tbl := by decide +kernel
theorem wsL_law_x1 : ∀ w ∈ (vx_atS RX11 166 "java/lang/IndexOutOfBoundsException" ["java/lang/RuntimeException", "java/lang/Exception"]).filter goodWord, w ∈ lw_tbl := by decide +kernel
theorem wsL_law_in : ∀ w ∈ wsL_law, w ∈ lw_t2 := fun w h => (List.mem_append.mp h).elim (fun h => (List.mem_append.mp h).elim (fun h => wsL_law_in0 w h) (fun h => List.mem_append_left _ (wsL_law_x0 w h))) (fun h => List.mem_append_left _ (wsL_law_x1 w h))
theorem nest_in : ∀ w ∈ nestL, w ∈ lw_tbl := by decide +kernel
abbrev lwG : List Cond := flatC (Jvm.Cond.and given_1 narrow_1)
theorem str_in : ∀ q ∈ strL, Cond.stringRef RX11 q.1 q.2 ∈ lw_tbl ∧ Cond.exactly (.string RX11 q.1) "java/lang/String" ∈ lwG := by decide +kernel
theorem st_in : (Cond.laysStatic Bundle.tN "UNASSIGNED_STACK" Bundle.steD ∈ lw_tbl ∧ Cond.laysStatic Bundle.tN "SUPPRESSED_SENTINEL" Bundle.listD ∈ lw_tbl ∧ Cond.laysStatic "java/lang/String" "COMPACT_STRINGS" "Z" ∈ lw_tbl ∧ Cond.laysStatic "jdk/internal/util/Preconditions" "SIOOBE_FORMATTER" "Ljava/util/function/BiFunction;" ∈ lw_tbl ∧ Cond.laysStatic "java/lang/Integer" "DigitOnes" "[B" ∈ lw_tbl ∧ Cond.laysStatic "java/lang/Integer" "DigitTens" "[B" ∈ lw_tbl) ∧ (Cond.initialized Bundle.tN ∈ lw_tbl ∧ Cond.initialized "java/lang/String" ∈ lw_tbl ∧ Cond.initialized "jdk/internal/util/Preconditions" ∈ lw_tbl ∧ Cond.initialized "java/lang/Integer" ∈ lw_tbl) ∧ Cond.arrayOver (.array .int) ∈ lw_tbl := by decide +kernel
theorem sg_in : Cond.isRef (.static Bundle.tN "UNASSIGNED_STACK" Bundle.steD) ∈ lwG ∧ Cond.isRef (.static Bundle.tN "SUPPRESSED_SENTINEL" Bundle.listD) ∈ lwG ∧ Cond.eq (.static "java/lang/String" "COMPACT_STRINGS" "Z") (.int 1) ∈ lwG ∧ Cond.isRef (.static "jdk/internal/util/Preconditions" "SIOOBE_FORMATTER" "Ljava/util/function/BiFunction;") ∈ lwG := by decide +kernel
theorem sd_in : (Cond.arrayOf (.static "java/lang/Integer" "DigitOnes" "[B") .byte ∈ lwG ∧ Cond.eq (.length (.static "java/lang/Integer" "DigitOnes" "[B")) (.int (Int32.ofNat 100)) ∈ lwG) ∧ Cond.arrayOf (.static "java/lang/Integer" "DigitTens" "[B") .byte ∈ lwG ∧ Cond.eq (.length (.static "java/lang/Integer" "DigitTens" "[B")) (.int (Int32.ofNat 100)) ∈ lwG := by decide +kernel
abbrev tmL (i : Nat) : Term := .string RL (litL.getD i (0, "")).1
theorem lit_in : ∀ i, i < 9 → Cond.exactly (tmL i) "java/lang/String" ∈ lwG ∧ Cond.eq (.field (tmL i) "java/lang/String" "coder" "B") (.int 0) ∈ lwG ∧ Cond.arrayOf (.field (tmL i) "java/lang/String" "value" "[B") .byte ∈ lwG ∧ Cond.eq (.length (.field (tmL i) "java/lang/String" "value" "[B")) (.int (Int32.ofNat (litN.getD i 0))) ∈ lwG ∧ Cond.stringRef RL (litL.getD i (0, "")).1 (litL.getD i (0, "")).2 ∈ lw_tbl ∧ litN.getD i 0 < 2 ^ 31 := by decide +kernel
theorem lit_e0 : ∀ j, j < litN.getD 0 0 → Cond.eq (.elem (.field (tmL 0) "java/lang/String" "value" "[B") (.int (Int32.ofNat j))) (.int ((litB.getD 0 []).getD j 0)) ∈ lwG := by decide +kernel
theorem lit_e1 : ∀ j, j < litN.getD 1 0 → Cond.eq (.elem (.field (tmL 1) "java/lang/String" "value" "[B") (.int (Int32.ofNat j))) (.int ((litB.getD 1 []).getD j 0)) ∈ lwG := by decide +kernel
theorem lit_e2 : ∀ j, j < litN.getD 2 0 → Cond.eq (.elem (.field (tmL 2) "java/lang/String" "value" "[B") (.int (Int32.ofNat j))) (.int ((litB.getD 2 []).getD j 0)) ∈ lwG := by decide +kernel
theorem lit_e3 : ∀ j, j < litN.getD 3 0 → Cond.eq (.elem (.field (tmL 3) "java/lang/String" "value" "[B") (.int (Int32.ofNat j))) (.int ((litB.getD 3 []).getD j 0)) ∈ lwG := by decide +kernel
theorem lit_e4 : ∀ j, j < litN.getD 4 0 → Cond.eq (.elem (.field (tmL 4) "java/lang/String" "value" "[B") (.int (Int32.ofNat j))) (.int ((litB.getD 4 []).getD j 0)) ∈ lwG := by decide +kernel
theorem lit_e5 : ∀ j, j < litN.getD 5 0 → Cond.eq (.elem (.field (tmL 5) "java/lang/String" "value" "[B") (.int (Int32.ofNat j))) (.int ((litB.getD 5 []).getD j 0)) ∈ lwG := by decide +kernel
theorem lit_e6 : ∀ j, j < litN.getD 6 0 → Cond.eq (.elem (.field (tmL 6) "java/lang/String" "value" "[B") (.int (Int32.ofNat j))) (.int ((litB.getD 6 []).getD j 0)) ∈ lwG := by decide +kernel
theorem lit_e7 : ∀ j, j < litN.getD 7 0 → Cond.eq (.elem (.field (tmL 7) "java/lang/String" "value" "[B") (.int (Int32.ofNat j))) (.int ((litB.getD 7 []).getD j 0)) ∈ lwG := by decide +kernel
theorem lit_e8 : ∀ j, j < litN.getD 8 0 → Cond.eq (.elem (.field (tmL 8) "java/lang/String" "value" "[B") (.int (Int32.ofNat j))) (.int ((litB.getD 8 []).getD j 0)) ∈ lwG := by decide +kernel
theorem lit_el : ∀ i, i < 9 → ∀ j, j < litN.getD i 0 → Cond.eq (.elem (.field (tmL i) "java/lang/String" "value" "[B") (.int (Int32.ofNat j))) (.int ((litB.getD i []).getD j 0)) ∈ lwG := by
  intro i hi
  match i, hi with
  | 0, _ => exact lit_e0
  | 1, _ => exact lit_e1
  | 2, _ => exact lit_e2
  | 3, _ => exact lit_e3
  | 4, _ => exact lit_e4
  | 5, _ => exact lit_e5
  | 6, _ => exact lit_e6
  | 7, _ => exact lit_e7
  | 8, _ => exact lit_e8
  | i + 9, h => exact absurd h (by omega)
theorem lit_ne : ∀ i, i < 9 → ∀ j, j < 9 → i ≠ j → Cond.not (Cond.eq (tmL i) (tmL j)) ∈ lwG ∨ Cond.not (Cond.eq (tmL j) (tmL i)) ∈ lwG := by decide +kernel
theorem dgOnes_0 : ∀ i, i < 20 → Cond.eq (.elem (.static "java/lang/Integer" "DigitOnes" "[B") (.int (Int32.ofNat (0 + i)))) (.int (nI (48 + (0 + i) % 10))) ∈ lwG := by decide +kernel
theorem dgOnes_1 : ∀ i, i < 20 → Cond.eq (.elem (.static "java/lang/Integer" "DigitOnes" "[B") (.int (Int32.ofNat (20 + i)))) (.int (nI (48 + (20 + i) % 10))) ∈ lwG := by decide +kernel
theorem dgOnes_2 : ∀ i, i < 20 → Cond.eq (.elem (.static "java/lang/Integer" "DigitOnes" "[B") (.int (Int32.ofNat (40 + i)))) (.int (nI (48 + (40 + i) % 10))) ∈ lwG := by decide +kernel
theorem dgOnes_3 : ∀ i, i < 20 → Cond.eq (.elem (.static "java/lang/Integer" "DigitOnes" "[B") (.int (Int32.ofNat (60 + i)))) (.int (nI (48 + (60 + i) % 10))) ∈ lwG := by decide +kernel
theorem dgOnes_4 : ∀ i, i < 20 → Cond.eq (.elem (.static "java/lang/Integer" "DigitOnes" "[B") (.int (Int32.ofNat (80 + i)))) (.int (nI (48 + (80 + i) % 10))) ∈ lwG := by decide +kernel
theorem dgOnes : ∀ j, j < 100 → Cond.eq (.elem (.static "java/lang/Integer" "DigitOnes" "[B") (.int (Int32.ofNat j))) (.int (nI (48 + j % 10))) ∈ lwG := by
  intro j hj
  rcases (show j < 20 ∨ (20 ≤ j ∧ j < 40) ∨ (40 ≤ j ∧ j < 60) ∨ (60 ≤ j ∧ j < 80) ∨ 80 ≤ j by omega) with h | h | h | h | h
  · have := dgOnes_0 (j - 0) (by omega); rw [show 0 + (j - 0) = j by omega] at this; exact this
  · have := dgOnes_1 (j - 20) (by omega); rw [show 20 + (j - 20) = j by omega] at this; exact this
  · have := dgOnes_2 (j - 40) (by omega); rw [show 40 + (j - 40) = j by omega] at this; exact this
  · have := dgOnes_3 (j - 60) (by omega); rw [show 60 + (j - 60) = j by omega] at this; exact this
  · have := dgOnes_4 (j - 80) (by omega); rw [show 80 + (j - 80) = j by omega] at this; exact this
theorem dgTens_0 : ∀ i, i < 20 → Cond.eq (.elem (.static "java/lang/Integer" "DigitTens" "[B") (.int (Int32.ofNat (0 + i)))) (.int (nI (48 + (0 + i) / 10))) ∈ lwG := by decide +kernel
theorem dgTens_1 : ∀ i, i < 20 → Cond.eq (.elem (.static "java/lang/Integer" "DigitTens" "[B") (.int (Int32.ofNat (20 + i)))) (.int (nI (48 + (20 + i) / 10))) ∈ lwG := by decide +kernel
theorem dgTens_2 : ∀ i, i < 20 → Cond.eq (.elem (.static "java/lang/Integer" "DigitTens" "[B") (.int (Int32.ofNat (40 + i)))) (.int (nI (48 + (40 + i) / 10))) ∈ lwG := by decide +kernel
theorem dgTens_3 : ∀ i, i < 20 → Cond.eq (.elem (.static "java/lang/Integer" "DigitTens" "[B") (.int (Int32.ofNat (60 + i)))) (.int (nI (48 + (60 + i) / 10))) ∈ lwG := by decide +kernel
theorem dgTens_4 : ∀ i, i < 20 → Cond.eq (.elem (.static "java/lang/Integer" "DigitTens" "[B") (.int (Int32.ofNat (80 + i)))) (.int (nI (48 + (80 + i) / 10))) ∈ lwG := by decide +kernel
theorem dgTens : ∀ j, j < 100 → Cond.eq (.elem (.static "java/lang/Integer" "DigitTens" "[B") (.int (Int32.ofNat j))) (.int (nI (48 + j / 10))) ∈ lwG := by
  intro j hj
  rcases (show j < 20 ∨ (20 ≤ j ∧ j < 40) ∨ (40 ≤ j ∧ j < 60) ∨ (60 ≤ j ∧ j < 80) ∨ 80 ≤ j by omega) with h | h | h | h | h
  · have := dgTens_0 (j - 0) (by omega); rw [show 0 + (j - 0) = j by omega] at this; exact this
  · have := dgTens_1 (j - 20) (by omega); rw [show 20 + (j - 20) = j by omega] at this; exact this
  · have := dgTens_2 (j - 40) (by omega); rw [show 40 + (j - 40) = j by omega] at this; exact this
  · have := dgTens_3 (j - 60) (by omega); rw [show 60 + (j - 60) = j by omega] at this; exact this
  · have := dgTens_4 (j - 80) (by omega); rw [show 80 + (j - 80) = j by omega] at this; exact this
theorem arr_of {s : State} {args : Array Value} {ty : FieldType} (h : (Cond.arrayClass ty).before args s = true) (hno : ∀ C, ty ≠ .object C) : ∃ cA, ArrOfT s cA ty ∧ va_RA s cA ty := by
  obtain ⟨cA, kA, comp, h1, h2, h3⟩ := Cond.arrayClass_spec h
  refine ⟨cA, fun n z => ⟨fun k h => (by cases h), kA, h2, comp, h3⟩, ?_⟩
  cases ty with
  | object C => exact absurd rfl (hno C)
  | _ => exact h1
/-- a private method of a class above is what is selected -/
theorem selP {C : String} {y z : MethodName} {s : State} {args : Array Value} {n : Nat} (hy : y.cls ≠ "java/lang/invoke/MethodHandle" ∧ y.cls ≠ "java/lang/invoke/VarHandle") (hins : (Cond.instantiable C n).before args s = true) (hz : z.cls = y.cls) (hsel : (Cond.selects C z z).before args s = true)
    (hpriv : (Cond.privateMethod y).before args s = true) (hinst : (Cond.instanceMethod y).before args s = true) : (Cond.selects C y y).before args s = true := by
  obtain ⟨c, k, hc, hk, -, -, -, -⟩ := Cond.instantiable_spec hins
  obtain ⟨mk, methM, hnamed, hmethM, -, -⟩ := Cond.instanceMethod_spec hinst
  have hfound : s.methodFound? y.cls y.name y.desc = some mk := State.methodFound?_of_named hnamed hy
  have hsl : selectMethod {} s.vm c mk = .method mk := selectMethod_private hmethM (Cond.privateMethod_at hpriv mk methM hnamed hmethM)
  have hcl : s.vm.findClass y.cls = some mk.cls := findClass_of_methodNamed hnamed
  have hni : (s.vm.classes[mk.cls]?).any (!·.isInterface) = true := by
    simp only [Cond.before, Cond.holds, Cond.value, hc] at hsel
    cases h1 : s.methodFound? z.cls z.name z.desc with
    | none => simp [h1] at hsel
    | some r =>
      cases h2 : s.methodNamed? z with
      | none => simp [h1, h2] at hsel
      | some q =>
        have hq : s.vm.findClass z.cls = some q.cls := findClass_of_methodNamed h2
        have e : q.cls = mk.cls := Option.some.inj (hq.symm.trans (by rw [hz]; exact hcl))
        simp only [h1, h2] at hsel
        cases h3 : selectMethod {} s.vm c r <;> simp [h3, e] at hsel ⊢
        exact hsel.2
  simp only [Cond.before, Cond.holds, Cond.value, hc, hfound, hnamed, hsl, hni]
  simp
theorem s6_in : Cond.instantiable RJ4 4 ∈ lw_tbl ∧ Cond.selects RJ4 ⟨"java/lang/AbstractStringBuilder", "isLatin1", "()Z"⟩ ⟨"java/lang/AbstractStringBuilder", "isLatin1", "()Z"⟩ ∈ lw_tbl := by decide +kernel
theorem s6_0 : (yJ5_appendNull_278bc.cls ≠ "java/lang/invoke/MethodHandle" ∧ yJ5_appendNull_278bc.cls ≠ "java/lang/invoke/VarHandle") ∧ (⟨"java/lang/AbstractStringBuilder", "isLatin1", "()Z"⟩ : MethodName).cls = yJ5_appendNull_278bc.cls ∧ Cond.privateMethod yJ5_appendNull_278bc ∈ lw_tbl ∧ Cond.instanceMethod yJ5_appendNull_278bc ∈ lw_tbl := by decide +kernel
theorem s6_1 : (yJ5_ensureCapacityInternal_d00df.cls ≠ "java/lang/invoke/MethodHandle" ∧ yJ5_ensureCapacityInternal_d00df.cls ≠ "java/lang/invoke/VarHandle") ∧ (⟨"java/lang/AbstractStringBuilder", "isLatin1", "()Z"⟩ : MethodName).cls = yJ5_ensureCapacityInternal_d00df.cls ∧ Cond.privateMethod yJ5_ensureCapacityInternal_d00df ∈ lw_tbl ∧ Cond.instanceMethod yJ5_ensureCapacityInternal_d00df ∈ lw_tbl := by decide +kernel
theorem s6_2 : (yJ5_newCapacity_0f7a4.cls ≠ "java/lang/invoke/MethodHandle" ∧ yJ5_newCapacity_0f7a4.cls ≠ "java/lang/invoke/VarHandle") ∧ (⟨"java/lang/AbstractStringBuilder", "isLatin1", "()Z"⟩ : MethodName).cls = yJ5_newCapacity_0f7a4.cls ∧ Cond.privateMethod yJ5_newCapacity_0f7a4 ∈ lw_tbl ∧ Cond.instanceMethod yJ5_newCapacity_0f7a4 ∈ lw_tbl := by decide +kernel
theorem s6_3 : (yJ5_putStringAt_47b60.cls ≠ "java/lang/invoke/MethodHandle" ∧ yJ5_putStringAt_47b60.cls ≠ "java/lang/invoke/VarHandle") ∧ (⟨"java/lang/AbstractStringBuilder", "isLatin1", "()Z"⟩ : MethodName).cls = yJ5_putStringAt_47b60.cls ∧ Cond.privateMethod yJ5_putStringAt_47b60 ∈ lw_tbl ∧ Cond.instanceMethod yJ5_putStringAt_47b60 ∈ lw_tbl := by decide +kernel
theorem s6_4 : (yJ5_inflateIfNeededFor_a7421.cls ≠ "java/lang/invoke/MethodHandle" ∧ yJ5_inflateIfNeededFor_a7421.cls ≠ "java/lang/invoke/VarHandle") ∧ (⟨"java/lang/AbstractStringBuilder", "isLatin1", "()Z"⟩ : MethodName).cls = yJ5_inflateIfNeededFor_a7421.cls ∧ Cond.privateMethod yJ5_inflateIfNeededFor_a7421 ∈ lw_tbl ∧ Cond.instanceMethod yJ5_inflateIfNeededFor_a7421 ∈ lw_tbl := by decide +kernel
theorem s6_5 : (yJ5_inflate_da8c8.cls ≠ "java/lang/invoke/MethodHandle" ∧ yJ5_inflate_da8c8.cls ≠ "java/lang/invoke/VarHandle") ∧ (⟨"java/lang/AbstractStringBuilder", "isLatin1", "()Z"⟩ : MethodName).cls = yJ5_inflate_da8c8.cls ∧ Cond.privateMethod yJ5_inflate_da8c8 ∈ lw_tbl ∧ Cond.instanceMethod yJ5_inflate_da8c8 ∈ lw_tbl := by decide +kernel
theorem t2_ok {args : Array Value} {s : State} (h : ∀ w ∈ lw_tbl, w.before args s = true) : ∀ w ∈ lw_t2, w.before args s = true := by
  intro w hw
  rcases List.mem_append.mp hw with hw | hw
  · exact h w hw
  · unfold sel6 at hw
    simp only [List.mem_cons, List.not_mem_nil, or_false] at hw
    rcases hw with rfl | rfl | rfl | rfl | rfl | rfl
    · exact selP s6_0.1 (h _ s6_in.1) s6_0.2.1 (h _ s6_in.2) (h _ s6_0.2.2.1) (h _ s6_0.2.2.2)
    · exact selP s6_1.1 (h _ s6_in.1) s6_1.2.1 (h _ s6_in.2) (h _ s6_1.2.2.1) (h _ s6_1.2.2.2)
    · exact selP s6_2.1 (h _ s6_in.1) s6_2.2.1 (h _ s6_in.2) (h _ s6_2.2.2.1) (h _ s6_2.2.2.2)
    · exact selP s6_3.1 (h _ s6_in.1) s6_3.2.1 (h _ s6_in.2) (h _ s6_3.2.2.1) (h _ s6_3.2.2.2)
    · exact selP s6_4.1 (h _ s6_in.1) s6_4.2.1 (h _ s6_in.2) (h _ s6_4.2.2.1) (h _ s6_4.2.2.2)
    · exact selP s6_5.1 (h _ s6_in.1) s6_5.2.1 (h _ s6_in.2) (h _ s6_5.2.2.1) (h _ s6_5.2.2.2)
