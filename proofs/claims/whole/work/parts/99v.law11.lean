/-! the cases of the law's switch, by their pattern -/
abbrev LAns (r1 r2 : Int32) (I2 : CI) (L2 : CL) (R2 : CR) : Prop := I2 67 6 = r1 ∧ (r1 = nI 0 → L2 86 0 = r2.toInt64) ∧ LSt I2 R2
/-- a call that throws nothing: both sides answer the same -/
def StA (l : Launch) (G : va_G) (bs : Nat) (cy : Nat → ClassId) (I : CI) (L : CL) (R : CR) (μ1 : MI) (n1 : Nat) (av : List Value) (μ2 : MI) (n2 : Nat) : Prop :=
  ∃ Q1, MTi l G bs cy μ1 n1 (.ref (bs + 0) :: av) I L R Q1 ∧ ∀ r1 I1 L1 R1, Q1 r1 I1 L1 R1 → ∃ Q2, MTi l G bs cy μ2 n2 (.ref (bs + 67) :: av) I1 L1 R1 Q2 ∧ ∀ r2 I2 L2 R2, Q2 r2 I2 L2 R2 → r1 = r2 ∧ LSt I2 R2
/-- a call by a wrapper: mark and answer agree -/
def StB (l : Launch) (G : va_G) (bs : Nat) (cy : Nat → ClassId) (I : CI) (L : CL) (R : CR) (μ1 : MI) (tab : List (Nat × Nat × Nat × Nat)) (n1 mc ms : Nat) (av : List Value) (μ2 : MI) (n2 : Nat) : Prop :=
  ∃ Q1, WTn l G bs cy μ1 tab n1 (.ref (bs + 0) :: (av ++ [.ref (bs + 86)])) I L R Q1 mc ms ∧ ∀ r1 I1 L1 R1, Q1 r1 I1 L1 R1 → ∃ Q2, MTi l G bs cy μ2 n2 (.ref (bs + 67) :: av) I1 L1 R1 Q2 ∧ ∀ r2 I2 L2 R2, Q2 r2 I2 L2 R2 → LAns r1 r2 I2 L2 R2
/-- the same with a double -/
def StD (l : Launch) (G : va_G) (bs : Nat) (cy : Nat → ClassId) (I : CI) (L : CL) (R : CR) (μ1 : MI) (tab : List (Nat × Nat × Nat × Nat)) (n1 mc ms : Nat) (av : List Value) (μ2 : MI) (n2 : Nat) : Prop :=
  ∃ Q1, WTn l G bs cy μ1 tab n1 (.ref (bs + 0) :: (av ++ [.ref (bs + 87)])) I L R Q1 mc ms ∧ ∀ r1 I1 L1 R1, Q1 r1 I1 L1 R1 → ∃ Q2, MTd l G bs cy μ2 n2 (.ref (bs + 67) :: av) I1 L1 R1 Q2 ∧ ∀ r2 I2 L2 R2, Q2 r2 I2 L2 R2 → I2 67 6 = r1 ∧ (r1 = nI 0 → (L2 87 0).toUInt64 = r2) ∧ LSt I2 R2
section LP
variable {p : Program} {l : Launch} {e : Env} {Rm : Room} {s : State} {m : MethodId} {args : Array Value} {below : List Frame} {meth : Method} {c : Code} {H : Heap} {locs : List Loc} {cells slots : Nat} {Q : State → Prop}
variable {a : Nat} {ls : Array Slot} {G : va_G} {bs : Nat} {cy : Nat → ClassId} {I : CI} {L : CL} {R : CR} {b N i n : Nat} {xs : Nat → Int32}
/-- where a case goes on: behind the switch, with the invariant -/
def LGo (p : Program) (l : Launch) (e : Env) (Rm : Room) (s : State) (m : MethodId) (args : Array Value) (below : List Frame) (meth : Method) (c : Code) (cells slots : Nat) (Q : State → Prop) (G : va_G) (bs : Nat) (cy : Nat → ClassId) (b i : Nat) : Prop :=
  ∀ (I1 : CI) (L1 : CL) (R1 : CR) (H1 : Heap) (locs1 : List Loc) (ls1 : Array Slot), LSt I1 R1 → Wd G bs cy I1 L1 R1 H1 → va_S (Aq bs) s.heap H1 locs1 → lv_has ls1 9 (bL b bs i) → W p l e Rm s m args below meth c H1 locs1 cells slots Q (F0 m 3351 ls1 [])
abbrev LGoal (p : Program) (l : Launch) (e : Env) (Rm : Room) (s : State) (m : MethodId) (args : Array Value) (below : List Frame) (meth : Method) (c : Code) (H : Heap) (locs : List Loc) (cells slots : Nat) (Q : State → Prop) (a : Nat) (ls : Array Slot) : Prop := W p l e Rm s m args below meth c H locs cells slots Q (F0 m a ls [])

abbrev DpA0 (a : Nat) (i1 i2 : Nat) (off : Int) : Prop := DQ [(a, .aload_n 1, 1)] ∧ DQ [(a + 1, .invokevirtual i1, 3), (a + 4, .aload_n 2, 1)] ∧ DQ [(a + 5, .invokevirtual i2, 3), (a + 8, .if_icmp .eq off, 3)]
set_option maxHeartbeats 400000 in
set_option maxRecDepth 100000 in
theorem pA0 {i1 i2 : Nat} {off : Int} (hD : DpA0 a i1 i2 off) (ht : ((a + 8 : Nat) : Int) + off = (3351 : Nat)) (X : LX p s m args c G bs cy b N xs) (hR : RmOK Rm n) (hW : Wd G bs cy I L R H) (hS : va_S (Aq bs) s.heap H locs) (hl : lv_has ls 9 (bL b bs i)) (hi : i + 6 ≤ N) {μ1 μ2 : MI} {n1 n2 : Nat} (hSt : StA l G bs cy I L R μ1 n1 [] μ2 n2) (hu1 : UV μ1 RX11 0) (hl1 : Cond.methodLink RL i1 μ1.1 ∈ wsL_law) (hu2 : UV μ2 RX12 0) (hl2 : Cond.methodLink RL i2 μ2.1 ∈ wsL_law) (hn1 : n1 + 1 ≤ n) (hn2 : n2 + 1 ≤ n) (hcs : cells ≤ Rm.cells ∧ slots ≤ Rm.slots)
    (kk : LGo p l e Rm s m args below meth c cells slots Q G bs cy b i) : LGoal p l e Rm s m args below meth c H locs cells slots Q a ls := by
  obtain ⟨X9, hX, hbl, hbb, hnc, hN⟩ := id X
  have hx := X9.1
  have hb := X9.2.1
  obtain ⟨d0, d1, d2⟩ := hD
  obtain ⟨Q1, hM1, hq1⟩ := hSt
  refine lv_aload_n hx hb (dg d0 (i := 0) rfl) rfl (lv_at hl 1 rfl) ?_
  refine callVi (k := 0) (rest := []) (As := []) X9 hW hS hR hM1 hn1 hu1 hl1 rfl (by decide) rfl rfl rfl (Nat.zero_le _) hl hcs (dg d1 (i := 0) rfl) (fun r1 I1 L1 R1 H1 locs1 hq hW hS => ?_)
  obtain ⟨Q2, hM2, hq2⟩ := hq1 r1 I1 L1 R1 hq
  refine lv_aload_n hx hb (dg d1 (i := 1) rfl) rfl (lv_at hl 2 rfl) ?_
  refine callVi (k := 67) (rest := [.int r1]) (As := []) X9 hW hS hR hM2 hn2 hu2 hl2 rfl (by decide) rfl rfl rfl (Nat.le_of_ble_eq_true rfl) hl hcs (dg d2 (i := 0) rfl) (fun r2 I2 L2 R2 H2 locs2 hq hW hS => ?_)
  obtain ⟨e1, hLS⟩ := hq2 r2 I2 L2 R2 hq
  exact lv_icmp_eq (tgt := 3351) hx hb (dg d2 (i := 1) rfl) ht (fun _ => kk I2 L2 R2 H2 locs2 ls hLS hW hS hl) (fun h => absurd e1 h)
abbrev DpA5 (a : Nat) (i1 i2 : Nat) (off : Int) : Prop := DQ [(a, .aload_n 1, 1)] ∧ DQ (lscR (a + 1) 1) ∧ DQ (lscR (a + 7) 2) ∧ DQ (lscR (a + 13) 3) ∧ DQ (lscR (a + 19) 4) ∧ DQ (lscR (a + 25) 5) ∧ DQ [(a + 31, .invokevirtual i1, 3), (a + 34, .aload_n 2, 1)] ∧ DQ (lscR (a + 35) 1) ∧ DQ (lscR (a + 41) 2) ∧ DQ (lscR (a + 47) 3) ∧ DQ (lscR (a + 53) 4) ∧ DQ (lscR (a + 59) 5) ∧ DQ [(a + 65, .invokevirtual i2, 3), (a + 68, .if_icmp .eq off, 3)]
set_option maxHeartbeats 400000 in
set_option maxRecDepth 100000 in
theorem pA5 {i1 i2 : Nat} {off : Int} (hD : DpA5 a i1 i2 off) (ht : ((a + 68 : Nat) : Int) + off = (3351 : Nat)) (X : LX p s m args c G bs cy b N xs) (hR : RmOK Rm n) (hW : Wd G bs cy I L R H) (hS : va_S (Aq bs) s.heap H locs) (hl : lv_has ls 9 (bL b bs i)) (hi : i + 6 ≤ N) {μ1 μ2 : MI} {n1 n2 : Nat} (hSt : StA l G bs cy I L R μ1 n1 [.int (xs (i + 1)), .int (xs (i + 2)), .int (xs (i + 3)), .int (xs (i + 4)), .int (xs (i + 5))] μ2 n2) (hu1 : UV μ1 RX11 5) (hl1 : Cond.methodLink RL i1 μ1.1 ∈ wsL_law) (hu2 : UV μ2 RX12 5) (hl2 : Cond.methodLink RL i2 μ2.1 ∈ wsL_law) (hn1 : n1 + 1 ≤ n) (hn2 : n2 + 1 ≤ n) (hcs : cells ≤ Rm.cells ∧ slots ≤ Rm.slots)
    (kk : LGo p l e Rm s m args below meth c cells slots Q G bs cy b i) : LGoal p l e Rm s m args below meth c H locs cells slots Q a ls := by
  obtain ⟨X9, hX, hbl, hbb, hnc, hN⟩ := id X
  have hx := X9.1
  have hb := X9.2.1
  obtain ⟨d0, d1, d2, d3, d4, d5, d6, d7, d8, d9, d10, d11, d12⟩ := hD
  obtain ⟨Q1, hM1, hq1⟩ := hSt
  refine lv_aload_n hx hb (dg d0 (i := 0) rfl) rfl (lv_at hl 1 rfl) ?_
  refine l_sc X hS hl d1 (j := 1) rfl (by omega) ?_
  refine l_sc X hS hl d2 (j := 2) rfl (by omega) ?_
  refine l_sc X hS hl d3 (j := 3) rfl (by omega) ?_
  refine l_sc X hS hl d4 (j := 4) rfl (by omega) ?_
  refine l_sc X hS hl d5 (j := 5) rfl (by omega) ?_
  refine callVi (k := 0) (rest := []) (As := [.int (xs (i + 1)), .int (xs (i + 2)), .int (xs (i + 3)), .int (xs (i + 4)), .int (xs (i + 5))]) X9 hW hS hR hM1 hn1 hu1 hl1 rfl (by decide) rfl rfl rfl (Nat.zero_le _) hl hcs (dg d6 (i := 0) rfl) (fun r1 I1 L1 R1 H1 locs1 hq hW hS => ?_)
  obtain ⟨Q2, hM2, hq2⟩ := hq1 r1 I1 L1 R1 hq
  refine lv_aload_n hx hb (dg d6 (i := 1) rfl) rfl (lv_at hl 2 rfl) ?_
  refine l_sc X hS hl d7 (j := 1) rfl (by omega) ?_
  refine l_sc X hS hl d8 (j := 2) rfl (by omega) ?_
  refine l_sc X hS hl d9 (j := 3) rfl (by omega) ?_
  refine l_sc X hS hl d10 (j := 4) rfl (by omega) ?_
  refine l_sc X hS hl d11 (j := 5) rfl (by omega) ?_
  refine callVi (k := 67) (rest := [.int r1]) (As := [.int (xs (i + 1)), .int (xs (i + 2)), .int (xs (i + 3)), .int (xs (i + 4)), .int (xs (i + 5))]) X9 hW hS hR hM2 hn2 hu2 hl2 rfl (by decide) rfl rfl rfl (Nat.le_of_ble_eq_true rfl) hl hcs (dg d12 (i := 0) rfl) (fun r2 I2 L2 R2 H2 locs2 hq hW hS => ?_)
  obtain ⟨e1, hLS⟩ := hq2 r2 I2 L2 R2 hq
  exact lv_icmp_eq (tgt := 3351) hx hb (dg d12 (i := 1) rfl) ht (fun _ => kk I2 L2 R2 H2 locs2 ls hLS hW hS hl) (fun h => absurd e1 h)
abbrev DpB1 (a : Nat) (i1 i2 : Nat) (off : Int) : Prop := DQ [(a, .aload_n 1, 1)] ∧ DQ (lscR (a + 1) 1) ∧ DQ [(a + 7, .aload_n 3, 1), (a + 8, .invokestatic i1, 3), (a + 11, .istore 6, 2), (a + 13, .aload_n 2, 1)] ∧ DQ (lscR (a + 14) 1) ∧ DQ [(a + 20, .invokevirtual i2, 3), (a + 23, .istore 7, 2)] ∧ DQ (ltlB (a + 25) off)
set_option maxHeartbeats 400000 in
set_option maxRecDepth 100000 in
theorem pB1 {i1 i2 : Nat} {off : Int} (hD : DpB1 a i1 i2 off) (ht : ((a + 25 + 28 : Nat) : Int) + off = (3351 : Nat)) (X : LX p s m args c G bs cy b N xs) (hR : RmOK Rm n) (hW : Wd G bs cy I L R H) (hS : va_S (Aq bs) s.heap H locs) (hl : lv_has ls 9 (bL b bs i)) (hi : i + 6 ≤ N) {μ1 μ2 : MI} {tab : List (Nat × Nat × Nat × Nat)} {n1 n2 mc ms : Nat} (hSt : StB l G bs cy I L R μ1 tab n1 mc ms [.int (xs (i + 1))] μ2 n2) (hu1 : UW μ1 tab 3) (hl1 : Cond.methodLink RL i1 μ1.1 ∈ wsL_law) (hu2 : UV μ2 RX12 1) (hl2 : Cond.methodLink RL i2 μ2.1 ∈ wsL_law) (hn1 : n1 + 1 ≤ n) (hn2 : n2 + 1 ≤ n) (hn : 2 ≤ n) (hc1 : cells + mc ≤ Rm.cells) (hs1 : slots + ms ≤ Rm.slots)
    (kk : LGo p l e Rm s m args below meth c (cells + mc) (slots + ms) Q G bs cy b i) : LGoal p l e Rm s m args below meth c H locs cells slots Q a ls := by
  obtain ⟨X9, hX, hbl, hbb, hnc, hN⟩ := id X
  have hx := X9.1
  have hb := X9.2.1
  obtain ⟨d0, d1, d2, d3, d4, d5⟩ := hD
  obtain ⟨Q1, hM1, hq1⟩ := hSt
  refine lv_aload_n hx hb (dg d0 (i := 0) rfl) rfl (lv_at hl 1 rfl) ?_
  refine l_sc X hS hl d1 (j := 1) rfl (by omega) ?_
  refine lv_aload_n hx hb (dg d2 (i := 0) rfl) rfl (lv_at hl 3 rfl) ?_
  refine callLn (rest := []) (As := .ref (bs + 0) :: ([.int (xs (i + 1))] ++ [.ref (bs + 86)])) X9 hnc hW hS hR hM1 hn1 hu1 hl1 rfl rfl (Nat.zero_le _) hl hc1 hs1 (dg d2 (i := 1) rfl) (fun r1 I1 L1 R1 H1 locs1 hq hW hS => ?_)
  obtain ⟨Q2, hM2, hq2⟩ := hq1 r1 I1 L1 R1 hq
  refine lv_istore (lv' := (6, .int r1) :: bL b bs i) hx hb (dg d2 (i := 2) rfl) hl (by decide) rfl (fun ls hl6 => ?_)
  have hl : lv_has ls 9 (bL b bs i) := lv_sub hl6 [1, 2, 3, 4, 5, 6] rfl
  refine lv_aload_n hx hb (dg d2 (i := 3) rfl) rfl (lv_at hl 2 rfl) ?_
  refine l_sc X hS hl d3 (j := 1) rfl (by omega) ?_
  refine callVi (k := 67) (rest := []) (As := [.int (xs (i + 1))]) X9 hW hS hR hM2 hn2 hu2 hl2 rfl (by decide) rfl rfl rfl (Nat.zero_le _) hl ⟨hc1, hs1⟩ (dg d4 (i := 0) rfl) (fun r2 I2 L2 R2 H2 locs2 hq hW hS => ?_)
  obtain ⟨e1, e2, hLS⟩ := hq2 r2 I2 L2 R2 hq
  refine lv_istore (lv' := (7, .int r2) :: (6, .int r1) :: bL b bs i) hx hb (dg d4 (i := 1) rfl) hl6 (by decide) rfl (fun ls hl7 => ?_)
  exact l_tlB X hW hS hR hn hl7 d5 ht e1 e2 ⟨hc1, hs1⟩ (fun H3 locs3 hW hS => kk I2 L2 R2 H3 locs3 ls hLS hW hS (lv_sub hl7 [2, 3, 4, 5, 6, 7] rfl))
abbrev DpB2 (a : Nat) (i1 i2 : Nat) (off : Int) : Prop := DQ [(a, .aload_n 1, 1)] ∧ DQ (lscR (a + 1) 1) ∧ DQ (lscR (a + 7) 2) ∧ DQ [(a + 13, .aload_n 3, 1), (a + 14, .invokestatic i1, 3), (a + 17, .istore 6, 2), (a + 19, .aload_n 2, 1)] ∧ DQ (lscR (a + 20) 1) ∧ DQ (lscR (a + 26) 2) ∧ DQ [(a + 32, .invokevirtual i2, 3), (a + 35, .istore 7, 2)] ∧ DQ (ltlB (a + 37) off)
set_option maxHeartbeats 400000 in
set_option maxRecDepth 100000 in
theorem pB2 {i1 i2 : Nat} {off : Int} (hD : DpB2 a i1 i2 off) (ht : ((a + 37 + 28 : Nat) : Int) + off = (3351 : Nat)) (X : LX p s m args c G bs cy b N xs) (hR : RmOK Rm n) (hW : Wd G bs cy I L R H) (hS : va_S (Aq bs) s.heap H locs) (hl : lv_has ls 9 (bL b bs i)) (hi : i + 6 ≤ N) {μ1 μ2 : MI} {tab : List (Nat × Nat × Nat × Nat)} {n1 n2 mc ms : Nat} (hSt : StB l G bs cy I L R μ1 tab n1 mc ms [.int (xs (i + 1)), .int (xs (i + 2))] μ2 n2) (hu1 : UW μ1 tab 4) (hl1 : Cond.methodLink RL i1 μ1.1 ∈ wsL_law) (hu2 : UV μ2 RX12 2) (hl2 : Cond.methodLink RL i2 μ2.1 ∈ wsL_law) (hn1 : n1 + 1 ≤ n) (hn2 : n2 + 1 ≤ n) (hn : 2 ≤ n) (hc1 : cells + mc ≤ Rm.cells) (hs1 : slots + ms ≤ Rm.slots)
    (kk : LGo p l e Rm s m args below meth c (cells + mc) (slots + ms) Q G bs cy b i) : LGoal p l e Rm s m args below meth c H locs cells slots Q a ls := by
  obtain ⟨X9, hX, hbl, hbb, hnc, hN⟩ := id X
  have hx := X9.1
  have hb := X9.2.1
  obtain ⟨d0, d1, d2, d3, d4, d5, d6, d7⟩ := hD
  obtain ⟨Q1, hM1, hq1⟩ := hSt
  refine lv_aload_n hx hb (dg d0 (i := 0) rfl) rfl (lv_at hl 1 rfl) ?_
  refine l_sc X hS hl d1 (j := 1) rfl (by omega) ?_
  refine l_sc X hS hl d2 (j := 2) rfl (by omega) ?_
  refine lv_aload_n hx hb (dg d3 (i := 0) rfl) rfl (lv_at hl 3 rfl) ?_
  refine callLn (rest := []) (As := .ref (bs + 0) :: ([.int (xs (i + 1)), .int (xs (i + 2))] ++ [.ref (bs + 86)])) X9 hnc hW hS hR hM1 hn1 hu1 hl1 rfl rfl (Nat.zero_le _) hl hc1 hs1 (dg d3 (i := 1) rfl) (fun r1 I1 L1 R1 H1 locs1 hq hW hS => ?_)
  obtain ⟨Q2, hM2, hq2⟩ := hq1 r1 I1 L1 R1 hq
  refine lv_istore (lv' := (6, .int r1) :: bL b bs i) hx hb (dg d3 (i := 2) rfl) hl (by decide) rfl (fun ls hl6 => ?_)
  have hl : lv_has ls 9 (bL b bs i) := lv_sub hl6 [1, 2, 3, 4, 5, 6] rfl
  refine lv_aload_n hx hb (dg d3 (i := 3) rfl) rfl (lv_at hl 2 rfl) ?_
  refine l_sc X hS hl d4 (j := 1) rfl (by omega) ?_
  refine l_sc X hS hl d5 (j := 2) rfl (by omega) ?_
  refine callVi (k := 67) (rest := []) (As := [.int (xs (i + 1)), .int (xs (i + 2))]) X9 hW hS hR hM2 hn2 hu2 hl2 rfl (by decide) rfl rfl rfl (Nat.zero_le _) hl ⟨hc1, hs1⟩ (dg d6 (i := 0) rfl) (fun r2 I2 L2 R2 H2 locs2 hq hW hS => ?_)
  obtain ⟨e1, e2, hLS⟩ := hq2 r2 I2 L2 R2 hq
  refine lv_istore (lv' := (7, .int r2) :: (6, .int r1) :: bL b bs i) hx hb (dg d6 (i := 1) rfl) hl6 (by decide) rfl (fun ls hl7 => ?_)
  exact l_tlB X hW hS hR hn hl7 d7 ht e1 e2 ⟨hc1, hs1⟩ (fun H3 locs3 hW hS => kk I2 L2 R2 H3 locs3 ls hLS hW hS (lv_sub hl7 [2, 3, 4, 5, 6, 7] rfl))
abbrev DpB3 (a : Nat) (i1 i2 : Nat) (off : Int) : Prop := DQ [(a, .aload_n 1, 1)] ∧ DQ (lscR (a + 1) 1) ∧ DQ (lscR (a + 7) 2) ∧ DQ (lscR (a + 13) 3) ∧ DQ [(a + 19, .aload_n 3, 1), (a + 20, .invokestatic i1, 3), (a + 23, .istore 6, 2), (a + 25, .aload_n 2, 1)] ∧ DQ (lscR (a + 26) 1) ∧ DQ (lscR (a + 32) 2) ∧ DQ (lscR (a + 38) 3) ∧ DQ [(a + 44, .invokevirtual i2, 3), (a + 47, .istore 7, 2)] ∧ DQ (ltlB (a + 49) off)
set_option maxHeartbeats 400000 in
set_option maxRecDepth 100000 in
theorem pB3 {i1 i2 : Nat} {off : Int} (hD : DpB3 a i1 i2 off) (ht : ((a + 49 + 28 : Nat) : Int) + off = (3351 : Nat)) (X : LX p s m args c G bs cy b N xs) (hR : RmOK Rm n) (hW : Wd G bs cy I L R H) (hS : va_S (Aq bs) s.heap H locs) (hl : lv_has ls 9 (bL b bs i)) (hi : i + 6 ≤ N) {μ1 μ2 : MI} {tab : List (Nat × Nat × Nat × Nat)} {n1 n2 mc ms : Nat} (hSt : StB l G bs cy I L R μ1 tab n1 mc ms [.int (xs (i + 1)), .int (xs (i + 2)), .int (xs (i + 3))] μ2 n2) (hu1 : UW μ1 tab 5) (hl1 : Cond.methodLink RL i1 μ1.1 ∈ wsL_law) (hu2 : UV μ2 RX12 3) (hl2 : Cond.methodLink RL i2 μ2.1 ∈ wsL_law) (hn1 : n1 + 1 ≤ n) (hn2 : n2 + 1 ≤ n) (hn : 2 ≤ n) (hc1 : cells + mc ≤ Rm.cells) (hs1 : slots + ms ≤ Rm.slots)
    (kk : LGo p l e Rm s m args below meth c (cells + mc) (slots + ms) Q G bs cy b i) : LGoal p l e Rm s m args below meth c H locs cells slots Q a ls := by
  obtain ⟨X9, hX, hbl, hbb, hnc, hN⟩ := id X
  have hx := X9.1
  have hb := X9.2.1
  obtain ⟨d0, d1, d2, d3, d4, d5, d6, d7, d8, d9⟩ := hD
  obtain ⟨Q1, hM1, hq1⟩ := hSt
  refine lv_aload_n hx hb (dg d0 (i := 0) rfl) rfl (lv_at hl 1 rfl) ?_
  refine l_sc X hS hl d1 (j := 1) rfl (by omega) ?_
  refine l_sc X hS hl d2 (j := 2) rfl (by omega) ?_
  refine l_sc X hS hl d3 (j := 3) rfl (by omega) ?_
  refine lv_aload_n hx hb (dg d4 (i := 0) rfl) rfl (lv_at hl 3 rfl) ?_
  refine callLn (rest := []) (As := .ref (bs + 0) :: ([.int (xs (i + 1)), .int (xs (i + 2)), .int (xs (i + 3))] ++ [.ref (bs + 86)])) X9 hnc hW hS hR hM1 hn1 hu1 hl1 rfl rfl (Nat.zero_le _) hl hc1 hs1 (dg d4 (i := 1) rfl) (fun r1 I1 L1 R1 H1 locs1 hq hW hS => ?_)
  obtain ⟨Q2, hM2, hq2⟩ := hq1 r1 I1 L1 R1 hq
  refine lv_istore (lv' := (6, .int r1) :: bL b bs i) hx hb (dg d4 (i := 2) rfl) hl (by decide) rfl (fun ls hl6 => ?_)
  have hl : lv_has ls 9 (bL b bs i) := lv_sub hl6 [1, 2, 3, 4, 5, 6] rfl
  refine lv_aload_n hx hb (dg d4 (i := 3) rfl) rfl (lv_at hl 2 rfl) ?_
  refine l_sc X hS hl d5 (j := 1) rfl (by omega) ?_
  refine l_sc X hS hl d6 (j := 2) rfl (by omega) ?_
  refine l_sc X hS hl d7 (j := 3) rfl (by omega) ?_
  refine callVi (k := 67) (rest := []) (As := [.int (xs (i + 1)), .int (xs (i + 2)), .int (xs (i + 3))]) X9 hW hS hR hM2 hn2 hu2 hl2 rfl (by decide) rfl rfl rfl (Nat.zero_le _) hl ⟨hc1, hs1⟩ (dg d8 (i := 0) rfl) (fun r2 I2 L2 R2 H2 locs2 hq hW hS => ?_)
  obtain ⟨e1, e2, hLS⟩ := hq2 r2 I2 L2 R2 hq
  refine lv_istore (lv' := (7, .int r2) :: (6, .int r1) :: bL b bs i) hx hb (dg d8 (i := 1) rfl) hl6 (by decide) rfl (fun ls hl7 => ?_)
  exact l_tlB X hW hS hR hn hl7 d9 ht e1 e2 ⟨hc1, hs1⟩ (fun H3 locs3 hW hS => kk I2 L2 R2 H3 locs3 ls hLS hW hS (lv_sub hl7 [2, 3, 4, 5, 6, 7] rfl))
abbrev DpBz (a : Nat) (i1 i2 : Nat) (off : Int) : Prop := DQ [(a, .aload_n 1, 1)] ∧ DQ (lscR (a + 1) 1) ∧ DQ (lscR (a + 7) 2) ∧ DQ (lscR (a + 13) 3) ∧ DQ (lbzR (a + 19)) ∧ DQ [(a + 27, .aload_n 3, 1), (a + 28, .invokestatic i1, 3), (a + 31, .istore 6, 2), (a + 33, .aload_n 2, 1)] ∧ DQ (lscR (a + 34) 1) ∧ DQ (lscR (a + 40) 2) ∧ DQ (lscR (a + 46) 3) ∧ DQ (lbzR (a + 52)) ∧ DQ [(a + 60, .invokevirtual i2, 3), (a + 63, .istore 7, 2)] ∧ DQ (ltlB (a + 65) off)
set_option maxHeartbeats 400000 in
set_option maxRecDepth 100000 in
theorem pBz {i1 i2 : Nat} {off : Int} (hD : DpBz a i1 i2 off) (ht : ((a + 65 + 28 : Nat) : Int) + off = (3351 : Nat)) (X : LX p s m args c G bs cy b N xs) (hR : RmOK Rm n) (hW : Wd G bs cy I L R H) (hS : va_S (Aq bs) s.heap H locs) (hl : lv_has ls 9 (bL b bs i)) (hi : i + 6 ≤ N) {μ1 μ2 : MI} {tab : List (Nat × Nat × Nat × Nat)} {n1 n2 mc ms : Nat} (hSt : StB l G bs cy I L R μ1 tab n1 mc ms [.int (xs (i + 1)), .int (xs (i + 2)), .int (bI (decide (xs (i + 3) ≠ 0)))] μ2 n2) (hu1 : UW μ1 tab 5) (hl1 : Cond.methodLink RL i1 μ1.1 ∈ wsL_law) (hu2 : UV μ2 RX12 3) (hl2 : Cond.methodLink RL i2 μ2.1 ∈ wsL_law) (hn1 : n1 + 1 ≤ n) (hn2 : n2 + 1 ≤ n) (hn : 2 ≤ n) (hc1 : cells + mc ≤ Rm.cells) (hs1 : slots + ms ≤ Rm.slots)
    (kk : LGo p l e Rm s m args below meth c (cells + mc) (slots + ms) Q G bs cy b i) : LGoal p l e Rm s m args below meth c H locs cells slots Q a ls := by
  obtain ⟨X9, hX, hbl, hbb, hnc, hN⟩ := id X
  have hx := X9.1
  have hb := X9.2.1
  obtain ⟨d0, d1, d2, d3, d4, d5, d6, d7, d8, d9, d10, d11⟩ := hD
  obtain ⟨Q1, hM1, hq1⟩ := hSt
  refine lv_aload_n hx hb (dg d0 (i := 0) rfl) rfl (lv_at hl 1 rfl) ?_
  refine l_sc X hS hl d1 (j := 1) rfl (by omega) ?_
  refine l_sc X hS hl d2 (j := 2) rfl (by omega) ?_
  refine l_sc X hS hl d3 (j := 3) rfl (by omega) ?_
  refine l_bz hx hb d4 ?_
  refine lv_aload_n hx hb (dg d5 (i := 0) rfl) rfl (lv_at hl 3 rfl) ?_
  refine callLn (rest := []) (As := .ref (bs + 0) :: ([.int (xs (i + 1)), .int (xs (i + 2)), .int (bI (decide (xs (i + 3) ≠ 0)))] ++ [.ref (bs + 86)])) X9 hnc hW hS hR hM1 hn1 hu1 hl1 rfl rfl (Nat.zero_le _) hl hc1 hs1 (dg d5 (i := 1) rfl) (fun r1 I1 L1 R1 H1 locs1 hq hW hS => ?_)
  obtain ⟨Q2, hM2, hq2⟩ := hq1 r1 I1 L1 R1 hq
  refine lv_istore (lv' := (6, .int r1) :: bL b bs i) hx hb (dg d5 (i := 2) rfl) hl (by decide) rfl (fun ls hl6 => ?_)
  have hl : lv_has ls 9 (bL b bs i) := lv_sub hl6 [1, 2, 3, 4, 5, 6] rfl
  refine lv_aload_n hx hb (dg d5 (i := 3) rfl) rfl (lv_at hl 2 rfl) ?_
  refine l_sc X hS hl d6 (j := 1) rfl (by omega) ?_
  refine l_sc X hS hl d7 (j := 2) rfl (by omega) ?_
  refine l_sc X hS hl d8 (j := 3) rfl (by omega) ?_
  refine l_bz hx hb d9 ?_
  refine callVi (k := 67) (rest := []) (As := [.int (xs (i + 1)), .int (xs (i + 2)), .int (bI (decide (xs (i + 3) ≠ 0)))]) X9 hW hS hR hM2 hn2 hu2 hl2 rfl (by decide) rfl rfl rfl (Nat.zero_le _) hl ⟨hc1, hs1⟩ (dg d10 (i := 0) rfl) (fun r2 I2 L2 R2 H2 locs2 hq hW hS => ?_)
  obtain ⟨e1, e2, hLS⟩ := hq2 r2 I2 L2 R2 hq
  refine lv_istore (lv' := (7, .int r2) :: (6, .int r1) :: bL b bs i) hx hb (dg d10 (i := 1) rfl) hl6 (by decide) rfl (fun ls hl7 => ?_)
  exact l_tlB X hW hS hR hn hl7 d11 ht e1 e2 ⟨hc1, hs1⟩ (fun H3 locs3 hW hS => kk I2 L2 R2 H3 locs3 ls hLS hW hS (lv_sub hl7 [2, 3, 4, 5, 6, 7] rfl))
end LP
