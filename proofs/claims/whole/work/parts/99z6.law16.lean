/-! the law's loop -/
theorem DH_law : DQ [(28, .iload 5, 2), (30, .aload_n 0, 1), (31, .arraylength, 1), (32, .bipush 6, 2), (34, .isub, 1), (35, .if_icmp .gt 3322, 3), (38, .aload_n 0, 1), (39, .iload 5, 2), (41, .iaload, 1), (42, .bipush 63, 2), (44, .iand, 1)] := by decide +kernel
def tbO : Array Int := #[271, 344, 400, 413, 426, 494, 562, 630, 686, 699, 755, 811, 888, 944, 1000, 1056, 1124, 1180, 1248, 1316, 1384, 1452, 1508, 1564, 1577, 1645, 1713, 1769, 1825, 1838, 1851, 1864, 1920, 1933, 1946, 2026, 2094, 2150, 2206, 2262, 2318, 2374, 2454, 2522, 2602, 2682, 2750, 2806, 2902, 2970, 3038, 3051, 3064, 3077, 3090, 3103, 3116, 3172, 3185, 3198, 3211, 3224, 3237, 3250]
theorem DT_law : decode cL_law 45 = .ok (.tableswitch 3306 0 63 tbO, 271) := by decide +kernel
theorem DE_law : DQ [(3351, .iinc 5 6, 3), (3354, .goto (-3326), 3), (3357, .iconst 1, 1), (3358, .ireturn, 1)] := by decide +kernel
theorem tb_at : ∀ k, k < 64 → tbO[k]? = some ((tgL.getD k 0 : Int) - 45) := by decide +kernel
theorem l_63 (x : Int32) : ∃ k, k < 64 ∧ x &&& nI 63 = nI k := by
  refine ⟨(x.toBitVec &&& 63#32).toNat, ?_, ?_⟩
  · rw [BitVec.toNat_and]
    exact Nat.lt_succ_of_le Nat.and_le_right
  · apply Int32.toBitVec_inj.mp
    rw [Int32.toBitVec_and]
    show x.toBitVec &&& 63#32 = BitVec.ofNat 32 _
    rw [BitVec.ofNat_toNat, BitVec.setWidth_eq]
theorem l_neg : ∀ N, N < 6 → (nI N - nI 6).toInt < 0 := by decide
theorem l_gt {N i : Nat} (hN : N ≤ 3072) (hi : i ≤ 4000) : nI N - nI 6 < nI i ↔ N < i + 6 := by
  rcases Nat.lt_or_ge N 6 with h | h
  · have h1 := l_neg N h
    rw [Int32.lt_iff_toInt_lt, nI_toInt (n := i) (by omega)]
    constructor <;> intro _ <;> omega
  · rw [nI_sub h, nI_ltI (by omega) (by omega)]
    omega
section LL
variable {p : Program} {l : Launch} {e : Env} {Rm : Room} {s : State} {m : MethodId} {args : Array Value} {below : List Frame} {meth : Method} {c : Code} {Q : State → Prop}
variable {G : va_G} {bs : Nat} {cy : Nat → ClassId} {b N n : Nat} {xs : Nat → Int32}
set_option maxHeartbeats 400000 in
set_option maxRecDepth 100000 in
theorem law_loop (X : LX p s m args c G bs cy b N xs) (hR : RmOK Rm n) (hn : 24 ≤ n) (hl0 : l.stackTraces = false)
    (fin : ∀ (H : Heap) (locs : List Loc) (cells slots : Nat) (ls : Array Slot), va_S (Aq bs) s.heap H locs → cells ≤ Rm.cells → slots ≤ Rm.slots → W p l e Rm s m args below meth c H locs cells slots Q (F0 m 3358 ls [.int (nI 1)])) :
    ∀ (d i : Nat) (I : CI) (L : CL) (R : CR) (H : Heap) (locs : List Loc) (cells slots : Nat) (ls : Array Slot), N < i + 6 * (d + 1) → i ≤ N → LSt I R → Wd G bs cy I L R H → va_S (Aq bs) s.heap H locs → lv_has ls 9 (bL b bs i) → cells + 3 * d ≤ Rm.cells → slots + 18 * d ≤ Rm.slots → W p l e Rm s m args below meth c H locs cells slots Q (F0 m 28 ls []) := by
  obtain ⟨X9, hX, hbl, hbb, hnc, hN⟩ := id X
  have hx := X9.1
  have hb := X9.2.1
  intro d
  induction d with
  | zero =>
    intro i I L R H locs cells slots ls hd hi hLS hW hS hl hc hs
    refine lv_iload hx hb (dg DH_law (i := 0) rfl) (lv_at hl 5 rfl) ?_
    refine lv_aload_n hx hb (dg DH_law (i := 1) rfl) rfl (lv_at hl 0 rfl) ?_
    refine va_slen hx hb hX hbl (Nat.not_le.mpr hbb) hS (dg DH_law (i := 2) rfl) ?_
    refine lv_bipush (v := nI 6) hx hb (dg DH_law (i := 3) rfl) (by decide) ?_
    refine lv_isub hx hb (dg DH_law (i := 4) rfl) ?_
    refine lv_icmp_gt (tgt := 3357) hx hb (dg DH_law (i := 5) rfl) (by decide) (fun _ => ?_) (fun h => absurd ((l_gt hN (by omega)).mpr (by omega)) h)
    refine n_iconst (a := 1) hx hb (dg DE_law (i := 2) rfl) rfl ?_
    exact fin H locs cells slots ls hS (by omega) (by omega)
  | succ d ih =>
    intro i I L R H locs cells slots ls hd hi hLS hW hS hl hc hs
    refine lv_iload hx hb (dg DH_law (i := 0) rfl) (lv_at hl 5 rfl) ?_
    refine lv_aload_n hx hb (dg DH_law (i := 1) rfl) rfl (lv_at hl 0 rfl) ?_
    refine va_slen hx hb hX hbl (Nat.not_le.mpr hbb) hS (dg DH_law (i := 2) rfl) ?_
    refine lv_bipush (v := nI 6) hx hb (dg DH_law (i := 3) rfl) (by decide) ?_
    refine lv_isub hx hb (dg DH_law (i := 4) rfl) ?_
    refine lv_icmp_gt (tgt := 3357) hx hb (dg DH_law (i := 5) rfl) (by decide) (fun _ => ?_) (fun h => ?_)
    · refine n_iconst (a := 1) hx hb (dg DE_law (i := 2) rfl) rfl ?_
      exact fin H locs cells slots ls hS (by omega) (by omega)
    · have hi6 : i + 6 ≤ N := by
        rcases Nat.lt_or_ge N (i + 6) with q | q
        · exact absurd ((l_gt hN (by omega)).mpr q) h
        · exact q
      refine lv_aload_n hx hb (dg DH_law (i := 6) rfl) rfl (lv_at hl 0 rfl) ?_
      refine lv_iload hx hb (dg DH_law (i := 7) rfl) (lv_at hl 5 rfl) ?_
      refine va_sld hx hb hX hbl (Nat.not_le.mpr hbb) hS (vp_in_nI (show i < N by omega) (by omega)) (dg DH_law (i := 8) rfl) ?_
      refine lv_bipush (v := nI 63) hx hb (dg DH_law (i := 9) rfl) (by decide) ?_
      refine lv_iand hx hb (dg DH_law (i := 10) rfl) ?_
      obtain ⟨k, hk, ek⟩ := l_63 (xs (nI i).toNatClampNeg)
      rw [ek]
      have tk : (nI k).toInt = (k : Int) := nI_toInt (by omega)
      refine lv_tableIn (off := (tgL.getD k 0 : Int) - 45) (tgt := tgL.getD k 0) hx hb DT_law (by rw [tk]; omega) (by rw [tk]; omega) (by rw [tk, show ((k : Int) - 0).toNat = k by omega]; exact tb_at k hk) (by show ((45 : Nat) : Int) + ((tgL.getD k 0 : Int) - 45) = _; omega) ?_
      refine cs_all X hR hn hl0 hLS hW hS hl hi6 (by omega) (by omega) (fun I1 L1 R1 H1 locs1 ls1 g1 g2 g3 g4 => ?_) k hk
      refine lv_iinc (v := nI (i + 6)) (lv' := [(5, .int (nI (i + 6))), (0, .ref b), (1, .ref (bs + 0)), (2, .ref (bs + 67)), (3, .ref (bs + 86)), (4, .ref (bs + 87))]) hx hb (dg DE_law (i := 0) rfl) g4 (k := 5) rfl (nI_add i 6) (by decide) rfl (fun ls hl => ?_)
      refine lv_goto (tgt := 28) hx hb (dg DE_law (i := 1) rfl) (by decide) ?_
      exact ih (i + 6) I1 L1 R1 H1 locs1 (cells + 3) (slots + 18) ls (by omega) hi6 g1 g2 g3 (lv_sub hl [1, 2, 3, 4, 5, 0] rfl) (by omega) (by omega)
end LL
