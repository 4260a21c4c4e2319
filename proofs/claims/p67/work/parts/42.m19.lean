set_option maxHeartbeats 4000000 in
set_option maxRecDepth 100000 in
theorem c_J6_bitCount_0f7a4 {l : Launch} {G : va_G} {bs : Nat} {cy : Nat → ClassId} {I : CI} {L : CL} {R : CR} (k : Nat) (hk : k < 32) : MTi l G bs cy MJ6_bitCount_0f7a4 1 [.int ((nI k))] I L R (fun r I1 L1 R1 => cnt16 (nI k) = r ∧ I = I1 ∧ L = L1 ∧ R = R1) := by
  refine MTi.of (own := RJ6) pn_RJ6 rfl (Nat.le_of_ble_eq_true rfl) ?_
  intro p e s m args below meth c Qf X hW hS fin ls hl
  have hx := X.1
  have hb := X.2.1
  have hR : RmOK (rmL 1 0 0) 1 := ⟨rfl, rfl⟩
  have hcs : 0 ≤ (rmL 1 0 0).cells ∧ 0 ≤ (rmL 1 0 0).slots := ⟨Nat.zero_le _, Nat.zero_le _⟩
  have hl : lv_has ls 1 [(0, .int ((nI k)))] := hl
  refine lv_iload_n hx hb (dg D_J6_bitCount_0f7a4 (i := 0) rfl) rfl (lv_at hl 0 rfl) ?_
  refine lv_iload_n hx hb (dg D_J6_bitCount_0f7a4 (i := 1) rfl) rfl (lv_at hl 0 rfl) ?_
  refine n_iconst (a := 1) hx hb (dg D_J6_bitCount_0f7a4 (i := 2) rfl) rfl ?_
  refine lv_iushr (v := (((nI k)).toUInt32 >>> ((nI 1).toUInt32 &&& Int32.toUInt32 31)).toInt32) hx hb (dg D_J6_bitCount_0f7a4 (i := 3) rfl) rfl ?_
  refine r_ldcw X CK_J6_265 (dg D_J6_bitCount_0f7a4 (i := 4) rfl) ?_
  refine lv_iand hx hb (dg D_J6_bitCount_0f7a4 (i := 5) rfl) ?_
  refine lv_isub hx hb (dg D_J6_bitCount_0f7a4 (i := 6) rfl) ?_
  refine lv_istore_n (lv' := [(0, .int (((nI k)) - (((((nI k)).toUInt32 >>> ((nI 1).toUInt32 &&& Int32.toUInt32 31)).toInt32) &&& ((1431655765)))))]) hx hb (dg D_J6_bitCount_0f7a4 (i := 7) rfl) rfl hl (by decide) rfl (fun ls hl => ?_)
  refine lv_iload_n hx hb (dg D_J6_bitCount_0f7a4 (i := 8) rfl) rfl (lv_at hl 0 rfl) ?_
  refine r_ldcw X CK_J6_266 (dg D_J6_bitCount_0f7a4 (i := 9) rfl) ?_
  refine lv_iand hx hb (dg D_J6_bitCount_0f7a4 (i := 10) rfl) ?_
  refine lv_iload_n hx hb (dg D_J6_bitCount_0f7a4 (i := 11) rfl) rfl (lv_at hl 0 rfl) ?_
  refine n_iconst (a := 2) hx hb (dg D_J6_bitCount_0f7a4 (i := 12) rfl) rfl ?_
  refine lv_iushr (v := ((((nI k)) - (((((nI k)).toUInt32 >>> ((nI 1).toUInt32 &&& Int32.toUInt32 31)).toInt32) &&& ((1431655765)))).toUInt32 >>> ((nI 2).toUInt32 &&& Int32.toUInt32 31)).toInt32) hx hb (dg D_J6_bitCount_0f7a4 (i := 13) rfl) rfl ?_
  refine r_ldcw X CK_J6_266 (dg D_J6_bitCount_0f7a4 (i := 14) rfl) ?_
  refine lv_iand hx hb (dg D_J6_bitCount_0f7a4 (i := 15) rfl) ?_
  refine lv_iadd hx hb (dg D_J6_bitCount_0f7a4 (i := 16) rfl) ?_
  refine lv_istore_n (lv' := [(0, .int (((((nI k)) - (((((nI k)).toUInt32 >>> ((nI 1).toUInt32 &&& Int32.toUInt32 31)).toInt32) &&& ((1431655765)))) &&& ((858993459))) + ((((((nI k)) - (((((nI k)).toUInt32 >>> ((nI 1).toUInt32 &&& Int32.toUInt32 31)).toInt32) &&& ((1431655765)))).toUInt32 >>> ((nI 2).toUInt32 &&& Int32.toUInt32 31)).toInt32) &&& ((858993459)))))]) hx hb (dg D_J6_bitCount_0f7a4 (i := 17) rfl) rfl hl (by decide) rfl (fun ls hl => ?_)
  refine lv_iload_n hx hb (dg D_J6_bitCount_0f7a4 (i := 18) rfl) rfl (lv_at hl 0 rfl) ?_
  refine lv_iload_n hx hb (dg D_J6_bitCount_0f7a4 (i := 19) rfl) rfl (lv_at hl 0 rfl) ?_
  refine n_iconst (a := 4) hx hb (dg D_J6_bitCount_0f7a4 (i := 20) rfl) rfl ?_
  refine lv_iushr (v := ((((((nI k)) - (((((nI k)).toUInt32 >>> ((nI 1).toUInt32 &&& Int32.toUInt32 31)).toInt32) &&& ((1431655765)))) &&& ((858993459))) + ((((((nI k)) - (((((nI k)).toUInt32 >>> ((nI 1).toUInt32 &&& Int32.toUInt32 31)).toInt32) &&& ((1431655765)))).toUInt32 >>> ((nI 2).toUInt32 &&& Int32.toUInt32 31)).toInt32) &&& ((858993459)))).toUInt32 >>> ((nI 4).toUInt32 &&& Int32.toUInt32 31)).toInt32) hx hb (dg D_J6_bitCount_0f7a4 (i := 21) rfl) rfl ?_
  refine lv_iadd hx hb (dg D_J6_bitCount_0f7a4 (i := 22) rfl) ?_
  refine r_ldcw X CK_J6_267 (dg D_J6_bitCount_0f7a4 (i := 23) rfl) ?_
  refine lv_iand hx hb (dg D_J6_bitCount_0f7a4 (i := 24) rfl) ?_
  refine lv_istore_n (lv' := [(0, .int (((((((nI k)) - (((((nI k)).toUInt32 >>> ((nI 1).toUInt32 &&& Int32.toUInt32 31)).toInt32) &&& ((1431655765)))) &&& ((858993459))) + ((((((nI k)) - (((((nI k)).toUInt32 >>> ((nI 1).toUInt32 &&& Int32.toUInt32 31)).toInt32) &&& ((1431655765)))).toUInt32 >>> ((nI 2).toUInt32 &&& Int32.toUInt32 31)).toInt32) &&& ((858993459)))) + (((((((nI k)) - (((((nI k)).toUInt32 >>> ((nI 1).toUInt32 &&& Int32.toUInt32 31)).toInt32) &&& ((1431655765)))) &&& ((858993459))) + ((((((nI k)) - (((((nI k)).toUInt32 >>> ((nI 1).toUInt32 &&& Int32.toUInt32 31)).toInt32) &&& ((1431655765)))).toUInt32 >>> ((nI 2).toUInt32 &&& Int32.toUInt32 31)).toInt32) &&& ((858993459)))).toUInt32 >>> ((nI 4).toUInt32 &&& Int32.toUInt32 31)).toInt32)) &&& ((252645135))))]) hx hb (dg D_J6_bitCount_0f7a4 (i := 25) rfl) rfl hl (by decide) rfl (fun ls hl => ?_)
  refine lv_iload_n hx hb (dg D_J6_bitCount_0f7a4 (i := 26) rfl) rfl (lv_at hl 0 rfl) ?_
  refine lv_iload_n hx hb (dg D_J6_bitCount_0f7a4 (i := 27) rfl) rfl (lv_at hl 0 rfl) ?_
  refine lv_bipush (v := nI 8) hx hb (dg D_J6_bitCount_0f7a4 (i := 28) rfl) (by decide) ?_
  refine lv_iushr (v := ((((((((nI k)) - (((((nI k)).toUInt32 >>> ((nI 1).toUInt32 &&& Int32.toUInt32 31)).toInt32) &&& ((1431655765)))) &&& ((858993459))) + ((((((nI k)) - (((((nI k)).toUInt32 >>> ((nI 1).toUInt32 &&& Int32.toUInt32 31)).toInt32) &&& ((1431655765)))).toUInt32 >>> ((nI 2).toUInt32 &&& Int32.toUInt32 31)).toInt32) &&& ((858993459)))) + (((((((nI k)) - (((((nI k)).toUInt32 >>> ((nI 1).toUInt32 &&& Int32.toUInt32 31)).toInt32) &&& ((1431655765)))) &&& ((858993459))) + ((((((nI k)) - (((((nI k)).toUInt32 >>> ((nI 1).toUInt32 &&& Int32.toUInt32 31)).toInt32) &&& ((1431655765)))).toUInt32 >>> ((nI 2).toUInt32 &&& Int32.toUInt32 31)).toInt32) &&& ((858993459)))).toUInt32 >>> ((nI 4).toUInt32 &&& Int32.toUInt32 31)).toInt32)) &&& ((252645135))).toUInt32 >>> ((nI 8).toUInt32 &&& Int32.toUInt32 31)).toInt32) hx hb (dg D_J6_bitCount_0f7a4 (i := 29) rfl) rfl ?_
  refine lv_iadd hx hb (dg D_J6_bitCount_0f7a4 (i := 30) rfl) ?_
  refine lv_istore_n (lv' := [(0, .int ((((((((nI k)) - (((((nI k)).toUInt32 >>> ((nI 1).toUInt32 &&& Int32.toUInt32 31)).toInt32) &&& ((1431655765)))) &&& ((858993459))) + ((((((nI k)) - (((((nI k)).toUInt32 >>> ((nI 1).toUInt32 &&& Int32.toUInt32 31)).toInt32) &&& ((1431655765)))).toUInt32 >>> ((nI 2).toUInt32 &&& Int32.toUInt32 31)).toInt32) &&& ((858993459)))) + (((((((nI k)) - (((((nI k)).toUInt32 >>> ((nI 1).toUInt32 &&& Int32.toUInt32 31)).toInt32) &&& ((1431655765)))) &&& ((858993459))) + ((((((nI k)) - (((((nI k)).toUInt32 >>> ((nI 1).toUInt32 &&& Int32.toUInt32 31)).toInt32) &&& ((1431655765)))).toUInt32 >>> ((nI 2).toUInt32 &&& Int32.toUInt32 31)).toInt32) &&& ((858993459)))).toUInt32 >>> ((nI 4).toUInt32 &&& Int32.toUInt32 31)).toInt32)) &&& ((252645135))) + (((((((((nI k)) - (((((nI k)).toUInt32 >>> ((nI 1).toUInt32 &&& Int32.toUInt32 31)).toInt32) &&& ((1431655765)))) &&& ((858993459))) + ((((((nI k)) - (((((nI k)).toUInt32 >>> ((nI 1).toUInt32 &&& Int32.toUInt32 31)).toInt32) &&& ((1431655765)))).toUInt32 >>> ((nI 2).toUInt32 &&& Int32.toUInt32 31)).toInt32) &&& ((858993459)))) + (((((((nI k)) - (((((nI k)).toUInt32 >>> ((nI 1).toUInt32 &&& Int32.toUInt32 31)).toInt32) &&& ((1431655765)))) &&& ((858993459))) + ((((((nI k)) - (((((nI k)).toUInt32 >>> ((nI 1).toUInt32 &&& Int32.toUInt32 31)).toInt32) &&& ((1431655765)))).toUInt32 >>> ((nI 2).toUInt32 &&& Int32.toUInt32 31)).toInt32) &&& ((858993459)))).toUInt32 >>> ((nI 4).toUInt32 &&& Int32.toUInt32 31)).toInt32)) &&& ((252645135))).toUInt32 >>> ((nI 8).toUInt32 &&& Int32.toUInt32 31)).toInt32)))]) hx hb (dg D_J6_bitCount_0f7a4 (i := 31) rfl) rfl hl (by decide) rfl (fun ls hl => ?_)
  refine lv_iload_n hx hb (dg D_J6_bitCount_0f7a4 (i := 32) rfl) rfl (lv_at hl 0 rfl) ?_
  refine lv_iload_n hx hb (dg D_J6_bitCount_0f7a4 (i := 33) rfl) rfl (lv_at hl 0 rfl) ?_
  refine lv_bipush (v := nI 16) hx hb (dg D_J6_bitCount_0f7a4 (i := 34) rfl) (by decide) ?_
  refine lv_iushr (v := (((((((((nI k)) - (((((nI k)).toUInt32 >>> ((nI 1).toUInt32 &&& Int32.toUInt32 31)).toInt32) &&& ((1431655765)))) &&& ((858993459))) + ((((((nI k)) - (((((nI k)).toUInt32 >>> ((nI 1).toUInt32 &&& Int32.toUInt32 31)).toInt32) &&& ((1431655765)))).toUInt32 >>> ((nI 2).toUInt32 &&& Int32.toUInt32 31)).toInt32) &&& ((858993459)))) + (((((((nI k)) - (((((nI k)).toUInt32 >>> ((nI 1).toUInt32 &&& Int32.toUInt32 31)).toInt32) &&& ((1431655765)))) &&& ((858993459))) + ((((((nI k)) - (((((nI k)).toUInt32 >>> ((nI 1).toUInt32 &&& Int32.toUInt32 31)).toInt32) &&& ((1431655765)))).toUInt32 >>> ((nI 2).toUInt32 &&& Int32.toUInt32 31)).toInt32) &&& ((858993459)))).toUInt32 >>> ((nI 4).toUInt32 &&& Int32.toUInt32 31)).toInt32)) &&& ((252645135))) + (((((((((nI k)) - (((((nI k)).toUInt32 >>> ((nI 1).toUInt32 &&& Int32.toUInt32 31)).toInt32) &&& ((1431655765)))) &&& ((858993459))) + ((((((nI k)) - (((((nI k)).toUInt32 >>> ((nI 1).toUInt32 &&& Int32.toUInt32 31)).toInt32) &&& ((1431655765)))).toUInt32 >>> ((nI 2).toUInt32 &&& Int32.toUInt32 31)).toInt32) &&& ((858993459)))) + (((((((nI k)) - (((((nI k)).toUInt32 >>> ((nI 1).toUInt32 &&& Int32.toUInt32 31)).toInt32) &&& ((1431655765)))) &&& ((858993459))) + ((((((nI k)) - (((((nI k)).toUInt32 >>> ((nI 1).toUInt32 &&& Int32.toUInt32 31)).toInt32) &&& ((1431655765)))).toUInt32 >>> ((nI 2).toUInt32 &&& Int32.toUInt32 31)).toInt32) &&& ((858993459)))).toUInt32 >>> ((nI 4).toUInt32 &&& Int32.toUInt32 31)).toInt32)) &&& ((252645135))).toUInt32 >>> ((nI 8).toUInt32 &&& Int32.toUInt32 31)).toInt32)).toUInt32 >>> ((nI 16).toUInt32 &&& Int32.toUInt32 31)).toInt32) hx hb (dg D_J6_bitCount_0f7a4 (i := 35) rfl) rfl ?_
  refine lv_iadd hx hb (dg D_J6_bitCount_0f7a4 (i := 36) rfl) ?_
  refine lv_istore_n (lv' := [(0, .int (((((((((nI k)) - (((((nI k)).toUInt32 >>> ((nI 1).toUInt32 &&& Int32.toUInt32 31)).toInt32) &&& ((1431655765)))) &&& ((858993459))) + ((((((nI k)) - (((((nI k)).toUInt32 >>> ((nI 1).toUInt32 &&& Int32.toUInt32 31)).toInt32) &&& ((1431655765)))).toUInt32 >>> ((nI 2).toUInt32 &&& Int32.toUInt32 31)).toInt32) &&& ((858993459)))) + (((((((nI k)) - (((((nI k)).toUInt32 >>> ((nI 1).toUInt32 &&& Int32.toUInt32 31)).toInt32) &&& ((1431655765)))) &&& ((858993459))) + ((((((nI k)) - (((((nI k)).toUInt32 >>> ((nI 1).toUInt32 &&& Int32.toUInt32 31)).toInt32) &&& ((1431655765)))).toUInt32 >>> ((nI 2).toUInt32 &&& Int32.toUInt32 31)).toInt32) &&& ((858993459)))).toUInt32 >>> ((nI 4).toUInt32 &&& Int32.toUInt32 31)).toInt32)) &&& ((252645135))) + (((((((((nI k)) - (((((nI k)).toUInt32 >>> ((nI 1).toUInt32 &&& Int32.toUInt32 31)).toInt32) &&& ((1431655765)))) &&& ((858993459))) + ((((((nI k)) - (((((nI k)).toUInt32 >>> ((nI 1).toUInt32 &&& Int32.toUInt32 31)).toInt32) &&& ((1431655765)))).toUInt32 >>> ((nI 2).toUInt32 &&& Int32.toUInt32 31)).toInt32) &&& ((858993459)))) + (((((((nI k)) - (((((nI k)).toUInt32 >>> ((nI 1).toUInt32 &&& Int32.toUInt32 31)).toInt32) &&& ((1431655765)))) &&& ((858993459))) + ((((((nI k)) - (((((nI k)).toUInt32 >>> ((nI 1).toUInt32 &&& Int32.toUInt32 31)).toInt32) &&& ((1431655765)))).toUInt32 >>> ((nI 2).toUInt32 &&& Int32.toUInt32 31)).toInt32) &&& ((858993459)))).toUInt32 >>> ((nI 4).toUInt32 &&& Int32.toUInt32 31)).toInt32)) &&& ((252645135))).toUInt32 >>> ((nI 8).toUInt32 &&& Int32.toUInt32 31)).toInt32)) + ((((((((((nI k)) - (((((nI k)).toUInt32 >>> ((nI 1).toUInt32 &&& Int32.toUInt32 31)).toInt32) &&& ((1431655765)))) &&& ((858993459))) + ((((((nI k)) - (((((nI k)).toUInt32 >>> ((nI 1).toUInt32 &&& Int32.toUInt32 31)).toInt32) &&& ((1431655765)))).toUInt32 >>> ((nI 2).toUInt32 &&& Int32.toUInt32 31)).toInt32) &&& ((858993459)))) + (((((((nI k)) - (((((nI k)).toUInt32 >>> ((nI 1).toUInt32 &&& Int32.toUInt32 31)).toInt32) &&& ((1431655765)))) &&& ((858993459))) + ((((((nI k)) - (((((nI k)).toUInt32 >>> ((nI 1).toUInt32 &&& Int32.toUInt32 31)).toInt32) &&& ((1431655765)))).toUInt32 >>> ((nI 2).toUInt32 &&& Int32.toUInt32 31)).toInt32) &&& ((858993459)))).toUInt32 >>> ((nI 4).toUInt32 &&& Int32.toUInt32 31)).toInt32)) &&& ((252645135))) + (((((((((nI k)) - (((((nI k)).toUInt32 >>> ((nI 1).toUInt32 &&& Int32.toUInt32 31)).toInt32) &&& ((1431655765)))) &&& ((858993459))) + ((((((nI k)) - (((((nI k)).toUInt32 >>> ((nI 1).toUInt32 &&& Int32.toUInt32 31)).toInt32) &&& ((1431655765)))).toUInt32 >>> ((nI 2).toUInt32 &&& Int32.toUInt32 31)).toInt32) &&& ((858993459)))) + (((((((nI k)) - (((((nI k)).toUInt32 >>> ((nI 1).toUInt32 &&& Int32.toUInt32 31)).toInt32) &&& ((1431655765)))) &&& ((858993459))) + ((((((nI k)) - (((((nI k)).toUInt32 >>> ((nI 1).toUInt32 &&& Int32.toUInt32 31)).toInt32) &&& ((1431655765)))).toUInt32 >>> ((nI 2).toUInt32 &&& Int32.toUInt32 31)).toInt32) &&& ((858993459)))).toUInt32 >>> ((nI 4).toUInt32 &&& Int32.toUInt32 31)).toInt32)) &&& ((252645135))).toUInt32 >>> ((nI 8).toUInt32 &&& Int32.toUInt32 31)).toInt32)).toUInt32 >>> ((nI 16).toUInt32 &&& Int32.toUInt32 31)).toInt32)))]) hx hb (dg D_J6_bitCount_0f7a4 (i := 37) rfl) rfl hl (by decide) rfl (fun ls hl => ?_)
  refine lv_iload_n hx hb (dg D_J6_bitCount_0f7a4 (i := 38) rfl) rfl (lv_at hl 0 rfl) ?_
  refine lv_bipush (v := nI 63) hx hb (dg D_J6_bitCount_0f7a4 (i := 39) rfl) (by decide) ?_
  refine lv_iand hx hb (dg D_J6_bitCount_0f7a4 (i := 40) rfl) ?_
  exact fin (dg D_J6_bitCount_0f7a4 (i := 41) rfl) hW hS ⟨(bc_small k hk).symm, rfl, rfl, rfl⟩

set_option maxHeartbeats 4000000 in
set_option maxRecDepth 100000 in
theorem c_J7_fill_53178 {l : Launch} {G : va_G} {bs : Nat} {cy : Nat → ClassId} {I : CI} {L : CL} {R : CR} (a : Nat) (na : Nat) (v : Int32) (ha : shp a = .inr (0, na)) (hNa : a < NC) (hnn : na < 100000) : MTv l G bs cy MJ7_fill_53178 1 [.ref (bs + a), .int v] I L R (fun I1 L1 R1 => Fr (SC a) I I1 ∧ I1 a = flR (I a) v na ∧ L = L1 ∧ R = R1) := by
  refine MTv.of (own := RJ7) pn_RJ7 rfl (Nat.le_of_ble_eq_true rfl) ?_
  intro p e s m args below meth c Qf X hW hS fin ls hl
  have hx := X.1
  have hb := X.2.1
  have hR : RmOK (rmL 1 0 0) 1 := ⟨rfl, rfl⟩
  have hcs : 0 ≤ (rmL 1 0 0).cells ∧ 0 ≤ (rmL 1 0 0).slots := ⟨Nat.zero_le _, Nat.zero_le _⟩
  have hl : lv_has ls 4 [(0, .ref (bs + a)), (1, .int v)] := hl
  have hF : Fr (SC a) I I := Fr.rf
  refine n_iconst (a := 0) hx hb (dg D_J7_fill_53178 (i := 0) rfl) rfl ?_
  refine lv_istore_n (lv' := [(2, .int (nI 0)), (0, .ref (bs + a)), (1, .int v)]) hx hb (dg D_J7_fill_53178 (i := 1) rfl) rfl hl (by decide) rfl (fun ls hl => ?_)
  refine lv_aload_n hx hb (dg D_J7_fill_53178 (i := 2) rfl) rfl (lv_at hl 1 rfl) ?_
  refine r_alen X hW ha (by decide) hNa (dg D_J7_fill_53178 (i := 3) rfl) ?_
  refine lv_istore_n (lv' := [(3, .int (nI na)), (2, .int (nI 0)), (0, .ref (bs + a)), (1, .int v)]) hx hb (dg D_J7_fill_53178 (i := 4) rfl) rfl hl (by decide) rfl (fun ls hl => ?_)
  have loop5 := up_ind (P := fun i => ∀ (K5 : CI) (H : Heap) (locs : List Loc) (ls : Array Slot) (v2 : Int32), v2 = nI i → (Fr (SC a) I K5) → (K5 a = flR (I a) v i) → Wd G bs cy K5 L R H → va_S (Aq bs) s.heap H locs → lv_has ls 4 [(0, .ref (bs + a)), (1, .int v), (2, .int v2), (3, .int (nI na))] → W p l e (rmL 1 0 0) s m args below meth c H locs 0 0 Qf (F0 m 5 ls [])) na (fun i hx5 ih5 => by
      intro K5 H locs ls v2 q2 hF hC hW hS hl
      subst q2
      refine lv_iload_n hx hb (dg D_J7_fill_53178 (i := 5) rfl) rfl (lv_at hl 2 rfl) ?_
      refine lv_iload_n hx hb (dg D_J7_fill_53178 (i := 6) rfl) rfl (lv_at hl 3 rfl) ?_
      refine n_icmp_ge (tgt := 20) hx hb (by omega) (by omega) (dg D_J7_fill_53178 (i := 7) rfl) (by decide) (fun c7 => ?_) (fun c7 => ?_)
      · exact fin (dg D_J7_fill_53178 (i := 14) rfl) hW hS ⟨hF, by rw [hC, show i = na by omega], rfl, rfl⟩
      · refine lv_aload_n hx hb (dg D_J7_fill_53178 (i := 8) rfl) rfl (lv_at hl 0 rfl) ?_
        refine lv_iload_n hx hb (dg D_J7_fill_53178 (i := 9) rfl) rfl (lv_at hl 2 rfl) ?_
        refine lv_iload_n hx hb (dg D_J7_fill_53178 (i := 10) rfl) rfl (lv_at hl 1 rfl) ?_
        refine r_ast (j := i) (v := v) X hW hS ha hNa rfl (by omega) (by omega) (dg D_J7_fill_53178 (i := 11) rfl) (fun H locs hW hS => ?_)
        have hF : Fr (SC a) I (u2 K5 a i v) := Fr.put hF SC_eq
        obtain ⟨J13, eJ13⟩ : ∃ J, J = u2 K5 a i v := ⟨_, rfl⟩
        rw [← eJ13] at hW hF
        refine lv_iinc (v := nI (i + 1)) (lv' := [(2, .int (nI (i + 1))), (0, .ref (bs + a)), (1, .int v), (3, .int (nI na))]) hx hb (dg D_J7_fill_53178 (i := 12) rfl) hl (k := 2) rfl (nI_add _ _) (by decide) rfl (fun ls hl => ?_)
        refine lv_goto (tgt := 5) hx hb (dg D_J7_fill_53178 (i := 13) rfl) (by decide) ?_
        exact ih5 (by omega) J13 _ _ _ _ (congrArg nI (by omega)) hF (by rw [eJ13, u2_eq, hC]; exact flR_s) hW hS (lv_sub hl [1, 2, 0, 3] rfl))
  exact loop5 0 (Nat.zero_le _) I _ _ _ _ (congrArg nI (by omega)) hF flR_0.symm hW hS (lv_sub hl [2, 3, 1, 0] rfl)

