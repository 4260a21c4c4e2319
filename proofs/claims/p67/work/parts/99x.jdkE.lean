set_option maxHeartbeats 1000000 in
set_option maxRecDepth 100000 in
theorem c_J6_stringSize_0f7a4 {l : Launch} {G : va_G} {bs : Nat} {cy : Nat → ClassId} {sz : Nat} {A : Nat → Prop} (hAg : ∀ z, A z → Ag bs z) (hAn : ∀ z, sz ≤ z → A z) (x9 : Nat) (hx9 : x9 < 100) : JSi l G bs cy MJ6_stringSize_0f7a4 1 [.int (nI x9)] sz A [] [] (fun r => r = nI (dec2 x9).length) := by
  refine JSi.of (own := RJ6) pn_RJ6 rfl (Nat.le_of_ble_eq_true rfl) ?_
  intro p e s m args below meth c Qf X hsz hP hSs fin ls hl
  have hx := X.1
  have hb := X.2.1
  have hR : RmOK (rmL 1 0 0) 1 := ⟨rfl, rfl⟩
  have hcs : 0 ≤ (rmL 1 0 0).cells ∧ 0 ≤ (rmL 1 0 0).slots := ⟨Nat.zero_le _, Nat.zero_le _⟩
  have hS : va_S A s.heap s.heap [] := va_S.rf
  have hAs : ∀ z, s.heap.size ≤ z → A z := fun z h => hAn z (by rw [← hsz]; exact h)
  have hl : lv_has ls 4 [(0, .int (nI x9))] := hl
  refine n_iconst (a := 1) hx hb (dg D_J6_stringSize_0f7a4 (i := 0) rfl) rfl ?_
  refine lv_istore_n (lv' := [(1, .int (nI 1)), (0, .int (nI x9))]) hx hb (dg D_J6_stringSize_0f7a4 (i := 1) rfl) rfl hl (by decide) rfl (fun ls hl => ?_)
  refine lv_iload_n hx hb (dg D_J6_stringSize_0f7a4 (i := 2) rfl) rfl (lv_at hl 1 rfl) ?_
  refine n_if_lt (tgt := 11) hx hb (by omega) (dg D_J6_stringSize_0f7a4 (i := 3) rfl) (by decide) (fun c3 => ?_) (fun c3 => ?_)
  · exact c3.elim
  · refine n_iconst (a := 0) hx hb (dg D_J6_stringSize_0f7a4 (i := 4) rfl) rfl ?_
    refine lv_istore_n (lv' := [(1, .int (nI 0)), (0, .int (nI x9))]) hx hb (dg D_J6_stringSize_0f7a4 (i := 5) rfl) rfl hl (by decide) rfl (fun ls hl => ?_)
    refine lv_iload_n hx hb (dg D_J6_stringSize_0f7a4 (i := 6) rfl) rfl (lv_at hl 1 rfl) ?_
    refine lv_ineg hx hb (dg D_J6_stringSize_0f7a4 (i := 7) rfl) ?_
    refine lv_istore_n (lv' := [(0, .int (-(nI x9))), (1, .int (nI 0))]) hx hb (dg D_J6_stringSize_0f7a4 (i := 8) rfl) rfl hl (by decide) rfl (fun ls hl => ?_)
    refine lv_bipush (v := -10) hx hb (dg D_J6_stringSize_0f7a4 (i := 9) rfl) (by decide) ?_
    refine lv_istore_n (lv' := [(2, .int ((-10))), (0, .int (-(nI x9))), (1, .int (nI 0))]) hx hb (dg D_J6_stringSize_0f7a4 (i := 10) rfl) rfl hl (by decide) rfl (fun ls hl => ?_)
    refine n_iconst (a := 1) hx hb (dg D_J6_stringSize_0f7a4 (i := 11) rfl) rfl ?_
    refine lv_istore_n (lv' := [(3, .int (nI 1)), (2, .int ((-10))), (0, .int (-(nI x9))), (1, .int (nI 0))]) hx hb (dg D_J6_stringSize_0f7a4 (i := 12) rfl) rfl hl (by decide) rfl (fun ls hl => ?_)
    refine lv_iload_n hx hb (dg D_J6_stringSize_0f7a4 (i := 13) rfl) rfl (lv_at hl 0 rfl) ?_
    refine lv_bipush (v := nI 10) hx hb (dg D_J6_stringSize_0f7a4 (i := 14) rfl) (by decide) ?_
    refine n_icmp_ge (tgt := 42) hx hb (by omega) (by omega) (dg D_J6_stringSize_0f7a4 (i := 15) rfl) (by decide) (fun c19 => ?_) (fun c19 => ?_)
    · exact absurd c19 (by decide)
    · refine lv_iload_n hx hb (dg D_J6_stringSize_0f7a4 (i := 16) rfl) rfl (lv_at hl 2 rfl) ?_
      refine lv_iload_n hx hb (dg D_J6_stringSize_0f7a4 (i := 17) rfl) rfl (lv_at hl 1 rfl) ?_
      refine lv_icmp_le (tgt := 31) hx hb (dg D_J6_stringSize_0f7a4 (i := 18) rfl) (by decide) (fun c24 => ?_) (fun c24 => ?_)
      · have h10 : 10 ≤ x9 := (negLe (x := x9) (by omega) (by omega)).mp (by rw [← neg10]; exact c24)
        refine lv_bipush (v := nI 10) hx hb (dg D_J6_stringSize_0f7a4 (i := 23) rfl) (by decide) ?_
        refine lv_iload_n hx hb (dg D_J6_stringSize_0f7a4 (i := 24) rfl) rfl (lv_at hl 1 rfl) ?_
        refine lv_imul hx hb (dg D_J6_stringSize_0f7a4 (i := 25) rfl) ?_
        rw [show (nI 10) * ((-10)) = (-100) from by decide]
        refine lv_istore_n (lv' := [(2, .int ((-100))), (3, .int (nI 1)), (0, .int (-(nI x9))), (1, .int (nI 0))]) hx hb (dg D_J6_stringSize_0f7a4 (i := 26) rfl) rfl hl (by decide) rfl (fun ls hl => ?_)
        refine lv_iinc (v := nI (1 + 1)) (lv' := [(3, .int (nI (1 + 1))), (2, .int ((-100))), (0, .int (-(nI x9))), (1, .int (nI 0))]) hx hb (dg D_J6_stringSize_0f7a4 (i := 27) rfl) hl (k := 1) rfl (nI_add _ _) (by decide) rfl (fun ls hl => ?_)
        refine lv_goto (tgt := 16) hx hb (dg D_J6_stringSize_0f7a4 (i := 28) rfl) (by decide) ?_
        refine lv_iload_n hx hb (dg D_J6_stringSize_0f7a4 (i := 13) rfl) rfl (lv_at hl 0 rfl) ?_
        refine lv_bipush (v := nI 10) hx hb (dg D_J6_stringSize_0f7a4 (i := 14) rfl) (by decide) ?_
        refine n_icmp_ge (tgt := 42) hx hb (by omega) (by omega) (dg D_J6_stringSize_0f7a4 (i := 15) rfl) (by decide) (fun c19 => ?_) (fun c19 => ?_)
        · exact absurd c19 (by omega)
        · refine lv_iload_n hx hb (dg D_J6_stringSize_0f7a4 (i := 16) rfl) rfl (lv_at hl 2 rfl) ?_
          refine lv_iload_n hx hb (dg D_J6_stringSize_0f7a4 (i := 17) rfl) rfl (lv_at hl 1 rfl) ?_
          refine lv_icmp_le (tgt := 31) hx hb (dg D_J6_stringSize_0f7a4 (i := 18) rfl) (by decide) (fun c24 => ?_) (fun c24 => ?_)
          · exact absurd ((negLe (x := x9) (k := 100) (by omega) (by omega)).mp (by rw [← neg100]; exact c24)) (by omega)
          · refine lv_iload_n hx hb (dg D_J6_stringSize_0f7a4 (i := 19) rfl) rfl (lv_at hl 0 rfl) ?_
            refine lv_iload_n hx hb (dg D_J6_stringSize_0f7a4 (i := 20) rfl) rfl (lv_at hl 3 rfl) ?_
            refine n_iadd hx hb (dg D_J6_stringSize_0f7a4 (i := 21) rfl) ?_
            exact fin (dg D_J6_stringSize_0f7a4 (i := 22) rfl) rfl (by rw [dec2_len, if_neg (by omega)])
      · refine lv_iload_n hx hb (dg D_J6_stringSize_0f7a4 (i := 19) rfl) rfl (lv_at hl 0 rfl) ?_
        refine lv_iload_n hx hb (dg D_J6_stringSize_0f7a4 (i := 20) rfl) rfl (lv_at hl 3 rfl) ?_
        refine n_iadd hx hb (dg D_J6_stringSize_0f7a4 (i := 21) rfl) ?_
        exact fin (dg D_J6_stringSize_0f7a4 (i := 22) rfl) rfl (by rw [dec2_len, if_pos (by have := c24; rw [neg10] at this; exact Nat.not_le.mp (fun z => this ((negLe (x := x9) (by omega) (by omega)).mpr z)))])

set_option maxHeartbeats 1000000 in
set_option maxRecDepth 100000 in
theorem c_J6_getChars_ba4f3 {l : Launch} {G : va_G} {bs : Nat} {cy : Nat → ClassId} {sz : Nat} {A : Nat → Prop} (hAg : ∀ z, A z → Ag bs z) (hAn : ∀ z, sz ≤ z → A z) (v : Nat) (m9 : Nat) (a9 : Nat → Int32) (x9 : Nat) (p9 : Nat) (hD : va_D A [(v, arB cy m9 a9)]) (hx9 : x9 < 100) (hp9 : (dec2 x9).length ≤ p9) (hpm : p9 ≤ m9) (hm9 : m9 ≤ 65536) : JBi l G bs cy MJ6_getChars_ba4f3 1 [.int (nI x9), .int (nI p9), .ref v] sz A [(v, arB cy m9 a9)] [] (fun _ u => u = [(v, arB cy m9 (dgA a9 p9 x9))]) 0 0 := by
  refine JBi.of (own := RJ6) pn_RJ6 rfl (Nat.le_of_ble_eq_true rfl) ?_
  intro p e s m args below meth c Qf X hsz hP hSs hS fin ls hl
  have hx := X.1
  have hb := X.2.1
  have hR : RmOK (rmL 1 0 0) 1 := ⟨rfl, rfl⟩
  have hcs : 0 ≤ (rmL 1 0 0).cells ∧ 0 ≤ (rmL 1 0 0).slots := ⟨Nat.zero_le _, Nat.zero_le _⟩
  have hAs : ∀ z, s.heap.size ≤ z → A z := fun z h => hAn z (by rw [← hsz]; exact h)
  have hl : lv_has ls 7 [(0, .int (nI x9)), (1, .int (nI p9)), (2, .ref v)] := hl
  have hH9 : s.heap.size ≤ s.heap.size := Nat.le_refl _
  have hd2 := dec2_len x9
  have hd1 : 1 ≤ (dec2 x9).length := by rw [hd2]; split <;> omega
  refine lv_iload_n hx hb (dg D_J6_getChars_ba4f3 (i := 0) rfl) rfl (lv_at hl 1 rfl) ?_
  refine lv_istore (lv' := [(5, .int (nI p9)), (0, .int (nI x9)), (1, .int (nI p9)), (2, .ref v)]) hx hb (dg D_J6_getChars_ba4f3 (i := 1) rfl) hl (by decide) rfl (fun ls hl => ?_)
  refine lv_iload_n hx hb (dg D_J6_getChars_ba4f3 (i := 2) rfl) rfl (lv_at hl 1 rfl) ?_
  refine n_if_ge (tgt := 11) hx hb (by omega) (dg D_J6_getChars_ba4f3 (i := 3) rfl) (by decide) (fun c4 => ?_) (fun c4 => ?_)
  · refine n_iconst (a := 0) hx hb (dg D_J6_getChars_ba4f3 (i := 6) rfl) rfl ?_
    refine lv_istore (lv' := [(6, .int (nI 0)), (5, .int (nI p9)), (0, .int (nI x9)), (1, .int (nI p9)), (2, .ref v)]) hx hb (dg D_J6_getChars_ba4f3 (i := 7) rfl) hl (by decide) rfl (fun ls hl => ?_)
    refine lv_iload hx hb (dg D_J6_getChars_ba4f3 (i := 8) rfl) (lv_at hl 0 rfl) ?_
    refine n_if_ne (tgt := 22) hx hb (by omega) (dg D_J6_getChars_ba4f3 (i := 9) rfl) (by decide) (fun c16 => ?_) (fun c16 => ?_)
    · exact absurd c16 (by decide)
    · refine lv_iload_n hx hb (dg D_J6_getChars_ba4f3 (i := 10) rfl) rfl (lv_at hl 2 rfl) ?_
      refine lv_ineg hx hb (dg D_J6_getChars_ba4f3 (i := 11) rfl) ?_
      refine lv_istore_n (lv' := [(0, .int (-(nI x9))), (6, .int (nI 0)), (5, .int (nI p9)), (1, .int (nI p9)), (2, .ref v)]) hx hb (dg D_J6_getChars_ba4f3 (i := 12) rfl) rfl hl (by decide) rfl (fun ls hl => ?_)
      refine lv_iload_n hx hb (dg D_J6_getChars_ba4f3 (i := 13) rfl) rfl (lv_at hl 0 rfl) ?_
      refine lv_bipush (v := -100) hx hb (dg D_J6_getChars_ba4f3 (i := 14) rfl) (by decide) ?_
      refine lv_icmp_gt (tgt := 72) hx hb (dg D_J6_getChars_ba4f3 (i := 15) rfl) (by decide) (fun c25 => ?_) (fun c25 => ?_)
      · refine lv_aload_n hx hb (dg D_J6_getChars_ba4f3 (i := 43) rfl) rfl (lv_at hl 4 rfl) ?_
        refine lv_iinc (v := nI (p9 - 1)) (lv' := [(5, .int (nI (p9 - 1))), (0, .int (-(nI x9))), (6, .int (nI 0)), (1, .int (nI p9)), (2, .ref v)]) hx hb (dg D_J6_getChars_ba4f3 (i := 44) rfl) hl (k := 2) rfl (decP (by omega)) (by decide) rfl (fun ls hl => ?_)
        refine lv_iload hx hb (dg D_J6_getChars_ba4f3 (i := 45) rfl) (lv_at hl 0 rfl) ?_
        refine j_dig1 X hAg hS (dg D_J6_getChars_ba4f3 (i := 46) rfl) ?_
        refine lv_iload_n hx hb (dg D_J6_getChars_ba4f3 (i := 47) rfl) rfl (lv_at hl 1 rfl) ?_
        refine lv_ineg hx hb (dg D_J6_getChars_ba4f3 (i := 48) rfl) ?_
        rw [show -(-(nI x9)) = nI x9 from Int32.neg_neg]
        refine j_dv1 (j := x9) X hAg hS (by omega) (dg D_J6_getChars_ba4f3 (i := 49) rfl) ?_
        refine j_bast (i := 0) (j := (p9 - 1)) (a := a9) (x := (nI (48 + x9 % 10))) (b := (nI (48 + x9 % 10))) X hP hD hS rfl (by omega) (by omega) (chr5 _ (by omega)) (dg D_J6_getChars_ba4f3 (i := 50) rfl) (fun H locs hP hD hS => ?_)
        have hP : va_P G vwCl [(v, arB cy m9 (upd a9 (p9 - 1) (nI (48 + x9 % 10))))] H := hP
        have hD : va_D A [(v, arB cy m9 (upd a9 (p9 - 1) (nI (48 + x9 % 10))))] := hD
        refine lv_iload_n hx hb (dg D_J6_getChars_ba4f3 (i := 51) rfl) rfl (lv_at hl 1 rfl) ?_
        refine lv_bipush (v := -9) hx hb (dg D_J6_getChars_ba4f3 (i := 52) rfl) (by decide) ?_
        refine lv_icmp_ge (tgt := 104) hx hb (dg D_J6_getChars_ba4f3 (i := 53) rfl) (by decide) (fun c88 => ?_) (fun c88 => ?_)
        · have h10 : x9 < 10 := by have := c88; rw [neg9] at this; have := (negLe (x := 9) (k := x9) (by omega) (by omega)).mp this; omega
          refine lv_iload hx hb (dg D_J6_getChars_ba4f3 (i := 62) rfl) (lv_at hl 2 rfl) ?_
          refine n_if_eq (tgt := 118) hx hb (by omega) (dg D_J6_getChars_ba4f3 (i := 63) rfl) (by decide) (fun c106 => ?_) (fun c106 => ?_)
          · refine lv_iload hx hb (dg D_J6_getChars_ba4f3 (i := 69) rfl) (lv_at hl 0 rfl) ?_
            exact fin (dg D_J6_getChars_ba4f3 (i := 70) rfl) rfl (by omega) (by omega) hP hS (by unfold dgA; rw [if_pos h10])
          · exact absurd c106 (by decide)
        · have h10 : ¬ x9 < 10 := fun z => c88 (by rw [neg9]; exact (negLe (x := 9) (k := x9) (by omega) (by omega)).mpr (by omega))
          rw [if_neg h10] at hd2
          refine lv_aload_n hx hb (dg D_J6_getChars_ba4f3 (i := 54) rfl) rfl (lv_at hl 4 rfl) ?_
          refine lv_iinc (v := nI (p9 - 1 - 1)) (lv' := [(5, .int (nI (p9 - 1 - 1))), (0, .int (-(nI x9))), (6, .int (nI 0)), (1, .int (nI p9)), (2, .ref v)]) hx hb (dg D_J6_getChars_ba4f3 (i := 55) rfl) hl (k := 0) rfl (decP (by omega)) (by decide) rfl (fun ls hl => ?_)
          refine lv_iload hx hb (dg D_J6_getChars_ba4f3 (i := 56) rfl) (lv_at hl 0 rfl) ?_
          refine j_dig2 X hAg hS (dg D_J6_getChars_ba4f3 (i := 57) rfl) ?_
          refine lv_iload_n hx hb (dg D_J6_getChars_ba4f3 (i := 58) rfl) rfl (lv_at hl 1 rfl) ?_
          refine lv_ineg hx hb (dg D_J6_getChars_ba4f3 (i := 59) rfl) ?_
          rw [show -(-(nI x9)) = nI x9 from Int32.neg_neg]
          refine j_dv2 (j := x9) X hAg hS (by omega) (dg D_J6_getChars_ba4f3 (i := 60) rfl) ?_
          refine j_bast (i := 0) (j := (p9 - 1 - 1)) (a := (upd a9 (p9 - 1) (nI (48 + x9 % 10)))) (x := (nI (48 + x9 / 10))) (b := (nI (48 + x9 / 10))) X hP hD hS rfl (by omega) (by omega) (chr5 _ (by omega)) (dg D_J6_getChars_ba4f3 (i := 61) rfl) (fun H locs hP hD hS => ?_)
          have hP : va_P G vwCl [(v, arB cy m9 (upd (upd a9 (p9 - 1) (nI (48 + x9 % 10))) (p9 - 1 - 1) (nI (48 + x9 / 10))))] H := hP
          have hD : va_D A [(v, arB cy m9 (upd (upd a9 (p9 - 1) (nI (48 + x9 % 10))) (p9 - 1 - 1) (nI (48 + x9 / 10))))] := hD
          refine lv_iload hx hb (dg D_J6_getChars_ba4f3 (i := 62) rfl) (lv_at hl 2 rfl) ?_
          refine n_if_eq (tgt := 118) hx hb (by omega) (dg D_J6_getChars_ba4f3 (i := 63) rfl) (by decide) (fun c106 => ?_) (fun c106 => ?_)
          · refine lv_iload hx hb (dg D_J6_getChars_ba4f3 (i := 69) rfl) (lv_at hl 0 rfl) ?_
            exact fin (dg D_J6_getChars_ba4f3 (i := 70) rfl) rfl (by omega) (by omega) hP hS (by unfold dgA; rw [if_neg h10])
          · exact absurd c106 (by decide)
      · exact absurd ((negLe (x := x9) (k := 100) (by omega) (by omega)).mp (by rw [← neg100]; exact Int32.not_lt.mp c25)) (by omega)
  · exact c4.elim

set_option maxHeartbeats 1000000 in
set_option maxRecDepth 100000 in
theorem c_J5_append_c97b9 {l : Launch} {G : va_G} {bs : Nat} {cy : Nat → ClassId} {sz : Nat} {A : Nat → Prop} (hAg : ∀ z, A z → Ag bs z) (hAn : ∀ z, sz ≤ z → A z) (q : Nat) (v : Nat) (n9 : Nat) (m9 : Nat) (a9 : Nat → Int32) (lx : List Nat) (x9 : Nat) (hD : va_D A [(q, obB v n9), (v, arB cy m9 a9)]) (hBT : BT a9 m9 lx) (hn9 : n9 = lx.length) (hm9 : m9 ≤ 600) (hx9 : x9 < 100) (hl9 : lx.length + 2 ≤ 300) : JBr l G bs cy MJ5_append_c97b9 4 [.ref q, .int (nI x9)] sz A [(q, obB v n9), (v, arB cy m9 a9)] [] (fun r u => r = q ∧ BuU cy q v sz (lx ++ dec2 x9) u) 1 600 := by
  refine JBr.of (own := RJ5) (by first | exact Or.inl ⟨_, rfl⟩ | exact Or.inr ⟨_, rfl⟩) pn_RJ5 rfl (Nat.le_of_ble_eq_true rfl) ?_
  intro p e s m args below meth c Qf X hsz hP hSs hS fin ls hl
  have hx := X.1
  have hb := X.2.1
  have hR : RmOK (rmL 4 1 600) 4 := ⟨rfl, rfl⟩
  have hcs : 0 ≤ (rmL 4 1 600).cells ∧ 0 ≤ (rmL 4 1 600).slots := ⟨Nat.zero_le _, Nat.zero_le _⟩
  have hAs : ∀ z, s.heap.size ≤ z → A z := fun z h => hAn z (by rw [← hsz]; exact h)
  have hl : lv_has ls 4 [(0, .ref q), (1, .int (nI x9))] := hl
  have hH9 : s.heap.size ≤ s.heap.size := Nat.le_refl _
  have hql : q < s.heap.size := (hP 0 _ rfl).lt
  have hqA := (vD2_ne hD).2.1
  have hfb := hBT.2.2.1
  have hd2 := dec2_len x9
  have hd3 : (dec2 x9).length ≤ 2 := by rw [hd2]; split <;> omega
  refine lv_aload_n hx hb (dg D_J5_append_c97b9 (i := 0) rfl) rfl (lv_at hl 0 rfl) ?_
  refine j_getB (i := 0) (q := q) (fs := [.ref v, .int (nI 0), .int (nI 0), .int (nI n9)]) X hP rfl FB_J5_79 rfl (dg D_J5_append_c97b9 (i := 1) rfl) ?_
  refine lv_istore_n (lv' := [(2, .int (nI n9)), (0, .ref q), (1, .int (nI x9))]) hx hb (dg D_J5_append_c97b9 (i := 2) rfl) rfl hl (by decide) rfl (fun ls hl => ?_)
  refine lv_iload_n hx hb (dg D_J5_append_c97b9 (i := 3) rfl) rfl (lv_at hl 0 rfl) ?_
  refine lv_iload_n hx hb (dg D_J5_append_c97b9 (i := 4) rfl) rfl (lv_at hl 2 rfl) ?_
  refine jSi X hAg hS hR (c_J6_stringSize_0f7a4 (l := l) (G := G) (bs := bs) (cy := cy) (A := A) hAg (fun z h => hAs z (Nat.le_trans hS.1 h)) x9 (by first | assumption | omega)) (by decide) USJ6_stringSize_0f7a4 LK_J5_245 (fun k q h => by cases h) (fun x9 h9 => by cases h9) rfl rfl (Nat.le_of_ble_eq_true rfl) hl hcs (dg D_J5_append_c97b9 (i := 5) rfl) (fun r9 hr9 => ?_)
  subst hr9
  refine n_iadd hx hb (dg D_J5_append_c97b9 (i := 6) rfl) ?_
  refine lv_istore_n (lv' := [(3, .int (nI (n9 + ((dec2 x9).length)))), (2, .int (nI n9)), (0, .ref q), (1, .int (nI x9))]) hx hb (dg D_J5_append_c97b9 (i := 7) rfl) rfl hl (by decide) rfl (fun ls hl => ?_)
  refine lv_aload_n hx hb (dg D_J5_append_c97b9 (i := 8) rfl) rfl (lv_at hl 2 rfl) ?_
  refine lv_iload_n hx hb (dg D_J5_append_c97b9 (i := 9) rfl) rfl (lv_at hl 0 rfl) ?_
  refine jUBv X hAg hS hR (c_J5_ensureCapacityInternal_d00df (l := l) (G := G) (bs := bs) (cy := cy) (A := A) hAg (fun z h => hAs z (Nat.le_trans hS.1 h)) q v n9 m9 a9 (n9 + ((dec2 x9).length)) (by first | assumption | omega) (hfb) (by first | assumption | omega) (by first | assumption | omega)) (by decide) UU_J5_100 (r_recvB X hP (i := 0) rfl) hP (fun x9 h9 => by cases h9) rfl rfl (Nat.le_of_ble_eq_true rfl) hl (⟨by show _ ≤ 1; omega, by show _ ≤ 600; omega⟩) (fun _ h => h) (dg D_J5_append_c97b9 (i := 10) rfl) (fun u H1 locs1 hq hP1 hk9 hS1 => ?_)
  have hcs : 0 + 1 ≤ (rmL 4 1 600).cells ∧ 0 + 600 ≤ (rmL 4 1 600).slots := ⟨by show _ ≤ 1; omega, by show _ ≤ 600; omega⟩
  obtain ⟨v1, m1, a1, rfl, hB1, hk1, hm1, hv1⟩ := en_uni hq hBT hm9 (by omega)
  have hv2 : v1 = v ∨ s.heap.size ≤ v1 := hv1
  have hv1A : A v1 := hv2.elim (fun z => z ▸ (vD2_ne hD).2.2) (fun z => hAs _ z)
  have hqv : q ≠ v1 := hv2.elim (fun z => z ▸ (vD2_ne hD).1) (fun z => by omega)
  have hP : va_P G vwCl [(q, obB v1 n9), (v1, arB cy m1 a1)] H1 := hP1
  have hD : va_D A [(q, obB v1 n9), (v1, arB cy m1 a1)] := vD2 hqA hv1A hqv
  have hS := hS1
  have hH1 := hS.1
  have hAA1 : ∀ z, (z = v1 ∨ H1.size ≤ z) → A z := fun z h => h.elim (fun e => e ▸ hv1A) (fun h => hAs z (Nat.le_trans hH1 h))
  refine lv_aload_n hx hb (dg D_J5_append_c97b9 (i := 11) rfl) rfl (lv_at hl 2 rfl) ?_
  refine jUi X hAg hS hR (c_J5_isLatin1_aae02 (l := l) (G := G) (bs := bs) (cy := cy) (A := A) hAg (fun z h => hAs z (Nat.le_trans hS.1 h)) q v1 n9 m1 a1) (by decide) UU_J5_83 (r_recvB X hP (i := 0) rfl) hP (fun x9 h9 => by cases h9) rfl rfl (Nat.le_of_ble_eq_true rfl) hl hcs (dg D_J5_append_c97b9 (i := 12) rfl) (fun r9 hr9 => ?_)
  subst hr9
  refine n_if_eq (tgt := 37) hx hb (by omega) (dg D_J5_append_c97b9 (i := 13) rfl) (by decide) (fun c21 => ?_) (fun c21 => ?_)
  · exact absurd c21 (by decide)
  · refine lv_iload_n hx hb (dg D_J5_append_c97b9 (i := 14) rfl) rfl (lv_at hl 3 rfl) ?_
    refine lv_iload_n hx hb (dg D_J5_append_c97b9 (i := 15) rfl) rfl (lv_at hl 0 rfl) ?_
    refine lv_aload_n hx hb (dg D_J5_append_c97b9 (i := 16) rfl) rfl (lv_at hl 2 rfl) ?_
    refine j_getB (i := 0) (q := q) (fs := [.ref v1, .int (nI 0), .int (nI 0), .int (nI n9)]) X hP rfl FB_J5_15 rfl (dg D_J5_append_c97b9 (i := 17) rfl) ?_
    refine jSBi X hAg hS hR (c_J6_getChars_ba4f3 (l := l) (G := G) (bs := bs) (cy := cy) (A := (fun z => z = v1 ∨ H1.size ≤ z)) (fun z h => hAg z (hAA1 z h)) (fun z h => Or.inr h) v1 m1 a1 x9 (n9 + ((dec2 x9).length)) (vD1 (Or.inl rfl)) (by first | assumption | omega) (by first | assumption | omega) (by first | assumption | omega) (by first | assumption | omega)) (by decide) USJ6_getChars_ba4f3 LK_J5_248 (hP.sub [1] rfl) (fun x9 h9 => by cases h9) rfl rfl (Nat.le_of_ble_eq_true rfl) hl (⟨by show _ ≤ 1; omega, by show _ ≤ 600; omega⟩) hAA1 (dg D_J5_append_c97b9 (i := 18) rfl) (fun r9 u H1 locs1 hq hP1 hk9 hS1 => ?_)
    have hcs : 0 + 1 + 0 ≤ (rmL 4 1 600).cells ∧ 0 + 600 + 0 ≤ (rmL 4 1 600).slots := ⟨by show _ ≤ 1; omega, by show _ ≤ 600; omega⟩
    subst hq
    have hlt := (hP 0 _ rfl).lt
    have hP : va_P G vwCl [(q, obB v1 n9), (v1, arB cy m1 (dgA a1 (n9 + (dec2 x9).length) x9))] H1 := (va_keep (hP.sub [0] rfl) hk9 (fun k x hx => by
      have e1 : k < 1 := (List.getElem?_eq_some_iff.mp hx).1
      rw [show k = 0 by omega] at hx
      cases hx
      exact fun h => h.elim hqv (fun h => absurd hlt (Nat.not_lt.mpr h)))).app hP1
    have hS := hS1
    have hD : va_D A [(q, obB v1 n9), (v1, arB cy m1 ((dgA a1 (n9 + (dec2 x9).length) x9)))] := vD2 hqA hv1A hqv
    refine lv_pop hx hb (dg D_J5_append_c97b9 (i := 19) rfl) rfl ?_
    refine lv_goto (tgt := 48) hx hb (dg D_J5_append_c97b9 (i := 20) rfl) (by decide) ?_
    refine lv_aload_n hx hb (dg D_J5_append_c97b9 (i := 28) rfl) rfl (lv_at hl 2 rfl) ?_
    refine lv_iload_n hx hb (dg D_J5_append_c97b9 (i := 29) rfl) rfl (lv_at hl 0 rfl) ?_
    refine j_putB (i := 0) (fs := [.ref v1, .int (nI 0), .int (nI 0), .int (nI n9)]) (v := .int (nI (n9 + ((dec2 x9).length)))) (ty := .int) X hP hD hS rfl FB_J5_79 rfl (by decide +kernel) (by decide +kernel) rfl rfl (dg D_J5_append_c97b9 (i := 30) rfl) (fun H locs hP hD hS => ?_)
    have hP : va_P G vwCl [(q, obB v1 (n9 + ((dec2 x9).length))), (v1, arB cy m1 ((dgA a1 (n9 + (dec2 x9).length) x9)))] H := hP
    have hD : va_D A [(q, obB v1 (n9 + ((dec2 x9).length))), (v1, arB cy m1 ((dgA a1 (n9 + (dec2 x9).length) x9)))] := hD
    refine lv_aload_n hx hb (dg D_J5_append_c97b9 (i := 31) rfl) rfl (lv_at hl 2 rfl) ?_
    exact fin (dg D_J5_append_c97b9 (i := 32) rfl) (by omega) (by omega) hP hS (⟨rfl, v1, m1, _, by rw [List.length_append, ← hn9], hB1.dg hn9 hx9 (by omega), hm1, by rw [← hsz]; exact hv2⟩)

set_option maxHeartbeats 1000000 in
set_option maxRecDepth 100000 in
theorem c_J5_append_3fe6f {l : Launch} {G : va_G} {bs : Nat} {cy : Nat → ClassId} {sz : Nat} {A : Nat → Prop} (hAg : ∀ z, A z → Ag bs z) (hAn : ∀ z, sz ≤ z → A z) (q : Nat) (v : Nat) (n9 : Nat) (m9 : Nat) (a9 : Nat → Int32) (lx : List Nat) (ch : Nat) (hD : va_D A [(q, obB v n9), (v, arB cy m9 a9)]) (hBT : BT a9 m9 lx) (hn9 : n9 = lx.length) (hm9 : m9 ≤ 600) (hc : ch < 128) (hl9 : lx.length + 2 ≤ 300) : JBr l G bs cy MJ5_append_3fe6f 4 [.ref q, .int (nI ch)] sz A [(q, obB v n9), (v, arB cy m9 a9)] [] (fun r u => r = q ∧ BuU cy q v sz (lx ++ [ch]) u) 1 600 := by
  refine JBr.of (own := RJ5) (by first | exact Or.inl ⟨_, rfl⟩ | exact Or.inr ⟨_, rfl⟩) pn_RJ5 rfl (Nat.le_of_ble_eq_true rfl) ?_
  intro p e s m args below meth c Qf X hsz hP hSs hS fin ls hl
  have hx := X.1
  have hb := X.2.1
  have hR : RmOK (rmL 4 1 600) 4 := ⟨rfl, rfl⟩
  have hcs : 0 ≤ (rmL 4 1 600).cells ∧ 0 ≤ (rmL 4 1 600).slots := ⟨Nat.zero_le _, Nat.zero_le _⟩
  have hAs : ∀ z, s.heap.size ≤ z → A z := fun z h => hAn z (by rw [← hsz]; exact h)
  have hl : lv_has ls 2 [(0, .ref q), (1, .int (nI ch))] := hl
  have hH9 : s.heap.size ≤ s.heap.size := Nat.le_refl _
  have hql : q < s.heap.size := (hP 0 _ rfl).lt
  have hqA := (vD2_ne hD).2.1
  have hfb := hBT.2.2.1
  refine lv_aload_n hx hb (dg D_J5_append_3fe6f (i := 0) rfl) rfl (lv_at hl 0 rfl) ?_
  refine lv_aload_n hx hb (dg D_J5_append_3fe6f (i := 1) rfl) rfl (lv_at hl 0 rfl) ?_
  refine j_getB (i := 0) (q := q) (fs := [.ref v, .int (nI 0), .int (nI 0), .int (nI n9)]) X hP rfl FB_J5_79 rfl (dg D_J5_append_3fe6f (i := 2) rfl) ?_
  refine n_iconst (a := 1) hx hb (dg D_J5_append_3fe6f (i := 3) rfl) rfl ?_
  refine n_iadd hx hb (dg D_J5_append_3fe6f (i := 4) rfl) ?_
  refine jUBv X hAg hS hR (c_J5_ensureCapacityInternal_d00df (l := l) (G := G) (bs := bs) (cy := cy) (A := A) hAg (fun z h => hAs z (Nat.le_trans hS.1 h)) q v n9 m9 a9 (n9 + 1) (by first | assumption | omega) (hfb) (by first | assumption | omega) (by first | assumption | omega)) (by decide) UU_J5_100 (r_recvB X hP (i := 0) rfl) hP (fun x9 h9 => by cases h9) rfl rfl (Nat.le_of_ble_eq_true rfl) hl (⟨by show _ ≤ 1; omega, by show _ ≤ 600; omega⟩) (fun _ h => h) (dg D_J5_append_3fe6f (i := 5) rfl) (fun u H1 locs1 hq hP1 hk9 hS1 => ?_)
  have hcs : 0 + 1 ≤ (rmL 4 1 600).cells ∧ 0 + 600 ≤ (rmL 4 1 600).slots := ⟨by show _ ≤ 1; omega, by show _ ≤ 600; omega⟩
  obtain ⟨v1, m1, a1, rfl, hB1, hk1, hm1, hv1⟩ := en_uni hq hBT hm9 (by omega)
  have hv2 : v1 = v ∨ s.heap.size ≤ v1 := hv1
  have hv1A : A v1 := hv2.elim (fun z => z ▸ (vD2_ne hD).2.2) (fun z => hAs _ z)
  have hqv : q ≠ v1 := hv2.elim (fun z => z ▸ (vD2_ne hD).1) (fun z => by omega)
  have hP : va_P G vwCl [(q, obB v1 n9), (v1, arB cy m1 a1)] H1 := hP1
  have hD : va_D A [(q, obB v1 n9), (v1, arB cy m1 a1)] := vD2 hqA hv1A hqv
  have hS := hS1
  have hH1 := hS.1
  have hAA1 : ∀ z, (z = v1 ∨ H1.size ≤ z) → A z := fun z h => h.elim (fun e => e ▸ hv1A) (fun h => hAs z (Nat.le_trans hH1 h))
  refine lv_aload_n hx hb (dg D_J5_append_3fe6f (i := 6) rfl) rfl (lv_at hl 0 rfl) ?_
  refine jUi X hAg hS hR (c_J5_isLatin1_aae02 (l := l) (G := G) (bs := bs) (cy := cy) (A := A) hAg (fun z h => hAs z (Nat.le_trans hS.1 h)) q v1 n9 m1 a1) (by decide) UU_J5_83 (r_recvB X hP (i := 0) rfl) hP (fun x9 h9 => by cases h9) rfl rfl (Nat.le_of_ble_eq_true rfl) hl hcs (dg D_J5_append_3fe6f (i := 7) rfl) (fun r9 hr9 => ?_)
  subst hr9
  refine n_if_eq (tgt := 45) hx hb (by omega) (dg D_J5_append_3fe6f (i := 8) rfl) (by decide) (fun c14 => ?_) (fun c14 => ?_)
  · exact absurd c14 (by decide)
  · refine lv_iload_n hx hb (dg D_J5_append_3fe6f (i := 9) rfl) rfl (lv_at hl 1 rfl) ?_
    refine jSi X hAg hS hR (c_J1_canEncode_fc78d (l := l) (G := G) (bs := bs) (cy := cy) (A := A) hAg (fun z h => hAs z (Nat.le_trans hS.1 h)) ch (by first | assumption | omega)) (by decide) USJ1_canEncode_fc78d LK_J5_191 (fun k q h => by cases h) (fun x9 h9 => by cases h9) rfl rfl (Nat.le_of_ble_eq_true rfl) hl hcs (dg D_J5_append_3fe6f (i := 10) rfl) (fun r9 hr9 => ?_)
    subst hr9
    refine n_if_eq (tgt := 45) hx hb (by omega) (dg D_J5_append_3fe6f (i := 11) rfl) (by decide) (fun c21 => ?_) (fun c21 => ?_)
    · exact absurd c21 (by decide)
    · refine lv_aload_n hx hb (dg D_J5_append_3fe6f (i := 12) rfl) rfl (lv_at hl 0 rfl) ?_
      refine j_getB (i := 0) (q := q) (fs := [.ref v1, .int (nI 0), .int (nI 0), .int (nI n9)]) X hP rfl FB_J5_15 rfl (dg D_J5_append_3fe6f (i := 13) rfl) ?_
      refine lv_aload_n hx hb (dg D_J5_append_3fe6f (i := 14) rfl) rfl (lv_at hl 0 rfl) ?_
      refine lv_dup hx hb (dg D_J5_append_3fe6f (i := 15) rfl) rfl ?_
      refine j_getB (i := 0) (q := q) (fs := [.ref v1, .int (nI 0), .int (nI 0), .int (nI n9)]) X hP rfl FB_J5_79 rfl (dg D_J5_append_3fe6f (i := 16) rfl) ?_
      refine lv_dup_x1 hx hb (dg D_J5_append_3fe6f (i := 17) rfl) rfl rfl ?_
      refine n_iconst (a := 1) hx hb (dg D_J5_append_3fe6f (i := 18) rfl) rfl ?_
      refine n_iadd hx hb (dg D_J5_append_3fe6f (i := 19) rfl) ?_
      refine j_putB (i := 0) (fs := [.ref v1, .int (nI 0), .int (nI 0), .int (nI n9)]) (v := .int (nI (n9 + 1))) (ty := .int) X hP hD hS rfl FB_J5_79 rfl (by decide +kernel) (by decide +kernel) rfl rfl (dg D_J5_append_3fe6f (i := 20) rfl) (fun H locs hP hD hS => ?_)
      have hP : va_P G vwCl [(q, obB v1 (n9 + 1)), (v1, arB cy m1 a1)] H := hP
      have hD : va_D A [(q, obB v1 (n9 + 1)), (v1, arB cy m1 a1)] := hD
      refine lv_iload_n hx hb (dg D_J5_append_3fe6f (i := 21) rfl) rfl (lv_at hl 1 rfl) ?_
      refine lv_i2b (v := (nI ch).toInt8.toInt32) hx hb (dg D_J5_append_3fe6f (i := 22) rfl) rfl ?_
      rw [show (nI ch).toInt8.toInt32 = nI ch from chr4 _ hc]
      refine j_bast (i := 1) (j := n9) (a := a1) (x := (nI ch)) (b := (nI ch)) X hP hD hS rfl (by omega) (by omega) (chr5 _ hc) (dg D_J5_append_3fe6f (i := 23) rfl) (fun H locs hP hD hS => ?_)
      have hP : va_P G vwCl [(q, obB v1 (n9 + 1)), (v1, arB cy m1 (upd a1 n9 (nI ch)))] H := hP
      have hD : va_D A [(q, obB v1 (n9 + 1)), (v1, arB cy m1 (upd a1 n9 (nI ch)))] := hD
      refine lv_goto (tgt := 75) hx hb (dg D_J5_append_3fe6f (i := 24) rfl) (by decide) ?_
      refine lv_aload_n hx hb (dg D_J5_append_3fe6f (i := 41) rfl) rfl (lv_at hl 0 rfl) ?_
      exact fin (dg D_J5_append_3fe6f (i := 42) rfl) (by omega) (by omega) hP hS (⟨rfl, v1, m1, _, by rw [List.length_append, ← hn9]; rfl, hB1.ch hn9 hc (by omega), hm1, by rw [← hsz]; exact hv2⟩)

set_option maxHeartbeats 1000000 in
set_option maxRecDepth 100000 in
theorem c_J5_append_cf1ce {l : Launch} {G : va_G} {bs : Nat} {cy : Nat → ClassId} {sz : Nat} {A : Nat → Prop} (hAg : ∀ z, A z → Ag bs z) (hAn : ∀ z, sz ≤ z → A z) (q : Nat) (v : Nat) (n9 : Nat) (m9 : Nat) (a9 : Nat → Int32) (a : Nat) (w : Nat) (tx : List Nat) (lx : List Nat) (hD : va_D A [(q, obB v n9), (v, arB cy m9 a9)]) (hBT : BT a9 m9 lx) (hn9 : n9 = lx.length) (hm9 : m9 ≤ 600) (hl9 : lx.length + tx.length ≤ 300) : JBr l G bs cy MJ5_append_cf1ce 4 [.ref q, .ref a] sz A [(q, obB v n9), (v, arB cy m9 a9)] [(a, w, tx)] (fun r u => r = q ∧ BuU cy q v sz (lx ++ tx) u) 1 600 := by
  refine JBr.of (own := RJ5) (by first | exact Or.inl ⟨_, rfl⟩ | exact Or.inr ⟨_, rfl⟩) pn_RJ5 rfl (Nat.le_of_ble_eq_true rfl) ?_
  intro p e s m args below meth c Qf X hsz hP hSs hS fin ls hl
  have hx := X.1
  have hb := X.2.1
  have hR : RmOK (rmL 4 1 600) 4 := ⟨rfl, rfl⟩
  have hcs : 0 ≤ (rmL 4 1 600).cells ∧ 0 ≤ (rmL 4 1 600).slots := ⟨Nat.zero_le _, Nat.zero_le _⟩
  have hAs : ∀ z, s.heap.size ≤ z → A z := fun z h => hAn z (by rw [← hsz]; exact h)
  have hl : lv_has ls 3 [(0, .ref q), (1, .ref a)] := hl
  have hx9 := hSs _ (List.mem_singleton.mpr rfl)
  have hH9 : s.heap.size ≤ s.heap.size := Nat.le_refl _
  have hql : q < s.heap.size := (hP 0 _ rfl).lt
  have hqA := (vD2_ne hD).2.1
  have hfb := hBT.2.2.1
  refine lv_aload_n hx hb (dg D_J5_append_cf1ce (i := 0) rfl) rfl (lv_at hl 1 rfl) ?_
  refine lv_ifnonnull (tgt := 9) hx hb (dg D_J5_append_cf1ce (i := 1) rfl) (by decide) ?_
  refine lv_aload_n hx hb (dg D_J5_append_cf1ce (i := 5) rfl) rfl (lv_at hl 1 rfl) ?_
  refine jVi X hAg hS hR (c_J0_length_8abf5 (l := l) (G := G) (bs := bs) (cy := cy) (A := A) hAg (fun z h => hAs z (Nat.le_trans hS.1 h)) a w tx) (by decide) UVJ0_length_8abf5 LK_J5_32 (r_recvT (hx9.kept hS.2.1)) (fun k q h => by cases h) (fun x9 h9 => by rw [List.mem_singleton.mp h9]; exact hx9.kept hS.2.1) rfl rfl (Nat.le_of_ble_eq_true rfl) hl hcs (dg D_J5_append_cf1ce (i := 6) rfl) (fun r9 hr9 => ?_)
  subst hr9
  refine lv_istore_n (lv' := [(2, .int (nI tx.length)), (0, .ref q), (1, .ref a)]) hx hb (dg D_J5_append_cf1ce (i := 7) rfl) rfl hl (by decide) rfl (fun ls hl => ?_)
  refine lv_aload_n hx hb (dg D_J5_append_cf1ce (i := 8) rfl) rfl (lv_at hl 1 rfl) ?_
  refine lv_aload_n hx hb (dg D_J5_append_cf1ce (i := 9) rfl) rfl (lv_at hl 1 rfl) ?_
  refine j_getB (i := 0) (q := q) (fs := [.ref v, .int (nI 0), .int (nI 0), .int (nI n9)]) X hP rfl FB_J5_79 rfl (dg D_J5_append_cf1ce (i := 10) rfl) ?_
  refine lv_iload_n hx hb (dg D_J5_append_cf1ce (i := 11) rfl) rfl (lv_at hl 0 rfl) ?_
  refine n_iadd hx hb (dg D_J5_append_cf1ce (i := 12) rfl) ?_
  refine jUBv X hAg hS hR (c_J5_ensureCapacityInternal_d00df (l := l) (G := G) (bs := bs) (cy := cy) (A := A) hAg (fun z h => hAs z (Nat.le_trans hS.1 h)) q v n9 m9 a9 (n9 + tx.length) (by first | assumption | omega) (hfb) (by first | assumption | omega) (by first | assumption | omega)) (by decide) UU_J5_100 (r_recvB X hP (i := 0) rfl) hP (fun x9 h9 => by cases h9) rfl rfl (Nat.le_of_ble_eq_true rfl) hl (⟨by show _ ≤ 1; omega, by show _ ≤ 600; omega⟩) (fun _ h => h) (dg D_J5_append_cf1ce (i := 13) rfl) (fun u H1 locs1 hq hP1 hk9 hS1 => ?_)
  have hcs : 0 + 1 ≤ (rmL 4 1 600).cells ∧ 0 + 600 ≤ (rmL 4 1 600).slots := ⟨by show _ ≤ 1; omega, by show _ ≤ 600; omega⟩
  obtain ⟨v1, m1, a1, rfl, hB1, hk1, hm1, hv1⟩ := en_uni hq hBT hm9 (by omega)
  have hv2 : v1 = v ∨ s.heap.size ≤ v1 := hv1
  have hv1A : A v1 := hv2.elim (fun z => z ▸ (vD2_ne hD).2.2) (fun z => hAs _ z)
  have hqv : q ≠ v1 := hv2.elim (fun z => z ▸ (vD2_ne hD).1) (fun z => by omega)
  have hP : va_P G vwCl [(q, obB v1 n9), (v1, arB cy m1 a1)] H1 := hP1
  have hD : va_D A [(q, obB v1 n9), (v1, arB cy m1 a1)] := vD2 hqA hv1A hqv
  have hS := hS1
  have hH1 := hS.1
  have hAA1 : ∀ z, (z = v1 ∨ H1.size ≤ z) → A z := fun z h => h.elim (fun e => e ▸ hv1A) (fun h => hAs z (Nat.le_trans hH1 h))
  refine lv_aload_n hx hb (dg D_J5_append_cf1ce (i := 14) rfl) rfl (lv_at hl 1 rfl) ?_
  refine lv_aload_n hx hb (dg D_J5_append_cf1ce (i := 15) rfl) rfl (lv_at hl 1 rfl) ?_
  refine j_getB (i := 0) (q := q) (fs := [.ref v1, .int (nI 0), .int (nI 0), .int (nI n9)]) X hP rfl FB_J5_79 rfl (dg D_J5_append_cf1ce (i := 16) rfl) ?_
  refine lv_aload_n hx hb (dg D_J5_append_cf1ce (i := 17) rfl) rfl (lv_at hl 2 rfl) ?_
  refine jUBv X hAg hS hR (c_J5_putStringAt_47b60 (l := l) (G := G) (bs := bs) (cy := cy) (A := A) hAg (fun z h => hAs z (Nat.le_trans hS.1 h)) q v1 n9 m1 a1 a w tx n9 (by first | assumption | omega) (by first | assumption | omega) (by first | assumption | omega)) (by decide) UU_J5_208 (r_recvB X hP (i := 0) rfl) hP (fun x9 h9 => by rw [List.mem_singleton.mp h9]; exact hx9.kept hS.2.1) rfl rfl (Nat.le_of_ble_eq_true rfl) hl (⟨by show _ ≤ 1; omega, by show _ ≤ 600; omega⟩) (fun _ h => h) (dg D_J5_append_cf1ce (i := 18) rfl) (fun u H1 locs1 hq hP1 hk9 hS1 => ?_)
  have hcs : 0 + 1 + 0 ≤ (rmL 4 1 600).cells ∧ 0 + 600 + 0 ≤ (rmL 4 1 600).slots := ⟨by show _ ≤ 1; omega, by show _ ≤ 600; omega⟩
  subst hq
  have hP : va_P G vwCl [(q, obB v1 n9), (v1, arB cy m1 ((va_cpy (fun j => nI (tx.getD j 0)) a1 0 n9 tx.length)))] H1 := hP1
  have hD : va_D A [(q, obB v1 n9), (v1, arB cy m1 ((va_cpy (fun j => nI (tx.getD j 0)) a1 0 n9 tx.length)))] := vD2 hqA hv1A hqv
  have hS := hS1
  refine lv_aload_n hx hb (dg D_J5_append_cf1ce (i := 19) rfl) rfl (lv_at hl 1 rfl) ?_
  refine lv_dup hx hb (dg D_J5_append_cf1ce (i := 20) rfl) rfl ?_
  refine j_getB (i := 0) (q := q) (fs := [.ref v1, .int (nI 0), .int (nI 0), .int (nI n9)]) X hP rfl FB_J5_79 rfl (dg D_J5_append_cf1ce (i := 21) rfl) ?_
  refine lv_iload_n hx hb (dg D_J5_append_cf1ce (i := 22) rfl) rfl (lv_at hl 0 rfl) ?_
  refine n_iadd hx hb (dg D_J5_append_cf1ce (i := 23) rfl) ?_
  refine j_putB (i := 0) (fs := [.ref v1, .int (nI 0), .int (nI 0), .int (nI n9)]) (v := .int (nI (n9 + tx.length))) (ty := .int) X hP hD hS rfl FB_J5_79 rfl (by decide +kernel) (by decide +kernel) rfl rfl (dg D_J5_append_cf1ce (i := 24) rfl) (fun H locs hP hD hS => ?_)
  have hP : va_P G vwCl [(q, obB v1 (n9 + tx.length)), (v1, arB cy m1 ((va_cpy (fun j => nI (tx.getD j 0)) a1 0 n9 tx.length)))] H := hP
  have hD : va_D A [(q, obB v1 (n9 + tx.length)), (v1, arB cy m1 ((va_cpy (fun j => nI (tx.getD j 0)) a1 0 n9 tx.length)))] := hD
  refine lv_aload_n hx hb (dg D_J5_append_cf1ce (i := 25) rfl) rfl (lv_at hl 1 rfl) ?_
  exact fin (dg D_J5_append_cf1ce (i := 26) rfl) (by omega) (by omega) hP hS (⟨rfl, v1, m1, _, by rw [List.length_append, ← hn9], hB1.cpy hn9 (fun _ => rfl) hx9.2.2.2.2.1 (by omega), hm1, by rw [← hsz]; exact hv2⟩)

