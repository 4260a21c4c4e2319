set_option maxHeartbeats 1000000 in
set_option maxRecDepth 100000 in
theorem c_J5_isLatin1_aae02 {l : Launch} {G : va_G} {bs : Nat} {cy : Nat → ClassId} {sz : Nat} {A : Nat → Prop} (hAg : ∀ z, A z → Ag bs z) (hAn : ∀ z, sz ≤ z → A z) (q : Nat) (v : Nat) (n9 : Nat) (m9 : Nat) (a9 : Nat → Int32) : JSi l G bs cy MJ5_isLatin1_aae02 1 [.ref q] sz A [(q, obB v n9), (v, arB cy m9 a9)] [] (fun r => r = nI 1) := by
  refine JSi.of (own := RJ5) pn_RJ5 rfl (Nat.le_of_ble_eq_true rfl) ?_
  intro p e s m args below meth c Qf X hsz hP hSs fin ls hl
  have hx := X.1
  have hb := X.2.1
  have hR : RmOK (rmL 1 0 0) 1 := ⟨rfl, rfl⟩
  have hcs : 0 ≤ (rmL 1 0 0).cells ∧ 0 ≤ (rmL 1 0 0).slots := ⟨Nat.zero_le _, Nat.zero_le _⟩
  have hS : va_S A s.heap s.heap [] := va_S.rf
  have hAs : ∀ z, s.heap.size ≤ z → A z := fun z h => hAn z (by rw [← hsz]; exact h)
  have hl : lv_has ls 1 [(0, .ref q)] := hl
  refine j_cs X hAg hS CS_J5_18 (dg D_J5_isLatin1_aae02 (i := 0) rfl) ?_
  refine n_if_eq (tgt := 17) hx hb (by omega) (dg D_J5_isLatin1_aae02 (i := 1) rfl) (by decide) (fun c3 => ?_) (fun c3 => ?_)
  · exact absurd c3 (by decide)
  · refine lv_aload_n hx hb (dg D_J5_isLatin1_aae02 (i := 2) rfl) rfl (lv_at hl 0 rfl) ?_
    refine j_getB (i := 0) (q := q) (fs := [.ref v, .int (nI 0), .int (nI 0), .int (nI n9)]) X hP rfl FB_J5_22 rfl (dg D_J5_isLatin1_aae02 (i := 3) rfl) ?_
    refine n_if_ne (tgt := 17) hx hb (by omega) (dg D_J5_isLatin1_aae02 (i := 4) rfl) (by decide) (fun c10 => ?_) (fun c10 => ?_)
    · exact absurd c10 (by decide)
    · refine n_iconst (a := 1) hx hb (dg D_J5_isLatin1_aae02 (i := 5) rfl) rfl ?_
      refine lv_goto (tgt := 18) hx hb (dg D_J5_isLatin1_aae02 (i := 6) rfl) (by decide) ?_
      exact fin (dg D_J5_isLatin1_aae02 (i := 8) rfl) rfl rfl

set_option maxHeartbeats 1000000 in
set_option maxRecDepth 100000 in
theorem c_J5_length_8abf5 {l : Launch} {G : va_G} {bs : Nat} {cy : Nat → ClassId} {sz : Nat} {A : Nat → Prop} (hAg : ∀ z, A z → Ag bs z) (hAn : ∀ z, sz ≤ z → A z) (q : Nat) (v : Nat) (n9 : Nat) (m9 : Nat) (a9 : Nat → Int32) : JSi l G bs cy MJ5_length_8abf5 1 [.ref q] sz A [(q, obB v n9), (v, arB cy m9 a9)] [] (fun r => r = nI n9) := by
  refine JSi.of (own := RJ5) pn_RJ5 rfl (Nat.le_of_ble_eq_true rfl) ?_
  intro p e s m args below meth c Qf X hsz hP hSs fin ls hl
  have hx := X.1
  have hb := X.2.1
  have hR : RmOK (rmL 1 0 0) 1 := ⟨rfl, rfl⟩
  have hcs : 0 ≤ (rmL 1 0 0).cells ∧ 0 ≤ (rmL 1 0 0).slots := ⟨Nat.zero_le _, Nat.zero_le _⟩
  have hS : va_S A s.heap s.heap [] := va_S.rf
  have hAs : ∀ z, s.heap.size ≤ z → A z := fun z h => hAn z (by rw [← hsz]; exact h)
  have hl : lv_has ls 1 [(0, .ref q)] := hl
  refine lv_aload_n hx hb (dg D_J5_length_8abf5 (i := 0) rfl) rfl (lv_at hl 0 rfl) ?_
  refine j_getB (i := 0) (q := q) (fs := [.ref v, .int (nI 0), .int (nI 0), .int (nI n9)]) X hP rfl FB_J5_79 rfl (dg D_J5_length_8abf5 (i := 1) rfl) ?_
  exact fin (dg D_J5_length_8abf5 (i := 2) rfl) rfl rfl

set_option maxHeartbeats 1000000 in
set_option maxRecDepth 100000 in
theorem c_J4_length_8abf5 {l : Launch} {G : va_G} {bs : Nat} {cy : Nat → ClassId} {sz : Nat} {A : Nat → Prop} (hAg : ∀ z, A z → Ag bs z) (hAn : ∀ z, sz ≤ z → A z) (q : Nat) (v : Nat) (n9 : Nat) (m9 : Nat) (a9 : Nat → Int32) : JSi l G bs cy MJ4_length_8abf5 2 [.ref q] sz A [(q, obB v n9), (v, arB cy m9 a9)] [] (fun r => r = nI n9) := by
  refine JSi.of (own := RJ4) pn_RJ4 rfl (Nat.le_of_ble_eq_true rfl) ?_
  intro p e s m args below meth c Qf X hsz hP hSs fin ls hl
  have hx := X.1
  have hb := X.2.1
  have hR : RmOK (rmL 2 0 0) 2 := ⟨rfl, rfl⟩
  have hcs : 0 ≤ (rmL 2 0 0).cells ∧ 0 ≤ (rmL 2 0 0).slots := ⟨Nat.zero_le _, Nat.zero_le _⟩
  have hS : va_S A s.heap s.heap [] := va_S.rf
  have hAs : ∀ z, s.heap.size ≤ z → A z := fun z h => hAn z (by rw [← hsz]; exact h)
  have hl : lv_has ls 1 [(0, .ref q)] := hl
  refine lv_aload_n hx hb (dg D_J4_length_8abf5 (i := 0) rfl) rfl (lv_at hl 0 rfl) ?_
  refine jPi X hAg hS hR (c_J5_length_8abf5 (l := l) (G := G) (bs := bs) (cy := cy) (A := A) hAg (fun z h => hAs z (Nat.le_trans hS.1 h)) q v n9 m9 a9) (by decide) SUp_J4_343 rfl (r_recvB X hP (i := 0) rfl) hP (fun x9 h9 => by cases h9) rfl rfl (Nat.le_of_ble_eq_true rfl) hl hcs (dg D_J4_length_8abf5 (i := 1) rfl) (fun r9 hr9 => ?_)
  subst hr9
  exact fin (dg D_J4_length_8abf5 (i := 2) rfl) rfl rfl

set_option maxHeartbeats 1000000 in
set_option maxRecDepth 100000 in
theorem c_J5_getValue_6d5f1 {l : Launch} {G : va_G} {bs : Nat} {cy : Nat → ClassId} {sz : Nat} {A : Nat → Prop} (hAg : ∀ z, A z → Ag bs z) (hAn : ∀ z, sz ≤ z → A z) (q : Nat) (v : Nat) (n9 : Nat) (m9 : Nat) (a9 : Nat → Int32) : JSr l G bs cy MJ5_getValue_6d5f1 1 [.ref q] sz A [(q, obB v n9), (v, arB cy m9 a9)] [] v := by
  refine JSr.of (own := RJ5) (by first | exact Or.inl ⟨_, rfl⟩ | exact Or.inr ⟨_, rfl⟩) pn_RJ5 rfl (Nat.le_of_ble_eq_true rfl) ?_
  intro p e s m args below meth c Qf X hsz hP hSs fin ls hl
  have hx := X.1
  have hb := X.2.1
  have hR : RmOK (rmL 1 0 0) 1 := ⟨rfl, rfl⟩
  have hcs : 0 ≤ (rmL 1 0 0).cells ∧ 0 ≤ (rmL 1 0 0).slots := ⟨Nat.zero_le _, Nat.zero_le _⟩
  have hS : va_S A s.heap s.heap [] := va_S.rf
  have hAs : ∀ z, s.heap.size ≤ z → A z := fun z h => hAn z (by rw [← hsz]; exact h)
  have hl : lv_has ls 1 [(0, .ref q)] := hl
  refine lv_aload_n hx hb (dg D_J5_getValue_6d5f1 (i := 0) rfl) rfl (lv_at hl 0 rfl) ?_
  refine j_getB (i := 0) (q := q) (fs := [.ref v, .int (nI 0), .int (nI 0), .int (nI n9)]) X hP rfl FB_J5_15 rfl (dg D_J5_getValue_6d5f1 (i := 1) rfl) ?_
  exact fin (dg D_J5_getValue_6d5f1 (i := 2) rfl)

set_option maxHeartbeats 1000000 in
set_option maxRecDepth 100000 in
theorem c_J1_canEncode_fc78d {l : Launch} {G : va_G} {bs : Nat} {cy : Nat → ClassId} {sz : Nat} {A : Nat → Prop} (hAg : ∀ z, A z → Ag bs z) (hAn : ∀ z, sz ≤ z → A z) (ch : Nat) (hc : ch < 128) : JSi l G bs cy MJ1_canEncode_fc78d 1 [.int (nI ch)] sz A [] [] (fun r => r = nI 1) := by
  refine JSi.of (own := RJ1) pn_RJ1 rfl (Nat.le_of_ble_eq_true rfl) ?_
  intro p e s m args below meth c Qf X hsz hP hSs fin ls hl
  have hx := X.1
  have hb := X.2.1
  have hR : RmOK (rmL 1 0 0) 1 := ⟨rfl, rfl⟩
  have hcs : 0 ≤ (rmL 1 0 0).cells ∧ 0 ≤ (rmL 1 0 0).slots := ⟨Nat.zero_le _, Nat.zero_le _⟩
  have hS : va_S A s.heap s.heap [] := va_S.rf
  have hAs : ∀ z, s.heap.size ≤ z → A z := fun z h => hAn z (by rw [← hsz]; exact h)
  have hl : lv_has ls 1 [(0, .int (nI ch))] := hl
  refine lv_iload_n hx hb (dg D_J1_canEncode_fc78d (i := 0) rfl) rfl (lv_at hl 0 rfl) ?_
  refine lv_sipush (v := nI 255) hx hb (dg D_J1_canEncode_fc78d (i := 1) rfl) (by decide) ?_
  refine n_icmp_gt (tgt := 11) hx hb (by omega) (by omega) (dg D_J1_canEncode_fc78d (i := 2) rfl) (by decide) (fun c4 => ?_) (fun c4 => ?_)
  · exact absurd c4 (by omega)
  · refine n_iconst (a := 1) hx hb (dg D_J1_canEncode_fc78d (i := 3) rfl) rfl ?_
    refine lv_goto (tgt := 12) hx hb (dg D_J1_canEncode_fc78d (i := 4) rfl) (by decide) ?_
    exact fin (dg D_J1_canEncode_fc78d (i := 6) rfl) rfl rfl

set_option maxHeartbeats 1000000 in
set_option maxRecDepth 100000 in
theorem c_J8_newLength_cabcc {l : Launch} {G : va_G} {bs : Nat} {cy : Nat → ClassId} {sz : Nat} {A : Nat → Prop} (hAg : ∀ z, A z → Ag bs z) (hAn : ∀ z, sz ≤ z → A z) (o9 : Nat) (g9 : Nat) (p9 : Nat) (ho9 : o9 + max g9 p9 < 2 ^ 30) (hp9 : 0 < p9) : JSi l G bs cy MJ8_newLength_cabcc 1 [.int (nI o9), .int (nI g9), .int (nI p9)] sz A [] [] (fun r => r = nI (o9 + max g9 p9)) := by
  refine JSi.of (own := RJ8) pn_RJ8 rfl (Nat.le_of_ble_eq_true rfl) ?_
  intro p e s m args below meth c Qf X hsz hP hSs fin ls hl
  have hx := X.1
  have hb := X.2.1
  have hR : RmOK (rmL 1 0 0) 1 := ⟨rfl, rfl⟩
  have hcs : 0 ≤ (rmL 1 0 0).cells ∧ 0 ≤ (rmL 1 0 0).slots := ⟨Nat.zero_le _, Nat.zero_le _⟩
  have hS : va_S A s.heap s.heap [] := va_S.rf
  have hAs : ∀ z, s.heap.size ≤ z → A z := fun z h => hAn z (by rw [← hsz]; exact h)
  have hl : lv_has ls 4 [(0, .int (nI o9)), (1, .int (nI g9)), (2, .int (nI p9))] := hl
  refine lv_iload_n hx hb (dg D_J8_newLength_cabcc (i := 0) rfl) rfl (lv_at hl 0 rfl) ?_
  refine lv_iload_n hx hb (dg D_J8_newLength_cabcc (i := 1) rfl) rfl (lv_at hl 1 rfl) ?_
  refine lv_iload_n hx hb (dg D_J8_newLength_cabcc (i := 2) rfl) rfl (lv_at hl 2 rfl) ?_
  refine r_max (v := nI (max g9 p9)) X hR (by decide) LK_J8_194 (Nat.le_of_ble_eq_true rfl) hl hcs (mxN (by omega) (by omega)) (dg D_J8_newLength_cabcc (i := 3) rfl) ?_
  refine n_iadd hx hb (dg D_J8_newLength_cabcc (i := 4) rfl) ?_
  refine lv_istore_n (lv' := [(3, .int (nI (o9 + (max g9 p9)))), (0, .int (nI o9)), (1, .int (nI g9)), (2, .int (nI p9))]) hx hb (dg D_J8_newLength_cabcc (i := 5) rfl) rfl hl (by decide) rfl (fun ls hl => ?_)
  refine n_iconst (a := 0) hx hb (dg D_J8_newLength_cabcc (i := 6) rfl) rfl ?_
  refine lv_iload_n hx hb (dg D_J8_newLength_cabcc (i := 7) rfl) rfl (lv_at hl 0 rfl) ?_
  refine n_icmp_ge (tgt := 21) hx hb (by omega) (by omega) (dg D_J8_newLength_cabcc (i := 8) rfl) (by decide) (fun c10 => ?_) (fun c10 => ?_)
  · exact absurd c10 (by omega)
  · refine lv_iload_n hx hb (dg D_J8_newLength_cabcc (i := 9) rfl) rfl (lv_at hl 0 rfl) ?_
    refine r_ldc X CK_J8_200 (dg D_J8_newLength_cabcc (i := 10) rfl) ?_
    refine lv_icmp_gt (tgt := 21) hx hb (dg D_J8_newLength_cabcc (i := 11) rfl) (by decide) (fun c16 => ?_) (fun c16 => ?_)
    · exact absurd c16 (big1 (by omega))
    · refine lv_iload_n hx hb (dg D_J8_newLength_cabcc (i := 12) rfl) rfl (lv_at hl 0 rfl) ?_
      exact fin (dg D_J8_newLength_cabcc (i := 13) rfl) rfl rfl

set_option maxHeartbeats 1000000 in
set_option maxRecDepth 100000 in
theorem c_J5_newCapacity_0f7a4 {l : Launch} {G : va_G} {bs : Nat} {cy : Nat → ClassId} {sz : Nat} {A : Nat → Prop} (hAg : ∀ z, A z → Ag bs z) (hAn : ∀ z, sz ≤ z → A z) (q : Nat) (v : Nat) (n9 : Nat) (m9 : Nat) (a9 : Nat → Int32) (k : Nat) (hk : m9 < k) (hk3 : k ≤ 300) : JSi l G bs cy MJ5_newCapacity_0f7a4 2 [.ref q, .int (nI k)] sz A [(q, obB v n9), (v, arB cy m9 a9)] [] (fun r => r = nI (capK m9 k)) := by
  refine JSi.of (own := RJ5) pn_RJ5 rfl (Nat.le_of_ble_eq_true rfl) ?_
  intro p e s m args below meth c Qf X hsz hP hSs fin ls hl
  have hx := X.1
  have hb := X.2.1
  have hR : RmOK (rmL 2 0 0) 2 := ⟨rfl, rfl⟩
  have hcs : 0 ≤ (rmL 2 0 0).cells ∧ 0 ≤ (rmL 2 0 0).slots := ⟨Nat.zero_le _, Nat.zero_le _⟩
  have hS : va_S A s.heap s.heap [] := va_S.rf
  have hAs : ∀ z, s.heap.size ≤ z → A z := fun z h => hAn z (by rw [← hsz]; exact h)
  have hl : lv_has ls 6 [(0, .ref q), (1, .int (nI k))] := hl
  refine lv_aload_n hx hb (dg D_J5_newCapacity_0f7a4 (i := 0) rfl) rfl (lv_at hl 0 rfl) ?_
  refine j_getB (i := 0) (q := q) (fs := [.ref v, .int (nI 0), .int (nI 0), .int (nI n9)]) X hP rfl FB_J5_15 rfl (dg D_J5_newCapacity_0f7a4 (i := 1) rfl) ?_
  refine j_alen (i := 1) (m9 := m9) (a := a9) X hP rfl (dg D_J5_newCapacity_0f7a4 (i := 2) rfl) ?_
  refine lv_istore_n (lv' := [(2, .int (nI m9)), (0, .ref q), (1, .int (nI k))]) hx hb (dg D_J5_newCapacity_0f7a4 (i := 3) rfl) rfl hl (by decide) rfl (fun ls hl => ?_)
  refine lv_iload_n hx hb (dg D_J5_newCapacity_0f7a4 (i := 4) rfl) rfl (lv_at hl 2 rfl) ?_
  refine lv_aload_n hx hb (dg D_J5_newCapacity_0f7a4 (i := 5) rfl) rfl (lv_at hl 1 rfl) ?_
  refine j_getB (i := 0) (q := q) (fs := [.ref v, .int (nI 0), .int (nI 0), .int (nI n9)]) X hP rfl FB_J5_22 rfl (dg D_J5_newCapacity_0f7a4 (i := 6) rfl) ?_
  refine lv_ishl hx hb (dg D_J5_newCapacity_0f7a4 (i := 7) rfl) ?_
  rw [show (nI k) <<< ((nI 0) &&& 31) = nI k from shl0 _]
  refine lv_istore_n (lv' := [(3, .int (nI k)), (2, .int (nI m9)), (0, .ref q), (1, .int (nI k))]) hx hb (dg D_J5_newCapacity_0f7a4 (i := 8) rfl) rfl hl (by decide) rfl (fun ls hl => ?_)
  refine lv_iload_n hx hb (dg D_J5_newCapacity_0f7a4 (i := 9) rfl) rfl (lv_at hl 0 rfl) ?_
  refine lv_iload_n hx hb (dg D_J5_newCapacity_0f7a4 (i := 10) rfl) rfl (lv_at hl 1 rfl) ?_
  refine n_isub hx hb (dg D_J5_newCapacity_0f7a4 (i := 11) rfl) (by omega) ?_
  refine lv_istore (lv' := [(4, .int (nI (k - m9))), (3, .int (nI k)), (2, .int (nI m9)), (0, .ref q), (1, .int (nI k))]) hx hb (dg D_J5_newCapacity_0f7a4 (i := 12) rfl) hl (by decide) rfl (fun ls hl => ?_)
  refine lv_iload_n hx hb (dg D_J5_newCapacity_0f7a4 (i := 13) rfl) rfl (lv_at hl 2 rfl) ?_
  refine lv_iload hx hb (dg D_J5_newCapacity_0f7a4 (i := 14) rfl) (lv_at hl 0 rfl) ?_
  refine lv_iload_n hx hb (dg D_J5_newCapacity_0f7a4 (i := 15) rfl) rfl (lv_at hl 2 rfl) ?_
  refine n_iconst (a := 2) hx hb (dg D_J5_newCapacity_0f7a4 (i := 16) rfl) rfl ?_
  refine lv_aload_n hx hb (dg D_J5_newCapacity_0f7a4 (i := 17) rfl) rfl (lv_at hl 3 rfl) ?_
  refine j_getB (i := 0) (q := q) (fs := [.ref v, .int (nI 0), .int (nI 0), .int (nI n9)]) X hP rfl FB_J5_22 rfl (dg D_J5_newCapacity_0f7a4 (i := 18) rfl) ?_
  refine lv_ishl hx hb (dg D_J5_newCapacity_0f7a4 (i := 19) rfl) ?_
  rw [show (nI 2) <<< ((nI 0) &&& 31) = nI 2 from shl0 _]
  refine n_iadd hx hb (dg D_J5_newCapacity_0f7a4 (i := 20) rfl) ?_
  refine jSi X hAg hS hR (c_J8_newLength_cabcc (l := l) (G := G) (bs := bs) (cy := cy) (A := A) hAg (fun z h => hAs z (Nat.le_trans hS.1 h)) m9 (k - m9) (m9 + 2) ((by omega)) ((by omega))) (by decide) USJ8_newLength_cabcc LK_J5_114 (fun k q h => by cases h) (fun x9 h9 => by cases h9) rfl rfl (Nat.le_of_ble_eq_true rfl) hl hcs (dg D_J5_newCapacity_0f7a4 (i := 21) rfl) (fun r9 hr9 => ?_)
  subst hr9
  refine lv_istore (lv' := [(5, .int (nI (capK m9 k))), (4, .int (nI (k - m9))), (3, .int (nI k)), (2, .int (nI m9)), (0, .ref q), (1, .int (nI k))]) hx hb (dg D_J5_newCapacity_0f7a4 (i := 22) rfl) hl (by decide) rfl (fun ls hl => ?_)
  refine lv_iload hx hb (dg D_J5_newCapacity_0f7a4 (i := 23) rfl) (lv_at hl 0 rfl) ?_
  refine r_ldc X CK_J5_39 (dg D_J5_newCapacity_0f7a4 (i := 24) rfl) ?_
  refine lv_icmp_ne (tgt := 51) hx hb (dg D_J5_newCapacity_0f7a4 (i := 25) rfl) (by decide) (fun c38 => ?_) (fun c38 => ?_)
  · refine lv_iload hx hb (dg D_J5_newCapacity_0f7a4 (i := 31) rfl) (lv_at hl 0 rfl) ?_
    refine lv_aload_n hx hb (dg D_J5_newCapacity_0f7a4 (i := 32) rfl) rfl (lv_at hl 4 rfl) ?_
    refine j_getB (i := 0) (q := q) (fs := [.ref v, .int (nI 0), .int (nI 0), .int (nI n9)]) X hP rfl FB_J5_22 rfl (dg D_J5_newCapacity_0f7a4 (i := 33) rfl) ?_
    refine lv_ishr hx hb (dg D_J5_newCapacity_0f7a4 (i := 34) rfl) ?_
    rw [show (nI (capK m9 k)) >>> ((nI 0) &&& 31) = nI (capK m9 k) from shr0 _]
    exact fin (dg D_J5_newCapacity_0f7a4 (i := 35) rfl) rfl rfl
  · exact absurd (by first | exact c38 | exact Classical.not_not.mp c38) (big2 (n := capK m9 k) (by have := capK_le hk hk3; omega))

