set_option maxHeartbeats 1000000 in
set_option maxRecDepth 100000 in
theorem c_J0_coder_7d493 {l : Launch} {G : va_G} {bs : Nat} {cy : Nat → ClassId} {sz : Nat} {A : Nat → Prop} (hAg : ∀ z, A z → Ag bs z) (hAn : ∀ z, sz ≤ z → A z) (a : Nat) (w : Nat) (tx : List Nat) : JSi l G bs cy MJ0_coder_7d493 1 [.ref a] sz A [] [(a, w, tx)] (fun r => r = nI 0) := by
  refine JSi.of (own := RJ0) pn_RJ0 rfl (Nat.le_of_ble_eq_true rfl) ?_
  intro p e s m args below meth c Qf X hsz hP hSs fin ls hl
  have hx := X.1
  have hb := X.2.1
  have hR : RmOK (rmL 1 0 0) 1 := ⟨rfl, rfl⟩
  have hcs : 0 ≤ (rmL 1 0 0).cells ∧ 0 ≤ (rmL 1 0 0).slots := ⟨Nat.zero_le _, Nat.zero_le _⟩
  have hS : va_S A s.heap s.heap [] := va_S.rf
  have hAs : ∀ z, s.heap.size ≤ z → A z := fun z h => hAn z (by rw [← hsz]; exact h)
  have hl : lv_has ls 1 [(0, .ref a)] := hl
  have hx9 := hSs _ (List.mem_singleton.mpr rfl)
  refine j_cs X hAg hS CS_J0_38 (dg D_J0_coder_7d493 (i := 0) rfl) ?_
  refine n_if_eq (tgt := 13) hx hb (by omega) (dg D_J0_coder_7d493 (i := 1) rfl) (by decide) (fun c3 => ?_) (fun c3 => ?_)
  · exact absurd c3 (by decide)
  · refine lv_aload_n hx hb (dg D_J0_coder_7d493 (i := 2) rfl) rfl (lv_at hl 0 rfl) ?_
    refine j_getTc X hS hx9 (dg D_J0_coder_7d493 (i := 3) rfl) ?_
    refine lv_goto (tgt := 14) hx hb (dg D_J0_coder_7d493 (i := 4) rfl) (by decide) ?_
    exact fin (dg D_J0_coder_7d493 (i := 6) rfl) rfl rfl

set_option maxHeartbeats 1000000 in
set_option maxRecDepth 100000 in
theorem c_J0_length_8abf5 {l : Launch} {G : va_G} {bs : Nat} {cy : Nat → ClassId} {sz : Nat} {A : Nat → Prop} (hAg : ∀ z, A z → Ag bs z) (hAn : ∀ z, sz ≤ z → A z) (a : Nat) (w : Nat) (tx : List Nat) : JSi l G bs cy MJ0_length_8abf5 2 [.ref a] sz A [] [(a, w, tx)] (fun r => r = nI tx.length) := by
  refine JSi.of (own := RJ0) pn_RJ0 rfl (Nat.le_of_ble_eq_true rfl) ?_
  intro p e s m args below meth c Qf X hsz hP hSs fin ls hl
  have hx := X.1
  have hb := X.2.1
  have hR : RmOK (rmL 2 0 0) 2 := ⟨rfl, rfl⟩
  have hcs : 0 ≤ (rmL 2 0 0).cells ∧ 0 ≤ (rmL 2 0 0).slots := ⟨Nat.zero_le _, Nat.zero_le _⟩
  have hS : va_S A s.heap s.heap [] := va_S.rf
  have hAs : ∀ z, s.heap.size ≤ z → A z := fun z h => hAn z (by rw [← hsz]; exact h)
  have hl : lv_has ls 1 [(0, .ref a)] := hl
  have hx9 := hSs _ (List.mem_singleton.mpr rfl)
  refine lv_aload_n hx hb (dg D_J0_length_8abf5 (i := 0) rfl) rfl (lv_at hl 0 rfl) ?_
  refine j_getTv X hS hx9 (dg D_J0_length_8abf5 (i := 1) rfl) ?_
  refine j_tlen X hS hx9 (dg D_J0_length_8abf5 (i := 2) rfl) ?_
  refine lv_aload_n hx hb (dg D_J0_length_8abf5 (i := 3) rfl) rfl (lv_at hl 0 rfl) ?_
  refine jVi X hAg hS hR (c_J0_coder_7d493 (l := l) (G := G) (bs := bs) (cy := cy) (A := A) hAg (fun z h => hAs z (Nat.le_trans hS.1 h)) a w tx) (by decide) UVJ0_coder_7d493 LK_J0_335 (r_recvT (hx9.kept hS.2.1)) (fun k q h => by cases h) (fun x9 h9 => by rw [List.mem_singleton.mp h9]; exact hx9.kept hS.2.1) rfl rfl (Nat.le_of_ble_eq_true rfl) hl hcs (dg D_J0_length_8abf5 (i := 4) rfl) (fun r9 hr9 => ?_)
  subst hr9
  refine lv_ishr hx hb (dg D_J0_length_8abf5 (i := 5) rfl) ?_
  rw [show (nI tx.length) >>> ((nI 0) &&& 31) = nI tx.length from shr0 _]
  exact fin (dg D_J0_length_8abf5 (i := 6) rfl) rfl rfl

set_option maxHeartbeats 1000000 in
set_option maxRecDepth 100000 in
theorem c_J0_isLatin1_aae02 {l : Launch} {G : va_G} {bs : Nat} {cy : Nat → ClassId} {sz : Nat} {A : Nat → Prop} (hAg : ∀ z, A z → Ag bs z) (hAn : ∀ z, sz ≤ z → A z) (a : Nat) (w : Nat) (tx : List Nat) : JSi l G bs cy MJ0_isLatin1_aae02 1 [.ref a] sz A [] [(a, w, tx)] (fun r => r = nI 1) := by
  refine JSi.of (own := RJ0) pn_RJ0 rfl (Nat.le_of_ble_eq_true rfl) ?_
  intro p e s m args below meth c Qf X hsz hP hSs fin ls hl
  have hx := X.1
  have hb := X.2.1
  have hR : RmOK (rmL 1 0 0) 1 := ⟨rfl, rfl⟩
  have hcs : 0 ≤ (rmL 1 0 0).cells ∧ 0 ≤ (rmL 1 0 0).slots := ⟨Nat.zero_le _, Nat.zero_le _⟩
  have hS : va_S A s.heap s.heap [] := va_S.rf
  have hAs : ∀ z, s.heap.size ≤ z → A z := fun z h => hAn z (by rw [← hsz]; exact h)
  have hl : lv_has ls 1 [(0, .ref a)] := hl
  have hx9 := hSs _ (List.mem_singleton.mpr rfl)
  refine j_cs X hAg hS CS_J0_38 (dg D_J0_isLatin1_aae02 (i := 0) rfl) ?_
  refine n_if_eq (tgt := 17) hx hb (by omega) (dg D_J0_isLatin1_aae02 (i := 1) rfl) (by decide) (fun c3 => ?_) (fun c3 => ?_)
  · exact absurd c3 (by decide)
  · refine lv_aload_n hx hb (dg D_J0_isLatin1_aae02 (i := 2) rfl) rfl (lv_at hl 0 rfl) ?_
    refine j_getTc X hS hx9 (dg D_J0_isLatin1_aae02 (i := 3) rfl) ?_
    refine n_if_ne (tgt := 17) hx hb (by omega) (dg D_J0_isLatin1_aae02 (i := 4) rfl) (by decide) (fun c10 => ?_) (fun c10 => ?_)
    · exact absurd c10 (by decide)
    · refine n_iconst (a := 1) hx hb (dg D_J0_isLatin1_aae02 (i := 5) rfl) rfl ?_
      refine lv_goto (tgt := 18) hx hb (dg D_J0_isLatin1_aae02 (i := 6) rfl) (by decide) ?_
      exact fin (dg D_J0_isLatin1_aae02 (i := 8) rfl) rfl rfl

set_option maxHeartbeats 1000000 in
set_option maxRecDepth 100000 in
theorem c_J3_checkIndex_8e157 {l : Launch} {G : va_G} {bs : Nat} {cy : Nat → ClassId} {sz : Nat} {A : Nat → Prop} (hAg : ∀ z, A z → Ag bs z) (hAn : ∀ z, sz ≤ z → A z) (i9 : Nat) (k9 : Nat) (t9 : Nat) (hi9 : i9 < k9) (hk9 : k9 < 2 ^ 31) : JSi l G bs cy MJ3_checkIndex_8e157 1 [.int (nI i9), .int (nI k9), .ref t9] sz A [] [] (fun r => r = nI i9) := by
  refine JSi.of (own := RJ3) pn_RJ3 rfl (Nat.le_of_ble_eq_true rfl) ?_
  intro p e s m args below meth c Qf X hsz hP hSs fin ls hl
  have hx := X.1
  have hb := X.2.1
  have hR : RmOK (rmL 1 0 0) 1 := ⟨rfl, rfl⟩
  have hcs : 0 ≤ (rmL 1 0 0).cells ∧ 0 ≤ (rmL 1 0 0).slots := ⟨Nat.zero_le _, Nat.zero_le _⟩
  have hS : va_S A s.heap s.heap [] := va_S.rf
  have hAs : ∀ z, s.heap.size ≤ z → A z := fun z h => hAn z (by rw [← hsz]; exact h)
  have hl : lv_has ls 3 [(0, .int (nI i9)), (1, .int (nI k9)), (2, .ref t9)] := hl
  refine lv_iload_n hx hb (dg D_J3_checkIndex_8e157 (i := 0) rfl) rfl (lv_at hl 0 rfl) ?_
  refine n_if_lt (tgt := 9) hx hb (by omega) (dg D_J3_checkIndex_8e157 (i := 1) rfl) (by decide) (fun c1 => ?_) (fun c1 => ?_)
  · exact c1.elim
  · refine lv_iload_n hx hb (dg D_J3_checkIndex_8e157 (i := 2) rfl) rfl (lv_at hl 0 rfl) ?_
    refine lv_iload_n hx hb (dg D_J3_checkIndex_8e157 (i := 3) rfl) rfl (lv_at hl 1 rfl) ?_
    refine n_icmp_lt (tgt := 16) hx hb (by omega) (by omega) (dg D_J3_checkIndex_8e157 (i := 4) rfl) (by decide) (fun c6 => ?_) (fun c6 => ?_)
    · refine lv_iload_n hx hb (dg D_J3_checkIndex_8e157 (i := 10) rfl) rfl (lv_at hl 0 rfl) ?_
      exact fin (dg D_J3_checkIndex_8e157 (i := 11) rfl) rfl rfl
    · exact absurd c6 (by omega)

set_option maxHeartbeats 1000000 in
set_option maxRecDepth 100000 in
theorem cN_J3_checkIndex {l : Launch} {G : va_G} {bs : Nat} {cy : Nat → ClassId} {sz : Nat} {A : Nat → Prop} (hAg : ∀ z, A z → Ag bs z) (hAn : ∀ z, sz ≤ z → A z) (i9 : Nat) (k9 : Nat) (hi9 : i9 < k9) (hk9 : k9 < 2 ^ 31) : JSi l G bs cy MJ3_checkIndex_8e157 1 [.int (nI i9), .int (nI k9), .null] sz A [] [] (fun r => r = nI i9) := by
  refine JSi.of (own := RJ3) pn_RJ3 rfl (Nat.le_of_ble_eq_true rfl) ?_
  intro p e s m args below meth c Qf X hsz hP hSs fin ls hl
  have hx := X.1
  have hb := X.2.1
  have hR : RmOK (rmL 1 0 0) 1 := ⟨rfl, rfl⟩
  have hcs : 0 ≤ (rmL 1 0 0).cells ∧ 0 ≤ (rmL 1 0 0).slots := ⟨Nat.zero_le _, Nat.zero_le _⟩
  have hS : va_S A s.heap s.heap [] := va_S.rf
  have hAs : ∀ z, s.heap.size ≤ z → A z := fun z h => hAn z (by rw [← hsz]; exact h)
  have hl : lv_has ls 3 [(0, .int (nI i9)), (1, .int (nI k9)), (2, .null)] := hl
  refine lv_iload_n hx hb (dg D_J3_checkIndex_8e157 (i := 0) rfl) rfl (lv_at hl 0 rfl) ?_
  refine n_if_lt (tgt := 9) hx hb (by omega) (dg D_J3_checkIndex_8e157 (i := 1) rfl) (by decide) (fun c1 => ?_) (fun c1 => ?_)
  · exact c1.elim
  · refine lv_iload_n hx hb (dg D_J3_checkIndex_8e157 (i := 2) rfl) rfl (lv_at hl 0 rfl) ?_
    refine lv_iload_n hx hb (dg D_J3_checkIndex_8e157 (i := 3) rfl) rfl (lv_at hl 1 rfl) ?_
    refine n_icmp_lt (tgt := 16) hx hb (by omega) (by omega) (dg D_J3_checkIndex_8e157 (i := 4) rfl) (by decide) (fun c6 => ?_) (fun c6 => ?_)
    · refine lv_iload_n hx hb (dg D_J3_checkIndex_8e157 (i := 10) rfl) rfl (lv_at hl 0 rfl) ?_
      exact fin (dg D_J3_checkIndex_8e157 (i := 11) rfl) rfl rfl
    · exact absurd c6 (by omega)

set_option maxHeartbeats 1000000 in
set_option maxRecDepth 100000 in
theorem c_J0_checkIndex_df160 {l : Launch} {G : va_G} {bs : Nat} {cy : Nat → ClassId} {sz : Nat} {A : Nat → Prop} (hAg : ∀ z, A z → Ag bs z) (hAn : ∀ z, sz ≤ z → A z) (i9 : Nat) (k9 : Nat) (hi9 : i9 < k9) (hk9 : k9 < 2 ^ 31) : JSv l G bs cy MJ0_checkIndex_df160 2 [.int (nI i9), .int (nI k9)] sz A [] [] := by
  refine JSv.of (own := RJ0) pn_RJ0 rfl (Nat.le_of_ble_eq_true rfl) ?_
  intro p e s m args below meth c Qf X hsz hP hSs fin ls hl
  have hx := X.1
  have hb := X.2.1
  have hR : RmOK (rmL 2 0 0) 2 := ⟨rfl, rfl⟩
  have hcs : 0 ≤ (rmL 2 0 0).cells ∧ 0 ≤ (rmL 2 0 0).slots := ⟨Nat.zero_le _, Nat.zero_le _⟩
  have hS : va_S A s.heap s.heap [] := va_S.rf
  have hAs : ∀ z, s.heap.size ≤ z → A z := fun z h => hAn z (by rw [← hsz]; exact h)
  have hl : lv_has ls 2 [(0, .int (nI i9)), (1, .int (nI k9))] := hl
  refine lv_iload_n hx hb (dg D_J0_checkIndex_df160 (i := 0) rfl) rfl (lv_at hl 0 rfl) ?_
  refine lv_iload_n hx hb (dg D_J0_checkIndex_df160 (i := 1) rfl) rfl (lv_at hl 1 rfl) ?_
  refine j_fm X hAg hS (dg D_J0_checkIndex_df160 (i := 2) rfl) (fun v9 hv9 => ?_)
  rcases hv9 with rfl | ⟨t9, rfl⟩
  · refine jSi X hAg hS hR (cN_J3_checkIndex (l := l) (G := G) (bs := bs) (cy := cy) (A := A) hAg (fun z h => hAs z (Nat.le_trans hS.1 h)) i9 k9 (by first | assumption | omega) (by first | assumption | omega)) (by decide) USJ3_checkIndex_8e157 LK_J0_1059 (fun k q h => by cases h) (fun x9 h9 => by cases h9) rfl rfl (Nat.le_of_ble_eq_true rfl) hl hcs (dg D_J0_checkIndex_df160 (i := 3) rfl) (fun r9 hr9 => ?_)
    subst hr9
    refine lv_pop hx hb (dg D_J0_checkIndex_df160 (i := 4) rfl) rfl ?_
    exact fin (dg D_J0_checkIndex_df160 (i := 5) rfl)
  · refine jSi X hAg hS hR (c_J3_checkIndex_8e157 (l := l) (G := G) (bs := bs) (cy := cy) (A := A) hAg (fun z h => hAs z (Nat.le_trans hS.1 h)) i9 k9 t9 (by first | assumption | omega) (by first | assumption | omega)) (by decide) USJ3_checkIndex_8e157 LK_J0_1059 (fun k q h => by cases h) (fun x9 h9 => by cases h9) rfl rfl (Nat.le_of_ble_eq_true rfl) hl hcs (dg D_J0_checkIndex_df160 (i := 3) rfl) (fun r9 hr9 => ?_)
    subst hr9
    refine lv_pop hx hb (dg D_J0_checkIndex_df160 (i := 4) rfl) rfl ?_
    exact fin (dg D_J0_checkIndex_df160 (i := 5) rfl)

set_option maxHeartbeats 1000000 in
set_option maxRecDepth 100000 in
theorem c_J1_charAt_3b067 {l : Launch} {G : va_G} {bs : Nat} {cy : Nat → ClassId} {sz : Nat} {A : Nat → Prop} (hAg : ∀ z, A z → Ag bs z) (hAn : ∀ z, sz ≤ z → A z) (a : Nat) (w : Nat) (tx : List Nat) (j9 : Nat) (hj9 : j9 < tx.length) : JSi l G bs cy MJ1_charAt_3b067 3 [.ref w, .int (nI j9)] sz A [] [(a, w, tx)] (fun r => r = nI (tx.getD j9 0)) := by
  refine JSi.of (own := RJ1) pn_RJ1 rfl (Nat.le_of_ble_eq_true rfl) ?_
  intro p e s m args below meth c Qf X hsz hP hSs fin ls hl
  have hx := X.1
  have hb := X.2.1
  have hR : RmOK (rmL 3 0 0) 3 := ⟨rfl, rfl⟩
  have hcs : 0 ≤ (rmL 3 0 0).cells ∧ 0 ≤ (rmL 3 0 0).slots := ⟨Nat.zero_le _, Nat.zero_le _⟩
  have hS : va_S A s.heap s.heap [] := va_S.rf
  have hAs : ∀ z, s.heap.size ≤ z → A z := fun z h => hAn z (by rw [← hsz]; exact h)
  have hl : lv_has ls 2 [(0, .ref w), (1, .int (nI j9))] := hl
  have hx9 := hSs _ (List.mem_singleton.mpr rfl)
  have hc128 : tx.getD j9 0 < 128 := getD_lt hx9.2.2.2.2.1 (by decide)
  have hl64 : tx.length ≤ 65536 := hx9.2.2.2.2.2
  refine lv_iload_n hx hb (dg D_J1_charAt_3b067 (i := 0) rfl) rfl (lv_at hl 1 rfl) ?_
  refine lv_aload_n hx hb (dg D_J1_charAt_3b067 (i := 1) rfl) rfl (lv_at hl 0 rfl) ?_
  refine j_tlen X hS hx9 (dg D_J1_charAt_3b067 (i := 2) rfl) ?_
  refine jSv X hAg hS hR (c_J0_checkIndex_df160 (l := l) (G := G) (bs := bs) (cy := cy) (A := A) hAg (fun z h => hAs z (Nat.le_trans hS.1 h)) j9 tx.length (by first | assumption | omega) (by first | assumption | omega)) (by decide) USJ0_checkIndex_df160 LK_J1_9 (fun k q h => by cases h) (fun x9 h9 => by cases h9) rfl rfl (Nat.le_of_ble_eq_true rfl) hl hcs (dg D_J1_charAt_3b067 (i := 3) rfl) ?_
  refine lv_aload_n hx hb (dg D_J1_charAt_3b067 (i := 4) rfl) rfl (lv_at hl 0 rfl) ?_
  refine lv_iload_n hx hb (dg D_J1_charAt_3b067 (i := 5) rfl) rfl (lv_at hl 1 rfl) ?_
  refine j_tald (j := j9) X hS hx9 (by omega) (dg D_J1_charAt_3b067 (i := 6) rfl) ?_
  refine lv_sipush (v := nI 255) hx hb (dg D_J1_charAt_3b067 (i := 7) rfl) (by decide) ?_
  refine lv_iand hx hb (dg D_J1_charAt_3b067 (i := 8) rfl) ?_
  rw [show (nI (tx.getD j9 0)) &&& (nI 255) = nI (tx.getD j9 0) from chr1 _ hc128]
  refine lv_i2c (v := ((nI (tx.getD j9 0)).toUInt32 % 65536).toInt32) hx hb (dg D_J1_charAt_3b067 (i := 9) rfl) rfl ?_
  rw [show ((nI (tx.getD j9 0)).toUInt32 % 65536).toInt32 = nI (tx.getD j9 0) from chr2 _ hc128]
  exact fin (dg D_J1_charAt_3b067 (i := 10) rfl) (chr3 _ hc128) rfl

set_option maxHeartbeats 1000000 in
set_option maxRecDepth 100000 in
theorem c_J0_charAt_5068e {l : Launch} {G : va_G} {bs : Nat} {cy : Nat → ClassId} {sz : Nat} {A : Nat → Prop} (hAg : ∀ z, A z → Ag bs z) (hAn : ∀ z, sz ≤ z → A z) (a : Nat) (w : Nat) (tx : List Nat) (j9 : Nat) (hj9 : j9 < tx.length) : JSi l G bs cy MJ0_charAt_5068e 4 [.ref a, .int (nI j9)] sz A [] [(a, w, tx)] (fun r => r = nI (tx.getD j9 0)) := by
  refine JSi.of (own := RJ0) pn_RJ0 rfl (Nat.le_of_ble_eq_true rfl) ?_
  intro p e s m args below meth c Qf X hsz hP hSs fin ls hl
  have hx := X.1
  have hb := X.2.1
  have hR : RmOK (rmL 4 0 0) 4 := ⟨rfl, rfl⟩
  have hcs : 0 ≤ (rmL 4 0 0).cells ∧ 0 ≤ (rmL 4 0 0).slots := ⟨Nat.zero_le _, Nat.zero_le _⟩
  have hS : va_S A s.heap s.heap [] := va_S.rf
  have hAs : ∀ z, s.heap.size ≤ z → A z := fun z h => hAn z (by rw [← hsz]; exact h)
  have hl : lv_has ls 2 [(0, .ref a), (1, .int (nI j9))] := hl
  have hx9 := hSs _ (List.mem_singleton.mpr rfl)
  have hc128 : tx.getD j9 0 < 128 := getD_lt hx9.2.2.2.2.1 (by decide)
  refine lv_aload_n hx hb (dg D_J0_charAt_5068e (i := 0) rfl) rfl (lv_at hl 0 rfl) ?_
  refine jVi X hAg hS hR (c_J0_isLatin1_aae02 (l := l) (G := G) (bs := bs) (cy := cy) (A := A) hAg (fun z h => hAs z (Nat.le_trans hS.1 h)) a w tx) (by decide) UVJ0_isLatin1_aae02 LK_J0_492 (r_recvT (hx9.kept hS.2.1)) (fun k q h => by cases h) (fun x9 h9 => by rw [List.mem_singleton.mp h9]; exact hx9.kept hS.2.1) rfl rfl (Nat.le_of_ble_eq_true rfl) hl hcs (dg D_J0_charAt_5068e (i := 1) rfl) (fun r9 hr9 => ?_)
  subst hr9
  refine n_if_eq (tgt := 16) hx hb (by omega) (dg D_J0_charAt_5068e (i := 2) rfl) (by decide) (fun c4 => ?_) (fun c4 => ?_)
  · exact absurd c4 (by decide)
  · refine lv_aload_n hx hb (dg D_J0_charAt_5068e (i := 3) rfl) rfl (lv_at hl 0 rfl) ?_
    refine j_getTv X hS hx9 (dg D_J0_charAt_5068e (i := 4) rfl) ?_
    refine lv_iload_n hx hb (dg D_J0_charAt_5068e (i := 5) rfl) rfl (lv_at hl 1 rfl) ?_
    refine jSi X hAg hS hR (c_J1_charAt_3b067 (l := l) (G := G) (bs := bs) (cy := cy) (A := A) hAg (fun z h => hAs z (Nat.le_trans hS.1 h)) a w tx j9 (by first | assumption | omega)) (by decide) USJ1_charAt_3b067 LK_J0_495 (fun k q h => by cases h) (fun x9 h9 => by rw [List.mem_singleton.mp h9]; exact hx9.kept hS.2.1) rfl rfl (Nat.le_of_ble_eq_true rfl) hl hcs (dg D_J0_charAt_5068e (i := 6) rfl) (fun r9 hr9 => ?_)
    subst hr9
    exact fin (dg D_J0_charAt_5068e (i := 7) rfl) (chr3 _ hc128) rfl

set_option maxHeartbeats 1000000 in
set_option maxRecDepth 100000 in
theorem c_J5_inflateIfNeededFor_a7421 {l : Launch} {G : va_G} {bs : Nat} {cy : Nat → ClassId} {sz : Nat} {A : Nat → Prop} (hAg : ∀ z, A z → Ag bs z) (hAn : ∀ z, sz ≤ z → A z) (q : Nat) (v : Nat) (n9 : Nat) (m9 : Nat) (a9 : Nat → Int32) (a : Nat) (w : Nat) (tx : List Nat) : JSv l G bs cy MJ5_inflateIfNeededFor_a7421 2 [.ref q, .ref a] sz A [(q, obB v n9), (v, arB cy m9 a9)] [(a, w, tx)] := by
  refine JSv.of (own := RJ5) pn_RJ5 rfl (Nat.le_of_ble_eq_true rfl) ?_
  intro p e s m args below meth c Qf X hsz hP hSs fin ls hl
  have hx := X.1
  have hb := X.2.1
  have hR : RmOK (rmL 2 0 0) 2 := ⟨rfl, rfl⟩
  have hcs : 0 ≤ (rmL 2 0 0).cells ∧ 0 ≤ (rmL 2 0 0).slots := ⟨Nat.zero_le _, Nat.zero_le _⟩
  have hS : va_S A s.heap s.heap [] := va_S.rf
  have hAs : ∀ z, s.heap.size ≤ z → A z := fun z h => hAn z (by rw [← hsz]; exact h)
  have hl : lv_has ls 2 [(0, .ref q), (1, .ref a)] := hl
  have hx9 := hSs _ (List.mem_singleton.mpr rfl)
  refine j_cs X hAg hS CS_J5_18 (dg D_J5_inflateIfNeededFor_a7421 (i := 0) rfl) ?_
  refine n_if_eq (tgt := 21) hx hb (by omega) (dg D_J5_inflateIfNeededFor_a7421 (i := 1) rfl) (by decide) (fun c3 => ?_) (fun c3 => ?_)
  · exact absurd c3 (by decide)
  · refine lv_aload_n hx hb (dg D_J5_inflateIfNeededFor_a7421 (i := 2) rfl) rfl (lv_at hl 0 rfl) ?_
    refine j_getB (i := 0) (q := q) (fs := [.ref v, .int (nI 0), .int (nI 0), .int (nI n9)]) X hP rfl FB_J5_22 rfl (dg D_J5_inflateIfNeededFor_a7421 (i := 3) rfl) ?_
    refine lv_aload_n hx hb (dg D_J5_inflateIfNeededFor_a7421 (i := 4) rfl) rfl (lv_at hl 1 rfl) ?_
    refine jVi X hAg hS hR (c_J0_coder_7d493 (l := l) (G := G) (bs := bs) (cy := cy) (A := A) hAg (fun z h => hAs z (Nat.le_trans hS.1 h)) a w tx) (by decide) UVJ0_coder_7d493 LK_J5_40 (r_recvT (hx9.kept hS.2.1)) (fun k q h => by cases h) (fun x9 h9 => by rw [List.mem_singleton.mp h9]; exact hx9.kept hS.2.1) rfl rfl (Nat.le_of_ble_eq_true rfl) hl hcs (dg D_J5_inflateIfNeededFor_a7421 (i := 5) rfl) (fun r9 hr9 => ?_)
    subst hr9
    refine n_icmp_eq (tgt := 21) hx hb (by omega) (by omega) (dg D_J5_inflateIfNeededFor_a7421 (i := 6) rfl) (by decide) (fun c14 => ?_) (fun c14 => ?_)
    · exact fin (dg D_J5_inflateIfNeededFor_a7421 (i := 9) rfl)
    · exact absurd c14 (by decide)

