set_option maxHeartbeats 1000000 in
set_option maxRecDepth 100000 in
theorem c_J0_getBytes_840e7 {l : Launch} {G : va_G} {bs : Nat} {cy : Nat → ClassId} {sz : Nat} {A : Nat → Prop} (hAg : ∀ z, A z → Ag bs z) (hAn : ∀ z, sz ≤ z → A z) (a : Nat) (w : Nat) (tx : List Nat) (v : Nat) (m9 : Nat) (a9 : Nat → Int32) (at9 : Nat) (hD : va_D A [(v, arB cy m9 a9)]) (hat : at9 + tx.length ≤ m9) (hm9 : m9 ≤ 65536) : JBv l G bs cy MJ0_getBytes_840e7 2 [.ref a, .ref v, .int (nI at9), .int (nI 0)] sz A [(v, arB cy m9 a9)] [(a, w, tx)] (fun u => u = [(v, arB cy m9 (va_cpy (fun j => nI (tx.getD j 0)) a9 0 at9 tx.length))]) 0 0 := by
  refine JBv.of (own := RJ0) pn_RJ0 rfl (Nat.le_of_ble_eq_true rfl) ?_
  intro p e s m args below meth c Qf X hsz hP hSs hS hmn fin ls hl
  have hx := X.1
  have hb := X.2.1
  have hR : RmOK (rmL 2 0 0) 2 := ⟨rfl, rfl⟩
  have hcs : 0 ≤ (rmL 2 0 0).cells ∧ 0 ≤ (rmL 2 0 0).slots := ⟨Nat.zero_le _, Nat.zero_le _⟩
  have hAs : ∀ z, s.heap.size ≤ z → A z := fun z h => hAn z (by rw [← hsz]; exact h)
  have hl : lv_has ls 4 [(0, .ref a), (1, .ref v), (2, .int (nI at9)), (3, .int (nI 0))] := hl
  have hx9 := hSs _ (List.mem_singleton.mpr rfl)
  have hH9 : s.heap.size ≤ s.heap.size := Nat.le_refl _
  have hl64 : tx.length ≤ 65536 := hx9.2.2.2.2.2
  refine lv_aload_n hx hb (dg D_J0_getBytes_840e7 (i := 0) rfl) rfl (lv_at hl 0 rfl) ?_
  refine jVi X hAg hS hR (c_J0_coder_7d493 (l := l) (G := G) (bs := bs) (cy := cy) (A := A) hAg (fun z h => hAs z (Nat.le_trans hS.1 h)) a w tx) (by decide) UVJ0_coder_7d493 LK_J0_335 (r_recvT (hx9.kept hS.2.1)) (fun k q h => by cases h) (fun x9 h9 => by rw [List.mem_singleton.mp h9]; exact hx9.kept hS.2.1) rfl rfl (Nat.le_of_ble_eq_true rfl) hl hcs (dg D_J0_getBytes_840e7 (i := 1) rfl) (fun r9 hr9 => ?_)
  subst hr9
  refine lv_iload_n hx hb (dg D_J0_getBytes_840e7 (i := 2) rfl) rfl (lv_at hl 3 rfl) ?_
  refine n_icmp_ne (tgt := 28) hx hb (by omega) (by omega) (dg D_J0_getBytes_840e7 (i := 3) rfl) (by decide) (fun c5 => ?_) (fun c5 => ?_)
  · exact absurd c5 (by decide)
  · refine lv_aload_n hx hb (dg D_J0_getBytes_840e7 (i := 4) rfl) rfl (lv_at hl 0 rfl) ?_
    refine j_getTv X hS hx9 (dg D_J0_getBytes_840e7 (i := 5) rfl) ?_
    refine n_iconst (a := 0) hx hb (dg D_J0_getBytes_840e7 (i := 6) rfl) rfl ?_
    refine lv_aload_n hx hb (dg D_J0_getBytes_840e7 (i := 7) rfl) rfl (lv_at hl 1 rfl) ?_
    refine lv_iload_n hx hb (dg D_J0_getBytes_840e7 (i := 8) rfl) rfl (lv_at hl 2 rfl) ?_
    refine lv_iload_n hx hb (dg D_J0_getBytes_840e7 (i := 9) rfl) rfl (lv_at hl 3 rfl) ?_
    refine lv_ishl hx hb (dg D_J0_getBytes_840e7 (i := 10) rfl) ?_
    rw [show (nI at9) <<< ((nI 0) &&& 31) = nI at9 from shl0 _]
    refine lv_aload_n hx hb (dg D_J0_getBytes_840e7 (i := 11) rfl) rfl (lv_at hl 0 rfl) ?_
    refine j_getTv X hS hx9 (dg D_J0_getBytes_840e7 (i := 12) rfl) ?_
    refine j_tlen X hS hx9 (dg D_J0_getBytes_840e7 (i := 13) rfl) ?_
    refine j_copyT (i := 0) (f := (fun j => nI (tx.getD j 0))) (dp := at9) (k := tx.length) (n0 := tx.length) X hP hD hS hR (by decide) LK_J0_212 hx9.2.2.2.1 (fun j _ => fitB _ (getD_lt hx9.2.2.2.2.1 (by decide))) rfl (by omega) (by omega) (by omega) (by omega) (Nat.le_of_ble_eq_true rfl) hl (dg D_J0_getBytes_840e7 (i := 14) rfl) (fun H locs hP hD hS => ?_)
    have hP : va_P G vwCl [(v, arB cy m9 (va_cpy (fun j => nI (tx.getD j 0)) a9 0 at9 tx.length))] H := hP
    have hD : va_D A [(v, arB cy m9 (va_cpy (fun j => nI (tx.getD j 0)) a9 0 at9 tx.length))] := hD
    refine lv_goto (tgt := 43) hx hb (dg D_J0_getBytes_840e7 (i := 15) rfl) (by decide) ?_
    exact fin (dg D_J0_getBytes_840e7 (i := 25) rfl) (by omega) (by omega) hP hS rfl

set_option maxHeartbeats 1000000 in
set_option maxRecDepth 100000 in
theorem c_J5_putStringAt_47b60 {l : Launch} {G : va_G} {bs : Nat} {cy : Nat → ClassId} {sz : Nat} {A : Nat → Prop} (hAg : ∀ z, A z → Ag bs z) (hAn : ∀ z, sz ≤ z → A z) (q : Nat) (v : Nat) (n9 : Nat) (m9 : Nat) (a9 : Nat → Int32) (a : Nat) (w : Nat) (tx : List Nat) (at9 : Nat) (hD : va_D A [(q, obB v n9), (v, arB cy m9 a9)]) (hat : at9 + tx.length ≤ m9) (hm9 : m9 ≤ 65536) : JBv l G bs cy MJ5_putStringAt_47b60 3 [.ref q, .int (nI at9), .ref a] sz A [(q, obB v n9), (v, arB cy m9 a9)] [(a, w, tx)] (fun u => u = wB cy q v m9 n9 (va_cpy (fun j => nI (tx.getD j 0)) a9 0 at9 tx.length)) 0 0 := by
  refine JBv.of (own := RJ5) pn_RJ5 rfl (Nat.le_of_ble_eq_true rfl) ?_
  intro p e s m args below meth c Qf X hsz hP hSs hS hmn fin ls hl
  have hx := X.1
  have hb := X.2.1
  have hR : RmOK (rmL 3 0 0) 3 := ⟨rfl, rfl⟩
  have hcs : 0 ≤ (rmL 3 0 0).cells ∧ 0 ≤ (rmL 3 0 0).slots := ⟨Nat.zero_le _, Nat.zero_le _⟩
  have hAs : ∀ z, s.heap.size ≤ z → A z := fun z h => hAn z (by rw [← hsz]; exact h)
  have hl : lv_has ls 3 [(0, .ref q), (1, .int (nI at9)), (2, .ref a)] := hl
  have hx9 := hSs _ (List.mem_singleton.mpr rfl)
  have hH9 : s.heap.size ≤ s.heap.size := Nat.le_refl _
  have hAA : ∀ z, (z = v ∨ s.heap.size ≤ z) → A z := fun z h => h.elim (fun e => e ▸ (vD2_ne hD).2.2) (hAs z)
  refine lv_aload_n hx hb (dg D_J5_putStringAt_47b60 (i := 0) rfl) rfl (lv_at hl 0 rfl) ?_
  refine lv_aload_n hx hb (dg D_J5_putStringAt_47b60 (i := 1) rfl) rfl (lv_at hl 2 rfl) ?_
  refine jUv X hAg hS hR (c_J5_inflateIfNeededFor_a7421 (l := l) (G := G) (bs := bs) (cy := cy) (A := A) hAg (fun z h => hAs z (Nat.le_trans hS.1 h)) q v n9 m9 a9 a w tx) (by decide) UU_J5_397 (r_recvB X hP (i := 0) rfl) hP (fun x9 h9 => by rw [List.mem_singleton.mp h9]; exact hx9.kept hS.2.1) rfl rfl (Nat.le_of_ble_eq_true rfl) hl hcs (dg D_J5_putStringAt_47b60 (i := 2) rfl) ?_
  refine lv_aload_n hx hb (dg D_J5_putStringAt_47b60 (i := 3) rfl) rfl (lv_at hl 2 rfl) ?_
  refine lv_aload_n hx hb (dg D_J5_putStringAt_47b60 (i := 4) rfl) rfl (lv_at hl 0 rfl) ?_
  refine j_getB (i := 0) (q := q) (fs := [.ref v, .int (nI 0), .int (nI 0), .int (nI n9)]) X hP rfl FB_J5_15 rfl (dg D_J5_putStringAt_47b60 (i := 5) rfl) ?_
  refine lv_iload_n hx hb (dg D_J5_putStringAt_47b60 (i := 6) rfl) rfl (lv_at hl 1 rfl) ?_
  refine lv_aload_n hx hb (dg D_J5_putStringAt_47b60 (i := 7) rfl) rfl (lv_at hl 0 rfl) ?_
  refine j_getB (i := 0) (q := q) (fs := [.ref v, .int (nI 0), .int (nI 0), .int (nI n9)]) X hP rfl FB_J5_22 rfl (dg D_J5_putStringAt_47b60 (i := 8) rfl) ?_
  refine jVBv X hAg hS hR (c_J0_getBytes_840e7 (l := l) (G := G) (bs := bs) (cy := cy) (A := (fun z => z = v ∨ s.heap.size ≤ z)) (fun z h => hAg z (hAA z h)) (fun z h => Or.inr h) a w tx v m9 a9 at9 (vD1 (Or.inl rfl)) (by first | assumption | omega) (by first | assumption | omega)) (by decide) UVJ0_getBytes_840e7 LK_J5_399 (r_recvT (hx9.kept hS.2.1)) (hP.sub [1] rfl) (fun x9 h9 => by rw [List.mem_singleton.mp h9]; exact (hx9.kept hS.2.1).narrow hAA) rfl rfl (Nat.le_of_ble_eq_true rfl) hl (⟨by show _ ≤ 0; omega, by show _ ≤ 0; omega⟩) hAA (dg D_J5_putStringAt_47b60 (i := 9) rfl) (fun u H1 locs1 hq hP1 hk9 hS1 => ?_)
  have hcs : 0 + 0 ≤ (rmL 3 0 0).cells ∧ 0 + 0 ≤ (rmL 3 0 0).slots := ⟨by show _ ≤ 0; omega, by show _ ≤ 0; omega⟩
  subst hq
  have hlt := (hP 0 _ rfl).lt
  have hP : va_P G vwCl [(q, obB v n9), (v, arB cy m9 (va_cpy (fun j => nI (tx.getD j 0)) a9 0 at9 tx.length))] H1 := (va_keep (hP.sub [0] rfl) hk9 (fun k x hx => by
    have e1 : k < 1 := (List.getElem?_eq_some_iff.mp hx).1
    rw [show k = 0 by omega] at hx
    cases hx
    exact fun h => h.elim (vD2_ne hD).1 (fun h => absurd hlt (Nat.not_lt.mpr h)))).app hP1
  have hS := hS1
  exact fin (dg D_J5_putStringAt_47b60 (i := 10) rfl) (by omega) (by omega) hP hS rfl

set_option maxHeartbeats 1000000 in
set_option maxRecDepth 100000 in
theorem c_J7_copyOf_9075b {l : Launch} {G : va_G} {bs : Nat} {cy : Nat → ClassId} {sz : Nat} {A : Nat → Prop} (hAg : ∀ z, A z → Ag bs z) (hAn : ∀ z, sz ≤ z → A z) (v : Nat) (m9 : Nat) (a9 : Nat → Int32) (k : Nat) (hvA : ¬ A v) (hfb : ∀ j, fits .byte (.int (a9 j)) = true) (hk : m9 < k) (hk6 : k ≤ 65536) : JBr l G bs cy MJ7_copyOf_9075b 2 [.ref v, .int (nI k)] sz A [(v, arB cy m9 a9)] [] (fun r u => sz ≤ r ∧ u = [(r, arB cy k (va_cpy a9 (fun _ => 0) 0 0 m9))]) 1 k := by
  refine JBr.of (own := RJ7) (by first | exact Or.inl ⟨_, rfl⟩ | exact Or.inr ⟨_, rfl⟩) pn_RJ7 rfl (Nat.le_of_ble_eq_true rfl) ?_
  intro p e s m args below meth c Qf X hsz hP hSs hS fin ls hl
  have hx := X.1
  have hb := X.2.1
  have hR : RmOK (rmL 2 1 k) 2 := ⟨rfl, rfl⟩
  have hcs : 0 ≤ (rmL 2 1 k).cells ∧ 0 ≤ (rmL 2 1 k).slots := ⟨Nat.zero_le _, Nat.zero_le _⟩
  have hAs : ∀ z, s.heap.size ≤ z → A z := fun z h => hAn z (by rw [← hsz]; exact h)
  have hl : lv_has ls 3 [(0, .ref v), (1, .int (nI k))] := hl
  have hH9 : s.heap.size ≤ s.heap.size := Nat.le_refl _
  refine lv_iload_n hx hb (dg D_J7_copyOf_9075b (i := 0) rfl) rfl (lv_at hl 1 rfl) ?_
  refine lv_aload_n hx hb (dg D_J7_copyOf_9075b (i := 1) rfl) rfl (lv_at hl 0 rfl) ?_
  refine j_alen (i := 0) (m9 := m9) (a := a9) X hP rfl (dg D_J7_copyOf_9075b (i := 2) rfl) ?_
  refine n_icmp_ne (tgt := 14) hx hb (by omega) (by omega) (dg D_J7_copyOf_9075b (i := 3) rfl) (by decide) (fun c3 => ?_) (fun c3 => ?_)
  · refine lv_iload_n hx hb (dg D_J7_copyOf_9075b (i := 8) rfl) rfl (lv_at hl 1 rfl) ?_
    have hT := arT X.2.2.2.2.2.1 hP (i := 0) rfl hvA
    refine j_newb (k := k) X vP0 vD0 hS hAs (by omega) (by show _ ≤ 1; omega) (by show _ ≤ k; omega) (dg D_J7_copyOf_9075b (i := 9) rfl) (fun r9 H hr9 hP hD hS ho9 => ?_)
    have hcs : 0 + 1 ≤ (rmL 2 1 k).cells ∧ 0 + k ≤ (rmL 2 1 k).slots := ⟨by show _ ≤ 1; omega, by show _ ≤ k; omega⟩
    have hP : va_P G vwCl [(r9, arB cy k ((fun _ => 0)))] H := hP
    have hD : va_D A [(r9, arB cy k ((fun _ => 0)))] := hD
    refine lv_astore_n (lv' := [(2, .ref r9), (0, .ref v), (1, .int (nI k))]) hx hb (dg D_J7_copyOf_9075b (i := 10) rfl) rfl hl (by decide) rfl (fun ls hl => ?_)
    refine lv_aload_n hx hb (dg D_J7_copyOf_9075b (i := 11) rfl) rfl (lv_at hl 1 rfl) ?_
    refine n_iconst (a := 0) hx hb (dg D_J7_copyOf_9075b (i := 12) rfl) rfl ?_
    refine lv_aload_n hx hb (dg D_J7_copyOf_9075b (i := 13) rfl) rfl (lv_at hl 0 rfl) ?_
    refine n_iconst (a := 0) hx hb (dg D_J7_copyOf_9075b (i := 14) rfl) rfl ?_
    refine lv_aload_n hx hb (dg D_J7_copyOf_9075b (i := 15) rfl) rfl (lv_at hl 1 rfl) ?_
    refine va_tlen (v := nI m9) hx hb hT hS rfl (dg D_J7_copyOf_9075b (i := 16) rfl) ?_
    refine lv_iload_n hx hb (dg D_J7_copyOf_9075b (i := 17) rfl) rfl (lv_at hl 2 rfl) ?_
    refine r_min (v := nI m9) X hR (by decide) LK_J7_304 (Nat.le_of_ble_eq_true rfl) hl hcs (by rw [mnN (a := m9) (b := k) (by omega) (by omega), Nat.min_eq_left (by omega)]) (dg D_J7_copyOf_9075b (i := 18) rfl) ?_
    refine j_copyT (i := 0) (f := a9) (dp := 0) (k := m9) (n0 := m9) X hP hD hS hR (by decide) LK_J7_150 hT (fun j _ => hfb j) rfl (by omega) (by omega) (by omega) (by omega) (Nat.le_of_ble_eq_true rfl) hl (dg D_J7_copyOf_9075b (i := 19) rfl) (fun H locs hP hD hS => ?_)
    have hP : va_P G vwCl [(r9, arB cy k (va_cpy a9 ((fun _ => 0)) 0 0 m9))] H := hP
    have hD : va_D A [(r9, arB cy k (va_cpy a9 ((fun _ => 0)) 0 0 m9))] := hD
    refine lv_aload_n hx hb (dg D_J7_copyOf_9075b (i := 20) rfl) rfl (lv_at hl 0 rfl) ?_
    exact fin (dg D_J7_copyOf_9075b (i := 21) rfl) (by omega) (by omega) hP hS (⟨by rw [← hsz]; exact hr9, rfl⟩)
  · exact absurd (by first | exact c3 | exact Classical.not_not.mp c3) (by omega)

set_option maxHeartbeats 1000000 in
set_option maxRecDepth 100000 in
theorem c_J7_checkLength_df160 {l : Launch} {G : va_G} {bs : Nat} {cy : Nat → ClassId} {sz : Nat} {A : Nat → Prop} (hAg : ∀ z, A z → Ag bs z) (hAn : ∀ z, sz ≤ z → A z) (f9 : Nat) (k : Nat) (hf9 : f9 ≤ k) (hk : k < 2 ^ 31) : JSv l G bs cy MJ7_checkLength_df160 1 [.int (nI f9), .int (nI k)] sz A [] [] := by
  refine JSv.of (own := RJ7) pn_RJ7 rfl (Nat.le_of_ble_eq_true rfl) ?_
  intro p e s m args below meth c Qf X hsz hP hSs fin ls hl
  have hx := X.1
  have hb := X.2.1
  have hR : RmOK (rmL 1 0 0) 1 := ⟨rfl, rfl⟩
  have hcs : 0 ≤ (rmL 1 0 0).cells ∧ 0 ≤ (rmL 1 0 0).slots := ⟨Nat.zero_le _, Nat.zero_le _⟩
  have hS : va_S A s.heap s.heap [] := va_S.rf
  have hAs : ∀ z, s.heap.size ≤ z → A z := fun z h => hAn z (by rw [← hsz]; exact h)
  have hl : lv_has ls 2 [(0, .int (nI f9)), (1, .int (nI k))] := hl
  refine lv_iload_n hx hb (dg D_J7_checkLength_df160 (i := 0) rfl) rfl (lv_at hl 1 rfl) ?_
  refine lv_iload_n hx hb (dg D_J7_checkLength_df160 (i := 1) rfl) rfl (lv_at hl 0 rfl) ?_
  refine n_icmp_ge (tgt := 37) hx hb (by omega) (by omega) (dg D_J7_checkLength_df160 (i := 2) rfl) (by decide) (fun c2 => ?_) (fun c2 => ?_)
  · exact fin (dg D_J7_checkLength_df160 (i := 17) rfl)
  · exact absurd c2 (by omega)

set_option maxHeartbeats 1000000 in
set_option maxRecDepth 100000 in
theorem c_J7_copyOfRangeByte_39247 {l : Launch} {G : va_G} {bs : Nat} {cy : Nat → ClassId} {sz : Nat} {A : Nat → Prop} (hAg : ∀ z, A z → Ag bs z) (hAn : ∀ z, sz ≤ z → A z) (v : Nat) (m9 : Nat) (a9 : Nat → Int32) (k : Nat) (hvA : ¬ A v) (hfb : ∀ j, fits .byte (.int (a9 j)) = true) (hk : k ≤ m9) (hk6 : m9 ≤ 65536) : JBr l G bs cy MJ7_copyOfRangeByte_39247 2 [.ref v, .int (nI 0), .int (nI k)] sz A [(v, arB cy m9 a9)] [] (fun r u => sz ≤ r ∧ u = [(r, arB cy k (va_cpy a9 (fun _ => 0) 0 0 k))]) 1 k := by
  refine JBr.of (own := RJ7) (by first | exact Or.inl ⟨_, rfl⟩ | exact Or.inr ⟨_, rfl⟩) pn_RJ7 rfl (Nat.le_of_ble_eq_true rfl) ?_
  intro p e s m args below meth c Qf X hsz hP hSs hS fin ls hl
  have hx := X.1
  have hb := X.2.1
  have hR : RmOK (rmL 2 1 k) 2 := ⟨rfl, rfl⟩
  have hcs : 0 ≤ (rmL 2 1 k).cells ∧ 0 ≤ (rmL 2 1 k).slots := ⟨Nat.zero_le _, Nat.zero_le _⟩
  have hAs : ∀ z, s.heap.size ≤ z → A z := fun z h => hAn z (by rw [← hsz]; exact h)
  have hl : lv_has ls 5 [(0, .ref v), (1, .int (nI 0)), (2, .int (nI k))] := hl
  have hH9 : s.heap.size ≤ s.heap.size := Nat.le_refl _
  refine lv_iload_n hx hb (dg D_J7_copyOfRangeByte_39247 (i := 0) rfl) rfl (lv_at hl 1 rfl) ?_
  refine lv_iload_n hx hb (dg D_J7_copyOfRangeByte_39247 (i := 1) rfl) rfl (lv_at hl 2 rfl) ?_
  refine jSv X hAg hS hR (c_J7_checkLength_df160 (l := l) (G := G) (bs := bs) (cy := cy) (A := A) hAg (fun z h => hAs z (Nat.le_trans hS.1 h)) 0 k (by first | assumption | omega) (by first | assumption | omega)) (by decide) USJ7_checkLength_df160 LK_J7_343 (fun k q h => by cases h) (fun x9 h9 => by cases h9) rfl rfl (Nat.le_of_ble_eq_true rfl) hl hcs (dg D_J7_copyOfRangeByte_39247 (i := 2) rfl) ?_
  refine lv_iload_n hx hb (dg D_J7_copyOfRangeByte_39247 (i := 3) rfl) rfl (lv_at hl 2 rfl) ?_
  refine lv_iload_n hx hb (dg D_J7_copyOfRangeByte_39247 (i := 4) rfl) rfl (lv_at hl 1 rfl) ?_
  refine lv_isub hx hb (dg D_J7_copyOfRangeByte_39247 (i := 5) rfl) ?_
  rw [show (nI k) - (nI 0) = nI k from nI_sub (Nat.zero_le k)]
  refine lv_istore_n (lv' := [(3, .int (nI k)), (0, .ref v), (1, .int (nI 0)), (2, .int (nI k))]) hx hb (dg D_J7_copyOfRangeByte_39247 (i := 6) rfl) rfl hl (by decide) rfl (fun ls hl => ?_)
  refine lv_iload_n hx hb (dg D_J7_copyOfRangeByte_39247 (i := 7) rfl) rfl (lv_at hl 0 rfl) ?_
  have hT := arT X.2.2.2.2.2.1 hP (i := 0) rfl hvA
  refine j_newb (k := k) X vP0 vD0 hS hAs (by omega) (by show _ ≤ 1; omega) (by show _ ≤ k; omega) (dg D_J7_copyOfRangeByte_39247 (i := 8) rfl) (fun r9 H hr9 hP hD hS ho9 => ?_)
  have hcs : 0 + 1 ≤ (rmL 2 1 k).cells ∧ 0 + k ≤ (rmL 2 1 k).slots := ⟨by show _ ≤ 1; omega, by show _ ≤ k; omega⟩
  have hP : va_P G vwCl [(r9, arB cy k ((fun _ => 0)))] H := hP
  have hD : va_D A [(r9, arB cy k ((fun _ => 0)))] := hD
  refine lv_astore (lv' := [(4, .ref r9), (3, .int (nI k)), (0, .ref v), (1, .int (nI 0)), (2, .int (nI k))]) hx hb (dg D_J7_copyOfRangeByte_39247 (i := 9) rfl) hl (by decide) rfl (fun ls hl => ?_)
  refine lv_aload_n hx hb (dg D_J7_copyOfRangeByte_39247 (i := 10) rfl) rfl (lv_at hl 2 rfl) ?_
  refine lv_iload_n hx hb (dg D_J7_copyOfRangeByte_39247 (i := 11) rfl) rfl (lv_at hl 3 rfl) ?_
  refine lv_aload hx hb (dg D_J7_copyOfRangeByte_39247 (i := 12) rfl) (lv_at hl 0 rfl) ?_
  refine n_iconst (a := 0) hx hb (dg D_J7_copyOfRangeByte_39247 (i := 13) rfl) rfl ?_
  refine lv_aload_n hx hb (dg D_J7_copyOfRangeByte_39247 (i := 14) rfl) rfl (lv_at hl 2 rfl) ?_
  refine va_tlen (v := nI m9) hx hb hT hS rfl (dg D_J7_copyOfRangeByte_39247 (i := 15) rfl) ?_
  refine lv_iload_n hx hb (dg D_J7_copyOfRangeByte_39247 (i := 16) rfl) rfl (lv_at hl 3 rfl) ?_
  refine lv_isub hx hb (dg D_J7_copyOfRangeByte_39247 (i := 17) rfl) ?_
  rw [show (nI m9) - (nI 0) = nI m9 from nI_sub (Nat.zero_le m9)]
  refine lv_iload_n hx hb (dg D_J7_copyOfRangeByte_39247 (i := 18) rfl) rfl (lv_at hl 1 rfl) ?_
  refine r_min (v := nI k) X hR (by decide) LK_J7_304 (Nat.le_of_ble_eq_true rfl) hl hcs (by rw [mnN (a := m9) (b := k) (by omega) (by omega), Nat.min_eq_right (by omega)]) (dg D_J7_copyOfRangeByte_39247 (i := 19) rfl) ?_
  refine j_copyT (i := 0) (f := a9) (dp := 0) (k := k) (n0 := m9) X hP hD hS hR (by decide) LK_J7_150 hT (fun j _ => hfb j) rfl (by omega) (by omega) (by omega) (by omega) (Nat.le_of_ble_eq_true rfl) hl (dg D_J7_copyOfRangeByte_39247 (i := 20) rfl) (fun H locs hP hD hS => ?_)
  have hP : va_P G vwCl [(r9, arB cy k (va_cpy a9 ((fun _ => 0)) 0 0 k))] H := hP
  have hD : va_D A [(r9, arB cy k (va_cpy a9 ((fun _ => 0)) 0 0 k))] := hD
  refine lv_aload hx hb (dg D_J7_copyOfRangeByte_39247 (i := 21) rfl) (lv_at hl 0 rfl) ?_
  exact fin (dg D_J7_copyOfRangeByte_39247 (i := 22) rfl) (by omega) (by omega) hP hS (⟨by rw [← hsz]; exact hr9, rfl⟩)

set_option maxHeartbeats 1000000 in
set_option maxRecDepth 100000 in
theorem c_J7_copyOfRange_39247 {l : Launch} {G : va_G} {bs : Nat} {cy : Nat → ClassId} {sz : Nat} {A : Nat → Prop} (hAg : ∀ z, A z → Ag bs z) (hAn : ∀ z, sz ≤ z → A z) (v : Nat) (m9 : Nat) (a9 : Nat → Int32) (k : Nat) (hfb : ∀ j, fits .byte (.int (a9 j)) = true) (hk : k ≤ m9) (hk6 : m9 ≤ 65536) : JBr l G bs cy MJ7_copyOfRange_39247 3 [.ref v, .int (nI 0), .int (nI k)] sz A [(v, arB cy m9 a9)] [] (fun r u => sz ≤ r ∧ ∃ a1, u = [(r, arB cy k a1)] ∧ (∀ j, j < k → a1 j = a9 j) ∧ ∀ j, fits .byte (.int (a1 j)) = true) 1 k := by
  refine JBr.of (own := RJ7) (by first | exact Or.inl ⟨_, rfl⟩ | exact Or.inr ⟨_, rfl⟩) pn_RJ7 rfl (Nat.le_of_ble_eq_true rfl) ?_
  intro p e s m args below meth c Qf X hsz hP hSs hS fin ls hl
  have hx := X.1
  have hb := X.2.1
  have hR : RmOK (rmL 3 1 k) 3 := ⟨rfl, rfl⟩
  have hcs : 0 ≤ (rmL 3 1 k).cells ∧ 0 ≤ (rmL 3 1 k).slots := ⟨Nat.zero_le _, Nat.zero_le _⟩
  have hAs : ∀ z, s.heap.size ≤ z → A z := fun z h => hAn z (by rw [← hsz]; exact h)
  have hl : lv_has ls 3 [(0, .ref v), (1, .int (nI 0)), (2, .int (nI k))] := hl
  have hH9 : s.heap.size ≤ s.heap.size := Nat.le_refl _
  have hAs3 : ∀ z, s.heap.size ≤ z → A z := hAs
  refine lv_iload_n hx hb (dg D_J7_copyOfRange_39247 (i := 0) rfl) rfl (lv_at hl 1 rfl) ?_
  refine n_if_ne (tgt := 10) hx hb (by omega) (dg D_J7_copyOfRange_39247 (i := 1) rfl) (by decide) (fun c1 => ?_) (fun c1 => ?_)
  · exact absurd c1 (by decide)
  · refine lv_iload_n hx hb (dg D_J7_copyOfRange_39247 (i := 2) rfl) rfl (lv_at hl 2 rfl) ?_
    refine lv_aload_n hx hb (dg D_J7_copyOfRange_39247 (i := 3) rfl) rfl (lv_at hl 0 rfl) ?_
    refine j_alen (i := 0) (m9 := m9) (a := a9) X hP rfl (dg D_J7_copyOfRange_39247 (i := 4) rfl) ?_
    refine n_icmp_eq (tgt := 17) hx hb (by omega) (by omega) (dg D_J7_copyOfRange_39247 (i := 5) rfl) (by decide) (fun c7 => ?_) (fun c7 => ?_)
    · refine lv_aload_n hx hb (dg D_J7_copyOfRange_39247 (i := 11) rfl) rfl (lv_at hl 0 rfl) ?_
      refine j_clone (i := 0) X hP hR (by decide) rfl hfb (Nat.le_of_ble_eq_true rfl) hl (by show _ ≤ 1; omega) (by show _ ≤ k; omega) (dg D_J7_copyOfRange_39247 (i := 12) rfl) (dg D_J7_copyOfRange_39247 (i := 13) rfl) (fun r9 H hr9 hP hS3 => ?_)
      have hS : va_S A s.heap H [] := ⟨hS3.1, fun z z1 z2 => hS3.2.1 z z1 (fun h => z2 (hAs z h)), fun _ h => by cases h⟩
      exact fin (dg D_J7_copyOfRange_39247 (i := 14) rfl) (by omega) (by omega) hP hS ⟨by rw [← hsz]; exact hr9, a9, by rw [show k = m9 by omega], fun j hj => rfl, hfb⟩
    · refine lv_aload_n hx hb (dg D_J7_copyOfRange_39247 (i := 6) rfl) rfl (lv_at hl 0 rfl) ?_
      refine lv_iload_n hx hb (dg D_J7_copyOfRange_39247 (i := 7) rfl) rfl (lv_at hl 1 rfl) ?_
      refine lv_iload_n hx hb (dg D_J7_copyOfRange_39247 (i := 8) rfl) rfl (lv_at hl 2 rfl) ?_
      refine jSBr X hAg hS hR (c_J7_copyOfRangeByte_39247 (l := l) (G := G) (bs := bs) (cy := cy) (A := (fun z => s.heap.size ≤ z)) (fun z h => hAg z (hAs z h)) (fun z h => h) v m9 a9 k (by have := (hP 0 _ rfl).lt; exact Nat.not_le.mpr this) (by first | assumption | omega) (by first | assumption | omega) (by first | assumption | omega)) (by decide) USJ7_copyOfRangeByte_39247 LK_J7_339 hP (fun x9 h9 => by cases h9) rfl rfl (Nat.le_of_ble_eq_true rfl) hl (⟨by show _ ≤ 1; omega, by show _ ≤ k; omega⟩) (fun z h => hAs z h) (dg D_J7_copyOfRange_39247 (i := 9) rfl) (fun r9 u H1 locs1 hq hP1 hz9 hk9 hS1 => ?_)
      have hcs : 0 + 1 ≤ (rmL 3 1 k).cells ∧ 0 + k ≤ (rmL 3 1 k).slots := ⟨by show _ ≤ 1; omega, by show _ ≤ k; omega⟩
      obtain ⟨hr9, rfl⟩ := hq
      have hP := hP1
      have hS := hS1
      exact fin (dg D_J7_copyOfRange_39247 (i := 10) rfl) (by omega) (by omega) hP hS (⟨by rw [← hsz]; exact hr9, _, rfl, fun j hj => by unfold va_cpy; rw [if_pos ⟨Nat.zero_le _, by omega⟩, Nat.zero_add, Nat.sub_zero], fun j => by unfold va_cpy; split; exact hfb _; rfl⟩)

