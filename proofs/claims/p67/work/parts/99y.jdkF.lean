set_option maxHeartbeats 1000000 in
set_option maxRecDepth 100000 in
theorem c_J4_append_bf812 {l : Launch} {G : va_G} {bs : Nat} {cy : Nat → ClassId} {sz : Nat} {A : Nat → Prop} (hAg : ∀ z, A z → Ag bs z) (hAn : ∀ z, sz ≤ z → A z) (q : Nat) (v : Nat) (n9 : Nat) (m9 : Nat) (a9 : Nat → Int32) (lx : List Nat) (x9 : Nat) (hD : va_D A [(q, obB v n9), (v, arB cy m9 a9)]) (hBT : BT a9 m9 lx) (hn9 : n9 = lx.length) (hm9 : m9 ≤ 600) (hx9 : x9 < 100) (hl9 : lx.length + 2 ≤ 300) : JBr l G bs cy MJ4_append_bf812 5 [.ref q, .int (nI x9)] sz A [(q, obB v n9), (v, arB cy m9 a9)] [] (fun r u => r = q ∧ BuU cy q v sz (lx ++ dec2 x9) u) 1 600 := by
  refine JBr.of (own := RJ4) (by first | exact Or.inl ⟨_, rfl⟩ | exact Or.inr ⟨_, rfl⟩) pn_RJ4 rfl (Nat.le_of_ble_eq_true rfl) ?_
  intro p e s m args below meth c Qf X hsz hP hSs hS fin ls hl
  have hx := X.1
  have hb := X.2.1
  have hR : RmOK (rmL 5 1 600) 5 := ⟨rfl, rfl⟩
  have hcs : 0 ≤ (rmL 5 1 600).cells ∧ 0 ≤ (rmL 5 1 600).slots := ⟨Nat.zero_le _, Nat.zero_le _⟩
  have hAs : ∀ z, s.heap.size ≤ z → A z := fun z h => hAn z (by rw [← hsz]; exact h)
  have hl : lv_has ls 2 [(0, .ref q), (1, .int (nI x9))] := hl
  have hH9 : s.heap.size ≤ s.heap.size := Nat.le_refl _
  refine lv_aload_n hx hb (dg D_J4_append_bf812 (i := 0) rfl) rfl (lv_at hl 0 rfl) ?_
  refine lv_iload_n hx hb (dg D_J4_append_bf812 (i := 1) rfl) rfl (lv_at hl 1 rfl) ?_
  refine jPBr X hAg hS hR (c_J5_append_c97b9 (l := l) (G := G) (bs := bs) (cy := cy) (A := A) hAg (fun z h => hAs z (Nat.le_trans hS.1 h)) q v n9 m9 a9 lx x9 (by first | assumption | omega) (by first | assumption | omega) (by first | assumption | omega) (by first | assumption | omega) (by first | assumption | omega) (by first | assumption | omega)) (by decide) SUp_J4_53 rfl (r_recvB X hP (i := 0) rfl) hP (fun x9 h9 => by cases h9) rfl rfl (Nat.le_of_ble_eq_true rfl) hl (⟨by show _ ≤ 1; omega, by show _ ≤ 600; omega⟩) (fun _ h => h) (dg D_J4_append_bf812 (i := 2) rfl) (fun r9 u H1 locs1 hq hP1 hz9 hk9 hS1 => ?_)
  have hcs : 0 + 1 ≤ (rmL 5 1 600).cells ∧ 0 + 600 ≤ (rmL 5 1 600).slots := ⟨by show _ ≤ 1; omega, by show _ ≤ 600; omega⟩
  obtain ⟨hr9, hq⟩ := hq
  subst hr9
  have hP := hP1
  have hS := hS1
  refine lv_pop hx hb (dg D_J4_append_bf812 (i := 3) rfl) rfl ?_
  refine lv_aload_n hx hb (dg D_J4_append_bf812 (i := 4) rfl) rfl (lv_at hl 0 rfl) ?_
  exact fin (dg D_J4_append_bf812 (i := 5) rfl) (by omega) (by omega) hP hS (⟨rfl, by rw [← hsz]; exact hq⟩)

set_option maxHeartbeats 1000000 in
set_option maxRecDepth 100000 in
theorem c_J4_append_cf468 {l : Launch} {G : va_G} {bs : Nat} {cy : Nat → ClassId} {sz : Nat} {A : Nat → Prop} (hAg : ∀ z, A z → Ag bs z) (hAn : ∀ z, sz ≤ z → A z) (q : Nat) (v : Nat) (n9 : Nat) (m9 : Nat) (a9 : Nat → Int32) (lx : List Nat) (ch : Nat) (hD : va_D A [(q, obB v n9), (v, arB cy m9 a9)]) (hBT : BT a9 m9 lx) (hn9 : n9 = lx.length) (hm9 : m9 ≤ 600) (hc : ch < 128) (hl9 : lx.length + 2 ≤ 300) : JBr l G bs cy MJ4_append_cf468 5 [.ref q, .int (nI ch)] sz A [(q, obB v n9), (v, arB cy m9 a9)] [] (fun r u => r = q ∧ BuU cy q v sz (lx ++ [ch]) u) 1 600 := by
  refine JBr.of (own := RJ4) (by first | exact Or.inl ⟨_, rfl⟩ | exact Or.inr ⟨_, rfl⟩) pn_RJ4 rfl (Nat.le_of_ble_eq_true rfl) ?_
  intro p e s m args below meth c Qf X hsz hP hSs hS fin ls hl
  have hx := X.1
  have hb := X.2.1
  have hR : RmOK (rmL 5 1 600) 5 := ⟨rfl, rfl⟩
  have hcs : 0 ≤ (rmL 5 1 600).cells ∧ 0 ≤ (rmL 5 1 600).slots := ⟨Nat.zero_le _, Nat.zero_le _⟩
  have hAs : ∀ z, s.heap.size ≤ z → A z := fun z h => hAn z (by rw [← hsz]; exact h)
  have hl : lv_has ls 2 [(0, .ref q), (1, .int (nI ch))] := hl
  have hH9 : s.heap.size ≤ s.heap.size := Nat.le_refl _
  refine lv_aload_n hx hb (dg D_J4_append_cf468 (i := 0) rfl) rfl (lv_at hl 0 rfl) ?_
  refine lv_iload_n hx hb (dg D_J4_append_cf468 (i := 1) rfl) rfl (lv_at hl 1 rfl) ?_
  refine jPBr X hAg hS hR (c_J5_append_3fe6f (l := l) (G := G) (bs := bs) (cy := cy) (A := A) hAg (fun z h => hAs z (Nat.le_trans hS.1 h)) q v n9 m9 a9 lx ch (by first | assumption | omega) (by first | assumption | omega) (by first | assumption | omega) (by first | assumption | omega) (by first | assumption | omega) (by first | assumption | omega)) (by decide) SUp_J4_50 rfl (r_recvB X hP (i := 0) rfl) hP (fun x9 h9 => by cases h9) rfl rfl (Nat.le_of_ble_eq_true rfl) hl (⟨by show _ ≤ 1; omega, by show _ ≤ 600; omega⟩) (fun _ h => h) (dg D_J4_append_cf468 (i := 2) rfl) (fun r9 u H1 locs1 hq hP1 hz9 hk9 hS1 => ?_)
  have hcs : 0 + 1 ≤ (rmL 5 1 600).cells ∧ 0 + 600 ≤ (rmL 5 1 600).slots := ⟨by show _ ≤ 1; omega, by show _ ≤ 600; omega⟩
  obtain ⟨hr9, hq⟩ := hq
  subst hr9
  have hP := hP1
  have hS := hS1
  refine lv_pop hx hb (dg D_J4_append_cf468 (i := 3) rfl) rfl ?_
  refine lv_aload_n hx hb (dg D_J4_append_cf468 (i := 4) rfl) rfl (lv_at hl 0 rfl) ?_
  exact fin (dg D_J4_append_cf468 (i := 5) rfl) (by omega) (by omega) hP hS (⟨rfl, by rw [← hsz]; exact hq⟩)

set_option maxHeartbeats 1000000 in
set_option maxRecDepth 100000 in
theorem c_J4_append_15ec4 {l : Launch} {G : va_G} {bs : Nat} {cy : Nat → ClassId} {sz : Nat} {A : Nat → Prop} (hAg : ∀ z, A z → Ag bs z) (hAn : ∀ z, sz ≤ z → A z) (q : Nat) (v : Nat) (n9 : Nat) (m9 : Nat) (a9 : Nat → Int32) (a : Nat) (w : Nat) (tx : List Nat) (lx : List Nat) (hD : va_D A [(q, obB v n9), (v, arB cy m9 a9)]) (hBT : BT a9 m9 lx) (hn9 : n9 = lx.length) (hm9 : m9 ≤ 600) (hl9 : lx.length + tx.length ≤ 300) : JBr l G bs cy MJ4_append_15ec4 5 [.ref q, .ref a] sz A [(q, obB v n9), (v, arB cy m9 a9)] [(a, w, tx)] (fun r u => r = q ∧ BuU cy q v sz (lx ++ tx) u) 1 600 := by
  refine JBr.of (own := RJ4) (by first | exact Or.inl ⟨_, rfl⟩ | exact Or.inr ⟨_, rfl⟩) pn_RJ4 rfl (Nat.le_of_ble_eq_true rfl) ?_
  intro p e s m args below meth c Qf X hsz hP hSs hS fin ls hl
  have hx := X.1
  have hb := X.2.1
  have hR : RmOK (rmL 5 1 600) 5 := ⟨rfl, rfl⟩
  have hcs : 0 ≤ (rmL 5 1 600).cells ∧ 0 ≤ (rmL 5 1 600).slots := ⟨Nat.zero_le _, Nat.zero_le _⟩
  have hAs : ∀ z, s.heap.size ≤ z → A z := fun z h => hAn z (by rw [← hsz]; exact h)
  have hl : lv_has ls 2 [(0, .ref q), (1, .ref a)] := hl
  have hx9 := hSs _ (List.mem_singleton.mpr rfl)
  have hH9 : s.heap.size ≤ s.heap.size := Nat.le_refl _
  refine lv_aload_n hx hb (dg D_J4_append_15ec4 (i := 0) rfl) rfl (lv_at hl 0 rfl) ?_
  refine lv_aload_n hx hb (dg D_J4_append_15ec4 (i := 1) rfl) rfl (lv_at hl 1 rfl) ?_
  refine jPBr X hAg hS hR (c_J5_append_cf1ce (l := l) (G := G) (bs := bs) (cy := cy) (A := A) hAg (fun z h => hAs z (Nat.le_trans hS.1 h)) q v n9 m9 a9 a w tx lx (by first | assumption | omega) (by first | assumption | omega) (by first | assumption | omega) (by first | assumption | omega) (by first | assumption | omega)) (by decide) SUp_J4_29 rfl (r_recvB X hP (i := 0) rfl) hP (fun x9 h9 => by rw [List.mem_singleton.mp h9]; exact hx9.kept hS.2.1) rfl rfl (Nat.le_of_ble_eq_true rfl) hl (⟨by show _ ≤ 1; omega, by show _ ≤ 600; omega⟩) (fun _ h => h) (dg D_J4_append_15ec4 (i := 2) rfl) (fun r9 u H1 locs1 hq hP1 hz9 hk9 hS1 => ?_)
  have hcs : 0 + 1 ≤ (rmL 5 1 600).cells ∧ 0 + 600 ≤ (rmL 5 1 600).slots := ⟨by show _ ≤ 1; omega, by show _ ≤ 600; omega⟩
  obtain ⟨hr9, hq⟩ := hq
  subst hr9
  have hP := hP1
  have hS := hS1
  refine lv_pop hx hb (dg D_J4_append_15ec4 (i := 3) rfl) rfl ?_
  refine lv_aload_n hx hb (dg D_J4_append_15ec4 (i := 4) rfl) rfl (lv_at hl 0 rfl) ?_
  exact fin (dg D_J4_append_15ec4 (i := 5) rfl) (by omega) (by omega) hP hS (⟨rfl, by rw [← hsz]; exact hq⟩)

set_option maxHeartbeats 1000000 in
set_option maxRecDepth 100000 in
theorem c_J5_init_d00df {l : Launch} {G : va_G} {bs : Nat} {cy : Nat → ClassId} {sz : Nat} {A : Nat → Prop} (hAg : ∀ z, A z → Ag bs z) (hAn : ∀ z, sz ≤ z → A z) (q : Nat) (hD : va_D A [(q, .inr (14, [.null, .int (nI 0), .int (nI 0), .int (nI 0)]))]) : JBv l G bs cy MJ5_init_d00df 1 [.ref q, .int (nI 16)] sz A [(q, .inr (14, [.null, .int (nI 0), .int (nI 0), .int (nI 0)]))] [] (fun u => ∃ v1, sz ≤ v1 ∧ u = wB cy q v1 16 0 (fun _ => 0)) 1 16 := by
  refine JBv.of (own := RJ5) pn_RJ5 rfl (Nat.le_of_ble_eq_true rfl) ?_
  intro p e s m args below meth c Qf X hsz hP hSs hS hmn fin ls hl
  have hx := X.1
  have hb := X.2.1
  have hR : RmOK (rmL 1 1 16) 1 := ⟨rfl, rfl⟩
  have hcs : 0 ≤ (rmL 1 1 16).cells ∧ 0 ≤ (rmL 1 1 16).slots := ⟨Nat.zero_le _, Nat.zero_le _⟩
  have hAs : ∀ z, s.heap.size ≤ z → A z := fun z h => hAn z (by rw [← hsz]; exact h)
  have hl : lv_has ls 2 [(0, .ref q), (1, .int (nI 16))] := hl
  have hH9 : s.heap.size ≤ s.heap.size := Nat.le_refl _
  refine lv_aload_n hx hb (dg D_J5_init_d00df (i := 0) rfl) rfl (lv_at hl 0 rfl) ?_
  refine j_obj X LK_J5_3 hl (Nat.le_of_ble_eq_true rfl) (Nat.le_of_ble_eq_true rfl) (dg D_J5_init_d00df (i := 1) rfl) ?_
  refine j_cs X hAg hS CS_J5_18 (dg D_J5_init_d00df (i := 2) rfl) ?_
  refine n_if_eq (tgt := 25) hx hb (by omega) (dg D_J5_init_d00df (i := 3) rfl) (by decide) (fun c7 => ?_) (fun c7 => ?_)
  · exact absurd c7 (by decide)
  · refine lv_aload_n hx hb (dg D_J5_init_d00df (i := 4) rfl) rfl (lv_at hl 0 rfl) ?_
    refine lv_iload_n hx hb (dg D_J5_init_d00df (i := 5) rfl) rfl (lv_at hl 1 rfl) ?_
    refine j_newb (k := 16) X hP hD hS hAs (by omega) (by show _ ≤ 1; omega) (by show _ ≤ 16; omega) (dg D_J5_init_d00df (i := 6) rfl) (fun r9 H hr9 hP hD hS ho9 => ?_)
    have hcs : 0 + 1 ≤ (rmL 1 1 16).cells ∧ 0 + 16 ≤ (rmL 1 1 16).slots := ⟨by show _ ≤ 1; omega, by show _ ≤ 16; omega⟩
    have hP : va_P G vwCl [(q, .inr (14, [.null, .int (nI 0), .int (nI 0), .int (nI 0)])), (r9, arB cy 16 ((fun _ => 0)))] H := hP
    have hD : va_D A [(q, .inr (14, [.null, .int (nI 0), .int (nI 0), .int (nI 0)])), (r9, arB cy 16 ((fun _ => 0)))] := hD
    refine j_putB (i := 0) (fs := [.null, .int (nI 0), .int (nI 0), .int (nI 0)]) (v := .ref r9) (ty := .array .byte) X hP hD hS rfl FB_J5_15 rfl (by decide +kernel) (by decide +kernel) rfl rfl (dg D_J5_init_d00df (i := 7) rfl) (fun H locs hP hD hS => ?_)
    have hP : va_P G vwCl [(q, .inr (14, [.ref r9, .int (nI 0), .int (nI 0), .int (nI 0)])), (r9, arB cy 16 ((fun _ => 0)))] H := hP
    have hD : va_D A [(q, .inr (14, [.ref r9, .int (nI 0), .int (nI 0), .int (nI 0)])), (r9, arB cy 16 ((fun _ => 0)))] := hD
    refine lv_aload_n hx hb (dg D_J5_init_d00df (i := 8) rfl) rfl (lv_at hl 0 rfl) ?_
    refine n_iconst (a := 0) hx hb (dg D_J5_init_d00df (i := 9) rfl) rfl ?_
    refine j_putB (i := 0) (fs := [.ref r9, .int (nI 0), .int (nI 0), .int (nI 0)]) (v := .int (nI 0)) (ty := .byte) X hP hD hS rfl FB_J5_22 rfl (by decide +kernel) (by decide +kernel) rfl rfl (dg D_J5_init_d00df (i := 10) rfl) (fun H locs hP hD hS => ?_)
    have hP : va_P G vwCl [(q, .inr (14, [.ref r9, .int (nI 0), .int (nI 0), .int (nI 0)])), (r9, arB cy 16 ((fun _ => 0)))] H := hP
    have hD : va_D A [(q, .inr (14, [.ref r9, .int (nI 0), .int (nI 0), .int (nI 0)])), (r9, arB cy 16 ((fun _ => 0)))] := hD
    refine lv_goto (tgt := 38) hx hb (dg D_J5_init_d00df (i := 11) rfl) (by decide) ?_
    exact fin (dg D_J5_init_d00df (i := 19) rfl) (by omega) (by omega) hP hS (⟨r9, by rw [← hsz]; exact hr9, rfl⟩)

set_option maxHeartbeats 1000000 in
set_option maxRecDepth 100000 in
theorem c_J4_init_da8c8 {l : Launch} {G : va_G} {bs : Nat} {cy : Nat → ClassId} {sz : Nat} {A : Nat → Prop} (hAg : ∀ z, A z → Ag bs z) (hAn : ∀ z, sz ≤ z → A z) (q : Nat) (hD : va_D A [(q, .inr (14, [.null, .int (nI 0), .int (nI 0), .int (nI 0)]))]) : JBv l G bs cy MJ4_init_da8c8 2 [.ref q] sz A [(q, .inr (14, [.null, .int (nI 0), .int (nI 0), .int (nI 0)]))] [] (fun u => ∃ v1, sz ≤ v1 ∧ u = wB cy q v1 16 0 (fun _ => 0)) 1 16 := by
  refine JBv.of (own := RJ4) pn_RJ4 rfl (Nat.le_of_ble_eq_true rfl) ?_
  intro p e s m args below meth c Qf X hsz hP hSs hS hmn fin ls hl
  have hx := X.1
  have hb := X.2.1
  have hR : RmOK (rmL 2 1 16) 2 := ⟨rfl, rfl⟩
  have hcs : 0 ≤ (rmL 2 1 16).cells ∧ 0 ≤ (rmL 2 1 16).slots := ⟨Nat.zero_le _, Nat.zero_le _⟩
  have hAs : ∀ z, s.heap.size ≤ z → A z := fun z h => hAn z (by rw [← hsz]; exact h)
  have hl : lv_has ls 1 [(0, .ref q)] := hl
  have hH9 : s.heap.size ≤ s.heap.size := Nat.le_refl _
  refine lv_aload_n hx hb (dg D_J4_init_da8c8 (i := 0) rfl) rfl (lv_at hl 0 rfl) ?_
  refine lv_bipush (v := nI 16) hx hb (dg D_J4_init_da8c8 (i := 1) rfl) (by decide) ?_
  refine jIBv X hAg hS hR (c_J5_init_d00df (l := l) (G := G) (bs := bs) (cy := cy) (A := A) hAg (fun z h => hAs z (Nat.le_trans hS.1 h)) q (by first | assumption | omega)) (by decide) UIJ5_init_d00df rfl rfl LK_J4_1 hP (fun x9 h9 => by cases h9) rfl rfl (Nat.le_of_ble_eq_true rfl) hl (⟨by show _ ≤ 1; omega, by show _ ≤ 16; omega⟩) (fun _ h => h) (dg D_J4_init_da8c8 (i := 2) rfl) (fun u H1 locs1 hq hP1 hk9 hS1 => ?_)
  have hcs : 0 + 1 ≤ (rmL 2 1 16).cells ∧ 0 + 16 ≤ (rmL 2 1 16).slots := ⟨by show _ ≤ 1; omega, by show _ ≤ 16; omega⟩
  have hP := hP1
  have hS := hS1
  exact fin (dg D_J4_init_da8c8 (i := 3) rfl) (by omega) (by omega) hP hS (by rw [← hsz]; exact hq)

set_option maxHeartbeats 1000000 in
set_option maxRecDepth 100000 in
theorem c_J0_init_db425 {l : Launch} {G : va_G} {bs : Nat} {cy : Nat → ClassId} {sz : Nat} {A : Nat → Prop} (hAg : ∀ z, A z → Ag bs z) (hAn : ∀ z, sz ≤ z → A z) (a : Nat) (q : Nat) (v : Nat) (n9 : Nat) (m9 : Nat) (a9 : Nat → Int32) (lx : List Nat) (hD : va_D A [(a, blS)]) (hnq : ¬ A q ∧ ¬ A v) (hBT : BT a9 m9 lx) (hn9 : n9 = lx.length) (hm9 : m9 ≤ 600) : JBv l G bs cy MJ0_init_db425 4 [.ref a, .ref q, .null] sz A [(a, .inr (13, [.null, .int (nI 0), .int (nI 0), .int (nI 0)])), (q, obB v n9), (v, arB cy m9 a9)] [] (fun u => ∃ w1 a1, sz ≤ w1 ∧ u = [(a, .inr (13, [.ref w1, .int (nI 0), .int (nI 0), .int (nI 0)])), (w1, arB cy n9 a1)] ∧ ∀ j, j < n9 → a1 j = a9 j) 1 n9 := by
  refine JBv.of (own := RJ0) pn_RJ0 rfl (Nat.le_of_ble_eq_true rfl) ?_
  intro p e s m args below meth c Qf X hsz hP hSs hS hmn fin ls hl
  have hx := X.1
  have hb := X.2.1
  have hR : RmOK (rmL 4 1 n9) 4 := ⟨rfl, rfl⟩
  have hcs : 0 ≤ (rmL 4 1 n9).cells ∧ 0 ≤ (rmL 4 1 n9).slots := ⟨Nat.zero_le _, Nat.zero_le _⟩
  have hAs : ∀ z, s.heap.size ≤ z → A z := fun z h => hAn z (by rw [← hsz]; exact h)
  have hl : lv_has ls 5 [(0, .ref a), (1, .ref q), (2, .null)] := hl
  have hH9 : s.heap.size ≤ s.heap.size := Nat.le_refl _
  have hPB0 : va_P G vwCl (wB cy q v m9 n9 a9) s.heap := hP.sub [1, 2] rfl
  have hPB := hPB0
  have hP : va_P G vwCl [(a, blS)] s.heap := hP.sub [0] rfl
  have hfb := hBT.2.2.1
  have hln := hBT.1
  refine lv_aload_n hx hb (dg D_J0_init_db425 (i := 0) rfl) rfl (lv_at hl 0 rfl) ?_
  refine j_obj X LK_J0_1 hl (Nat.le_of_ble_eq_true rfl) (Nat.le_of_ble_eq_true rfl) (dg D_J0_init_db425 (i := 1) rfl) ?_
  refine lv_aload_n hx hb (dg D_J0_init_db425 (i := 2) rfl) rfl (lv_at hl 1 rfl) ?_
  refine jUr X hAg hS hR (c_J5_getValue_6d5f1 (l := l) (G := G) (bs := bs) (cy := cy) (A := A) hAg (fun z h => hAs z (Nat.le_trans hS.1 h)) q v n9 m9 a9) (by decide) UU_J0_552 (r_recvB X hPB (i := 0) rfl) hPB (fun x9 h9 => by cases h9) rfl rfl (Nat.le_of_ble_eq_true rfl) hl hcs (dg D_J0_init_db425 (i := 3) rfl) ?_
  refine lv_astore_n (lv' := [(3, .ref v), (0, .ref a), (1, .ref q), (2, .null)]) hx hb (dg D_J0_init_db425 (i := 4) rfl) rfl hl (by decide) rfl (fun ls hl => ?_)
  refine lv_aload_n hx hb (dg D_J0_init_db425 (i := 5) rfl) rfl (lv_at hl 2 rfl) ?_
  refine jOi X hAg hS hR (c_J4_length_8abf5 (l := l) (G := G) (bs := bs) (cy := cy) (A := A) hAg (fun z h => hAs z (Nat.le_trans hS.1 h)) q v n9 m9 a9) (by decide) OO_J0_549 (r_recvB X hPB (i := 0) rfl) hPB (fun x9 h9 => by cases h9) rfl rfl (Nat.le_of_ble_eq_true rfl) hl hcs (dg D_J0_init_db425 (i := 6) rfl) (fun r9 hr9 => ?_)
  subst hr9
  refine lv_istore (lv' := [(4, .int (nI n9)), (3, .ref v), (0, .ref a), (1, .ref q), (2, .null)]) hx hb (dg D_J0_init_db425 (i := 7) rfl) hl (by decide) rfl (fun ls hl => ?_)
  refine lv_aload_n hx hb (dg D_J0_init_db425 (i := 8) rfl) rfl (lv_at hl 3 rfl) ?_
  refine jUi X hAg hS hR (c_J5_isLatin1_aae02 (l := l) (G := G) (bs := bs) (cy := cy) (A := A) hAg (fun z h => hAs z (Nat.le_trans hS.1 h)) q v n9 m9 a9) (by decide) UU_J0_1047 (r_recvB X hPB (i := 0) rfl) hPB (fun x9 h9 => by cases h9) rfl rfl (Nat.le_of_ble_eq_true rfl) hl hcs (dg D_J0_init_db425 (i := 9) rfl) (fun r9 hr9 => ?_)
  subst hr9
  refine n_if_eq (tgt := 41) hx hb (by omega) (dg D_J0_init_db425 (i := 10) rfl) (by decide) (fun c19 => ?_) (fun c19 => ?_)
  · exact absurd c19 (by decide)
  · refine lv_aload_n hx hb (dg D_J0_init_db425 (i := 11) rfl) rfl (lv_at hl 2 rfl) ?_
    refine n_iconst (a := 0) hx hb (dg D_J0_init_db425 (i := 12) rfl) rfl ?_
    refine j_putS (i := 0) (fs := [.null, .int (nI 0), .int (nI 0), .int (nI 0)]) (v := .int (nI 0)) (ty := .byte) X hmn hP hD hS rfl FI_J0_15 rfl (by decide) (by decide +kernel) (by decide +kernel) rfl rfl (dg D_J0_init_db425 (i := 13) rfl) (fun H locs hP hD hS => ?_)
    have hP : va_P G vwCl [(a, .inr (13, [.null, .int (nI 0), .int (nI 0), .int (nI 0)]))] H := hP
    have hD : va_D A [(a, .inr (13, [.null, .int (nI 0), .int (nI 0), .int (nI 0)]))] := hD
    have hPB := (hPB0.kept (fun k x hx => hS.2.1 _ ((hPB0 k x hx).lt) (by rcases (show k = 0 ∨ k = 1 by have : k < 2 := (List.getElem?_eq_some_iff.mp hx).1; omega) with rfl | rfl <;> cases hx; exact hnq.1; exact hnq.2)))
    have hHs := hS.1
    refine lv_aload_n hx hb (dg D_J0_init_db425 (i := 14) rfl) rfl (lv_at hl 2 rfl) ?_
    refine lv_aload_n hx hb (dg D_J0_init_db425 (i := 15) rfl) rfl (lv_at hl 1 rfl) ?_
    refine n_iconst (a := 0) hx hb (dg D_J0_init_db425 (i := 16) rfl) rfl ?_
    refine lv_iload hx hb (dg D_J0_init_db425 (i := 17) rfl) (lv_at hl 0 rfl) ?_
    refine jSBr X hAg hS hR (c_J7_copyOfRange_39247 (l := l) (G := G) (bs := bs) (cy := cy) (A := (fun z => H.size ≤ z)) (fun z h => hAg z (hAs z (Nat.le_trans hHs h))) (fun z h => h) v m9 a9 n9 (by first | assumption | omega) (by first | assumption | omega) (by first | assumption | omega)) (by decide) USJ7_copyOfRange_39247 LK_J0_54 (hPB.sub [1] rfl) (fun x9 h9 => by cases h9) rfl rfl (Nat.le_of_ble_eq_true rfl) hl (⟨by show _ ≤ 1; omega, by show _ ≤ n9; omega⟩) (fun z h => hAs z (Nat.le_trans hHs h)) (dg D_J0_init_db425 (i := 18) rfl) (fun r9 u H1 locs1 hq hP1 hz9 hk9 hS1 => ?_)
    have hcs : 0 + 1 ≤ (rmL 4 1 n9).cells ∧ 0 + n9 ≤ (rmL 4 1 n9).slots := ⟨by show _ ≤ 1; omega, by show _ ≤ n9; omega⟩
    obtain ⟨hr9, a1, rfl, ha1, hf1⟩ := hq
    have hPo := hP
    have hP : va_P G vwCl [(a, .inr (13, [.null, .int (nI 0), .int (nI 0), .int (nI 0)])), (r9, arB cy n9 a1)] H1 := (va_keep hPo hk9 (fun k x hx => Nat.not_le.mpr ((hPo k x hx).lt))).app hP1
    have hD : va_D A [(a, .inr (13, [.null, .int (nI 0), .int (nI 0), .int (nI 0)])), (r9, arB cy n9 a1)] := vD_app hD hPo hr9 (hAs _ (Nat.le_trans hS.1 hr9))
    have hr8 : s.heap.size ≤ r9 := Nat.le_trans hS.1 hr9
    have hS := hS1
    refine j_putS (i := 0) (fs := [.null, .int (nI 0), .int (nI 0), .int (nI 0)]) (v := .ref r9) (ty := .array .byte) X hmn hP hD hS rfl FI_J0_9 rfl (by decide) (by decide +kernel) (by decide +kernel) rfl rfl (dg D_J0_init_db425 (i := 19) rfl) (fun H locs hP hD hS => ?_)
    have hP : va_P G vwCl [(a, .inr (13, [.ref r9, .int (nI 0), .int (nI 0), .int (nI 0)])), (r9, arB cy n9 a1)] H := hP
    have hD : va_D A [(a, .inr (13, [.ref r9, .int (nI 0), .int (nI 0), .int (nI 0)])), (r9, arB cy n9 a1)] := hD
    refine lv_goto (tgt := 97) hx hb (dg D_J0_init_db425 (i := 20) rfl) (by decide) ?_
    exact fin (dg D_J0_init_db425 (i := 50) rfl) (by omega) (by omega) hP hS (⟨r9, a1, by rw [← hsz]; exact hr8, rfl, ha1⟩)

set_option maxHeartbeats 1000000 in
set_option maxRecDepth 100000 in
theorem c_J0_init_81219 {l : Launch} {G : va_G} {bs : Nat} {cy : Nat → ClassId} {sz : Nat} {A : Nat → Prop} (hAg : ∀ z, A z → Ag bs z) (hAn : ∀ z, sz ≤ z → A z) (a : Nat) (q : Nat) (v : Nat) (n9 : Nat) (m9 : Nat) (a9 : Nat → Int32) (lx : List Nat) (hD : va_D A [(a, blS)]) (hnq : ¬ A q ∧ ¬ A v) (hBT : BT a9 m9 lx) (hn9 : n9 = lx.length) (hm9 : m9 ≤ 600) : JBv l G bs cy MJ0_init_81219 5 [.ref a, .ref q] sz A [(a, .inr (13, [.null, .int (nI 0), .int (nI 0), .int (nI 0)])), (q, obB v n9), (v, arB cy m9 a9)] [] (fun u => ∃ w1 a1, sz ≤ w1 ∧ u = [(a, .inr (13, [.ref w1, .int (nI 0), .int (nI 0), .int (nI 0)])), (w1, arB cy n9 a1)] ∧ ∀ j, j < n9 → a1 j = a9 j) 1 n9 := by
  refine JBv.of (own := RJ0) pn_RJ0 rfl (Nat.le_of_ble_eq_true rfl) ?_
  intro p e s m args below meth c Qf X hsz hP hSs hS hmn fin ls hl
  have hx := X.1
  have hb := X.2.1
  have hR : RmOK (rmL 5 1 n9) 5 := ⟨rfl, rfl⟩
  have hcs : 0 ≤ (rmL 5 1 n9).cells ∧ 0 ≤ (rmL 5 1 n9).slots := ⟨Nat.zero_le _, Nat.zero_le _⟩
  have hAs : ∀ z, s.heap.size ≤ z → A z := fun z h => hAn z (by rw [← hsz]; exact h)
  have hl : lv_has ls 2 [(0, .ref a), (1, .ref q)] := hl
  have hH9 : s.heap.size ≤ s.heap.size := Nat.le_refl _
  refine lv_aload_n hx hb (dg D_J0_init_81219 (i := 0) rfl) rfl (lv_at hl 0 rfl) ?_
  refine lv_aload_n hx hb (dg D_J0_init_81219 (i := 1) rfl) rfl (lv_at hl 1 rfl) ?_
  refine lv_null hx hb (dg D_J0_init_81219 (i := 2) rfl) ?_
  refine jIBv X hAg hS hR (c_J0_init_db425 (l := l) (G := G) (bs := bs) (cy := cy) (A := A) hAg (fun z h => hAs z (Nat.le_trans hS.1 h)) a q v n9 m9 a9 lx (by first | assumption | omega) (by first | assumption | omega) (by first | assumption | omega) (by first | assumption | omega) (by first | assumption | omega)) (by decide) UIJ0_init_db425 rfl rfl LK_J0_489 hP (fun x9 h9 => by cases h9) rfl rfl (Nat.le_of_ble_eq_true rfl) hl (⟨by show _ ≤ 1; omega, by show _ ≤ n9; omega⟩) (fun _ h => h) (dg D_J0_init_81219 (i := 3) rfl) (fun u H1 locs1 hq hP1 hk9 hS1 => ?_)
  have hcs : 0 + 1 ≤ (rmL 5 1 n9).cells ∧ 0 + n9 ≤ (rmL 5 1 n9).slots := ⟨by show _ ≤ 1; omega, by show _ ≤ n9; omega⟩
  have hP := hP1
  have hS := hS1
  exact fin (dg D_J0_init_81219 (i := 4) rfl) (by omega) (by omega) hP hS (by rw [← hsz]; exact hq)

set_option maxHeartbeats 1000000 in
set_option maxRecDepth 100000 in
theorem c_J4_toString_0e30d {l : Launch} {G : va_G} {bs : Nat} {cy : Nat → ClassId} {sz : Nat} {A : Nat → Prop} (hAg : ∀ z, A z → Ag bs z) (hAn : ∀ z, sz ≤ z → A z) (q : Nat) (v : Nat) (n9 : Nat) (m9 : Nat) (a9 : Nat → Int32) (lx : List Nat) (hnq : ¬ A q ∧ ¬ A v) (hBT : BT a9 m9 lx) (hn9 : n9 = lx.length) (hm9 : m9 ≤ 600) : JBr l G bs cy MJ4_toString_0e30d 6 [.ref q] sz A [(q, obB v n9), (v, arB cy m9 a9)] [] (fun r u => ∃ w1 a1, sz ≤ r ∧ sz < w1 ∧ u = [(r, .inr (13, [.ref w1, .int (nI 0), .int (nI 0), .int (nI 0)])), (w1, arB cy n9 a1)] ∧ ∀ j, j < n9 → a1 j = a9 j) 2 (n9 + 4) := by
  refine JBr.of (own := RJ4) (by first | exact Or.inl ⟨_, rfl⟩ | exact Or.inr ⟨_, rfl⟩) pn_RJ4 rfl (Nat.le_of_ble_eq_true rfl) ?_
  intro p e s m args below meth c Qf X hsz hP hSs hS fin ls hl
  have hx := X.1
  have hb := X.2.1
  have hR : RmOK (rmL 6 2 (n9 + 4)) 6 := ⟨rfl, rfl⟩
  have hcs : 0 ≤ (rmL 6 2 (n9 + 4)).cells ∧ 0 ≤ (rmL 6 2 (n9 + 4)).slots := ⟨Nat.zero_le _, Nat.zero_le _⟩
  have hAs : ∀ z, s.heap.size ≤ z → A z := fun z h => hAn z (by rw [← hsz]; exact h)
  have hl : lv_has ls 1 [(0, .ref q)] := hl
  have hH9 : s.heap.size ≤ s.heap.size := Nat.le_refl _
  refine j_newO X hS NW_J4_18 (Or.inl rfl) (by show _ ≤ 2; omega) (by show _ ≤ n9 + 4; omega) (dg D_J4_toString_0e30d (i := 0) rfl) (fun a9n H ha9 hPn hz9 ho9 hS => ?_)
  have hPB : va_P G vwCl (wB cy q v m9 n9 a9) H := hP.kept (fun k x hx => ho9 _ ((hP k x hx).lt))
  have hP : va_P G vwCl [(a9n, blS), (q, obB v n9), (v, arB cy m9 a9)] H := va_P.app (w1 := [(a9n, blS)]) hPn hPB
  have hcs : 0 + 1 ≤ (rmL 6 2 (n9 + 4)).cells ∧ 0 + 4 ≤ (rmL 6 2 (n9 + 4)).slots := ⟨by show _ ≤ 2; omega, by show _ ≤ n9 + 4; omega⟩
  refine lv_dup hx hb (dg D_J4_toString_0e30d (i := 1) rfl) rfl ?_
  refine lv_aload_n hx hb (dg D_J4_toString_0e30d (i := 2) rfl) rfl (lv_at hl 0 rfl) ?_
  refine jIBv X hAg hS hR (c_J0_init_81219 (l := l) (G := G) (bs := bs) (cy := cy) (A := A) hAg (fun z h => hAs z (Nat.le_trans hS.1 h)) a9n q v n9 m9 a9 lx (vD1 (hAs _ (by omega))) (by first | assumption | omega) (by first | assumption | omega) (by first | assumption | omega) (by first | assumption | omega)) (by decide) UIJ0_init_81219 rfl rfl LK_J4_137 hP (fun x9 h9 => by cases h9) rfl rfl (Nat.le_of_ble_eq_true rfl) hl (⟨by show _ ≤ 2; omega, by show _ ≤ n9 + 4; omega⟩) (fun _ h => h) (dg D_J4_toString_0e30d (i := 3) rfl) (fun u H1 locs1 hq hP1 hk9 hS1 => ?_)
  have hcs : 0 + 1 + 1 ≤ (rmL 6 2 (n9 + 4)).cells ∧ 0 + 4 + n9 ≤ (rmL 6 2 (n9 + 4)).slots := ⟨by show _ ≤ 2; omega, by show _ ≤ n9 + 4; omega⟩
  obtain ⟨w1, a1, hw1, rfl, ha1⟩ := hq
  have hP := hP1
  have hS := hS1
  exact fin (dg D_J4_toString_0e30d (i := 4) rfl) (by omega) (by omega) hP hS (⟨w1, a1, by omega, by omega, rfl, ha1⟩)

