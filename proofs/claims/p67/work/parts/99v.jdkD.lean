set_option maxHeartbeats 1000000 in
set_option maxRecDepth 100000 in
theorem c_J5_ensureCapacityInternal_d00df {l : Launch} {G : va_G} {bs : Nat} {cy : Nat → ClassId} {sz : Nat} {A : Nat → Prop} (hAg : ∀ z, A z → Ag bs z) (hAn : ∀ z, sz ≤ z → A z) (q : Nat) (v : Nat) (n9 : Nat) (m9 : Nat) (a9 : Nat → Int32) (k : Nat) (hD : va_D A [(q, obB v n9), (v, arB cy m9 a9)]) (hfb : ∀ j, fits .byte (.int (a9 j)) = true) (hm9 : m9 ≤ 600) (hk3 : k ≤ 300) : JBv l G bs cy MJ5_ensureCapacityInternal_d00df 3 [.ref q, .int (nI k)] sz A [(q, obB v n9), (v, arB cy m9 a9)] [] (fun u => (k ≤ m9 ∧ u = wB cy q v m9 n9 a9) ∨ (m9 < k ∧ ∃ v1, sz ≤ v1 ∧ u = wB cy q v1 (capK m9 k) n9 (va_cpy a9 (fun _ => 0) 0 0 m9))) 1 600 := by
  refine JBv.of (own := RJ5) pn_RJ5 rfl (Nat.le_of_ble_eq_true rfl) ?_
  intro p e s m args below meth c Qf X hsz hP hSs hS hmn fin ls hl
  have hx := X.1
  have hb := X.2.1
  have hR : RmOK (rmL 3 1 600) 3 := ⟨rfl, rfl⟩
  have hcs : 0 ≤ (rmL 3 1 600).cells ∧ 0 ≤ (rmL 3 1 600).slots := ⟨Nat.zero_le _, Nat.zero_le _⟩
  have hAs : ∀ z, s.heap.size ≤ z → A z := fun z h => hAn z (by rw [← hsz]; exact h)
  have hl : lv_has ls 3 [(0, .ref q), (1, .int (nI k))] := hl
  have hH9 : s.heap.size ≤ s.heap.size := Nat.le_refl _
  refine lv_aload_n hx hb (dg D_J5_ensureCapacityInternal_d00df (i := 0) rfl) rfl (lv_at hl 0 rfl) ?_
  refine j_getB (i := 0) (q := q) (fs := [.ref v, .int (nI 0), .int (nI 0), .int (nI n9)]) X hP rfl FB_J5_15 rfl (dg D_J5_ensureCapacityInternal_d00df (i := 1) rfl) ?_
  refine j_alen (i := 1) (m9 := m9) (a := a9) X hP rfl (dg D_J5_ensureCapacityInternal_d00df (i := 2) rfl) ?_
  refine lv_aload_n hx hb (dg D_J5_ensureCapacityInternal_d00df (i := 3) rfl) rfl (lv_at hl 0 rfl) ?_
  refine j_getB (i := 0) (q := q) (fs := [.ref v, .int (nI 0), .int (nI 0), .int (nI n9)]) X hP rfl FB_J5_22 rfl (dg D_J5_ensureCapacityInternal_d00df (i := 4) rfl) ?_
  refine lv_ishr hx hb (dg D_J5_ensureCapacityInternal_d00df (i := 5) rfl) ?_
  rw [show (nI m9) >>> ((nI 0) &&& 31) = nI m9 from shr0 _]
  refine lv_istore_n (lv' := [(2, .int (nI m9)), (0, .ref q), (1, .int (nI k))]) hx hb (dg D_J5_ensureCapacityInternal_d00df (i := 6) rfl) rfl hl (by decide) rfl (fun ls hl => ?_)
  refine lv_iload_n hx hb (dg D_J5_ensureCapacityInternal_d00df (i := 7) rfl) rfl (lv_at hl 2 rfl) ?_
  refine lv_iload_n hx hb (dg D_J5_ensureCapacityInternal_d00df (i := 8) rfl) rfl (lv_at hl 0 rfl) ?_
  refine lv_isub hx hb (dg D_J5_ensureCapacityInternal_d00df (i := 9) rfl) ?_
  rw [show (nI k) - (nI m9) = nI k - nI m9 from rfl]
  refine lv_if_le (tgt := 38) hx hb (dg D_J5_ensureCapacityInternal_d00df (i := 10) rfl) (by decide) (fun c14 => ?_) (fun c14 => ?_)
  · exact fin (dg D_J5_ensureCapacityInternal_d00df (i := 22) rfl) (by omega) (by omega) hP hS (Or.inl ⟨(subLe (by omega) (by omega)).mp c14, rfl⟩)
  · have hlt : m9 < k := Nat.not_le.mp (fun z => c14 ((subLe (by omega) (by omega)).mpr z))
    have hcap : capK m9 k ≤ 600 := capK_le hlt hk3
    have hgt : m9 < capK m9 k := capK_gt
    refine lv_aload_n hx hb (dg D_J5_ensureCapacityInternal_d00df (i := 11) rfl) rfl (lv_at hl 1 rfl) ?_
    refine lv_aload_n hx hb (dg D_J5_ensureCapacityInternal_d00df (i := 12) rfl) rfl (lv_at hl 1 rfl) ?_
    refine j_getB (i := 0) (q := q) (fs := [.ref v, .int (nI 0), .int (nI 0), .int (nI n9)]) X hP rfl FB_J5_15 rfl (dg D_J5_ensureCapacityInternal_d00df (i := 13) rfl) ?_
    refine lv_aload_n hx hb (dg D_J5_ensureCapacityInternal_d00df (i := 14) rfl) rfl (lv_at hl 1 rfl) ?_
    refine lv_iload_n hx hb (dg D_J5_ensureCapacityInternal_d00df (i := 15) rfl) rfl (lv_at hl 2 rfl) ?_
    refine jUi X hAg hS hR (c_J5_newCapacity_0f7a4 (l := l) (G := G) (bs := bs) (cy := cy) (A := A) hAg (fun z h => hAs z (Nat.le_trans hS.1 h)) q v n9 m9 a9 k (by first | assumption | omega) (by first | assumption | omega)) (by decide) UU_J5_104 (r_recvB X hP (i := 0) rfl) hP (fun x9 h9 => by cases h9) rfl rfl (Nat.le_of_ble_eq_true rfl) hl hcs (dg D_J5_ensureCapacityInternal_d00df (i := 16) rfl) (fun r9 hr9 => ?_)
    subst hr9
    refine lv_aload_n hx hb (dg D_J5_ensureCapacityInternal_d00df (i := 17) rfl) rfl (lv_at hl 1 rfl) ?_
    refine j_getB (i := 0) (q := q) (fs := [.ref v, .int (nI 0), .int (nI 0), .int (nI n9)]) X hP rfl FB_J5_22 rfl (dg D_J5_ensureCapacityInternal_d00df (i := 18) rfl) ?_
    refine lv_ishl hx hb (dg D_J5_ensureCapacityInternal_d00df (i := 19) rfl) ?_
    rw [show (nI (capK m9 k)) <<< ((nI 0) &&& 31) = nI (capK m9 k) from shl0 _]
    refine jSBr X hAg hS hR (c_J7_copyOf_9075b (l := l) (G := G) (bs := bs) (cy := cy) (A := (fun z => s.heap.size ≤ z)) (fun z h => hAg z (hAs z h)) (fun z h => h) v m9 a9 (capK m9 k) (by have := (hP 1 _ rfl).lt; exact Nat.not_le.mpr this) (by first | assumption | omega) (by first | assumption | omega) (by first | assumption | omega)) (by decide) USJ7_copyOf_9075b LK_J5_108 (hP.sub [1] rfl) (fun x9 h9 => by cases h9) rfl rfl (Nat.le_of_ble_eq_true rfl) hl (⟨by show _ ≤ 1; omega, by show _ ≤ 600; omega⟩) (fun z h => hAs z h) (dg D_J5_ensureCapacityInternal_d00df (i := 20) rfl) (fun r9 u H1 locs1 hq hP1 hz9 hk9 hS1 => ?_)
    have hcs : 0 + 1 ≤ (rmL 3 1 600).cells ∧ 0 + (capK m9 k) ≤ (rmL 3 1 600).slots := ⟨by show _ ≤ 1; omega, by show _ ≤ 600; omega⟩
    obtain ⟨hr9, rfl⟩ := hq
    have hPo := hP
    have hP : va_P G vwCl [(q, obB v n9), (v, arB cy m9 a9), (r9, arB cy ((capK m9 k)) ((va_cpy a9 (fun _ => 0) 0 0 m9)))] H1 := (va_keep hPo hk9 (fun k x hx => Nat.not_le.mpr ((hPo k x hx).lt))).app hP1
    have hD : va_D A [(q, obB v n9), (v, arB cy m9 a9), (r9, arB cy ((capK m9 k)) ((va_cpy a9 (fun _ => 0) 0 0 m9)))] := vD_app hD hPo hr9 (hAs _ hr9)
    have hS := hS1
    refine j_putB (i := 0) (fs := [.ref v, .int (nI 0), .int (nI 0), .int (nI n9)]) (v := .ref r9) (ty := .array .byte) X hP hD hS rfl FB_J5_15 rfl (by decide +kernel) (by decide +kernel) rfl rfl (dg D_J5_ensureCapacityInternal_d00df (i := 21) rfl) (fun H locs hP hD hS => ?_)
    have hP : va_P G vwCl [(q, obB r9 n9), (v, arB cy m9 a9), (r9, arB cy ((capK m9 k)) ((va_cpy a9 (fun _ => 0) 0 0 m9)))] H := hP
    have hD : va_D A [(q, obB r9 n9), (v, arB cy m9 a9), (r9, arB cy ((capK m9 k)) ((va_cpy a9 (fun _ => 0) 0 0 m9)))] := hD
    have hP := hP.sub [0, 2] rfl
    exact fin (dg D_J5_ensureCapacityInternal_d00df (i := 22) rfl) (by omega) (by omega) hP hS (Or.inr ⟨hlt, r9, by rw [← hsz]; exact hr9, rfl⟩)

