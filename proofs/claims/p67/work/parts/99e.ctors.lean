/-! constructors -/
set_option maxHeartbeats 1000000 in
set_option maxRecDepth 100000 in
theorem i_X7 {l : Launch} {G : va_G} {bs : Nat} {cy : Nat → ClassId} (pre : List va_E) (k0 : Nat) (hk : pre.length = k0) : MTq l G bs cy MX7_init 1 1 12 [.ref (bs + k0)] (pre ++ [.inr (7, [.null, .int 0])]) (pre ++ [.inr (7, [.ref (bs + (k0 + 1)), .int 0]), arE cy 0 12]) := by
  refine MTq.of (own := RX7) pn_RX7 rfl (Nat.le_of_ble_eq_true rfl) ?_
  intro p e s m args below meth c Qf X hW hS hsz0 hmn fin ls hl
  have hx := X.1
  have hb := X.2.1
  have hmn : meth.name = "<init>" := hmn
  have hsz : s.heap.size + 0 = bs + (k0 + ([.inr (7, [.null, .int 0])] : List va_E).length) := by rw [Nat.add_zero, hsz0, List.length_append, hk]
  have hb0 : bs ≤ s.heap.size := by rw [hsz0]; exact Nat.le_add_right _ _
  generalize hH : s.heap = H at hW
  have hS : va_S (Aw bs) s.heap H [] := by rw [← hH]; exact hS
  have hW : Wc G bs pre ([.inr (7, [.null, .int 0])]) H := hW
  have hl : lv_has ls 1 [(0, .ref (bs + (k0 + 0)))] := hl
  refine lv_aload_n hx hb (dg D_X7_init (i := 0) rfl) rfl (lv_at hl 0 rfl) ?_
  refine q_obj X LK_X7_3 hl (Nat.le_of_ble_eq_true rfl) (Nat.le_of_ble_eq_true rfl) (dg D_X7_init (i := 1) rfl) ?_
  refine lv_aload_n hx hb (dg D_X7_init (i := 2) rfl) rfl (lv_at hl 0 rfl) ?_
  refine lv_bipush (v := nI 12) hx hb (dg D_X7_init (i := 3) rfl) (by decide) ?_
  refine p_newa (atype := .int) (ty := .int) (a0 := (12, .inl (fun _ => 0))) (t := 0) (N := 12) (i := 1) (lc' := [.inr (7, [.null, .int 0]), arE cy 0 12]) X hk hW hS hsz hb0 rfl AC_int rfl (fun C h => by cases h) rfl (fun cA => by rw [vp_cell_i]; rfl) (by decide) (by decide) (Nat.le_of_ble_eq_true rfl) (Nat.le_of_ble_eq_true rfl) rfl rfl (dg D_X7_init (i := 4) rfl) (fun H hW hS hsz => ?_)
  refine p_putF (i := 0) (v := .ref (bs + (k0 + 1))) (ty := .array .int) (lc' := [.inr (7, [.ref (bs + (k0 + 1)), .int 0]), arE cy 0 12]) X hk hW hS FI_X7_9 rfl rfl hmn rfl (by decide +kernel) rfl rfl (Nat.le_of_ble_eq_true rfl) rfl (dg D_X7_init (i := 5) rfl) (fun H locs hW hS => ?_)
  exact fin (dg D_X7_init (i := 6) rfl) (Nat.le_of_ble_eq_true rfl) (Nat.le_of_ble_eq_true rfl) hW hS

set_option maxHeartbeats 1000000 in
set_option maxRecDepth 100000 in
theorem i_X0 {l : Launch} {G : va_G} {bs : Nat} {cy : Nat → ClassId} (pre : List va_E) (k0 : Nat) (hk : pre.length = k0) : MTq l G bs cy MX0_init 2 2 14 [.ref (bs + k0)] (pre ++ [.inr (0, [.null])]) (pre ++ [.inr (0, [.ref (bs + (k0 + 1))]), .inr (7, [.ref (bs + (k0 + 2)), .int 0]), arE cy 0 12]) := by
  refine MTq.of (own := RX0) pn_RX0 rfl (Nat.le_of_ble_eq_true rfl) ?_
  intro p e s m args below meth c Qf X hW hS hsz0 hmn fin ls hl
  have hx := X.1
  have hb := X.2.1
  have hmn : meth.name = "<init>" := hmn
  have hsz : s.heap.size + 0 = bs + (k0 + ([.inr (0, [.null])] : List va_E).length) := by rw [Nat.add_zero, hsz0, List.length_append, hk]
  have hb0 : bs ≤ s.heap.size := by rw [hsz0]; exact Nat.le_add_right _ _
  generalize hH : s.heap = H at hW
  have hS : va_S (Aw bs) s.heap H [] := by rw [← hH]; exact hS
  have hW : Wc G bs pre ([.inr (0, [.null])]) H := hW
  have hl : lv_has ls 1 [(0, .ref (bs + (k0 + 0)))] := hl
  refine lv_aload_n hx hb (dg D_X0_init (i := 0) rfl) rfl (lv_at hl 0 rfl) ?_
  refine q_obj X LK_X0_3 hl (Nat.le_of_ble_eq_true rfl) (Nat.le_of_ble_eq_true rfl) (dg D_X0_init (i := 1) rfl) ?_
  refine lv_aload_n hx hb (dg D_X0_init (i := 2) rfl) rfl (lv_at hl 0 rfl) ?_
  refine p_new (ci := 7) (N := 2) (fs := [.null, .int 0]) (i := 1) (lc' := [.inr (0, [.null]), .inr (7, [.null, .int 0])]) X hk hW hS hsz hb0 NW_X0_9 rfl (fun j hj => by rcases (show j = 0 ∨ j = 1 by omega) with rfl | rfl <;> rfl) (Nat.le_of_ble_eq_true rfl) (Nat.le_of_ble_eq_true rfl) rfl rfl (dg D_X0_init (i := 3) rfl) (fun H hW hS hsz => ?_)
  refine lv_dup hx hb (dg D_X0_init (i := 4) rfl) rfl ?_
  refine p_callN (lo := [.inr (0, [.null])]) (lr := [.inr (7, [.ref (bs + (k0 + 2)), .int 0]), arE cy 0 12]) (b := .inr (7, [.null, .int 0])) (lc' := [.inr (0, [.null]), .inr (7, [.ref (bs + (k0 + 2)), .int 0]), arE cy 0 12]) (k1 := k0 + 1) X hk hW hS hsz ⟨rfl, rfl⟩ (i_X7 (pre ++ [.inr (0, [.null])]) (k0 + 1) (by rw [List.length_append, hk]; rfl)) (by decide) UIX7_init rfl rfl (List.mem_of_getElem? (i := 27) rfl) rfl rfl (Nat.le_of_ble_eq_true rfl) hl ⟨(Nat.le_of_ble_eq_true rfl), (Nat.le_of_ble_eq_true rfl)⟩ rfl rfl (dg D_X0_init (i := 5) rfl) (fun H locs hW hS hsz => ?_)
  refine p_putF (i := 0) (v := .ref (bs + (k0 + 1))) (ty := .object "SpanPainter$Ranking") (lc' := [.inr (0, [.ref (bs + (k0 + 1))]), .inr (7, [.ref (bs + (k0 + 2)), .int 0]), arE cy 0 12]) X hk hW hS FI_X0_12 rfl rfl hmn rfl (by decide +kernel) rfl rfl (Nat.le_of_ble_eq_true rfl) rfl (dg D_X0_init (i := 6) rfl) (fun H locs hW hS => ?_)
  exact fin (dg D_X0_init (i := 7) rfl) (Nat.le_of_ble_eq_true rfl) (Nat.le_of_ble_eq_true rfl) hW hS

set_option maxHeartbeats 1000000 in
set_option maxRecDepth 100000 in
theorem i_X8 {l : Launch} {G : va_G} {bs : Nat} {cy : Nat → ClassId} (pre : List va_E) (k0 : Nat) (hk : pre.length = k0) : MTq l G bs cy MX8_init 2 2 14 [.ref (bs + k0)] (pre ++ [.inr (8, [.null, .int 0])]) (pre ++ [.inr (8, [.ref (bs + (k0 + 1)), .int 0]), .inr (7, [.ref (bs + (k0 + 2)), .int 0]), arE cy 0 12]) := by
  refine MTq.of (own := RX8) pn_RX8 rfl (Nat.le_of_ble_eq_true rfl) ?_
  intro p e s m args below meth c Qf X hW hS hsz0 hmn fin ls hl
  have hx := X.1
  have hb := X.2.1
  have hmn : meth.name = "<init>" := hmn
  have hsz : s.heap.size + 0 = bs + (k0 + ([.inr (8, [.null, .int 0])] : List va_E).length) := by rw [Nat.add_zero, hsz0, List.length_append, hk]
  have hb0 : bs ≤ s.heap.size := by rw [hsz0]; exact Nat.le_add_right _ _
  generalize hH : s.heap = H at hW
  have hS : va_S (Aw bs) s.heap H [] := by rw [← hH]; exact hS
  have hW : Wc G bs pre ([.inr (8, [.null, .int 0])]) H := hW
  have hl : lv_has ls 1 [(0, .ref (bs + (k0 + 0)))] := hl
  refine lv_aload_n hx hb (dg D_X8_init (i := 0) rfl) rfl (lv_at hl 0 rfl) ?_
  refine q_obj X LK_X8_3 hl (Nat.le_of_ble_eq_true rfl) (Nat.le_of_ble_eq_true rfl) (dg D_X8_init (i := 1) rfl) ?_
  refine lv_aload_n hx hb (dg D_X8_init (i := 2) rfl) rfl (lv_at hl 0 rfl) ?_
  refine p_new (ci := 7) (N := 2) (fs := [.null, .int 0]) (i := 1) (lc' := [.inr (8, [.null, .int 0]), .inr (7, [.null, .int 0])]) X hk hW hS hsz hb0 NW_X8_9 rfl (fun j hj => by rcases (show j = 0 ∨ j = 1 by omega) with rfl | rfl <;> rfl) (Nat.le_of_ble_eq_true rfl) (Nat.le_of_ble_eq_true rfl) rfl rfl (dg D_X8_init (i := 3) rfl) (fun H hW hS hsz => ?_)
  refine lv_dup hx hb (dg D_X8_init (i := 4) rfl) rfl ?_
  refine p_callN (lo := [.inr (8, [.null, .int 0])]) (lr := [.inr (7, [.ref (bs + (k0 + 2)), .int 0]), arE cy 0 12]) (b := .inr (7, [.null, .int 0])) (lc' := [.inr (8, [.null, .int 0]), .inr (7, [.ref (bs + (k0 + 2)), .int 0]), arE cy 0 12]) (k1 := k0 + 1) X hk hW hS hsz ⟨rfl, rfl⟩ (i_X7 (pre ++ [.inr (8, [.null, .int 0])]) (k0 + 1) (by rw [List.length_append, hk]; rfl)) (by decide) UIX7_init rfl rfl (List.mem_of_getElem? (i := 29) rfl) rfl rfl (Nat.le_of_ble_eq_true rfl) hl ⟨(Nat.le_of_ble_eq_true rfl), (Nat.le_of_ble_eq_true rfl)⟩ rfl rfl (dg D_X8_init (i := 5) rfl) (fun H locs hW hS hsz => ?_)
  refine p_putF (i := 0) (v := .ref (bs + (k0 + 1))) (ty := .object "SpanPainter$Ranking") (lc' := [.inr (8, [.ref (bs + (k0 + 1)), .int 0]), .inr (7, [.ref (bs + (k0 + 2)), .int 0]), arE cy 0 12]) X hk hW hS FI_X8_12 rfl rfl hmn rfl (by decide +kernel) rfl rfl (Nat.le_of_ble_eq_true rfl) rfl (dg D_X8_init (i := 6) rfl) (fun H locs hW hS => ?_)
  exact fin (dg D_X8_init (i := 7) rfl) (Nat.le_of_ble_eq_true rfl) (Nat.le_of_ble_eq_true rfl) hW hS

set_option maxHeartbeats 1000000 in
set_option maxRecDepth 100000 in
theorem i_X4 {l : Launch} {G : va_G} {bs : Nat} {cy : Nat → ClassId} (pre : List va_E) (k0 : Nat) (hk : pre.length = k0) : MTq l G bs cy MX4_init 1 1 1152 [.ref (bs + k0)] (pre ++ [.inr (4, [.null, .int 0])]) (pre ++ [.inr (4, [.ref (bs + (k0 + 1)), .int 0]), arE cy 1 1152]) := by
  refine MTq.of (own := RX4) pn_RX4 rfl (Nat.le_of_ble_eq_true rfl) ?_
  intro p e s m args below meth c Qf X hW hS hsz0 hmn fin ls hl
  have hx := X.1
  have hb := X.2.1
  have hmn : meth.name = "<init>" := hmn
  have hsz : s.heap.size + 0 = bs + (k0 + ([.inr (4, [.null, .int 0])] : List va_E).length) := by rw [Nat.add_zero, hsz0, List.length_append, hk]
  have hb0 : bs ≤ s.heap.size := by rw [hsz0]; exact Nat.le_add_right _ _
  generalize hH : s.heap = H at hW
  have hS : va_S (Aw bs) s.heap H [] := by rw [← hH]; exact hS
  have hW : Wc G bs pre ([.inr (4, [.null, .int 0])]) H := hW
  have hl : lv_has ls 1 [(0, .ref (bs + (k0 + 0)))] := hl
  refine lv_aload_n hx hb (dg D_X4_init (i := 0) rfl) rfl (lv_at hl 0 rfl) ?_
  refine q_obj X LK_X4_1 hl (Nat.le_of_ble_eq_true rfl) (Nat.le_of_ble_eq_true rfl) (dg D_X4_init (i := 1) rfl) ?_
  refine lv_aload_n hx hb (dg D_X4_init (i := 2) rfl) rfl (lv_at hl 0 rfl) ?_
  refine lv_sipush (v := nI 1152) hx hb (dg D_X4_init (i := 3) rfl) (by decide) ?_
  refine p_newa (atype := .byte) (ty := .byte) (a0 := (1152, .inl (fun _ => 0))) (t := 1) (N := 1152) (i := 1) (lc' := [.inr (4, [.null, .int 0]), arE cy 1 1152]) X hk hW hS hsz hb0 rfl AC_byte rfl (fun C h => by cases h) rfl (fun cA => by rw [vp_cell_i]; rfl) (by decide) (by decide) (Nat.le_of_ble_eq_true rfl) (Nat.le_of_ble_eq_true rfl) rfl rfl (dg D_X4_init (i := 4) rfl) (fun H hW hS hsz => ?_)
  refine p_putF (i := 0) (v := .ref (bs + (k0 + 1))) (ty := .array .byte) (lc' := [.inr (4, [.ref (bs + (k0 + 1)), .int 0]), arE cy 1 1152]) X hk hW hS FI_X4_11 rfl rfl hmn rfl (by decide +kernel) rfl rfl (Nat.le_of_ble_eq_true rfl) rfl (dg D_X4_init (i := 5) rfl) (fun H locs hW hS => ?_)
  exact fin (dg D_X4_init (i := 6) rfl) (Nat.le_of_ble_eq_true rfl) (Nat.le_of_ble_eq_true rfl) hW hS

set_option maxHeartbeats 1000000 in
set_option maxRecDepth 100000 in
theorem i_X9 {l : Launch} {G : va_G} {bs : Nat} {cy : Nat → ClassId} (pre : List va_E) (k0 : Nat) (hk : pre.length = k0) : MTq l G bs cy MX9_init 1 1 900 [.ref (bs + k0)] (pre ++ [.inr (9, [.null, .int 0])]) (pre ++ [.inr (9, [.ref (bs + (k0 + 1)), .int 0]), arE cy 1 900]) := by
  refine MTq.of (own := RX9) pn_RX9 rfl (Nat.le_of_ble_eq_true rfl) ?_
  intro p e s m args below meth c Qf X hW hS hsz0 hmn fin ls hl
  have hx := X.1
  have hb := X.2.1
  have hmn : meth.name = "<init>" := hmn
  have hsz : s.heap.size + 0 = bs + (k0 + ([.inr (9, [.null, .int 0])] : List va_E).length) := by rw [Nat.add_zero, hsz0, List.length_append, hk]
  have hb0 : bs ≤ s.heap.size := by rw [hsz0]; exact Nat.le_add_right _ _
  generalize hH : s.heap = H at hW
  have hS : va_S (Aw bs) s.heap H [] := by rw [← hH]; exact hS
  have hW : Wc G bs pre ([.inr (9, [.null, .int 0])]) H := hW
  have hl : lv_has ls 1 [(0, .ref (bs + (k0 + 0)))] := hl
  refine lv_aload_n hx hb (dg D_X9_init (i := 0) rfl) rfl (lv_at hl 0 rfl) ?_
  refine q_obj X LK_X9_3 hl (Nat.le_of_ble_eq_true rfl) (Nat.le_of_ble_eq_true rfl) (dg D_X9_init (i := 1) rfl) ?_
  refine lv_aload_n hx hb (dg D_X9_init (i := 2) rfl) rfl (lv_at hl 0 rfl) ?_
  refine lv_sipush (v := nI 900) hx hb (dg D_X9_init (i := 3) rfl) (by decide) ?_
  refine p_newa (atype := .byte) (ty := .byte) (a0 := (900, .inl (fun _ => 0))) (t := 1) (N := 900) (i := 1) (lc' := [.inr (9, [.null, .int 0]), arE cy 1 900]) X hk hW hS hsz hb0 rfl AC_byte rfl (fun C h => by cases h) rfl (fun cA => by rw [vp_cell_i]; rfl) (by decide) (by decide) (Nat.le_of_ble_eq_true rfl) (Nat.le_of_ble_eq_true rfl) rfl rfl (dg D_X9_init (i := 4) rfl) (fun H hW hS hsz => ?_)
  refine p_putF (i := 0) (v := .ref (bs + (k0 + 1))) (ty := .array .byte) (lc' := [.inr (9, [.ref (bs + (k0 + 1)), .int 0]), arE cy 1 900]) X hk hW hS FI_X9_9 rfl rfl hmn rfl (by decide +kernel) rfl rfl (Nat.le_of_ble_eq_true rfl) rfl (dg D_X9_init (i := 5) rfl) (fun H locs hW hS => ?_)
  exact fin (dg D_X9_init (i := 6) rfl) (Nat.le_of_ble_eq_true rfl) (Nat.le_of_ble_eq_true rfl) hW hS

set_option maxHeartbeats 1000000 in
set_option maxRecDepth 100000 in
theorem i_X3 {l : Launch} {G : va_G} {bs : Nat} {cy : Nat → ClassId} (pre : List va_E) (k0 : Nat) (hk : pre.length = k0) : MTq l G bs cy MX3_init 1 3 63 [.ref (bs + k0)] (pre ++ [.inr (3, [.null, .null, .null, .int 0])]) (pre ++ [.inr (3, [.ref (bs + (k0 + 1)), .ref (bs + (k0 + 2)), .ref (bs + (k0 + 3)), .int 0]), arE cy 2 21, arE cy 0 21, arE cy 0 21]) := by
  refine MTq.of (own := RX3) pn_RX3 rfl (Nat.le_of_ble_eq_true rfl) ?_
  intro p e s m args below meth c Qf X hW hS hsz0 hmn fin ls hl
  have hx := X.1
  have hb := X.2.1
  have hmn : meth.name = "<init>" := hmn
  have hsz : s.heap.size + 0 = bs + (k0 + ([.inr (3, [.null, .null, .null, .int 0])] : List va_E).length) := by rw [Nat.add_zero, hsz0, List.length_append, hk]
  have hb0 : bs ≤ s.heap.size := by rw [hsz0]; exact Nat.le_add_right _ _
  generalize hH : s.heap = H at hW
  have hS : va_S (Aw bs) s.heap H [] := by rw [← hH]; exact hS
  have hW : Wc G bs pre ([.inr (3, [.null, .null, .null, .int 0])]) H := hW
  have hl : lv_has ls 1 [(0, .ref (bs + (k0 + 0)))] := hl
  refine lv_aload_n hx hb (dg D_X3_init (i := 0) rfl) rfl (lv_at hl 0 rfl) ?_
  refine q_obj X LK_X3_3 hl (Nat.le_of_ble_eq_true rfl) (Nat.le_of_ble_eq_true rfl) (dg D_X3_init (i := 1) rfl) ?_
  refine lv_aload_n hx hb (dg D_X3_init (i := 2) rfl) rfl (lv_at hl 0 rfl) ?_
  refine lv_bipush (v := nI 21) hx hb (dg D_X3_init (i := 3) rfl) (by decide) ?_
  refine p_newa (atype := .long) (ty := .long) (a0 := (21, .inr (.inl (fun _ => 0)))) (t := 2) (N := 21) (i := 1) (lc' := [.inr (3, [.null, .null, .null, .int 0]), arE cy 2 21]) X hk hW hS hsz hb0 rfl AC_long rfl (fun C h => by cases h) rfl (fun cA => by rw [vp_cell_l]; rfl) (by decide) (by decide) (Nat.le_of_ble_eq_true rfl) (Nat.le_of_ble_eq_true rfl) rfl rfl (dg D_X3_init (i := 4) rfl) (fun H hW hS hsz => ?_)
  refine p_putF (i := 0) (v := .ref (bs + (k0 + 1))) (ty := .array .long) (lc' := [.inr (3, [.ref (bs + (k0 + 1)), .null, .null, .int 0]), arE cy 2 21]) X hk hW hS FI_X3_11 rfl rfl hmn rfl (by decide +kernel) rfl rfl (Nat.le_of_ble_eq_true rfl) rfl (dg D_X3_init (i := 5) rfl) (fun H locs hW hS => ?_)
  refine lv_aload_n hx hb (dg D_X3_init (i := 6) rfl) rfl (lv_at hl 0 rfl) ?_
  refine lv_bipush (v := nI 21) hx hb (dg D_X3_init (i := 7) rfl) (by decide) ?_
  refine p_newa (atype := .int) (ty := .int) (a0 := (21, .inl (fun _ => 0))) (t := 0) (N := 21) (i := 2) (lc' := [.inr (3, [.ref (bs + (k0 + 1)), .null, .null, .int 0]), arE cy 2 21, arE cy 0 21]) X hk hW hS hsz hb0 rfl AC_int rfl (fun C h => by cases h) rfl (fun cA => by rw [vp_cell_i]; rfl) (by decide) (by decide) (Nat.le_of_ble_eq_true rfl) (Nat.le_of_ble_eq_true rfl) rfl rfl (dg D_X3_init (i := 8) rfl) (fun H hW hS hsz => ?_)
  refine p_putF (i := 0) (v := .ref (bs + (k0 + 2))) (ty := .array .int) (lc' := [.inr (3, [.ref (bs + (k0 + 1)), .ref (bs + (k0 + 2)), .null, .int 0]), arE cy 2 21, arE cy 0 21]) X hk hW hS FI_X3_15 rfl rfl hmn rfl (by decide +kernel) rfl rfl (Nat.le_of_ble_eq_true rfl) rfl (dg D_X3_init (i := 9) rfl) (fun H locs hW hS => ?_)
  refine lv_aload_n hx hb (dg D_X3_init (i := 10) rfl) rfl (lv_at hl 0 rfl) ?_
  refine lv_bipush (v := nI 21) hx hb (dg D_X3_init (i := 11) rfl) (by decide) ?_
  refine p_newa (atype := .int) (ty := .int) (a0 := (21, .inl (fun _ => 0))) (t := 0) (N := 21) (i := 3) (lc' := [.inr (3, [.ref (bs + (k0 + 1)), .ref (bs + (k0 + 2)), .null, .int 0]), arE cy 2 21, arE cy 0 21, arE cy 0 21]) X hk hW hS hsz hb0 rfl AC_int rfl (fun C h => by cases h) rfl (fun cA => by rw [vp_cell_i]; rfl) (by decide) (by decide) (Nat.le_of_ble_eq_true rfl) (Nat.le_of_ble_eq_true rfl) rfl rfl (dg D_X3_init (i := 12) rfl) (fun H hW hS hsz => ?_)
  refine p_putF (i := 0) (v := .ref (bs + (k0 + 3))) (ty := .array .int) (lc' := [.inr (3, [.ref (bs + (k0 + 1)), .ref (bs + (k0 + 2)), .ref (bs + (k0 + 3)), .int 0]), arE cy 2 21, arE cy 0 21, arE cy 0 21]) X hk hW hS FI_X3_19 rfl rfl hmn rfl (by decide +kernel) rfl rfl (Nat.le_of_ble_eq_true rfl) rfl (dg D_X3_init (i := 13) rfl) (fun H locs hW hS => ?_)
  exact fin (dg D_X3_init (i := 14) rfl) (Nat.le_of_ble_eq_true rfl) (Nat.le_of_ble_eq_true rfl) hW hS

set_option maxHeartbeats 1000000 in
set_option maxRecDepth 100000 in
theorem i_X10 {l : Launch} {G : va_G} {bs : Nat} {cy : Nat → ClassId} (pre : List va_E) (k0 : Nat) (hk : pre.length = k0) (t1 : Nat) : MTq l G bs cy MX10_init 1 0 0 [.ref (bs + k0), .ref (bs + t1)] (pre ++ [.inr (10, [.null, .int 0, .int 0, .int 0, .int 0, .int 0, .long 0])]) (pre ++ [.inr (10, [.ref (bs + t1), .int 0, .int 0, .int 0, .int 0, .int 0, .long 0])]) := by
  refine MTq.of (own := RX10) pn_RX10 rfl (Nat.le_of_ble_eq_true rfl) ?_
  intro p e s m args below meth c Qf X hW hS hsz0 hmn fin ls hl
  have hx := X.1
  have hb := X.2.1
  have hmn : meth.name = "<init>" := hmn
  have hsz : s.heap.size + 0 = bs + (k0 + ([.inr (10, [.null, .int 0, .int 0, .int 0, .int 0, .int 0, .long 0])] : List va_E).length) := by rw [Nat.add_zero, hsz0, List.length_append, hk]
  have hb0 : bs ≤ s.heap.size := by rw [hsz0]; exact Nat.le_add_right _ _
  generalize hH : s.heap = H at hW
  have hS : va_S (Aw bs) s.heap H [] := by rw [← hH]; exact hS
  have hW : Wc G bs pre ([.inr (10, [.null, .int 0, .int 0, .int 0, .int 0, .int 0, .long 0])]) H := hW
  have hl : lv_has ls 2 [(0, .ref (bs + (k0 + 0))), (1, .ref (bs + t1))] := hl
  refine lv_aload_n hx hb (dg D_X10_init (i := 0) rfl) rfl (lv_at hl 0 rfl) ?_
  refine q_obj X LK_X10_1 hl (Nat.le_of_ble_eq_true rfl) (Nat.le_of_ble_eq_true rfl) (dg D_X10_init (i := 1) rfl) ?_
  refine lv_aload_n hx hb (dg D_X10_init (i := 2) rfl) rfl (lv_at hl 0 rfl) ?_
  refine lv_aload_n hx hb (dg D_X10_init (i := 3) rfl) rfl (lv_at hl 1 rfl) ?_
  refine p_putF (i := 0) (v := .ref (bs + t1)) (ty := .object "SpanPainter$Text") (lc' := [.inr (10, [.ref (bs + t1), .int 0, .int 0, .int 0, .int 0, .int 0, .long 0])]) X hk hW hS FI_X10_7 rfl rfl hmn rfl (by decide +kernel) rfl rfl (Nat.le_of_ble_eq_true rfl) rfl (dg D_X10_init (i := 4) rfl) (fun H locs hW hS => ?_)
  exact fin (dg D_X10_init (i := 5) rfl) (Nat.le_of_ble_eq_true rfl) (Nat.le_of_ble_eq_true rfl) hW hS
