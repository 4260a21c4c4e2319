/-! the law's body, whole -/
theorem dec_308 : decode code 308 = .ok (.ireturn, 1) := (dg D_L_law (i := 159) rfl)
set_option maxHeartbeats 400000 in
/-- the law's body, from its entry to its end -/
theorem whole_start {p : Program} {e : Env} {s : State} {m : MethodId} {below : List Frame} {meth : Method} {c : Code} (l : Launch) (hflags : l.flags = flags0) {b L : Nat} {xs : Nat → Int32} (hL : L ≤ 260) (C0 : lw_At p s m meth c b L xs) : W p l e room_1 s m #[Value.ref b] below meth c s.heap [] 0 0 (lw_Z below #[Value.ref b] s) (entryFrame m ([Value.ref b] : List Value).toArray 9) := by
  obtain ⟨G, cy, X, hov, e70, h5⟩ := law_X hL C0
  obtain ⟨hx, hb, hr, hml, hown, hts, hX, hbl, hlocks, hgv⟩ := C0
  have hl0 : l.stackTraces = false := by
    show (!(l.flags.contains Jvm.noTraceFlag)) = false
    rw [hflags]; decide +kernel
  have hR : RmL room_1 := ⟨Nat.le_of_ble_eq_true rfl, Nat.le_of_ble_eq_true rfl⟩
  have hl := lv_entry ([.ref b]) (n := 9) (Nat.le_of_ble_eq_true rfl)
  rw [lg_entry_eq]
  generalize (lg_sl ([.ref b]) ++ List.replicate (9 - (lg_sl ([.ref b])).length) Slot.unset).toArray = ls at hl ⊢
  have hl : lv_has ls 9 [(0, .ref b)] := hl
  refine law_pre X hov h5 hR (Nat.le_of_ble_eq_true rfl) (Nat.le_of_ble_eq_true rfl) hl (fun H locs ls1 hW hS hl1 => ?_)
  have hS2 : va_S (Ar (s.heap.size + 16) s.heap.size) s.heap H locs := ⟨hS.1, fun q h1 h2 => hS.2.1 q h1 (fun h => h2 (Or.inr h)), fun q hq => Or.inr (hS.2.2 q hq)⟩
  have hA : AOK (s.heap.size + 16) s.heap.size (Ar (s.heap.size + 16) s.heap.size) := ⟨fun _ h => Or.inl h, fun _ h => Or.inr h, fun z h => h.elim agq (fun h2 => by show s.heap.size + 16 ≤ z + 16; omega)⟩
  refine law_body (c0 := 83) (s0 := 6425) X hA hR hl0 (Nat.le_of_ble_eq_true rfl) (Nat.le_of_ble_eq_true rfl) (fun _ => 0) (fun _ => 0) (β := 31) (γ := 42) (q := 57) (u := 53) (Or.inr rfl) (Or.inl rfl) rfl rfl rfl rfl e70.symm rfl ⟨rfl, rowP.zero⟩ rfl hW (TW.nil hS.1) hS2 hl1 (fun H locs ls hS => ?_)
  refine va_forget (fun q hq => ?_) ?_
  · rcases hS.2.2 q hq with h | h
    · have h2 : s.heap.size + 16 ≤ q.base + 16 := h.1
      omega
    · exact h
  refine W.widen (k := 600086) (n := 7301442) (by decide) (by decide) ?_
  exact lw_ret hx hb hr hlocks dec_308
