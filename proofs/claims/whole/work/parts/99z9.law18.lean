/-! the law's body, whole -/
theorem dec_3358 : decode code 3358 = .ok (.ireturn, 1) := (dg DE_law (i := 3) rfl)
set_option maxHeartbeats 400000 in
/-- the law's body, from its entry to its end -/
theorem whole_start {p : Program} {e : Env} {s : State} {m : MethodId} {below : List Frame} {meth : Method} {c : Code} (l : Launch) (hflags : l.flags = flags0) {b L : Nat} {xs : Nat → Int32} (hL : L ≤ 3072) (C0 : lw_At p s m meth c b L xs) : W p l e room_1 s m #[Value.ref b] below meth c s.heap [] 0 0 (lw_Z below #[Value.ref b] s) (entryFrame m ([Value.ref b] : List Value).toArray 9) := by
  obtain ⟨G, cy, X, hov⟩ := law_X hL C0
  obtain ⟨hx, hb, hr, hml, hown, hts, hX, hbl, hlocks, hgv⟩ := C0
  have hl0 : l.stackTraces = false := by
    show (!(l.flags.contains Jvm.noTraceFlag)) = false
    rw [hflags]; decide +kernel
  refine W.room (Rm' := rmL 1400 601024 7293034) (Nat.le_of_ble_eq_true rfl) (Nat.le_of_ble_eq_true rfl) (Nat.le_refl _) (Nat.le_refl _) ?_
  have hl := lv_entry ([.ref b]) (n := 9) (Nat.le_of_ble_eq_true rfl)
  rw [lg_entry_eq]
  generalize (lg_sl ([.ref b]) ++ List.replicate (9 - (lg_sl ([.ref b])).length) Slot.unset).toArray = ls at hl ⊢
  have hl : lv_has ls 9 [(0, .ref b)] := hl
  refine law_pre (n := 1400) X hov ⟨rfl, rfl⟩ (by decide) (Nat.le_refl _) (Nat.le_refl _) hl (fun H locs ls1 hW hS hl1 => ?_)
  refine law_loop (n := 1400) X ⟨rfl, rfl⟩ (by decide) hl0 (fun H locs cells slots ls hS hc hs => ?_) 512 0 I0 L0 R0 H locs 88 13787 ls1 (by omega) (Nat.zero_le _) LSt_0 hW hS hl1 (by decide) (by decide)
  refine va_forget (fun q hq => hS.2.2 q hq) ?_
  refine W.widen (k := 601024) (n := 7293034) hc hs ?_
  exact lw_ret9 (d0 := s.drawn) (Drawn.sameBut.refl s.drawn lw_cs) hx hb hr hlocks dec_3358
