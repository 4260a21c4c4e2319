/-! the wrappers with two handlers -/
set_option maxHeartbeats 400000 in
set_option maxRecDepth 100000 in
theorem w_setWeather {l : Launch} {G : va_G} {bs : Nat} {cy : Nat → ClassId} {I : CI} {L : CL} {R : CR} (v1 : Int32) (v2 : Int32) {Q' : Int32 → CI → CL → CR → Prop} {PX' : String → Prop} {n' mc ms : Nat} (hM : XTi l G bs cy MX11_setWeather n' [.ref (bs + 0), .int v1, .int v2] I L R Q' PX' mc ms) (hpx : ∀ E, PX' E → E = IOE ∨ E = IAE) : WTn l G bs cy ML_setWeather [(0, 10, 13, 19), (0, 10, 17, 13)] (n' + 1) [.ref (bs + 0), .int v1, .int v2, .ref (bs + 86)] I L R (WQ I L R Q' PX' [(IOE, 1), (IAE, 2)]) mc ms := by
  refine WTn.of (own := RL) pn_RL rfl (Nat.le_of_ble_eq_true rfl) ?_
  intro p e s m args below meth c Qf X hW hS hnc htab fin ls hl
  have hx := X.1
  have hb := X.2.1
  have hl : lv_has ls 5 [(0, .ref (bs + 0)), (1, .int v1), (2, .int v2), (3, .ref (bs + 86))] := hl
  refine lv_aload_n hx hb (dg D_L_setWeather (i := 0) rfl) rfl (lv_at hl 3 rfl) ?_
  refine n_iconst (a := 0) hx hb (dg D_L_setWeather (i := 1) rfl) rfl ?_
  refine lv_aload_n hx hb (dg D_L_setWeather (i := 2) rfl) rfl (lv_at hl 0 rfl) ?_
  refine lv_iload_n hx hb (dg D_L_setWeather (i := 3) rfl) rfl (lv_at hl 1 rfl) ?_
  refine lv_iload_n hx hb (dg D_L_setWeather (i := 4) rfl) rfl (lv_at hl 2 rfl) ?_
  refine callWi X hW hS (n := n' + 1) ⟨rfl, rfl⟩ hM (Nat.le_refl _) UVX11_setWeather LK_L_122 rfl (by decide) rfl rfl rfl (Nat.le_of_ble_eq_true rfl) hl (by show 0 + mc ≤ mc; omega) (by show 0 + ms ≤ ms; omega) (dg D_L_setWeather (i := 5) rfl) (fun E ce q9 H1 locs1 hpe hW1 hS1 hce hcv hcl => ?_) (fun r I1 L1 R1 H locs hq hW hS => ?_)
  · rcases hpx E hpe with rfl | rfl
    · refine vx_catch X.2.2.2.1 [] _ [_] htab (fun z hz => absurd hz (by simp)) rfl (by decide) (X.2.2.2.2.1 _ CLx_19) (CAST_IOE X) hce hcv hcl ?_
      refine lv_astore (lv' := [(4, .ref q9), (0, .ref (bs + 0)), (1, .int v1), (2, .int v2), (3, .ref (bs + 86))]) hx hb (dg D_L_setWeather (i := 9) rfl) hl (by decide) rfl (fun ls hl => ?_)
      refine n_iconst (a := 1) hx hb (dg D_L_setWeather (i := 10) rfl) rfl ?_
      exact fin (dg D_L_setWeather (i := 11) rfl) (by omega) (by omega) hW1 hS1 (Or.inr ⟨_, List.mem_cons_self, rfl, hpe, rfl, rfl, rfl⟩)
    · refine vx_catch X.2.2.2.1 [_] _ [] htab (fun z hz => by rw [List.mem_singleton.mp hz]; exact Or.inr ⟨by decide, IOE, X.2.2.2.2.1 _ CLx_19, hnc⟩) rfl (by decide) (X.2.2.2.2.1 _ CLx_13) (CAST_IAE X) hce hcv hcl ?_
      refine lv_astore (lv' := [(4, .ref q9), (0, .ref (bs + 0)), (1, .int v1), (2, .int v2), (3, .ref (bs + 86))]) hx hb (dg D_L_setWeather (i := 12) rfl) hl (by decide) rfl (fun ls hl => ?_)
      refine n_iconst (a := 2) hx hb (dg D_L_setWeather (i := 13) rfl) rfl ?_
      exact fin (dg D_L_setWeather (i := 14) rfl) (by omega) (by omega) hW1 hS1 (Or.inr ⟨_, List.mem_cons_of_mem _ (List.mem_singleton.mpr rfl), rfl, hpe, rfl, rfl, rfl⟩)
  · refine lv_i2l (v := r.toInt64) hx hb (dg D_L_setWeather (i := 6) rfl) rfl ?_
    refine r_last (k := 86) (j := 0) (v := r.toInt64) X hW hS rfl (by decide) rfl (by decide) (by decide) (dg D_L_setWeather (i := 7) rfl) (fun H locs hW hS => ?_)
    refine lv_goto (tgt := 21) hx hb (dg D_L_setWeather (i := 8) rfl) (by decide) ?_
    refine n_iconst (a := 0) hx hb (dg D_L_setWeather (i := 15) rfl) rfl ?_
    exact fin (dg D_L_setWeather (i := 16) rfl) (by omega) (by omega) hW hS (Or.inl ⟨rfl, r, L1, hq, rfl⟩)

set_option maxHeartbeats 400000 in
set_option maxRecDepth 100000 in
theorem w_setRate {l : Launch} {G : va_G} {bs : Nat} {cy : Nat → ClassId} {I : CI} {L : CL} {R : CR} (v1 : Int32) (v2 : Int32) {Q' : Int32 → CI → CL → CR → Prop} {PX' : String → Prop} {n' mc ms : Nat} (hM : XTi l G bs cy MX11_setRate n' [.ref (bs + 0), .int v1, .int v2] I L R Q' PX' mc ms) (hpx : ∀ E, PX' E → E = IOE ∨ E = IAE) : WTn l G bs cy ML_setRate [(0, 10, 13, 19), (0, 10, 17, 13)] (n' + 1) [.ref (bs + 0), .int v1, .int v2, .ref (bs + 86)] I L R (WQ I L R Q' PX' [(IOE, 1), (IAE, 2)]) mc ms := by
  refine WTn.of (own := RL) pn_RL rfl (Nat.le_of_ble_eq_true rfl) ?_
  intro p e s m args below meth c Qf X hW hS hnc htab fin ls hl
  have hx := X.1
  have hb := X.2.1
  have hl : lv_has ls 5 [(0, .ref (bs + 0)), (1, .int v1), (2, .int v2), (3, .ref (bs + 86))] := hl
  refine lv_aload_n hx hb (dg D_L_setRate (i := 0) rfl) rfl (lv_at hl 3 rfl) ?_
  refine n_iconst (a := 0) hx hb (dg D_L_setRate (i := 1) rfl) rfl ?_
  refine lv_aload_n hx hb (dg D_L_setRate (i := 2) rfl) rfl (lv_at hl 0 rfl) ?_
  refine lv_iload_n hx hb (dg D_L_setRate (i := 3) rfl) rfl (lv_at hl 1 rfl) ?_
  refine lv_iload_n hx hb (dg D_L_setRate (i := 4) rfl) rfl (lv_at hl 2 rfl) ?_
  refine callWi X hW hS (n := n' + 1) ⟨rfl, rfl⟩ hM (Nat.le_refl _) UVX11_setRate LK_L_132 rfl (by decide) rfl rfl rfl (Nat.le_of_ble_eq_true rfl) hl (by show 0 + mc ≤ mc; omega) (by show 0 + ms ≤ ms; omega) (dg D_L_setRate (i := 5) rfl) (fun E ce q9 H1 locs1 hpe hW1 hS1 hce hcv hcl => ?_) (fun r I1 L1 R1 H locs hq hW hS => ?_)
  · rcases hpx E hpe with rfl | rfl
    · refine vx_catch X.2.2.2.1 [] _ [_] htab (fun z hz => absurd hz (by simp)) rfl (by decide) (X.2.2.2.2.1 _ CLx_19) (CAST_IOE X) hce hcv hcl ?_
      refine lv_astore (lv' := [(4, .ref q9), (0, .ref (bs + 0)), (1, .int v1), (2, .int v2), (3, .ref (bs + 86))]) hx hb (dg D_L_setRate (i := 9) rfl) hl (by decide) rfl (fun ls hl => ?_)
      refine n_iconst (a := 1) hx hb (dg D_L_setRate (i := 10) rfl) rfl ?_
      exact fin (dg D_L_setRate (i := 11) rfl) (by omega) (by omega) hW1 hS1 (Or.inr ⟨_, List.mem_cons_self, rfl, hpe, rfl, rfl, rfl⟩)
    · refine vx_catch X.2.2.2.1 [_] _ [] htab (fun z hz => by rw [List.mem_singleton.mp hz]; exact Or.inr ⟨by decide, IOE, X.2.2.2.2.1 _ CLx_19, hnc⟩) rfl (by decide) (X.2.2.2.2.1 _ CLx_13) (CAST_IAE X) hce hcv hcl ?_
      refine lv_astore (lv' := [(4, .ref q9), (0, .ref (bs + 0)), (1, .int v1), (2, .int v2), (3, .ref (bs + 86))]) hx hb (dg D_L_setRate (i := 12) rfl) hl (by decide) rfl (fun ls hl => ?_)
      refine n_iconst (a := 2) hx hb (dg D_L_setRate (i := 13) rfl) rfl ?_
      exact fin (dg D_L_setRate (i := 14) rfl) (by omega) (by omega) hW1 hS1 (Or.inr ⟨_, List.mem_cons_of_mem _ (List.mem_singleton.mpr rfl), rfl, hpe, rfl, rfl, rfl⟩)
  · refine lv_i2l (v := r.toInt64) hx hb (dg D_L_setRate (i := 6) rfl) rfl ?_
    refine r_last (k := 86) (j := 0) (v := r.toInt64) X hW hS rfl (by decide) rfl (by decide) (by decide) (dg D_L_setRate (i := 7) rfl) (fun H locs hW hS => ?_)
    refine lv_goto (tgt := 21) hx hb (dg D_L_setRate (i := 8) rfl) (by decide) ?_
    refine n_iconst (a := 0) hx hb (dg D_L_setRate (i := 15) rfl) rfl ?_
    exact fin (dg D_L_setRate (i := 16) rfl) (by omega) (by omega) hW hS (Or.inl ⟨rfl, r, L1, hq, rfl⟩)

set_option maxHeartbeats 400000 in
set_option maxRecDepth 100000 in
theorem w_setSpeed {l : Launch} {G : va_G} {bs : Nat} {cy : Nat → ClassId} {I : CI} {L : CL} {R : CR} (v1 : Int32) (v2 : Int32) {Q' : Int32 → CI → CL → CR → Prop} {PX' : String → Prop} {n' mc ms : Nat} (hM : XTi l G bs cy MX11_setSpeed n' [.ref (bs + 0), .int v1, .int v2] I L R Q' PX' mc ms) (hpx : ∀ E, PX' E → E = IOE ∨ E = IAE) : WTn l G bs cy ML_setSpeed [(0, 10, 13, 19), (0, 10, 17, 13)] (n' + 1) [.ref (bs + 0), .int v1, .int v2, .ref (bs + 86)] I L R (WQ I L R Q' PX' [(IOE, 1), (IAE, 2)]) mc ms := by
  refine WTn.of (own := RL) pn_RL rfl (Nat.le_of_ble_eq_true rfl) ?_
  intro p e s m args below meth c Qf X hW hS hnc htab fin ls hl
  have hx := X.1
  have hb := X.2.1
  have hl : lv_has ls 5 [(0, .ref (bs + 0)), (1, .int v1), (2, .int v2), (3, .ref (bs + 86))] := hl
  refine lv_aload_n hx hb (dg D_L_setSpeed (i := 0) rfl) rfl (lv_at hl 3 rfl) ?_
  refine n_iconst (a := 0) hx hb (dg D_L_setSpeed (i := 1) rfl) rfl ?_
  refine lv_aload_n hx hb (dg D_L_setSpeed (i := 2) rfl) rfl (lv_at hl 0 rfl) ?_
  refine lv_iload_n hx hb (dg D_L_setSpeed (i := 3) rfl) rfl (lv_at hl 1 rfl) ?_
  refine lv_iload_n hx hb (dg D_L_setSpeed (i := 4) rfl) rfl (lv_at hl 2 rfl) ?_
  refine callWi X hW hS (n := n' + 1) ⟨rfl, rfl⟩ hM (Nat.le_refl _) UVX11_setSpeed LK_L_135 rfl (by decide) rfl rfl rfl (Nat.le_of_ble_eq_true rfl) hl (by show 0 + mc ≤ mc; omega) (by show 0 + ms ≤ ms; omega) (dg D_L_setSpeed (i := 5) rfl) (fun E ce q9 H1 locs1 hpe hW1 hS1 hce hcv hcl => ?_) (fun r I1 L1 R1 H locs hq hW hS => ?_)
  · rcases hpx E hpe with rfl | rfl
    · refine vx_catch X.2.2.2.1 [] _ [_] htab (fun z hz => absurd hz (by simp)) rfl (by decide) (X.2.2.2.2.1 _ CLx_19) (CAST_IOE X) hce hcv hcl ?_
      refine lv_astore (lv' := [(4, .ref q9), (0, .ref (bs + 0)), (1, .int v1), (2, .int v2), (3, .ref (bs + 86))]) hx hb (dg D_L_setSpeed (i := 9) rfl) hl (by decide) rfl (fun ls hl => ?_)
      refine n_iconst (a := 1) hx hb (dg D_L_setSpeed (i := 10) rfl) rfl ?_
      exact fin (dg D_L_setSpeed (i := 11) rfl) (by omega) (by omega) hW1 hS1 (Or.inr ⟨_, List.mem_cons_self, rfl, hpe, rfl, rfl, rfl⟩)
    · refine vx_catch X.2.2.2.1 [_] _ [] htab (fun z hz => by rw [List.mem_singleton.mp hz]; exact Or.inr ⟨by decide, IOE, X.2.2.2.2.1 _ CLx_19, hnc⟩) rfl (by decide) (X.2.2.2.2.1 _ CLx_13) (CAST_IAE X) hce hcv hcl ?_
      refine lv_astore (lv' := [(4, .ref q9), (0, .ref (bs + 0)), (1, .int v1), (2, .int v2), (3, .ref (bs + 86))]) hx hb (dg D_L_setSpeed (i := 12) rfl) hl (by decide) rfl (fun ls hl => ?_)
      refine n_iconst (a := 2) hx hb (dg D_L_setSpeed (i := 13) rfl) rfl ?_
      exact fin (dg D_L_setSpeed (i := 14) rfl) (by omega) (by omega) hW1 hS1 (Or.inr ⟨_, List.mem_cons_of_mem _ (List.mem_singleton.mpr rfl), rfl, hpe, rfl, rfl, rfl⟩)
  · refine lv_i2l (v := r.toInt64) hx hb (dg D_L_setSpeed (i := 6) rfl) rfl ?_
    refine r_last (k := 86) (j := 0) (v := r.toInt64) X hW hS rfl (by decide) rfl (by decide) (by decide) (dg D_L_setSpeed (i := 7) rfl) (fun H locs hW hS => ?_)
    refine lv_goto (tgt := 21) hx hb (dg D_L_setSpeed (i := 8) rfl) (by decide) ?_
    refine n_iconst (a := 0) hx hb (dg D_L_setSpeed (i := 15) rfl) rfl ?_
    exact fin (dg D_L_setSpeed (i := 16) rfl) (by omega) (by omega) hW hS (Or.inl ⟨rfl, r, L1, hq, rfl⟩)
