/-! the law's wrappers: each of them -/
theorem CLx_13 : Cond.classLink RL 13 IAE ∈ wsL_law := inR_9 _ (List.mem_of_getElem? (i := 17) rfl)
theorem CLx_19 : Cond.classLink RL 19 IOE ∈ wsL_law := inR_24 _ (List.mem_of_getElem? (i := 22) rfl)
set_option maxHeartbeats 400000 in
set_option maxRecDepth 100000 in
theorem w_load {l : Launch} {G : va_G} {bs : Nat} {cy : Nat → ClassId} {I : CI} {L : CL} {R : CR} (v1 : Int32) {Q' : Int32 → CI → CL → CR → Prop} {PX' : String → Prop} {n' mc ms : Nat} (hM : XTi l G bs cy MX11_load n' [.ref (bs + 0), .int v1] I L R Q' PX' mc ms) (hpx : ∀ E, PX' E → E = IAE) : WTi l G bs cy ML_load [(0, 9, 12, 13)] (n' + 1) [.ref (bs + 0), .int v1, .ref (bs + 86)] I L R (WQ I L R Q' PX' [(IAE, 1)]) mc ms := by
  refine WTi.of (own := RL) pn_RL rfl (Nat.le_of_ble_eq_true rfl) ?_
  intro p e s m args below meth c Qf X hW hS htab fin ls hl
  have hx := X.1
  have hb := X.2.1
  have hl : lv_has ls 4 [(0, .ref (bs + 0)), (1, .int v1), (2, .ref (bs + 86))] := hl
  refine lv_aload_n hx hb (dg D_L_load (i := 0) rfl) rfl (lv_at hl 2 rfl) ?_
  refine n_iconst (a := 0) hx hb (dg D_L_load (i := 1) rfl) rfl ?_
  refine lv_aload_n hx hb (dg D_L_load (i := 2) rfl) rfl (lv_at hl 0 rfl) ?_
  refine lv_iload_n hx hb (dg D_L_load (i := 3) rfl) rfl (lv_at hl 1 rfl) ?_
  refine callWi X hW hS (n := n' + 1) ⟨rfl, rfl⟩ hM (Nat.le_refl _) UVX11_load LK_L_7 rfl (by decide) rfl rfl rfl (Nat.le_of_ble_eq_true rfl) hl (by show 0 + mc ≤ mc; omega) (by show 0 + ms ≤ ms; omega) (dg D_L_load (i := 4) rfl) (fun E ce q9 H1 locs1 hpe hW1 hS1 hce hcv hcl => ?_) (fun r I1 L1 R1 H locs hq hW hS => ?_)
  · have hE := hpx E hpe
    subst hE
    refine vx_catch X.2.2.2.1 [] _ [] htab (fun z hz => absurd hz (by simp)) rfl (by decide) (X.2.2.2.2.1 _ CLx_13) (CAST_IAE X) hce hcv hcl ?_
    refine lv_astore_n (lv' := [(3, .ref q9), (0, .ref (bs + 0)), (1, .int v1), (2, .ref (bs + 86))]) hx hb (dg D_L_load (i := 8) rfl) rfl hl (by decide) rfl (fun ls hl => ?_)
    refine n_iconst (a := 1) hx hb (dg D_L_load (i := 9) rfl) rfl ?_
    exact fin (dg D_L_load (i := 10) rfl) (by omega) (by omega) hW1 hS1 (Or.inr ⟨_, List.mem_singleton.mpr rfl, rfl, hpe, rfl, rfl, rfl⟩)
  · refine lv_i2l (v := r.toInt64) hx hb (dg D_L_load (i := 5) rfl) rfl ?_
    refine r_last (k := 86) (j := 0) (v := r.toInt64) X hW hS rfl (by decide) rfl (by decide) (by decide) (dg D_L_load (i := 6) rfl) (fun H locs hW hS => ?_)
    refine lv_goto (tgt := 15) hx hb (dg D_L_load (i := 7) rfl) (by decide) ?_
    refine n_iconst (a := 0) hx hb (dg D_L_load (i := 11) rfl) rfl ?_
    exact fin (dg D_L_load (i := 12) rfl) (by omega) (by omega) hW hS (Or.inl ⟨rfl, r, L1, hq, rfl⟩)

set_option maxHeartbeats 400000 in
set_option maxRecDepth 100000 in
theorem w_rustBefore {l : Launch} {G : va_G} {bs : Nat} {cy : Nat → ClassId} {I : CI} {L : CL} {R : CR} (v1 : Int32) (v2 : Int32) {Q' : Int32 → CI → CL → CR → Prop} {PX' : String → Prop} {n' mc ms : Nat} (hM : XTi l G bs cy MX11_rustBefore n' [.ref (bs + 0), .int v1, .int v2] I L R Q' PX' mc ms) (hpx : ∀ E, PX' E → E = IOE) : WTi l G bs cy ML_rustBefore [(0, 10, 13, 19)] (n' + 1) [.ref (bs + 0), .int v1, .int v2, .ref (bs + 86)] I L R (WQ I L R Q' PX' [(IOE, 1)]) mc ms := by
  refine WTi.of (own := RL) pn_RL rfl (Nat.le_of_ble_eq_true rfl) ?_
  intro p e s m args below meth c Qf X hW hS htab fin ls hl
  have hx := X.1
  have hb := X.2.1
  have hl : lv_has ls 5 [(0, .ref (bs + 0)), (1, .int v1), (2, .int v2), (3, .ref (bs + 86))] := hl
  refine lv_aload_n hx hb (dg D_L_rustBefore (i := 0) rfl) rfl (lv_at hl 3 rfl) ?_
  refine n_iconst (a := 0) hx hb (dg D_L_rustBefore (i := 1) rfl) rfl ?_
  refine lv_aload_n hx hb (dg D_L_rustBefore (i := 2) rfl) rfl (lv_at hl 0 rfl) ?_
  refine lv_iload_n hx hb (dg D_L_rustBefore (i := 3) rfl) rfl (lv_at hl 1 rfl) ?_
  refine lv_iload_n hx hb (dg D_L_rustBefore (i := 4) rfl) rfl (lv_at hl 2 rfl) ?_
  refine callWi X hW hS (n := n' + 1) ⟨rfl, rfl⟩ hM (Nat.le_refl _) UVX11_rustBefore LK_L_15 rfl (by decide) rfl rfl rfl (Nat.le_of_ble_eq_true rfl) hl (by show 0 + mc ≤ mc; omega) (by show 0 + ms ≤ ms; omega) (dg D_L_rustBefore (i := 5) rfl) (fun E ce q9 H1 locs1 hpe hW1 hS1 hce hcv hcl => ?_) (fun r I1 L1 R1 H locs hq hW hS => ?_)
  · have hE := hpx E hpe
    subst hE
    refine vx_catch X.2.2.2.1 [] _ [] htab (fun z hz => absurd hz (by simp)) rfl (by decide) (X.2.2.2.2.1 _ CLx_19) (CAST_IOE X) hce hcv hcl ?_
    refine lv_astore (lv' := [(4, .ref q9), (0, .ref (bs + 0)), (1, .int v1), (2, .int v2), (3, .ref (bs + 86))]) hx hb (dg D_L_rustBefore (i := 9) rfl) hl (by decide) rfl (fun ls hl => ?_)
    refine n_iconst (a := 1) hx hb (dg D_L_rustBefore (i := 10) rfl) rfl ?_
    exact fin (dg D_L_rustBefore (i := 11) rfl) (by omega) (by omega) hW1 hS1 (Or.inr ⟨_, List.mem_singleton.mpr rfl, rfl, hpe, rfl, rfl, rfl⟩)
  · refine lv_i2l (v := r.toInt64) hx hb (dg D_L_rustBefore (i := 6) rfl) rfl ?_
    refine r_last (k := 86) (j := 0) (v := r.toInt64) X hW hS rfl (by decide) rfl (by decide) (by decide) (dg D_L_rustBefore (i := 7) rfl) (fun H locs hW hS => ?_)
    refine lv_goto (tgt := 17) hx hb (dg D_L_rustBefore (i := 8) rfl) (by decide) ?_
    refine n_iconst (a := 0) hx hb (dg D_L_rustBefore (i := 12) rfl) rfl ?_
    exact fin (dg D_L_rustBefore (i := 13) rfl) (by omega) (by omega) hW hS (Or.inl ⟨rfl, r, L1, hq, rfl⟩)

set_option maxHeartbeats 400000 in
set_option maxRecDepth 100000 in
theorem w_rustAfter {l : Launch} {G : va_G} {bs : Nat} {cy : Nat → ClassId} {I : CI} {L : CL} {R : CR} (v1 : Int32) (v2 : Int32) {Q' : Int32 → CI → CL → CR → Prop} {PX' : String → Prop} {n' mc ms : Nat} (hM : XTi l G bs cy MX11_rustAfter n' [.ref (bs + 0), .int v1, .int v2] I L R Q' PX' mc ms) (hpx : ∀ E, PX' E → E = IOE) : WTi l G bs cy ML_rustAfter [(0, 10, 13, 19)] (n' + 1) [.ref (bs + 0), .int v1, .int v2, .ref (bs + 86)] I L R (WQ I L R Q' PX' [(IOE, 1)]) mc ms := by
  refine WTi.of (own := RL) pn_RL rfl (Nat.le_of_ble_eq_true rfl) ?_
  intro p e s m args below meth c Qf X hW hS htab fin ls hl
  have hx := X.1
  have hb := X.2.1
  have hl : lv_has ls 5 [(0, .ref (bs + 0)), (1, .int v1), (2, .int v2), (3, .ref (bs + 86))] := hl
  refine lv_aload_n hx hb (dg D_L_rustAfter (i := 0) rfl) rfl (lv_at hl 3 rfl) ?_
  refine n_iconst (a := 0) hx hb (dg D_L_rustAfter (i := 1) rfl) rfl ?_
  refine lv_aload_n hx hb (dg D_L_rustAfter (i := 2) rfl) rfl (lv_at hl 0 rfl) ?_
  refine lv_iload_n hx hb (dg D_L_rustAfter (i := 3) rfl) rfl (lv_at hl 1 rfl) ?_
  refine lv_iload_n hx hb (dg D_L_rustAfter (i := 4) rfl) rfl (lv_at hl 2 rfl) ?_
  refine callWi X hW hS (n := n' + 1) ⟨rfl, rfl⟩ hM (Nat.le_refl _) UVX11_rustAfter LK_L_21 rfl (by decide) rfl rfl rfl (Nat.le_of_ble_eq_true rfl) hl (by show 0 + mc ≤ mc; omega) (by show 0 + ms ≤ ms; omega) (dg D_L_rustAfter (i := 5) rfl) (fun E ce q9 H1 locs1 hpe hW1 hS1 hce hcv hcl => ?_) (fun r I1 L1 R1 H locs hq hW hS => ?_)
  · have hE := hpx E hpe
    subst hE
    refine vx_catch X.2.2.2.1 [] _ [] htab (fun z hz => absurd hz (by simp)) rfl (by decide) (X.2.2.2.2.1 _ CLx_19) (CAST_IOE X) hce hcv hcl ?_
    refine lv_astore (lv' := [(4, .ref q9), (0, .ref (bs + 0)), (1, .int v1), (2, .int v2), (3, .ref (bs + 86))]) hx hb (dg D_L_rustAfter (i := 9) rfl) hl (by decide) rfl (fun ls hl => ?_)
    refine n_iconst (a := 1) hx hb (dg D_L_rustAfter (i := 10) rfl) rfl ?_
    exact fin (dg D_L_rustAfter (i := 11) rfl) (by omega) (by omega) hW1 hS1 (Or.inr ⟨_, List.mem_singleton.mpr rfl, rfl, hpe, rfl, rfl, rfl⟩)
  · refine lv_i2l (v := r.toInt64) hx hb (dg D_L_rustAfter (i := 6) rfl) rfl ?_
    refine r_last (k := 86) (j := 0) (v := r.toInt64) X hW hS rfl (by decide) rfl (by decide) (by decide) (dg D_L_rustAfter (i := 7) rfl) (fun H locs hW hS => ?_)
    refine lv_goto (tgt := 17) hx hb (dg D_L_rustAfter (i := 8) rfl) (by decide) ?_
    refine n_iconst (a := 0) hx hb (dg D_L_rustAfter (i := 12) rfl) rfl ?_
    exact fin (dg D_L_rustAfter (i := 13) rfl) (by omega) (by omega) hW hS (Or.inl ⟨rfl, r, L1, hq, rfl⟩)

set_option maxHeartbeats 400000 in
set_option maxRecDepth 100000 in
theorem w_guardLeft {l : Launch} {G : va_G} {bs : Nat} {cy : Nat → ClassId} {I : CI} {L : CL} {R : CR} (v1 : Int32) (v2 : Int32) {Q' : Int32 → CI → CL → CR → Prop} {PX' : String → Prop} {n' mc ms : Nat} (hM : XTi l G bs cy MX11_guardLeft n' [.ref (bs + 0), .int v1, .int v2] I L R Q' PX' mc ms) (hpx : ∀ E, PX' E → E = IOE) : WTi l G bs cy ML_guardLeft [(0, 10, 13, 19)] (n' + 1) [.ref (bs + 0), .int v1, .int v2, .ref (bs + 86)] I L R (WQ I L R Q' PX' [(IOE, 1)]) mc ms := by
  refine WTi.of (own := RL) pn_RL rfl (Nat.le_of_ble_eq_true rfl) ?_
  intro p e s m args below meth c Qf X hW hS htab fin ls hl
  have hx := X.1
  have hb := X.2.1
  have hl : lv_has ls 5 [(0, .ref (bs + 0)), (1, .int v1), (2, .int v2), (3, .ref (bs + 86))] := hl
  refine lv_aload_n hx hb (dg D_L_guardLeft (i := 0) rfl) rfl (lv_at hl 3 rfl) ?_
  refine n_iconst (a := 0) hx hb (dg D_L_guardLeft (i := 1) rfl) rfl ?_
  refine lv_aload_n hx hb (dg D_L_guardLeft (i := 2) rfl) rfl (lv_at hl 0 rfl) ?_
  refine lv_iload_n hx hb (dg D_L_guardLeft (i := 3) rfl) rfl (lv_at hl 1 rfl) ?_
  refine lv_iload_n hx hb (dg D_L_guardLeft (i := 4) rfl) rfl (lv_at hl 2 rfl) ?_
  refine callWi X hW hS (n := n' + 1) ⟨rfl, rfl⟩ hM (Nat.le_refl _) UVX11_guardLeft LK_L_24 rfl (by decide) rfl rfl rfl (Nat.le_of_ble_eq_true rfl) hl (by show 0 + mc ≤ mc; omega) (by show 0 + ms ≤ ms; omega) (dg D_L_guardLeft (i := 5) rfl) (fun E ce q9 H1 locs1 hpe hW1 hS1 hce hcv hcl => ?_) (fun r I1 L1 R1 H locs hq hW hS => ?_)
  · have hE := hpx E hpe
    subst hE
    refine vx_catch X.2.2.2.1 [] _ [] htab (fun z hz => absurd hz (by simp)) rfl (by decide) (X.2.2.2.2.1 _ CLx_19) (CAST_IOE X) hce hcv hcl ?_
    refine lv_astore (lv' := [(4, .ref q9), (0, .ref (bs + 0)), (1, .int v1), (2, .int v2), (3, .ref (bs + 86))]) hx hb (dg D_L_guardLeft (i := 9) rfl) hl (by decide) rfl (fun ls hl => ?_)
    refine n_iconst (a := 1) hx hb (dg D_L_guardLeft (i := 10) rfl) rfl ?_
    exact fin (dg D_L_guardLeft (i := 11) rfl) (by omega) (by omega) hW1 hS1 (Or.inr ⟨_, List.mem_singleton.mpr rfl, rfl, hpe, rfl, rfl, rfl⟩)
  · refine lv_i2l (v := r.toInt64) hx hb (dg D_L_guardLeft (i := 6) rfl) rfl ?_
    refine r_last (k := 86) (j := 0) (v := r.toInt64) X hW hS rfl (by decide) rfl (by decide) (by decide) (dg D_L_guardLeft (i := 7) rfl) (fun H locs hW hS => ?_)
    refine lv_goto (tgt := 17) hx hb (dg D_L_guardLeft (i := 8) rfl) (by decide) ?_
    refine n_iconst (a := 0) hx hb (dg D_L_guardLeft (i := 12) rfl) rfl ?_
    exact fin (dg D_L_guardLeft (i := 13) rfl) (by omega) (by omega) hW hS (Or.inl ⟨rfl, r, L1, hq, rfl⟩)

set_option maxHeartbeats 400000 in
set_option maxRecDepth 100000 in
theorem w_pastYear {l : Launch} {G : va_G} {bs : Nat} {cy : Nat → ClassId} {I : CI} {L : CL} {R : CR} (v1 : Int32) {Q' : Int32 → CI → CL → CR → Prop} {PX' : String → Prop} {n' mc ms : Nat} (hM : XTi l G bs cy MX11_pastYear n' [.ref (bs + 0), .int v1] I L R Q' PX' mc ms) (hpx : ∀ E, PX' E → E = IOE) : WTi l G bs cy ML_pastYear [(0, 9, 12, 19)] (n' + 1) [.ref (bs + 0), .int v1, .ref (bs + 86)] I L R (WQ I L R Q' PX' [(IOE, 1)]) mc ms := by
  refine WTi.of (own := RL) pn_RL rfl (Nat.le_of_ble_eq_true rfl) ?_
  intro p e s m args below meth c Qf X hW hS htab fin ls hl
  have hx := X.1
  have hb := X.2.1
  have hl : lv_has ls 4 [(0, .ref (bs + 0)), (1, .int v1), (2, .ref (bs + 86))] := hl
  refine lv_aload_n hx hb (dg D_L_pastYear (i := 0) rfl) rfl (lv_at hl 2 rfl) ?_
  refine n_iconst (a := 0) hx hb (dg D_L_pastYear (i := 1) rfl) rfl ?_
  refine lv_aload_n hx hb (dg D_L_pastYear (i := 2) rfl) rfl (lv_at hl 0 rfl) ?_
  refine lv_iload_n hx hb (dg D_L_pastYear (i := 3) rfl) rfl (lv_at hl 1 rfl) ?_
  refine callWi X hW hS (n := n' + 1) ⟨rfl, rfl⟩ hM (Nat.le_refl _) UVX11_pastYear LK_L_27 rfl (by decide) rfl rfl rfl (Nat.le_of_ble_eq_true rfl) hl (by show 0 + mc ≤ mc; omega) (by show 0 + ms ≤ ms; omega) (dg D_L_pastYear (i := 4) rfl) (fun E ce q9 H1 locs1 hpe hW1 hS1 hce hcv hcl => ?_) (fun r I1 L1 R1 H locs hq hW hS => ?_)
  · have hE := hpx E hpe
    subst hE
    refine vx_catch X.2.2.2.1 [] _ [] htab (fun z hz => absurd hz (by simp)) rfl (by decide) (X.2.2.2.2.1 _ CLx_19) (CAST_IOE X) hce hcv hcl ?_
    refine lv_astore_n (lv' := [(3, .ref q9), (0, .ref (bs + 0)), (1, .int v1), (2, .ref (bs + 86))]) hx hb (dg D_L_pastYear (i := 8) rfl) rfl hl (by decide) rfl (fun ls hl => ?_)
    refine n_iconst (a := 1) hx hb (dg D_L_pastYear (i := 9) rfl) rfl ?_
    exact fin (dg D_L_pastYear (i := 10) rfl) (by omega) (by omega) hW1 hS1 (Or.inr ⟨_, List.mem_singleton.mpr rfl, rfl, hpe, rfl, rfl, rfl⟩)
  · refine lv_i2l (v := r.toInt64) hx hb (dg D_L_pastYear (i := 5) rfl) rfl ?_
    refine r_last (k := 86) (j := 0) (v := r.toInt64) X hW hS rfl (by decide) rfl (by decide) (by decide) (dg D_L_pastYear (i := 6) rfl) (fun H locs hW hS => ?_)
    refine lv_goto (tgt := 15) hx hb (dg D_L_pastYear (i := 7) rfl) (by decide) ?_
    refine n_iconst (a := 0) hx hb (dg D_L_pastYear (i := 11) rfl) rfl ?_
    exact fin (dg D_L_pastYear (i := 12) rfl) (by omega) (by omega) hW hS (Or.inl ⟨rfl, r, L1, hq, rfl⟩)

set_option maxHeartbeats 400000 in
set_option maxRecDepth 100000 in
theorem w_pastSpans {l : Launch} {G : va_G} {bs : Nat} {cy : Nat → ClassId} {I : CI} {L : CL} {R : CR} (v1 : Int32) {Q' : Int32 → CI → CL → CR → Prop} {PX' : String → Prop} {n' mc ms : Nat} (hM : XTi l G bs cy MX11_pastSpans n' [.ref (bs + 0), .int v1] I L R Q' PX' mc ms) (hpx : ∀ E, PX' E → E = IOE) : WTi l G bs cy ML_pastSpans [(0, 9, 12, 19)] (n' + 1) [.ref (bs + 0), .int v1, .ref (bs + 86)] I L R (WQ I L R Q' PX' [(IOE, 1)]) mc ms := by
  refine WTi.of (own := RL) pn_RL rfl (Nat.le_of_ble_eq_true rfl) ?_
  intro p e s m args below meth c Qf X hW hS htab fin ls hl
  have hx := X.1
  have hb := X.2.1
  have hl : lv_has ls 4 [(0, .ref (bs + 0)), (1, .int v1), (2, .ref (bs + 86))] := hl
  refine lv_aload_n hx hb (dg D_L_pastSpans (i := 0) rfl) rfl (lv_at hl 2 rfl) ?_
  refine n_iconst (a := 0) hx hb (dg D_L_pastSpans (i := 1) rfl) rfl ?_
  refine lv_aload_n hx hb (dg D_L_pastSpans (i := 2) rfl) rfl (lv_at hl 0 rfl) ?_
  refine lv_iload_n hx hb (dg D_L_pastSpans (i := 3) rfl) rfl (lv_at hl 1 rfl) ?_
  refine callWi X hW hS (n := n' + 1) ⟨rfl, rfl⟩ hM (Nat.le_refl _) UVX11_pastSpans LK_L_30 rfl (by decide) rfl rfl rfl (Nat.le_of_ble_eq_true rfl) hl (by show 0 + mc ≤ mc; omega) (by show 0 + ms ≤ ms; omega) (dg D_L_pastSpans (i := 4) rfl) (fun E ce q9 H1 locs1 hpe hW1 hS1 hce hcv hcl => ?_) (fun r I1 L1 R1 H locs hq hW hS => ?_)
  · have hE := hpx E hpe
    subst hE
    refine vx_catch X.2.2.2.1 [] _ [] htab (fun z hz => absurd hz (by simp)) rfl (by decide) (X.2.2.2.2.1 _ CLx_19) (CAST_IOE X) hce hcv hcl ?_
    refine lv_astore_n (lv' := [(3, .ref q9), (0, .ref (bs + 0)), (1, .int v1), (2, .ref (bs + 86))]) hx hb (dg D_L_pastSpans (i := 8) rfl) rfl hl (by decide) rfl (fun ls hl => ?_)
    refine n_iconst (a := 1) hx hb (dg D_L_pastSpans (i := 9) rfl) rfl ?_
    exact fin (dg D_L_pastSpans (i := 10) rfl) (by omega) (by omega) hW1 hS1 (Or.inr ⟨_, List.mem_singleton.mpr rfl, rfl, hpe, rfl, rfl, rfl⟩)
  · refine lv_i2l (v := r.toInt64) hx hb (dg D_L_pastSpans (i := 5) rfl) rfl ?_
    refine r_last (k := 86) (j := 0) (v := r.toInt64) X hW hS rfl (by decide) rfl (by decide) (by decide) (dg D_L_pastSpans (i := 6) rfl) (fun H locs hW hS => ?_)
    refine lv_goto (tgt := 15) hx hb (dg D_L_pastSpans (i := 7) rfl) (by decide) ?_
    refine n_iconst (a := 0) hx hb (dg D_L_pastSpans (i := 11) rfl) rfl ?_
    exact fin (dg D_L_pastSpans (i := 12) rfl) (by omega) (by omega) hW hS (Or.inl ⟨rfl, r, L1, hq, rfl⟩)

set_option maxHeartbeats 400000 in
set_option maxRecDepth 100000 in
theorem w_rustiest {l : Launch} {G : va_G} {bs : Nat} {cy : Nat → ClassId} {I : CI} {L : CL} {R : CR} (v1 : Int32) {Q' : Int32 → CI → CL → CR → Prop} {PX' : String → Prop} {n' mc ms : Nat} (hM : XTi l G bs cy MX11_rustiest n' [.ref (bs + 0), .int v1] I L R Q' PX' mc ms) (hpx : ∀ E, PX' E → E = IOE) : WTi l G bs cy ML_rustiest [(0, 9, 12, 19)] (n' + 1) [.ref (bs + 0), .int v1, .ref (bs + 86)] I L R (WQ I L R Q' PX' [(IOE, 1)]) mc ms := by
  refine WTi.of (own := RL) pn_RL rfl (Nat.le_of_ble_eq_true rfl) ?_
  intro p e s m args below meth c Qf X hW hS htab fin ls hl
  have hx := X.1
  have hb := X.2.1
  have hl : lv_has ls 4 [(0, .ref (bs + 0)), (1, .int v1), (2, .ref (bs + 86))] := hl
  refine lv_aload_n hx hb (dg D_L_rustiest (i := 0) rfl) rfl (lv_at hl 2 rfl) ?_
  refine n_iconst (a := 0) hx hb (dg D_L_rustiest (i := 1) rfl) rfl ?_
  refine lv_aload_n hx hb (dg D_L_rustiest (i := 2) rfl) rfl (lv_at hl 0 rfl) ?_
  refine lv_iload_n hx hb (dg D_L_rustiest (i := 3) rfl) rfl (lv_at hl 1 rfl) ?_
  refine callWi X hW hS (n := n' + 1) ⟨rfl, rfl⟩ hM (Nat.le_refl _) UVX11_rustiest LK_L_33 rfl (by decide) rfl rfl rfl (Nat.le_of_ble_eq_true rfl) hl (by show 0 + mc ≤ mc; omega) (by show 0 + ms ≤ ms; omega) (dg D_L_rustiest (i := 4) rfl) (fun E ce q9 H1 locs1 hpe hW1 hS1 hce hcv hcl => ?_) (fun r I1 L1 R1 H locs hq hW hS => ?_)
  · have hE := hpx E hpe
    subst hE
    refine vx_catch X.2.2.2.1 [] _ [] htab (fun z hz => absurd hz (by simp)) rfl (by decide) (X.2.2.2.2.1 _ CLx_19) (CAST_IOE X) hce hcv hcl ?_
    refine lv_astore_n (lv' := [(3, .ref q9), (0, .ref (bs + 0)), (1, .int v1), (2, .ref (bs + 86))]) hx hb (dg D_L_rustiest (i := 8) rfl) rfl hl (by decide) rfl (fun ls hl => ?_)
    refine n_iconst (a := 1) hx hb (dg D_L_rustiest (i := 9) rfl) rfl ?_
    exact fin (dg D_L_rustiest (i := 10) rfl) (by omega) (by omega) hW1 hS1 (Or.inr ⟨_, List.mem_singleton.mpr rfl, rfl, hpe, rfl, rfl, rfl⟩)
  · refine lv_i2l (v := r.toInt64) hx hb (dg D_L_rustiest (i := 5) rfl) rfl ?_
    refine r_last (k := 86) (j := 0) (v := r.toInt64) X hW hS rfl (by decide) rfl (by decide) (by decide) (dg D_L_rustiest (i := 6) rfl) (fun H locs hW hS => ?_)
    refine lv_goto (tgt := 15) hx hb (dg D_L_rustiest (i := 7) rfl) (by decide) ?_
    refine n_iconst (a := 0) hx hb (dg D_L_rustiest (i := 11) rfl) rfl ?_
    exact fin (dg D_L_rustiest (i := 12) rfl) (by omega) (by omega) hW hS (Or.inl ⟨rfl, r, L1, hq, rfl⟩)

set_option maxHeartbeats 400000 in
set_option maxRecDepth 100000 in
theorem w_urgent {l : Launch} {G : va_G} {bs : Nat} {cy : Nat → ClassId} {I : CI} {L : CL} {R : CR} (v1 : Int32) {Q' : Int32 → CI → CL → CR → Prop} {PX' : String → Prop} {n' mc ms : Nat} (hM : XTi l G bs cy MX11_urgent n' [.ref (bs + 0), .int v1] I L R Q' PX' mc ms) (hpx : ∀ E, PX' E → E = IOE) : WTi l G bs cy ML_urgent [(0, 9, 12, 19)] (n' + 1) [.ref (bs + 0), .int v1, .ref (bs + 86)] I L R (WQ I L R Q' PX' [(IOE, 1)]) mc ms := by
  refine WTi.of (own := RL) pn_RL rfl (Nat.le_of_ble_eq_true rfl) ?_
  intro p e s m args below meth c Qf X hW hS htab fin ls hl
  have hx := X.1
  have hb := X.2.1
  have hl : lv_has ls 4 [(0, .ref (bs + 0)), (1, .int v1), (2, .ref (bs + 86))] := hl
  refine lv_aload_n hx hb (dg D_L_urgent (i := 0) rfl) rfl (lv_at hl 2 rfl) ?_
  refine n_iconst (a := 0) hx hb (dg D_L_urgent (i := 1) rfl) rfl ?_
  refine lv_aload_n hx hb (dg D_L_urgent (i := 2) rfl) rfl (lv_at hl 0 rfl) ?_
  refine lv_iload_n hx hb (dg D_L_urgent (i := 3) rfl) rfl (lv_at hl 1 rfl) ?_
  refine callWi X hW hS (n := n' + 1) ⟨rfl, rfl⟩ hM (Nat.le_refl _) UVX11_urgent LK_L_40 rfl (by decide) rfl rfl rfl (Nat.le_of_ble_eq_true rfl) hl (by show 0 + mc ≤ mc; omega) (by show 0 + ms ≤ ms; omega) (dg D_L_urgent (i := 4) rfl) (fun E ce q9 H1 locs1 hpe hW1 hS1 hce hcv hcl => ?_) (fun r I1 L1 R1 H locs hq hW hS => ?_)
  · have hE := hpx E hpe
    subst hE
    refine vx_catch X.2.2.2.1 [] _ [] htab (fun z hz => absurd hz (by simp)) rfl (by decide) (X.2.2.2.2.1 _ CLx_19) (CAST_IOE X) hce hcv hcl ?_
    refine lv_astore_n (lv' := [(3, .ref q9), (0, .ref (bs + 0)), (1, .int v1), (2, .ref (bs + 86))]) hx hb (dg D_L_urgent (i := 8) rfl) rfl hl (by decide) rfl (fun ls hl => ?_)
    refine n_iconst (a := 1) hx hb (dg D_L_urgent (i := 9) rfl) rfl ?_
    exact fin (dg D_L_urgent (i := 10) rfl) (by omega) (by omega) hW1 hS1 (Or.inr ⟨_, List.mem_singleton.mpr rfl, rfl, hpe, rfl, rfl, rfl⟩)
  · refine lv_i2l (v := r.toInt64) hx hb (dg D_L_urgent (i := 5) rfl) rfl ?_
    refine r_last (k := 86) (j := 0) (v := r.toInt64) X hW hS rfl (by decide) rfl (by decide) (by decide) (dg D_L_urgent (i := 6) rfl) (fun H locs hW hS => ?_)
    refine lv_goto (tgt := 15) hx hb (dg D_L_urgent (i := 7) rfl) (by decide) ?_
    refine n_iconst (a := 0) hx hb (dg D_L_urgent (i := 11) rfl) rfl ?_
    exact fin (dg D_L_urgent (i := 12) rfl) (by omega) (by omega) hW hS (Or.inl ⟨rfl, r, L1, hq, rfl⟩)

set_option maxHeartbeats 400000 in
set_option maxRecDepth 100000 in
theorem w_unpaintedPast {l : Launch} {G : va_G} {bs : Nat} {cy : Nat → ClassId} {I : CI} {L : CL} {R : CR} (v1 : Int32) {Q' : Int32 → CI → CL → CR → Prop} {PX' : String → Prop} {n' mc ms : Nat} (hM : XTi l G bs cy MX11_unpaintedPast n' [.ref (bs + 0), .int v1] I L R Q' PX' mc ms) (hpx : ∀ E, PX' E → E = IOE) : WTi l G bs cy ML_unpaintedPast [(0, 9, 12, 19)] (n' + 1) [.ref (bs + 0), .int v1, .ref (bs + 86)] I L R (WQ I L R Q' PX' [(IOE, 1)]) mc ms := by
  refine WTi.of (own := RL) pn_RL rfl (Nat.le_of_ble_eq_true rfl) ?_
  intro p e s m args below meth c Qf X hW hS htab fin ls hl
  have hx := X.1
  have hb := X.2.1
  have hl : lv_has ls 4 [(0, .ref (bs + 0)), (1, .int v1), (2, .ref (bs + 86))] := hl
  refine lv_aload_n hx hb (dg D_L_unpaintedPast (i := 0) rfl) rfl (lv_at hl 2 rfl) ?_
  refine n_iconst (a := 0) hx hb (dg D_L_unpaintedPast (i := 1) rfl) rfl ?_
  refine lv_aload_n hx hb (dg D_L_unpaintedPast (i := 2) rfl) rfl (lv_at hl 0 rfl) ?_
  refine lv_iload_n hx hb (dg D_L_unpaintedPast (i := 3) rfl) rfl (lv_at hl 1 rfl) ?_
  refine callWi X hW hS (n := n' + 1) ⟨rfl, rfl⟩ hM (Nat.le_refl _) UVX11_unpaintedPast LK_L_43 rfl (by decide) rfl rfl rfl (Nat.le_of_ble_eq_true rfl) hl (by show 0 + mc ≤ mc; omega) (by show 0 + ms ≤ ms; omega) (dg D_L_unpaintedPast (i := 4) rfl) (fun E ce q9 H1 locs1 hpe hW1 hS1 hce hcv hcl => ?_) (fun r I1 L1 R1 H locs hq hW hS => ?_)
  · have hE := hpx E hpe
    subst hE
    refine vx_catch X.2.2.2.1 [] _ [] htab (fun z hz => absurd hz (by simp)) rfl (by decide) (X.2.2.2.2.1 _ CLx_19) (CAST_IOE X) hce hcv hcl ?_
    refine lv_astore_n (lv' := [(3, .ref q9), (0, .ref (bs + 0)), (1, .int v1), (2, .ref (bs + 86))]) hx hb (dg D_L_unpaintedPast (i := 8) rfl) rfl hl (by decide) rfl (fun ls hl => ?_)
    refine n_iconst (a := 1) hx hb (dg D_L_unpaintedPast (i := 9) rfl) rfl ?_
    exact fin (dg D_L_unpaintedPast (i := 10) rfl) (by omega) (by omega) hW1 hS1 (Or.inr ⟨_, List.mem_singleton.mpr rfl, rfl, hpe, rfl, rfl, rfl⟩)
  · refine lv_i2l (v := r.toInt64) hx hb (dg D_L_unpaintedPast (i := 5) rfl) rfl ?_
    refine r_last (k := 86) (j := 0) (v := r.toInt64) X hW hS rfl (by decide) rfl (by decide) (by decide) (dg D_L_unpaintedPast (i := 6) rfl) (fun H locs hW hS => ?_)
    refine lv_goto (tgt := 15) hx hb (dg D_L_unpaintedPast (i := 7) rfl) (by decide) ?_
    refine n_iconst (a := 0) hx hb (dg D_L_unpaintedPast (i := 11) rfl) rfl ?_
    exact fin (dg D_L_unpaintedPast (i := 12) rfl) (by omega) (by omega) hW hS (Or.inl ⟨rfl, r, L1, hq, rfl⟩)

set_option maxHeartbeats 400000 in
set_option maxRecDepth 100000 in
theorem w_coatsNeeded {l : Launch} {G : va_G} {bs : Nat} {cy : Nat → ClassId} {I : CI} {L : CL} {R : CR} (v1 : Int32) {Q' : Int32 → CI → CL → CR → Prop} {PX' : String → Prop} {n' mc ms : Nat} (hM : XTi l G bs cy MX11_coatsNeeded n' [.ref (bs + 0), .int v1] I L R Q' PX' mc ms) (hpx : ∀ E, PX' E → E = IOE) : WTi l G bs cy ML_coatsNeeded [(0, 9, 12, 19)] (n' + 1) [.ref (bs + 0), .int v1, .ref (bs + 86)] I L R (WQ I L R Q' PX' [(IOE, 1)]) mc ms := by
  refine WTi.of (own := RL) pn_RL rfl (Nat.le_of_ble_eq_true rfl) ?_
  intro p e s m args below meth c Qf X hW hS htab fin ls hl
  have hx := X.1
  have hb := X.2.1
  have hl : lv_has ls 4 [(0, .ref (bs + 0)), (1, .int v1), (2, .ref (bs + 86))] := hl
  refine lv_aload_n hx hb (dg D_L_coatsNeeded (i := 0) rfl) rfl (lv_at hl 2 rfl) ?_
  refine n_iconst (a := 0) hx hb (dg D_L_coatsNeeded (i := 1) rfl) rfl ?_
  refine lv_aload_n hx hb (dg D_L_coatsNeeded (i := 2) rfl) rfl (lv_at hl 0 rfl) ?_
  refine lv_iload_n hx hb (dg D_L_coatsNeeded (i := 3) rfl) rfl (lv_at hl 1 rfl) ?_
  refine callWi X hW hS (n := n' + 1) ⟨rfl, rfl⟩ hM (Nat.le_refl _) UVX11_coatsNeeded LK_L_46 rfl (by decide) rfl rfl rfl (Nat.le_of_ble_eq_true rfl) hl (by show 0 + mc ≤ mc; omega) (by show 0 + ms ≤ ms; omega) (dg D_L_coatsNeeded (i := 4) rfl) (fun E ce q9 H1 locs1 hpe hW1 hS1 hce hcv hcl => ?_) (fun r I1 L1 R1 H locs hq hW hS => ?_)
  · have hE := hpx E hpe
    subst hE
    refine vx_catch X.2.2.2.1 [] _ [] htab (fun z hz => absurd hz (by simp)) rfl (by decide) (X.2.2.2.2.1 _ CLx_19) (CAST_IOE X) hce hcv hcl ?_
    refine lv_astore_n (lv' := [(3, .ref q9), (0, .ref (bs + 0)), (1, .int v1), (2, .ref (bs + 86))]) hx hb (dg D_L_coatsNeeded (i := 8) rfl) rfl hl (by decide) rfl (fun ls hl => ?_)
    refine n_iconst (a := 1) hx hb (dg D_L_coatsNeeded (i := 9) rfl) rfl ?_
    exact fin (dg D_L_coatsNeeded (i := 10) rfl) (by omega) (by omega) hW1 hS1 (Or.inr ⟨_, List.mem_singleton.mpr rfl, rfl, hpe, rfl, rfl, rfl⟩)
  · refine lv_i2l (v := r.toInt64) hx hb (dg D_L_coatsNeeded (i := 5) rfl) rfl ?_
    refine r_last (k := 86) (j := 0) (v := r.toInt64) X hW hS rfl (by decide) rfl (by decide) (by decide) (dg D_L_coatsNeeded (i := 6) rfl) (fun H locs hW hS => ?_)
    refine lv_goto (tgt := 15) hx hb (dg D_L_coatsNeeded (i := 7) rfl) (by decide) ?_
    refine n_iconst (a := 0) hx hb (dg D_L_coatsNeeded (i := 11) rfl) rfl ?_
    exact fin (dg D_L_coatsNeeded (i := 12) rfl) (by omega) (by omega) hW hS (Or.inl ⟨rfl, r, L1, hq, rfl⟩)

set_option maxHeartbeats 400000 in
set_option maxRecDepth 100000 in
theorem w_latestPainting {l : Launch} {G : va_G} {bs : Nat} {cy : Nat → ClassId} {I : CI} {L : CL} {R : CR} (v1 : Int32) (v2 : Int32) {Q' : Int32 → CI → CL → CR → Prop} {PX' : String → Prop} {n' mc ms : Nat} (hM : XTi l G bs cy MX11_latestPainting n' [.ref (bs + 0), .int v1, .int v2] I L R Q' PX' mc ms) (hpx : ∀ E, PX' E → E = IOE) : WTi l G bs cy ML_latestPainting [(0, 10, 13, 19)] (n' + 1) [.ref (bs + 0), .int v1, .int v2, .ref (bs + 86)] I L R (WQ I L R Q' PX' [(IOE, 1)]) mc ms := by
  refine WTi.of (own := RL) pn_RL rfl (Nat.le_of_ble_eq_true rfl) ?_
  intro p e s m args below meth c Qf X hW hS htab fin ls hl
  have hx := X.1
  have hb := X.2.1
  have hl : lv_has ls 5 [(0, .ref (bs + 0)), (1, .int v1), (2, .int v2), (3, .ref (bs + 86))] := hl
  refine lv_aload_n hx hb (dg D_L_latestPainting (i := 0) rfl) rfl (lv_at hl 3 rfl) ?_
  refine n_iconst (a := 0) hx hb (dg D_L_latestPainting (i := 1) rfl) rfl ?_
  refine lv_aload_n hx hb (dg D_L_latestPainting (i := 2) rfl) rfl (lv_at hl 0 rfl) ?_
  refine lv_iload_n hx hb (dg D_L_latestPainting (i := 3) rfl) rfl (lv_at hl 1 rfl) ?_
  refine lv_iload_n hx hb (dg D_L_latestPainting (i := 4) rfl) rfl (lv_at hl 2 rfl) ?_
  refine callWi X hW hS (n := n' + 1) ⟨rfl, rfl⟩ hM (Nat.le_refl _) UVX11_latestPainting LK_L_49 rfl (by decide) rfl rfl rfl (Nat.le_of_ble_eq_true rfl) hl (by show 0 + mc ≤ mc; omega) (by show 0 + ms ≤ ms; omega) (dg D_L_latestPainting (i := 5) rfl) (fun E ce q9 H1 locs1 hpe hW1 hS1 hce hcv hcl => ?_) (fun r I1 L1 R1 H locs hq hW hS => ?_)
  · have hE := hpx E hpe
    subst hE
    refine vx_catch X.2.2.2.1 [] _ [] htab (fun z hz => absurd hz (by simp)) rfl (by decide) (X.2.2.2.2.1 _ CLx_19) (CAST_IOE X) hce hcv hcl ?_
    refine lv_astore (lv' := [(4, .ref q9), (0, .ref (bs + 0)), (1, .int v1), (2, .int v2), (3, .ref (bs + 86))]) hx hb (dg D_L_latestPainting (i := 9) rfl) hl (by decide) rfl (fun ls hl => ?_)
    refine n_iconst (a := 1) hx hb (dg D_L_latestPainting (i := 10) rfl) rfl ?_
    exact fin (dg D_L_latestPainting (i := 11) rfl) (by omega) (by omega) hW1 hS1 (Or.inr ⟨_, List.mem_singleton.mpr rfl, rfl, hpe, rfl, rfl, rfl⟩)
  · refine lv_i2l (v := r.toInt64) hx hb (dg D_L_latestPainting (i := 6) rfl) rfl ?_
    refine r_last (k := 86) (j := 0) (v := r.toInt64) X hW hS rfl (by decide) rfl (by decide) (by decide) (dg D_L_latestPainting (i := 7) rfl) (fun H locs hW hS => ?_)
    refine lv_goto (tgt := 17) hx hb (dg D_L_latestPainting (i := 8) rfl) (by decide) ?_
    refine n_iconst (a := 0) hx hb (dg D_L_latestPainting (i := 12) rfl) rfl ?_
    exact fin (dg D_L_latestPainting (i := 13) rfl) (by omega) (by omega) hW hS (Or.inl ⟨rfl, r, L1, hq, rfl⟩)

set_option maxHeartbeats 400000 in
set_option maxRecDepth 100000 in
theorem w_harmlessRate {l : Launch} {G : va_G} {bs : Nat} {cy : Nat → ClassId} {I : CI} {L : CL} {R : CR} (v1 : Int32) {Q' : Int32 → CI → CL → CR → Prop} {PX' : String → Prop} {n' mc ms : Nat} (hM : XTi l G bs cy MX11_harmlessRate n' [.ref (bs + 0), .int v1] I L R Q' PX' mc ms) (hpx : ∀ E, PX' E → E = IOE) : WTi l G bs cy ML_harmlessRate [(0, 9, 12, 19)] (n' + 1) [.ref (bs + 0), .int v1, .ref (bs + 86)] I L R (WQ I L R Q' PX' [(IOE, 1)]) mc ms := by
  refine WTi.of (own := RL) pn_RL rfl (Nat.le_of_ble_eq_true rfl) ?_
  intro p e s m args below meth c Qf X hW hS htab fin ls hl
  have hx := X.1
  have hb := X.2.1
  have hl : lv_has ls 4 [(0, .ref (bs + 0)), (1, .int v1), (2, .ref (bs + 86))] := hl
  refine lv_aload_n hx hb (dg D_L_harmlessRate (i := 0) rfl) rfl (lv_at hl 2 rfl) ?_
  refine n_iconst (a := 0) hx hb (dg D_L_harmlessRate (i := 1) rfl) rfl ?_
  refine lv_aload_n hx hb (dg D_L_harmlessRate (i := 2) rfl) rfl (lv_at hl 0 rfl) ?_
  refine lv_iload_n hx hb (dg D_L_harmlessRate (i := 3) rfl) rfl (lv_at hl 1 rfl) ?_
  refine callWi X hW hS (n := n' + 1) ⟨rfl, rfl⟩ hM (Nat.le_refl _) UVX11_harmlessRate LK_L_52 rfl (by decide) rfl rfl rfl (Nat.le_of_ble_eq_true rfl) hl (by show 0 + mc ≤ mc; omega) (by show 0 + ms ≤ ms; omega) (dg D_L_harmlessRate (i := 4) rfl) (fun E ce q9 H1 locs1 hpe hW1 hS1 hce hcv hcl => ?_) (fun r I1 L1 R1 H locs hq hW hS => ?_)
  · have hE := hpx E hpe
    subst hE
    refine vx_catch X.2.2.2.1 [] _ [] htab (fun z hz => absurd hz (by simp)) rfl (by decide) (X.2.2.2.2.1 _ CLx_19) (CAST_IOE X) hce hcv hcl ?_
    refine lv_astore_n (lv' := [(3, .ref q9), (0, .ref (bs + 0)), (1, .int v1), (2, .ref (bs + 86))]) hx hb (dg D_L_harmlessRate (i := 8) rfl) rfl hl (by decide) rfl (fun ls hl => ?_)
    refine n_iconst (a := 1) hx hb (dg D_L_harmlessRate (i := 9) rfl) rfl ?_
    exact fin (dg D_L_harmlessRate (i := 10) rfl) (by omega) (by omega) hW1 hS1 (Or.inr ⟨_, List.mem_singleton.mpr rfl, rfl, hpe, rfl, rfl, rfl⟩)
  · refine lv_i2l (v := r.toInt64) hx hb (dg D_L_harmlessRate (i := 5) rfl) rfl ?_
    refine r_last (k := 86) (j := 0) (v := r.toInt64) X hW hS rfl (by decide) rfl (by decide) (by decide) (dg D_L_harmlessRate (i := 6) rfl) (fun H locs hW hS => ?_)
    refine lv_goto (tgt := 15) hx hb (dg D_L_harmlessRate (i := 7) rfl) (by decide) ?_
    refine n_iconst (a := 0) hx hb (dg D_L_harmlessRate (i := 11) rfl) rfl ?_
    exact fin (dg D_L_harmlessRate (i := 12) rfl) (by omega) (by omega) hW hS (Or.inl ⟨rfl, r, L1, hq, rfl⟩)

set_option maxHeartbeats 400000 in
set_option maxRecDepth 100000 in
theorem w_effort {l : Launch} {G : va_G} {bs : Nat} {cy : Nat → ClassId} {I : CI} {L : CL} {R : CR} (v1 : Int32) (v2 : Int32) {Q' : Int32 → CI → CL → CR → Prop} {PX' : String → Prop} {n' mc ms : Nat} (hM : XTi l G bs cy MX11_effort n' [.ref (bs + 0), .int v1, .int v2] I L R Q' PX' mc ms) (hpx : ∀ E, PX' E → E = IOE) : WTi l G bs cy ML_effort [(0, 10, 13, 19)] (n' + 1) [.ref (bs + 0), .int v1, .int v2, .ref (bs + 86)] I L R (WQ I L R Q' PX' [(IOE, 1)]) mc ms := by
  refine WTi.of (own := RL) pn_RL rfl (Nat.le_of_ble_eq_true rfl) ?_
  intro p e s m args below meth c Qf X hW hS htab fin ls hl
  have hx := X.1
  have hb := X.2.1
  have hl : lv_has ls 5 [(0, .ref (bs + 0)), (1, .int v1), (2, .int v2), (3, .ref (bs + 86))] := hl
  refine lv_aload_n hx hb (dg D_L_effort (i := 0) rfl) rfl (lv_at hl 3 rfl) ?_
  refine n_iconst (a := 0) hx hb (dg D_L_effort (i := 1) rfl) rfl ?_
  refine lv_aload_n hx hb (dg D_L_effort (i := 2) rfl) rfl (lv_at hl 0 rfl) ?_
  refine lv_iload_n hx hb (dg D_L_effort (i := 3) rfl) rfl (lv_at hl 1 rfl) ?_
  refine lv_iload_n hx hb (dg D_L_effort (i := 4) rfl) rfl (lv_at hl 2 rfl) ?_
  refine callWi X hW hS (n := n' + 1) ⟨rfl, rfl⟩ hM (Nat.le_refl _) UVX11_effort LK_L_55 rfl (by decide) rfl rfl rfl (Nat.le_of_ble_eq_true rfl) hl (by show 0 + mc ≤ mc; omega) (by show 0 + ms ≤ ms; omega) (dg D_L_effort (i := 5) rfl) (fun E ce q9 H1 locs1 hpe hW1 hS1 hce hcv hcl => ?_) (fun r I1 L1 R1 H locs hq hW hS => ?_)
  · have hE := hpx E hpe
    subst hE
    refine vx_catch X.2.2.2.1 [] _ [] htab (fun z hz => absurd hz (by simp)) rfl (by decide) (X.2.2.2.2.1 _ CLx_19) (CAST_IOE X) hce hcv hcl ?_
    refine lv_astore (lv' := [(4, .ref q9), (0, .ref (bs + 0)), (1, .int v1), (2, .int v2), (3, .ref (bs + 86))]) hx hb (dg D_L_effort (i := 9) rfl) hl (by decide) rfl (fun ls hl => ?_)
    refine n_iconst (a := 1) hx hb (dg D_L_effort (i := 10) rfl) rfl ?_
    exact fin (dg D_L_effort (i := 11) rfl) (by omega) (by omega) hW1 hS1 (Or.inr ⟨_, List.mem_singleton.mpr rfl, rfl, hpe, rfl, rfl, rfl⟩)
  · refine lv_i2l (v := r.toInt64) hx hb (dg D_L_effort (i := 6) rfl) rfl ?_
    refine r_last (k := 86) (j := 0) (v := r.toInt64) X hW hS rfl (by decide) rfl (by decide) (by decide) (dg D_L_effort (i := 7) rfl) (fun H locs hW hS => ?_)
    refine lv_goto (tgt := 17) hx hb (dg D_L_effort (i := 8) rfl) (by decide) ?_
    refine n_iconst (a := 0) hx hb (dg D_L_effort (i := 12) rfl) rfl ?_
    exact fin (dg D_L_effort (i := 13) rfl) (by omega) (by omega) hW hS (Or.inl ⟨rfl, r, L1, hq, rfl⟩)

set_option maxHeartbeats 400000 in
set_option maxRecDepth 100000 in
theorem w_capacity {l : Launch} {G : va_G} {bs : Nat} {cy : Nat → ClassId} {I : CI} {L : CL} {R : CR} (v1 : Int32) (v2 : Int32) {Q' : Int32 → CI → CL → CR → Prop} {PX' : String → Prop} {n' mc ms : Nat} (hM : XTi l G bs cy MX11_capacity n' [.ref (bs + 0), .int v1, .int v2] I L R Q' PX' mc ms) (hpx : ∀ E, PX' E → E = IOE) : WTi l G bs cy ML_capacity [(0, 10, 13, 19)] (n' + 1) [.ref (bs + 0), .int v1, .int v2, .ref (bs + 86)] I L R (WQ I L R Q' PX' [(IOE, 1)]) mc ms := by
  refine WTi.of (own := RL) pn_RL rfl (Nat.le_of_ble_eq_true rfl) ?_
  intro p e s m args below meth c Qf X hW hS htab fin ls hl
  have hx := X.1
  have hb := X.2.1
  have hl : lv_has ls 5 [(0, .ref (bs + 0)), (1, .int v1), (2, .int v2), (3, .ref (bs + 86))] := hl
  refine lv_aload_n hx hb (dg D_L_capacity (i := 0) rfl) rfl (lv_at hl 3 rfl) ?_
  refine n_iconst (a := 0) hx hb (dg D_L_capacity (i := 1) rfl) rfl ?_
  refine lv_aload_n hx hb (dg D_L_capacity (i := 2) rfl) rfl (lv_at hl 0 rfl) ?_
  refine lv_iload_n hx hb (dg D_L_capacity (i := 3) rfl) rfl (lv_at hl 1 rfl) ?_
  refine lv_iload_n hx hb (dg D_L_capacity (i := 4) rfl) rfl (lv_at hl 2 rfl) ?_
  refine callWi X hW hS (n := n' + 1) ⟨rfl, rfl⟩ hM (Nat.le_refl _) UVX11_capacity LK_L_58 rfl (by decide) rfl rfl rfl (Nat.le_of_ble_eq_true rfl) hl (by show 0 + mc ≤ mc; omega) (by show 0 + ms ≤ ms; omega) (dg D_L_capacity (i := 5) rfl) (fun E ce q9 H1 locs1 hpe hW1 hS1 hce hcv hcl => ?_) (fun r I1 L1 R1 H locs hq hW hS => ?_)
  · have hE := hpx E hpe
    subst hE
    refine vx_catch X.2.2.2.1 [] _ [] htab (fun z hz => absurd hz (by simp)) rfl (by decide) (X.2.2.2.2.1 _ CLx_19) (CAST_IOE X) hce hcv hcl ?_
    refine lv_astore (lv' := [(4, .ref q9), (0, .ref (bs + 0)), (1, .int v1), (2, .int v2), (3, .ref (bs + 86))]) hx hb (dg D_L_capacity (i := 9) rfl) hl (by decide) rfl (fun ls hl => ?_)
    refine n_iconst (a := 1) hx hb (dg D_L_capacity (i := 10) rfl) rfl ?_
    exact fin (dg D_L_capacity (i := 11) rfl) (by omega) (by omega) hW1 hS1 (Or.inr ⟨_, List.mem_singleton.mpr rfl, rfl, hpe, rfl, rfl, rfl⟩)
  · refine lv_i2l (v := r.toInt64) hx hb (dg D_L_capacity (i := 6) rfl) rfl ?_
    refine r_last (k := 86) (j := 0) (v := r.toInt64) X hW hS rfl (by decide) rfl (by decide) (by decide) (dg D_L_capacity (i := 7) rfl) (fun H locs hW hS => ?_)
    refine lv_goto (tgt := 17) hx hb (dg D_L_capacity (i := 8) rfl) (by decide) ?_
    refine n_iconst (a := 0) hx hb (dg D_L_capacity (i := 12) rfl) rfl ?_
    exact fin (dg D_L_capacity (i := 13) rfl) (by omega) (by omega) hW hS (Or.inl ⟨rfl, r, L1, hq, rfl⟩)

set_option maxHeartbeats 400000 in
set_option maxRecDepth 100000 in
theorem w_loadOf {l : Launch} {G : va_G} {bs : Nat} {cy : Nat → ClassId} {I : CI} {L : CL} {R : CR} (v1 : Int32) (v2 : Int32) {Q' : Int32 → CI → CL → CR → Prop} {PX' : String → Prop} {n' mc ms : Nat} (hM : XTi l G bs cy MX11_loadOf n' [.ref (bs + 0), .int v1, .int v2] I L R Q' PX' mc ms) (hpx : ∀ E, PX' E → E = IOE) : WTi l G bs cy ML_loadOf [(0, 10, 13, 19)] (n' + 1) [.ref (bs + 0), .int v1, .int v2, .ref (bs + 86)] I L R (WQ I L R Q' PX' [(IOE, 1)]) mc ms := by
  refine WTi.of (own := RL) pn_RL rfl (Nat.le_of_ble_eq_true rfl) ?_
  intro p e s m args below meth c Qf X hW hS htab fin ls hl
  have hx := X.1
  have hb := X.2.1
  have hl : lv_has ls 5 [(0, .ref (bs + 0)), (1, .int v1), (2, .int v2), (3, .ref (bs + 86))] := hl
  refine lv_aload_n hx hb (dg D_L_loadOf (i := 0) rfl) rfl (lv_at hl 3 rfl) ?_
  refine n_iconst (a := 0) hx hb (dg D_L_loadOf (i := 1) rfl) rfl ?_
  refine lv_aload_n hx hb (dg D_L_loadOf (i := 2) rfl) rfl (lv_at hl 0 rfl) ?_
  refine lv_iload_n hx hb (dg D_L_loadOf (i := 3) rfl) rfl (lv_at hl 1 rfl) ?_
  refine lv_iload_n hx hb (dg D_L_loadOf (i := 4) rfl) rfl (lv_at hl 2 rfl) ?_
  refine callWi X hW hS (n := n' + 1) ⟨rfl, rfl⟩ hM (Nat.le_refl _) UVX11_loadOf LK_L_61 rfl (by decide) rfl rfl rfl (Nat.le_of_ble_eq_true rfl) hl (by show 0 + mc ≤ mc; omega) (by show 0 + ms ≤ ms; omega) (dg D_L_loadOf (i := 5) rfl) (fun E ce q9 H1 locs1 hpe hW1 hS1 hce hcv hcl => ?_) (fun r I1 L1 R1 H locs hq hW hS => ?_)
  · have hE := hpx E hpe
    subst hE
    refine vx_catch X.2.2.2.1 [] _ [] htab (fun z hz => absurd hz (by simp)) rfl (by decide) (X.2.2.2.2.1 _ CLx_19) (CAST_IOE X) hce hcv hcl ?_
    refine lv_astore (lv' := [(4, .ref q9), (0, .ref (bs + 0)), (1, .int v1), (2, .int v2), (3, .ref (bs + 86))]) hx hb (dg D_L_loadOf (i := 9) rfl) hl (by decide) rfl (fun ls hl => ?_)
    refine n_iconst (a := 1) hx hb (dg D_L_loadOf (i := 10) rfl) rfl ?_
    exact fin (dg D_L_loadOf (i := 11) rfl) (by omega) (by omega) hW1 hS1 (Or.inr ⟨_, List.mem_singleton.mpr rfl, rfl, hpe, rfl, rfl, rfl⟩)
  · refine lv_i2l (v := r.toInt64) hx hb (dg D_L_loadOf (i := 6) rfl) rfl ?_
    refine r_last (k := 86) (j := 0) (v := r.toInt64) X hW hS rfl (by decide) rfl (by decide) (by decide) (dg D_L_loadOf (i := 7) rfl) (fun H locs hW hS => ?_)
    refine lv_goto (tgt := 17) hx hb (dg D_L_loadOf (i := 8) rfl) (by decide) ?_
    refine n_iconst (a := 0) hx hb (dg D_L_loadOf (i := 12) rfl) rfl ?_
    exact fin (dg D_L_loadOf (i := 13) rfl) (by omega) (by omega) hW hS (Or.inl ⟨rfl, r, L1, hq, rfl⟩)

set_option maxHeartbeats 400000 in
set_option maxRecDepth 100000 in
theorem w_gangOf {l : Launch} {G : va_G} {bs : Nat} {cy : Nat → ClassId} {I : CI} {L : CL} {R : CR} (v1 : Int32) (v2 : Int32) {Q' : Int32 → CI → CL → CR → Prop} {PX' : String → Prop} {n' mc ms : Nat} (hM : XTi l G bs cy MX11_gangOf n' [.ref (bs + 0), .int v1, .int v2] I L R Q' PX' mc ms) (hpx : ∀ E, PX' E → E = IOE) : WTi l G bs cy ML_gangOf [(0, 10, 13, 19)] (n' + 1) [.ref (bs + 0), .int v1, .int v2, .ref (bs + 86)] I L R (WQ I L R Q' PX' [(IOE, 1)]) mc ms := by
  refine WTi.of (own := RL) pn_RL rfl (Nat.le_of_ble_eq_true rfl) ?_
  intro p e s m args below meth c Qf X hW hS htab fin ls hl
  have hx := X.1
  have hb := X.2.1
  have hl : lv_has ls 5 [(0, .ref (bs + 0)), (1, .int v1), (2, .int v2), (3, .ref (bs + 86))] := hl
  refine lv_aload_n hx hb (dg D_L_gangOf (i := 0) rfl) rfl (lv_at hl 3 rfl) ?_
  refine n_iconst (a := 0) hx hb (dg D_L_gangOf (i := 1) rfl) rfl ?_
  refine lv_aload_n hx hb (dg D_L_gangOf (i := 2) rfl) rfl (lv_at hl 0 rfl) ?_
  refine lv_iload_n hx hb (dg D_L_gangOf (i := 3) rfl) rfl (lv_at hl 1 rfl) ?_
  refine lv_iload_n hx hb (dg D_L_gangOf (i := 4) rfl) rfl (lv_at hl 2 rfl) ?_
  refine callWi X hW hS (n := n' + 1) ⟨rfl, rfl⟩ hM (Nat.le_refl _) UVX11_gangOf LK_L_64 rfl (by decide) rfl rfl rfl (Nat.le_of_ble_eq_true rfl) hl (by show 0 + mc ≤ mc; omega) (by show 0 + ms ≤ ms; omega) (dg D_L_gangOf (i := 5) rfl) (fun E ce q9 H1 locs1 hpe hW1 hS1 hce hcv hcl => ?_) (fun r I1 L1 R1 H locs hq hW hS => ?_)
  · have hE := hpx E hpe
    subst hE
    refine vx_catch X.2.2.2.1 [] _ [] htab (fun z hz => absurd hz (by simp)) rfl (by decide) (X.2.2.2.2.1 _ CLx_19) (CAST_IOE X) hce hcv hcl ?_
    refine lv_astore (lv' := [(4, .ref q9), (0, .ref (bs + 0)), (1, .int v1), (2, .int v2), (3, .ref (bs + 86))]) hx hb (dg D_L_gangOf (i := 9) rfl) hl (by decide) rfl (fun ls hl => ?_)
    refine n_iconst (a := 1) hx hb (dg D_L_gangOf (i := 10) rfl) rfl ?_
    exact fin (dg D_L_gangOf (i := 11) rfl) (by omega) (by omega) hW1 hS1 (Or.inr ⟨_, List.mem_singleton.mpr rfl, rfl, hpe, rfl, rfl, rfl⟩)
  · refine lv_i2l (v := r.toInt64) hx hb (dg D_L_gangOf (i := 6) rfl) rfl ?_
    refine r_last (k := 86) (j := 0) (v := r.toInt64) X hW hS rfl (by decide) rfl (by decide) (by decide) (dg D_L_gangOf (i := 7) rfl) (fun H locs hW hS => ?_)
    refine lv_goto (tgt := 17) hx hb (dg D_L_gangOf (i := 8) rfl) (by decide) ?_
    refine n_iconst (a := 0) hx hb (dg D_L_gangOf (i := 12) rfl) rfl ?_
    exact fin (dg D_L_gangOf (i := 13) rfl) (by omega) (by omega) hW hS (Or.inl ⟨rfl, r, L1, hq, rfl⟩)

set_option maxHeartbeats 400000 in
set_option maxRecDepth 100000 in
theorem w_paintedSpans {l : Launch} {G : va_G} {bs : Nat} {cy : Nat → ClassId} {I : CI} {L : CL} {R : CR} (v1 : Int32) {Q' : Int32 → CI → CL → CR → Prop} {PX' : String → Prop} {n' mc ms : Nat} (hM : XTi l G bs cy MX11_paintedSpans n' [.ref (bs + 0), .int v1] I L R Q' PX' mc ms) (hpx : ∀ E, PX' E → E = IOE) : WTi l G bs cy ML_paintedSpans [(0, 9, 12, 19)] (n' + 1) [.ref (bs + 0), .int v1, .ref (bs + 86)] I L R (WQ I L R Q' PX' [(IOE, 1)]) mc ms := by
  refine WTi.of (own := RL) pn_RL rfl (Nat.le_of_ble_eq_true rfl) ?_
  intro p e s m args below meth c Qf X hW hS htab fin ls hl
  have hx := X.1
  have hb := X.2.1
  have hl : lv_has ls 4 [(0, .ref (bs + 0)), (1, .int v1), (2, .ref (bs + 86))] := hl
  refine lv_aload_n hx hb (dg D_L_paintedSpans (i := 0) rfl) rfl (lv_at hl 2 rfl) ?_
  refine n_iconst (a := 0) hx hb (dg D_L_paintedSpans (i := 1) rfl) rfl ?_
  refine lv_aload_n hx hb (dg D_L_paintedSpans (i := 2) rfl) rfl (lv_at hl 0 rfl) ?_
  refine lv_iload_n hx hb (dg D_L_paintedSpans (i := 3) rfl) rfl (lv_at hl 1 rfl) ?_
  refine callWi X hW hS (n := n' + 1) ⟨rfl, rfl⟩ hM (Nat.le_refl _) UVX11_paintedSpans LK_L_67 rfl (by decide) rfl rfl rfl (Nat.le_of_ble_eq_true rfl) hl (by show 0 + mc ≤ mc; omega) (by show 0 + ms ≤ ms; omega) (dg D_L_paintedSpans (i := 4) rfl) (fun E ce q9 H1 locs1 hpe hW1 hS1 hce hcv hcl => ?_) (fun r I1 L1 R1 H locs hq hW hS => ?_)
  · have hE := hpx E hpe
    subst hE
    refine vx_catch X.2.2.2.1 [] _ [] htab (fun z hz => absurd hz (by simp)) rfl (by decide) (X.2.2.2.2.1 _ CLx_19) (CAST_IOE X) hce hcv hcl ?_
    refine lv_astore_n (lv' := [(3, .ref q9), (0, .ref (bs + 0)), (1, .int v1), (2, .ref (bs + 86))]) hx hb (dg D_L_paintedSpans (i := 8) rfl) rfl hl (by decide) rfl (fun ls hl => ?_)
    refine n_iconst (a := 1) hx hb (dg D_L_paintedSpans (i := 9) rfl) rfl ?_
    exact fin (dg D_L_paintedSpans (i := 10) rfl) (by omega) (by omega) hW1 hS1 (Or.inr ⟨_, List.mem_singleton.mpr rfl, rfl, hpe, rfl, rfl, rfl⟩)
  · refine lv_i2l (v := r.toInt64) hx hb (dg D_L_paintedSpans (i := 5) rfl) rfl ?_
    refine r_last (k := 86) (j := 0) (v := r.toInt64) X hW hS rfl (by decide) rfl (by decide) (by decide) (dg D_L_paintedSpans (i := 6) rfl) (fun H locs hW hS => ?_)
    refine lv_goto (tgt := 15) hx hb (dg D_L_paintedSpans (i := 7) rfl) (by decide) ?_
    refine n_iconst (a := 0) hx hb (dg D_L_paintedSpans (i := 11) rfl) rfl ?_
    exact fin (dg D_L_paintedSpans (i := 12) rfl) (by omega) (by omega) hW hS (Or.inl ⟨rfl, r, L1, hq, rfl⟩)

set_option maxHeartbeats 400000 in
set_option maxRecDepth 100000 in
theorem w_lanesShut {l : Launch} {G : va_G} {bs : Nat} {cy : Nat → ClassId} {I : CI} {L : CL} {R : CR} (v1 : Int32) {Q' : Int32 → CI → CL → CR → Prop} {PX' : String → Prop} {n' mc ms : Nat} (hM : XTi l G bs cy MX11_lanesShut n' [.ref (bs + 0), .int v1] I L R Q' PX' mc ms) (hpx : ∀ E, PX' E → E = IOE) : WTi l G bs cy ML_lanesShut [(0, 9, 12, 19)] (n' + 1) [.ref (bs + 0), .int v1, .ref (bs + 86)] I L R (WQ I L R Q' PX' [(IOE, 1)]) mc ms := by
  refine WTi.of (own := RL) pn_RL rfl (Nat.le_of_ble_eq_true rfl) ?_
  intro p e s m args below meth c Qf X hW hS htab fin ls hl
  have hx := X.1
  have hb := X.2.1
  have hl : lv_has ls 4 [(0, .ref (bs + 0)), (1, .int v1), (2, .ref (bs + 86))] := hl
  refine lv_aload_n hx hb (dg D_L_lanesShut (i := 0) rfl) rfl (lv_at hl 2 rfl) ?_
  refine n_iconst (a := 0) hx hb (dg D_L_lanesShut (i := 1) rfl) rfl ?_
  refine lv_aload_n hx hb (dg D_L_lanesShut (i := 2) rfl) rfl (lv_at hl 0 rfl) ?_
  refine lv_iload_n hx hb (dg D_L_lanesShut (i := 3) rfl) rfl (lv_at hl 1 rfl) ?_
  refine callWi X hW hS (n := n' + 1) ⟨rfl, rfl⟩ hM (Nat.le_refl _) UVX11_lanesShut LK_L_70 rfl (by decide) rfl rfl rfl (Nat.le_of_ble_eq_true rfl) hl (by show 0 + mc ≤ mc; omega) (by show 0 + ms ≤ ms; omega) (dg D_L_lanesShut (i := 4) rfl) (fun E ce q9 H1 locs1 hpe hW1 hS1 hce hcv hcl => ?_) (fun r I1 L1 R1 H locs hq hW hS => ?_)
  · have hE := hpx E hpe
    subst hE
    refine vx_catch X.2.2.2.1 [] _ [] htab (fun z hz => absurd hz (by simp)) rfl (by decide) (X.2.2.2.2.1 _ CLx_19) (CAST_IOE X) hce hcv hcl ?_
    refine lv_astore_n (lv' := [(3, .ref q9), (0, .ref (bs + 0)), (1, .int v1), (2, .ref (bs + 86))]) hx hb (dg D_L_lanesShut (i := 8) rfl) rfl hl (by decide) rfl (fun ls hl => ?_)
    refine n_iconst (a := 1) hx hb (dg D_L_lanesShut (i := 9) rfl) rfl ?_
    exact fin (dg D_L_lanesShut (i := 10) rfl) (by omega) (by omega) hW1 hS1 (Or.inr ⟨_, List.mem_singleton.mpr rfl, rfl, hpe, rfl, rfl, rfl⟩)
  · refine lv_i2l (v := r.toInt64) hx hb (dg D_L_lanesShut (i := 5) rfl) rfl ?_
    refine r_last (k := 86) (j := 0) (v := r.toInt64) X hW hS rfl (by decide) rfl (by decide) (by decide) (dg D_L_lanesShut (i := 6) rfl) (fun H locs hW hS => ?_)
    refine lv_goto (tgt := 15) hx hb (dg D_L_lanesShut (i := 7) rfl) (by decide) ?_
    refine n_iconst (a := 0) hx hb (dg D_L_lanesShut (i := 11) rfl) rfl ?_
    exact fin (dg D_L_lanesShut (i := 12) rfl) (by omega) (by omega) hW hS (Or.inl ⟨rfl, r, L1, hq, rfl⟩)

set_option maxHeartbeats 400000 in
set_option maxRecDepth 100000 in
theorem w_daysUsed {l : Launch} {G : va_G} {bs : Nat} {cy : Nat → ClassId} {I : CI} {L : CL} {R : CR} (v1 : Int32) (v2 : Int32) {Q' : Int32 → CI → CL → CR → Prop} {PX' : String → Prop} {n' mc ms : Nat} (hM : XTi l G bs cy MX11_daysUsed n' [.ref (bs + 0), .int v1, .int v2] I L R Q' PX' mc ms) (hpx : ∀ E, PX' E → E = IOE) : WTi l G bs cy ML_daysUsed [(0, 10, 13, 19)] (n' + 1) [.ref (bs + 0), .int v1, .int v2, .ref (bs + 86)] I L R (WQ I L R Q' PX' [(IOE, 1)]) mc ms := by
  refine WTi.of (own := RL) pn_RL rfl (Nat.le_of_ble_eq_true rfl) ?_
  intro p e s m args below meth c Qf X hW hS htab fin ls hl
  have hx := X.1
  have hb := X.2.1
  have hl : lv_has ls 5 [(0, .ref (bs + 0)), (1, .int v1), (2, .int v2), (3, .ref (bs + 86))] := hl
  refine lv_aload_n hx hb (dg D_L_daysUsed (i := 0) rfl) rfl (lv_at hl 3 rfl) ?_
  refine n_iconst (a := 0) hx hb (dg D_L_daysUsed (i := 1) rfl) rfl ?_
  refine lv_aload_n hx hb (dg D_L_daysUsed (i := 2) rfl) rfl (lv_at hl 0 rfl) ?_
  refine lv_iload_n hx hb (dg D_L_daysUsed (i := 3) rfl) rfl (lv_at hl 1 rfl) ?_
  refine lv_iload_n hx hb (dg D_L_daysUsed (i := 4) rfl) rfl (lv_at hl 2 rfl) ?_
  refine callWi X hW hS (n := n' + 1) ⟨rfl, rfl⟩ hM (Nat.le_refl _) UVX11_daysUsed LK_L_73 rfl (by decide) rfl rfl rfl (Nat.le_of_ble_eq_true rfl) hl (by show 0 + mc ≤ mc; omega) (by show 0 + ms ≤ ms; omega) (dg D_L_daysUsed (i := 5) rfl) (fun E ce q9 H1 locs1 hpe hW1 hS1 hce hcv hcl => ?_) (fun r I1 L1 R1 H locs hq hW hS => ?_)
  · have hE := hpx E hpe
    subst hE
    refine vx_catch X.2.2.2.1 [] _ [] htab (fun z hz => absurd hz (by simp)) rfl (by decide) (X.2.2.2.2.1 _ CLx_19) (CAST_IOE X) hce hcv hcl ?_
    refine lv_astore (lv' := [(4, .ref q9), (0, .ref (bs + 0)), (1, .int v1), (2, .int v2), (3, .ref (bs + 86))]) hx hb (dg D_L_daysUsed (i := 9) rfl) hl (by decide) rfl (fun ls hl => ?_)
    refine n_iconst (a := 1) hx hb (dg D_L_daysUsed (i := 10) rfl) rfl ?_
    exact fin (dg D_L_daysUsed (i := 11) rfl) (by omega) (by omega) hW1 hS1 (Or.inr ⟨_, List.mem_singleton.mpr rfl, rfl, hpe, rfl, rfl, rfl⟩)
  · refine lv_i2l (v := r.toInt64) hx hb (dg D_L_daysUsed (i := 6) rfl) rfl ?_
    refine r_last (k := 86) (j := 0) (v := r.toInt64) X hW hS rfl (by decide) rfl (by decide) (by decide) (dg D_L_daysUsed (i := 7) rfl) (fun H locs hW hS => ?_)
    refine lv_goto (tgt := 17) hx hb (dg D_L_daysUsed (i := 8) rfl) (by decide) ?_
    refine n_iconst (a := 0) hx hb (dg D_L_daysUsed (i := 12) rfl) rfl ?_
    exact fin (dg D_L_daysUsed (i := 13) rfl) (by omega) (by omega) hW hS (Or.inl ⟨rfl, r, L1, hq, rfl⟩)

set_option maxHeartbeats 400000 in
set_option maxRecDepth 100000 in
theorem w_laneDays {l : Launch} {G : va_G} {bs : Nat} {cy : Nat → ClassId} {I : CI} {L : CL} {R : CR} (v1 : Int32) (v2 : Int32) {Q' : Int32 → CI → CL → CR → Prop} {PX' : String → Prop} {n' mc ms : Nat} (hM : XTi l G bs cy MX11_laneDays n' [.ref (bs + 0), .int v1, .int v2] I L R Q' PX' mc ms) (hpx : ∀ E, PX' E → E = IOE) : WTi l G bs cy ML_laneDays [(0, 10, 13, 19)] (n' + 1) [.ref (bs + 0), .int v1, .int v2, .ref (bs + 86)] I L R (WQ I L R Q' PX' [(IOE, 1)]) mc ms := by
  refine WTi.of (own := RL) pn_RL rfl (Nat.le_of_ble_eq_true rfl) ?_
  intro p e s m args below meth c Qf X hW hS htab fin ls hl
  have hx := X.1
  have hb := X.2.1
  have hl : lv_has ls 5 [(0, .ref (bs + 0)), (1, .int v1), (2, .int v2), (3, .ref (bs + 86))] := hl
  refine lv_aload_n hx hb (dg D_L_laneDays (i := 0) rfl) rfl (lv_at hl 3 rfl) ?_
  refine n_iconst (a := 0) hx hb (dg D_L_laneDays (i := 1) rfl) rfl ?_
  refine lv_aload_n hx hb (dg D_L_laneDays (i := 2) rfl) rfl (lv_at hl 0 rfl) ?_
  refine lv_iload_n hx hb (dg D_L_laneDays (i := 3) rfl) rfl (lv_at hl 1 rfl) ?_
  refine lv_iload_n hx hb (dg D_L_laneDays (i := 4) rfl) rfl (lv_at hl 2 rfl) ?_
  refine callWi X hW hS (n := n' + 1) ⟨rfl, rfl⟩ hM (Nat.le_refl _) UVX11_laneDays LK_L_76 rfl (by decide) rfl rfl rfl (Nat.le_of_ble_eq_true rfl) hl (by show 0 + mc ≤ mc; omega) (by show 0 + ms ≤ ms; omega) (dg D_L_laneDays (i := 5) rfl) (fun E ce q9 H1 locs1 hpe hW1 hS1 hce hcv hcl => ?_) (fun r I1 L1 R1 H locs hq hW hS => ?_)
  · have hE := hpx E hpe
    subst hE
    refine vx_catch X.2.2.2.1 [] _ [] htab (fun z hz => absurd hz (by simp)) rfl (by decide) (X.2.2.2.2.1 _ CLx_19) (CAST_IOE X) hce hcv hcl ?_
    refine lv_astore (lv' := [(4, .ref q9), (0, .ref (bs + 0)), (1, .int v1), (2, .int v2), (3, .ref (bs + 86))]) hx hb (dg D_L_laneDays (i := 9) rfl) hl (by decide) rfl (fun ls hl => ?_)
    refine n_iconst (a := 1) hx hb (dg D_L_laneDays (i := 10) rfl) rfl ?_
    exact fin (dg D_L_laneDays (i := 11) rfl) (by omega) (by omega) hW1 hS1 (Or.inr ⟨_, List.mem_singleton.mpr rfl, rfl, hpe, rfl, rfl, rfl⟩)
  · refine lv_i2l (v := r.toInt64) hx hb (dg D_L_laneDays (i := 6) rfl) rfl ?_
    refine r_last (k := 86) (j := 0) (v := r.toInt64) X hW hS rfl (by decide) rfl (by decide) (by decide) (dg D_L_laneDays (i := 7) rfl) (fun H locs hW hS => ?_)
    refine lv_goto (tgt := 17) hx hb (dg D_L_laneDays (i := 8) rfl) (by decide) ?_
    refine n_iconst (a := 0) hx hb (dg D_L_laneDays (i := 12) rfl) rfl ?_
    exact fin (dg D_L_laneDays (i := 13) rfl) (by omega) (by omega) hW hS (Or.inl ⟨rfl, r, L1, hq, rfl⟩)

set_option maxHeartbeats 400000 in
set_option maxRecDepth 100000 in
theorem w_trafficLoss {l : Launch} {G : va_G} {bs : Nat} {cy : Nat → ClassId} {I : CI} {L : CL} {R : CR} (v1 : Int32) {Q' : Int32 → CI → CL → CR → Prop} {PX' : String → Prop} {n' mc ms : Nat} (hM : XTi l G bs cy MX11_trafficLoss n' [.ref (bs + 0), .int v1] I L R Q' PX' mc ms) (hpx : ∀ E, PX' E → E = IOE) : WTi l G bs cy ML_trafficLoss [(0, 9, 12, 19)] (n' + 1) [.ref (bs + 0), .int v1, .ref (bs + 86)] I L R (WQ I L R Q' PX' [(IOE, 1)]) mc ms := by
  refine WTi.of (own := RL) pn_RL rfl (Nat.le_of_ble_eq_true rfl) ?_
  intro p e s m args below meth c Qf X hW hS htab fin ls hl
  have hx := X.1
  have hb := X.2.1
  have hl : lv_has ls 4 [(0, .ref (bs + 0)), (1, .int v1), (2, .ref (bs + 86))] := hl
  refine lv_aload_n hx hb (dg D_L_trafficLoss (i := 0) rfl) rfl (lv_at hl 2 rfl) ?_
  refine n_iconst (a := 0) hx hb (dg D_L_trafficLoss (i := 1) rfl) rfl ?_
  refine lv_aload_n hx hb (dg D_L_trafficLoss (i := 2) rfl) rfl (lv_at hl 0 rfl) ?_
  refine lv_iload_n hx hb (dg D_L_trafficLoss (i := 3) rfl) rfl (lv_at hl 1 rfl) ?_
  refine callWi X hW hS (n := n' + 1) ⟨rfl, rfl⟩ hM (Nat.le_refl _) UVX11_trafficLoss LK_L_79 rfl (by decide) rfl rfl rfl (Nat.le_of_ble_eq_true rfl) hl (by show 0 + mc ≤ mc; omega) (by show 0 + ms ≤ ms; omega) (dg D_L_trafficLoss (i := 4) rfl) (fun E ce q9 H1 locs1 hpe hW1 hS1 hce hcv hcl => ?_) (fun r I1 L1 R1 H locs hq hW hS => ?_)
  · have hE := hpx E hpe
    subst hE
    refine vx_catch X.2.2.2.1 [] _ [] htab (fun z hz => absurd hz (by simp)) rfl (by decide) (X.2.2.2.2.1 _ CLx_19) (CAST_IOE X) hce hcv hcl ?_
    refine lv_astore_n (lv' := [(3, .ref q9), (0, .ref (bs + 0)), (1, .int v1), (2, .ref (bs + 86))]) hx hb (dg D_L_trafficLoss (i := 8) rfl) rfl hl (by decide) rfl (fun ls hl => ?_)
    refine n_iconst (a := 1) hx hb (dg D_L_trafficLoss (i := 9) rfl) rfl ?_
    exact fin (dg D_L_trafficLoss (i := 10) rfl) (by omega) (by omega) hW1 hS1 (Or.inr ⟨_, List.mem_singleton.mpr rfl, rfl, hpe, rfl, rfl, rfl⟩)
  · refine lv_i2l (v := r.toInt64) hx hb (dg D_L_trafficLoss (i := 5) rfl) rfl ?_
    refine r_last (k := 86) (j := 0) (v := r.toInt64) X hW hS rfl (by decide) rfl (by decide) (by decide) (dg D_L_trafficLoss (i := 6) rfl) (fun H locs hW hS => ?_)
    refine lv_goto (tgt := 15) hx hb (dg D_L_trafficLoss (i := 7) rfl) (by decide) ?_
    refine n_iconst (a := 0) hx hb (dg D_L_trafficLoss (i := 11) rfl) rfl ?_
    exact fin (dg D_L_trafficLoss (i := 12) rfl) (by omega) (by omega) hW hS (Or.inl ⟨rfl, r, L1, hq, rfl⟩)

set_option maxHeartbeats 400000 in
set_option maxRecDepth 100000 in
theorem w_wages {l : Launch} {G : va_G} {bs : Nat} {cy : Nat → ClassId} {I : CI} {L : CL} {R : CR} (v1 : Int32) {Q' : Int32 → CI → CL → CR → Prop} {PX' : String → Prop} {n' mc ms : Nat} (hM : XTi l G bs cy MX11_wages n' [.ref (bs + 0), .int v1] I L R Q' PX' mc ms) (hpx : ∀ E, PX' E → E = IOE) : WTi l G bs cy ML_wages [(0, 9, 12, 19)] (n' + 1) [.ref (bs + 0), .int v1, .ref (bs + 86)] I L R (WQ I L R Q' PX' [(IOE, 1)]) mc ms := by
  refine WTi.of (own := RL) pn_RL rfl (Nat.le_of_ble_eq_true rfl) ?_
  intro p e s m args below meth c Qf X hW hS htab fin ls hl
  have hx := X.1
  have hb := X.2.1
  have hl : lv_has ls 4 [(0, .ref (bs + 0)), (1, .int v1), (2, .ref (bs + 86))] := hl
  refine lv_aload_n hx hb (dg D_L_wages (i := 0) rfl) rfl (lv_at hl 2 rfl) ?_
  refine n_iconst (a := 0) hx hb (dg D_L_wages (i := 1) rfl) rfl ?_
  refine lv_aload_n hx hb (dg D_L_wages (i := 2) rfl) rfl (lv_at hl 0 rfl) ?_
  refine lv_iload_n hx hb (dg D_L_wages (i := 3) rfl) rfl (lv_at hl 1 rfl) ?_
  refine callWi X hW hS (n := n' + 1) ⟨rfl, rfl⟩ hM (Nat.le_refl _) UVX11_wages LK_L_82 rfl (by decide) rfl rfl rfl (Nat.le_of_ble_eq_true rfl) hl (by show 0 + mc ≤ mc; omega) (by show 0 + ms ≤ ms; omega) (dg D_L_wages (i := 4) rfl) (fun E ce q9 H1 locs1 hpe hW1 hS1 hce hcv hcl => ?_) (fun r I1 L1 R1 H locs hq hW hS => ?_)
  · have hE := hpx E hpe
    subst hE
    refine vx_catch X.2.2.2.1 [] _ [] htab (fun z hz => absurd hz (by simp)) rfl (by decide) (X.2.2.2.2.1 _ CLx_19) (CAST_IOE X) hce hcv hcl ?_
    refine lv_astore_n (lv' := [(3, .ref q9), (0, .ref (bs + 0)), (1, .int v1), (2, .ref (bs + 86))]) hx hb (dg D_L_wages (i := 8) rfl) rfl hl (by decide) rfl (fun ls hl => ?_)
    refine n_iconst (a := 1) hx hb (dg D_L_wages (i := 9) rfl) rfl ?_
    exact fin (dg D_L_wages (i := 10) rfl) (by omega) (by omega) hW1 hS1 (Or.inr ⟨_, List.mem_singleton.mpr rfl, rfl, hpe, rfl, rfl, rfl⟩)
  · refine lv_i2l (v := r.toInt64) hx hb (dg D_L_wages (i := 5) rfl) rfl ?_
    refine r_last (k := 86) (j := 0) (v := r.toInt64) X hW hS rfl (by decide) rfl (by decide) (by decide) (dg D_L_wages (i := 6) rfl) (fun H locs hW hS => ?_)
    refine lv_goto (tgt := 15) hx hb (dg D_L_wages (i := 7) rfl) (by decide) ?_
    refine n_iconst (a := 0) hx hb (dg D_L_wages (i := 11) rfl) rfl ?_
    exact fin (dg D_L_wages (i := 12) rfl) (by omega) (by omega) hW hS (Or.inl ⟨rfl, r, L1, hq, rfl⟩)

set_option maxHeartbeats 400000 in
set_option maxRecDepth 100000 in
theorem w_idleDays {l : Launch} {G : va_G} {bs : Nat} {cy : Nat → ClassId} {I : CI} {L : CL} {R : CR} (v1 : Int32) {Q' : Int32 → CI → CL → CR → Prop} {PX' : String → Prop} {n' mc ms : Nat} (hM : XTi l G bs cy MX11_idleDays n' [.ref (bs + 0), .int v1] I L R Q' PX' mc ms) (hpx : ∀ E, PX' E → E = IOE) : WTi l G bs cy ML_idleDays [(0, 9, 12, 19)] (n' + 1) [.ref (bs + 0), .int v1, .ref (bs + 86)] I L R (WQ I L R Q' PX' [(IOE, 1)]) mc ms := by
  refine WTi.of (own := RL) pn_RL rfl (Nat.le_of_ble_eq_true rfl) ?_
  intro p e s m args below meth c Qf X hW hS htab fin ls hl
  have hx := X.1
  have hb := X.2.1
  have hl : lv_has ls 4 [(0, .ref (bs + 0)), (1, .int v1), (2, .ref (bs + 86))] := hl
  refine lv_aload_n hx hb (dg D_L_idleDays (i := 0) rfl) rfl (lv_at hl 2 rfl) ?_
  refine n_iconst (a := 0) hx hb (dg D_L_idleDays (i := 1) rfl) rfl ?_
  refine lv_aload_n hx hb (dg D_L_idleDays (i := 2) rfl) rfl (lv_at hl 0 rfl) ?_
  refine lv_iload_n hx hb (dg D_L_idleDays (i := 3) rfl) rfl (lv_at hl 1 rfl) ?_
  refine callWi X hW hS (n := n' + 1) ⟨rfl, rfl⟩ hM (Nat.le_refl _) UVX11_idleDays LK_L_85 rfl (by decide) rfl rfl rfl (Nat.le_of_ble_eq_true rfl) hl (by show 0 + mc ≤ mc; omega) (by show 0 + ms ≤ ms; omega) (dg D_L_idleDays (i := 4) rfl) (fun E ce q9 H1 locs1 hpe hW1 hS1 hce hcv hcl => ?_) (fun r I1 L1 R1 H locs hq hW hS => ?_)
  · have hE := hpx E hpe
    subst hE
    refine vx_catch X.2.2.2.1 [] _ [] htab (fun z hz => absurd hz (by simp)) rfl (by decide) (X.2.2.2.2.1 _ CLx_19) (CAST_IOE X) hce hcv hcl ?_
    refine lv_astore_n (lv' := [(3, .ref q9), (0, .ref (bs + 0)), (1, .int v1), (2, .ref (bs + 86))]) hx hb (dg D_L_idleDays (i := 8) rfl) rfl hl (by decide) rfl (fun ls hl => ?_)
    refine n_iconst (a := 1) hx hb (dg D_L_idleDays (i := 9) rfl) rfl ?_
    exact fin (dg D_L_idleDays (i := 10) rfl) (by omega) (by omega) hW1 hS1 (Or.inr ⟨_, List.mem_singleton.mpr rfl, rfl, hpe, rfl, rfl, rfl⟩)
  · refine lv_i2l (v := r.toInt64) hx hb (dg D_L_idleDays (i := 5) rfl) rfl ?_
    refine r_last (k := 86) (j := 0) (v := r.toInt64) X hW hS rfl (by decide) rfl (by decide) (by decide) (dg D_L_idleDays (i := 6) rfl) (fun H locs hW hS => ?_)
    refine lv_goto (tgt := 15) hx hb (dg D_L_idleDays (i := 7) rfl) (by decide) ?_
    refine n_iconst (a := 0) hx hb (dg D_L_idleDays (i := 11) rfl) rfl ?_
    exact fin (dg D_L_idleDays (i := 12) rfl) (by omega) (by omega) hW hS (Or.inl ⟨rfl, r, L1, hq, rfl⟩)

set_option maxHeartbeats 400000 in
set_option maxRecDepth 100000 in
theorem w_refusal {l : Launch} {G : va_G} {bs : Nat} {cy : Nat → ClassId} {I : CI} {L : CL} {R : CR} (v1 : Int32) (v2 : Int32) (v3 : Int32) {Q' : Int32 → CI → CL → CR → Prop} {PX' : String → Prop} {n' mc ms : Nat} (hM : XTi l G bs cy MX11_refusal n' [.ref (bs + 0), .int v1, .int v2, .int v3] I L R Q' PX' mc ms) (hpx : ∀ E, PX' E → E = IOE) : WTi l G bs cy ML_refusal [(0, 12, 15, 19)] (n' + 1) [.ref (bs + 0), .int v1, .int v2, .int v3, .ref (bs + 86)] I L R (WQ I L R Q' PX' [(IOE, 1)]) mc ms := by
  refine WTi.of (own := RL) pn_RL rfl (Nat.le_of_ble_eq_true rfl) ?_
  intro p e s m args below meth c Qf X hW hS htab fin ls hl
  have hx := X.1
  have hb := X.2.1
  have hl : lv_has ls 6 [(0, .ref (bs + 0)), (1, .int v1), (2, .int v2), (3, .int v3), (4, .ref (bs + 86))] := hl
  refine lv_aload hx hb (dg D_L_refusal (i := 0) rfl) (lv_at hl 4 rfl) ?_
  refine n_iconst (a := 0) hx hb (dg D_L_refusal (i := 1) rfl) rfl ?_
  refine lv_aload_n hx hb (dg D_L_refusal (i := 2) rfl) rfl (lv_at hl 0 rfl) ?_
  refine lv_iload_n hx hb (dg D_L_refusal (i := 3) rfl) rfl (lv_at hl 1 rfl) ?_
  refine lv_iload_n hx hb (dg D_L_refusal (i := 4) rfl) rfl (lv_at hl 2 rfl) ?_
  refine lv_iload_n hx hb (dg D_L_refusal (i := 5) rfl) rfl (lv_at hl 3 rfl) ?_
  refine callWi X hW hS (n := n' + 1) ⟨rfl, rfl⟩ hM (Nat.le_refl _) UVX11_refusal LK_L_88 rfl (by decide) rfl rfl rfl (Nat.le_of_ble_eq_true rfl) hl (by show 0 + mc ≤ mc; omega) (by show 0 + ms ≤ ms; omega) (dg D_L_refusal (i := 6) rfl) (fun E ce q9 H1 locs1 hpe hW1 hS1 hce hcv hcl => ?_) (fun r I1 L1 R1 H locs hq hW hS => ?_)
  · have hE := hpx E hpe
    subst hE
    refine vx_catch X.2.2.2.1 [] _ [] htab (fun z hz => absurd hz (by simp)) rfl (by decide) (X.2.2.2.2.1 _ CLx_19) (CAST_IOE X) hce hcv hcl ?_
    refine lv_astore (lv' := [(5, .ref q9), (0, .ref (bs + 0)), (1, .int v1), (2, .int v2), (3, .int v3), (4, .ref (bs + 86))]) hx hb (dg D_L_refusal (i := 10) rfl) hl (by decide) rfl (fun ls hl => ?_)
    refine n_iconst (a := 1) hx hb (dg D_L_refusal (i := 11) rfl) rfl ?_
    exact fin (dg D_L_refusal (i := 12) rfl) (by omega) (by omega) hW1 hS1 (Or.inr ⟨_, List.mem_singleton.mpr rfl, rfl, hpe, rfl, rfl, rfl⟩)
  · refine lv_i2l (v := r.toInt64) hx hb (dg D_L_refusal (i := 7) rfl) rfl ?_
    refine r_last (k := 86) (j := 0) (v := r.toInt64) X hW hS rfl (by decide) rfl (by decide) (by decide) (dg D_L_refusal (i := 8) rfl) (fun H locs hW hS => ?_)
    refine lv_goto (tgt := 19) hx hb (dg D_L_refusal (i := 9) rfl) (by decide) ?_
    refine n_iconst (a := 0) hx hb (dg D_L_refusal (i := 13) rfl) rfl ?_
    exact fin (dg D_L_refusal (i := 14) rfl) (by omega) (by omega) hW hS (Or.inl ⟨rfl, r, L1, hq, rfl⟩)

set_option maxHeartbeats 400000 in
set_option maxRecDepth 100000 in
theorem w_possibleGangs {l : Launch} {G : va_G} {bs : Nat} {cy : Nat → ClassId} {I : CI} {L : CL} {R : CR} (v1 : Int32) (v2 : Int32) {Q' : Int32 → CI → CL → CR → Prop} {PX' : String → Prop} {n' mc ms : Nat} (hM : XTi l G bs cy MX11_possibleGangs n' [.ref (bs + 0), .int v1, .int v2] I L R Q' PX' mc ms) (hpx : ∀ E, PX' E → E = IOE) : WTi l G bs cy ML_possibleGangs [(0, 10, 13, 19)] (n' + 1) [.ref (bs + 0), .int v1, .int v2, .ref (bs + 86)] I L R (WQ I L R Q' PX' [(IOE, 1)]) mc ms := by
  refine WTi.of (own := RL) pn_RL rfl (Nat.le_of_ble_eq_true rfl) ?_
  intro p e s m args below meth c Qf X hW hS htab fin ls hl
  have hx := X.1
  have hb := X.2.1
  have hl : lv_has ls 5 [(0, .ref (bs + 0)), (1, .int v1), (2, .int v2), (3, .ref (bs + 86))] := hl
  refine lv_aload_n hx hb (dg D_L_possibleGangs (i := 0) rfl) rfl (lv_at hl 3 rfl) ?_
  refine n_iconst (a := 0) hx hb (dg D_L_possibleGangs (i := 1) rfl) rfl ?_
  refine lv_aload_n hx hb (dg D_L_possibleGangs (i := 2) rfl) rfl (lv_at hl 0 rfl) ?_
  refine lv_iload_n hx hb (dg D_L_possibleGangs (i := 3) rfl) rfl (lv_at hl 1 rfl) ?_
  refine lv_iload_n hx hb (dg D_L_possibleGangs (i := 4) rfl) rfl (lv_at hl 2 rfl) ?_
  refine callWi X hW hS (n := n' + 1) ⟨rfl, rfl⟩ hM (Nat.le_refl _) UVX11_possibleGangs LK_L_92 rfl (by decide) rfl rfl rfl (Nat.le_of_ble_eq_true rfl) hl (by show 0 + mc ≤ mc; omega) (by show 0 + ms ≤ ms; omega) (dg D_L_possibleGangs (i := 5) rfl) (fun E ce q9 H1 locs1 hpe hW1 hS1 hce hcv hcl => ?_) (fun r I1 L1 R1 H locs hq hW hS => ?_)
  · have hE := hpx E hpe
    subst hE
    refine vx_catch X.2.2.2.1 [] _ [] htab (fun z hz => absurd hz (by simp)) rfl (by decide) (X.2.2.2.2.1 _ CLx_19) (CAST_IOE X) hce hcv hcl ?_
    refine lv_astore (lv' := [(4, .ref q9), (0, .ref (bs + 0)), (1, .int v1), (2, .int v2), (3, .ref (bs + 86))]) hx hb (dg D_L_possibleGangs (i := 9) rfl) hl (by decide) rfl (fun ls hl => ?_)
    refine n_iconst (a := 1) hx hb (dg D_L_possibleGangs (i := 10) rfl) rfl ?_
    exact fin (dg D_L_possibleGangs (i := 11) rfl) (by omega) (by omega) hW1 hS1 (Or.inr ⟨_, List.mem_singleton.mpr rfl, rfl, hpe, rfl, rfl, rfl⟩)
  · refine lv_i2l (v := r.toInt64) hx hb (dg D_L_possibleGangs (i := 6) rfl) rfl ?_
    refine r_last (k := 86) (j := 0) (v := r.toInt64) X hW hS rfl (by decide) rfl (by decide) (by decide) (dg D_L_possibleGangs (i := 7) rfl) (fun H locs hW hS => ?_)
    refine lv_goto (tgt := 17) hx hb (dg D_L_possibleGangs (i := 8) rfl) (by decide) ?_
    refine n_iconst (a := 0) hx hb (dg D_L_possibleGangs (i := 12) rfl) rfl ?_
    exact fin (dg D_L_possibleGangs (i := 13) rfl) (by omega) (by omega) hW hS (Or.inl ⟨rfl, r, L1, hq, rfl⟩)

set_option maxHeartbeats 400000 in
set_option maxRecDepth 100000 in
theorem w_firstPossible {l : Launch} {G : va_G} {bs : Nat} {cy : Nat → ClassId} {I : CI} {L : CL} {R : CR} (v1 : Int32) {Q' : Int32 → CI → CL → CR → Prop} {PX' : String → Prop} {n' mc ms : Nat} (hM : XTi l G bs cy MX11_firstPossible n' [.ref (bs + 0), .int v1] I L R Q' PX' mc ms) (hpx : ∀ E, PX' E → E = IOE) : WTi l G bs cy ML_firstPossible [(0, 9, 12, 19)] (n' + 1) [.ref (bs + 0), .int v1, .ref (bs + 86)] I L R (WQ I L R Q' PX' [(IOE, 1)]) mc ms := by
  refine WTi.of (own := RL) pn_RL rfl (Nat.le_of_ble_eq_true rfl) ?_
  intro p e s m args below meth c Qf X hW hS htab fin ls hl
  have hx := X.1
  have hb := X.2.1
  have hl : lv_has ls 4 [(0, .ref (bs + 0)), (1, .int v1), (2, .ref (bs + 86))] := hl
  refine lv_aload_n hx hb (dg D_L_firstPossible (i := 0) rfl) rfl (lv_at hl 2 rfl) ?_
  refine n_iconst (a := 0) hx hb (dg D_L_firstPossible (i := 1) rfl) rfl ?_
  refine lv_aload_n hx hb (dg D_L_firstPossible (i := 2) rfl) rfl (lv_at hl 0 rfl) ?_
  refine lv_iload_n hx hb (dg D_L_firstPossible (i := 3) rfl) rfl (lv_at hl 1 rfl) ?_
  refine callWi X hW hS (n := n' + 1) ⟨rfl, rfl⟩ hM (Nat.le_refl _) UVX11_firstPossible LK_L_95 rfl (by decide) rfl rfl rfl (Nat.le_of_ble_eq_true rfl) hl (by show 0 + mc ≤ mc; omega) (by show 0 + ms ≤ ms; omega) (dg D_L_firstPossible (i := 4) rfl) (fun E ce q9 H1 locs1 hpe hW1 hS1 hce hcv hcl => ?_) (fun r I1 L1 R1 H locs hq hW hS => ?_)
  · have hE := hpx E hpe
    subst hE
    refine vx_catch X.2.2.2.1 [] _ [] htab (fun z hz => absurd hz (by simp)) rfl (by decide) (X.2.2.2.2.1 _ CLx_19) (CAST_IOE X) hce hcv hcl ?_
    refine lv_astore_n (lv' := [(3, .ref q9), (0, .ref (bs + 0)), (1, .int v1), (2, .ref (bs + 86))]) hx hb (dg D_L_firstPossible (i := 8) rfl) rfl hl (by decide) rfl (fun ls hl => ?_)
    refine n_iconst (a := 1) hx hb (dg D_L_firstPossible (i := 9) rfl) rfl ?_
    exact fin (dg D_L_firstPossible (i := 10) rfl) (by omega) (by omega) hW1 hS1 (Or.inr ⟨_, List.mem_singleton.mpr rfl, rfl, hpe, rfl, rfl, rfl⟩)
  · refine lv_i2l (v := r.toInt64) hx hb (dg D_L_firstPossible (i := 5) rfl) rfl ?_
    refine r_last (k := 86) (j := 0) (v := r.toInt64) X hW hS rfl (by decide) rfl (by decide) (by decide) (dg D_L_firstPossible (i := 6) rfl) (fun H locs hW hS => ?_)
    refine lv_goto (tgt := 15) hx hb (dg D_L_firstPossible (i := 7) rfl) (by decide) ?_
    refine n_iconst (a := 0) hx hb (dg D_L_firstPossible (i := 11) rfl) rfl ?_
    exact fin (dg D_L_firstPossible (i := 12) rfl) (by omega) (by omega) hW hS (Or.inl ⟨rfl, r, L1, hq, rfl⟩)

set_option maxHeartbeats 400000 in
set_option maxRecDepth 100000 in
theorem w_bestPainting {l : Launch} {G : va_G} {bs : Nat} {cy : Nat → ClassId} {I : CI} {L : CL} {R : CR} (v1 : Int32) {Q' : Int32 → CI → CL → CR → Prop} {PX' : String → Prop} {n' mc ms : Nat} (hM : XTi l G bs cy MX11_bestPainting n' [.ref (bs + 0), .int v1] I L R Q' PX' mc ms) (hpx : ∀ E, PX' E → E = IOE) : WTi l G bs cy ML_bestPainting [(0, 9, 12, 19)] (n' + 1) [.ref (bs + 0), .int v1, .ref (bs + 86)] I L R (WQ I L R Q' PX' [(IOE, 1)]) mc ms := by
  refine WTi.of (own := RL) pn_RL rfl (Nat.le_of_ble_eq_true rfl) ?_
  intro p e s m args below meth c Qf X hW hS htab fin ls hl
  have hx := X.1
  have hb := X.2.1
  have hl : lv_has ls 4 [(0, .ref (bs + 0)), (1, .int v1), (2, .ref (bs + 86))] := hl
  refine lv_aload_n hx hb (dg D_L_bestPainting (i := 0) rfl) rfl (lv_at hl 2 rfl) ?_
  refine n_iconst (a := 0) hx hb (dg D_L_bestPainting (i := 1) rfl) rfl ?_
  refine lv_aload_n hx hb (dg D_L_bestPainting (i := 2) rfl) rfl (lv_at hl 0 rfl) ?_
  refine lv_iload_n hx hb (dg D_L_bestPainting (i := 3) rfl) rfl (lv_at hl 1 rfl) ?_
  refine callWi X hW hS (n := n' + 1) ⟨rfl, rfl⟩ hM (Nat.le_refl _) UVX11_bestPainting LK_L_98 rfl (by decide) rfl rfl rfl (Nat.le_of_ble_eq_true rfl) hl (by show 0 + mc ≤ mc; omega) (by show 0 + ms ≤ ms; omega) (dg D_L_bestPainting (i := 4) rfl) (fun E ce q9 H1 locs1 hpe hW1 hS1 hce hcv hcl => ?_) (fun r I1 L1 R1 H locs hq hW hS => ?_)
  · have hE := hpx E hpe
    subst hE
    refine vx_catch X.2.2.2.1 [] _ [] htab (fun z hz => absurd hz (by simp)) rfl (by decide) (X.2.2.2.2.1 _ CLx_19) (CAST_IOE X) hce hcv hcl ?_
    refine lv_astore_n (lv' := [(3, .ref q9), (0, .ref (bs + 0)), (1, .int v1), (2, .ref (bs + 86))]) hx hb (dg D_L_bestPainting (i := 8) rfl) rfl hl (by decide) rfl (fun ls hl => ?_)
    refine n_iconst (a := 1) hx hb (dg D_L_bestPainting (i := 9) rfl) rfl ?_
    exact fin (dg D_L_bestPainting (i := 10) rfl) (by omega) (by omega) hW1 hS1 (Or.inr ⟨_, List.mem_singleton.mpr rfl, rfl, hpe, rfl, rfl, rfl⟩)
  · refine lv_i2l (v := r.toInt64) hx hb (dg D_L_bestPainting (i := 5) rfl) rfl ?_
    refine r_last (k := 86) (j := 0) (v := r.toInt64) X hW hS rfl (by decide) rfl (by decide) (by decide) (dg D_L_bestPainting (i := 6) rfl) (fun H locs hW hS => ?_)
    refine lv_goto (tgt := 15) hx hb (dg D_L_bestPainting (i := 7) rfl) (by decide) ?_
    refine n_iconst (a := 0) hx hb (dg D_L_bestPainting (i := 11) rfl) rfl ?_
    exact fin (dg D_L_bestPainting (i := 12) rfl) (by omega) (by omega) hW hS (Or.inl ⟨rfl, r, L1, hq, rfl⟩)

set_option maxHeartbeats 400000 in
set_option maxRecDepth 100000 in
theorem w_shutYears {l : Launch} {G : va_G} {bs : Nat} {cy : Nat → ClassId} {I : CI} {L : CL} {R : CR} (v1 : Int32) {Q' : Int32 → CI → CL → CR → Prop} {PX' : String → Prop} {n' mc ms : Nat} (hM : XTi l G bs cy MX11_shutYears n' [.ref (bs + 0), .int v1] I L R Q' PX' mc ms) (hpx : ∀ E, PX' E → E = IOE) : WTi l G bs cy ML_shutYears [(0, 9, 12, 19)] (n' + 1) [.ref (bs + 0), .int v1, .ref (bs + 86)] I L R (WQ I L R Q' PX' [(IOE, 1)]) mc ms := by
  refine WTi.of (own := RL) pn_RL rfl (Nat.le_of_ble_eq_true rfl) ?_
  intro p e s m args below meth c Qf X hW hS htab fin ls hl
  have hx := X.1
  have hb := X.2.1
  have hl : lv_has ls 4 [(0, .ref (bs + 0)), (1, .int v1), (2, .ref (bs + 86))] := hl
  refine lv_aload_n hx hb (dg D_L_shutYears (i := 0) rfl) rfl (lv_at hl 2 rfl) ?_
  refine n_iconst (a := 0) hx hb (dg D_L_shutYears (i := 1) rfl) rfl ?_
  refine lv_aload_n hx hb (dg D_L_shutYears (i := 2) rfl) rfl (lv_at hl 0 rfl) ?_
  refine lv_iload_n hx hb (dg D_L_shutYears (i := 3) rfl) rfl (lv_at hl 1 rfl) ?_
  refine callWi X hW hS (n := n' + 1) ⟨rfl, rfl⟩ hM (Nat.le_refl _) UVX11_shutYears LK_L_101 rfl (by decide) rfl rfl rfl (Nat.le_of_ble_eq_true rfl) hl (by show 0 + mc ≤ mc; omega) (by show 0 + ms ≤ ms; omega) (dg D_L_shutYears (i := 4) rfl) (fun E ce q9 H1 locs1 hpe hW1 hS1 hce hcv hcl => ?_) (fun r I1 L1 R1 H locs hq hW hS => ?_)
  · have hE := hpx E hpe
    subst hE
    refine vx_catch X.2.2.2.1 [] _ [] htab (fun z hz => absurd hz (by simp)) rfl (by decide) (X.2.2.2.2.1 _ CLx_19) (CAST_IOE X) hce hcv hcl ?_
    refine lv_astore_n (lv' := [(3, .ref q9), (0, .ref (bs + 0)), (1, .int v1), (2, .ref (bs + 86))]) hx hb (dg D_L_shutYears (i := 8) rfl) rfl hl (by decide) rfl (fun ls hl => ?_)
    refine n_iconst (a := 1) hx hb (dg D_L_shutYears (i := 9) rfl) rfl ?_
    exact fin (dg D_L_shutYears (i := 10) rfl) (by omega) (by omega) hW1 hS1 (Or.inr ⟨_, List.mem_singleton.mpr rfl, rfl, hpe, rfl, rfl, rfl⟩)
  · refine lv_i2l (v := r.toInt64) hx hb (dg D_L_shutYears (i := 5) rfl) rfl ?_
    refine r_last (k := 86) (j := 0) (v := r.toInt64) X hW hS rfl (by decide) rfl (by decide) (by decide) (dg D_L_shutYears (i := 6) rfl) (fun H locs hW hS => ?_)
    refine lv_goto (tgt := 15) hx hb (dg D_L_shutYears (i := 7) rfl) (by decide) ?_
    refine n_iconst (a := 0) hx hb (dg D_L_shutYears (i := 11) rfl) rfl ?_
    exact fin (dg D_L_shutYears (i := 12) rfl) (by omega) (by omega) hW hS (Or.inl ⟨rfl, r, L1, hq, rfl⟩)

set_option maxHeartbeats 400000 in
set_option maxRecDepth 100000 in
theorem w_needlessPaintings {l : Launch} {G : va_G} {bs : Nat} {cy : Nat → ClassId} {I : CI} {L : CL} {R : CR} (v1 : Int32) {Q' : Int32 → CI → CL → CR → Prop} {PX' : String → Prop} {n' mc ms : Nat} (hM : XTi l G bs cy MX11_needlessPaintings n' [.ref (bs + 0), .int v1] I L R Q' PX' mc ms) (hpx : ∀ E, PX' E → E = IOE) : WTi l G bs cy ML_needlessPaintings [(0, 9, 12, 19)] (n' + 1) [.ref (bs + 0), .int v1, .ref (bs + 86)] I L R (WQ I L R Q' PX' [(IOE, 1)]) mc ms := by
  refine WTi.of (own := RL) pn_RL rfl (Nat.le_of_ble_eq_true rfl) ?_
  intro p e s m args below meth c Qf X hW hS htab fin ls hl
  have hx := X.1
  have hb := X.2.1
  have hl : lv_has ls 4 [(0, .ref (bs + 0)), (1, .int v1), (2, .ref (bs + 86))] := hl
  refine lv_aload_n hx hb (dg D_L_needlessPaintings (i := 0) rfl) rfl (lv_at hl 2 rfl) ?_
  refine n_iconst (a := 0) hx hb (dg D_L_needlessPaintings (i := 1) rfl) rfl ?_
  refine lv_aload_n hx hb (dg D_L_needlessPaintings (i := 2) rfl) rfl (lv_at hl 0 rfl) ?_
  refine lv_iload_n hx hb (dg D_L_needlessPaintings (i := 3) rfl) rfl (lv_at hl 1 rfl) ?_
  refine callWi X hW hS (n := n' + 1) ⟨rfl, rfl⟩ hM (Nat.le_refl _) UVX11_needlessPaintings LK_L_104 rfl (by decide) rfl rfl rfl (Nat.le_of_ble_eq_true rfl) hl (by show 0 + mc ≤ mc; omega) (by show 0 + ms ≤ ms; omega) (dg D_L_needlessPaintings (i := 4) rfl) (fun E ce q9 H1 locs1 hpe hW1 hS1 hce hcv hcl => ?_) (fun r I1 L1 R1 H locs hq hW hS => ?_)
  · have hE := hpx E hpe
    subst hE
    refine vx_catch X.2.2.2.1 [] _ [] htab (fun z hz => absurd hz (by simp)) rfl (by decide) (X.2.2.2.2.1 _ CLx_19) (CAST_IOE X) hce hcv hcl ?_
    refine lv_astore_n (lv' := [(3, .ref q9), (0, .ref (bs + 0)), (1, .int v1), (2, .ref (bs + 86))]) hx hb (dg D_L_needlessPaintings (i := 8) rfl) rfl hl (by decide) rfl (fun ls hl => ?_)
    refine n_iconst (a := 1) hx hb (dg D_L_needlessPaintings (i := 9) rfl) rfl ?_
    exact fin (dg D_L_needlessPaintings (i := 10) rfl) (by omega) (by omega) hW1 hS1 (Or.inr ⟨_, List.mem_singleton.mpr rfl, rfl, hpe, rfl, rfl, rfl⟩)
  · refine lv_i2l (v := r.toInt64) hx hb (dg D_L_needlessPaintings (i := 5) rfl) rfl ?_
    refine r_last (k := 86) (j := 0) (v := r.toInt64) X hW hS rfl (by decide) rfl (by decide) (by decide) (dg D_L_needlessPaintings (i := 6) rfl) (fun H locs hW hS => ?_)
    refine lv_goto (tgt := 15) hx hb (dg D_L_needlessPaintings (i := 7) rfl) (by decide) ?_
    refine n_iconst (a := 0) hx hb (dg D_L_needlessPaintings (i := 11) rfl) rfl ?_
    exact fin (dg D_L_needlessPaintings (i := 12) rfl) (by omega) (by omega) hW hS (Or.inl ⟨rfl, r, L1, hq, rfl⟩)

set_option maxHeartbeats 400000 in
set_option maxRecDepth 100000 in
theorem w_sufficientSpeed {l : Launch} {G : va_G} {bs : Nat} {cy : Nat → ClassId} {I : CI} {L : CL} {R : CR} (v1 : Int32) {Q' : Int32 → CI → CL → CR → Prop} {PX' : String → Prop} {n' mc ms : Nat} (hM : XTi l G bs cy MX11_sufficientSpeed n' [.ref (bs + 0), .int v1] I L R Q' PX' mc ms) (hpx : ∀ E, PX' E → E = IOE) : WTi l G bs cy ML_sufficientSpeed [(0, 9, 12, 19)] (n' + 1) [.ref (bs + 0), .int v1, .ref (bs + 86)] I L R (WQ I L R Q' PX' [(IOE, 1)]) mc ms := by
  refine WTi.of (own := RL) pn_RL rfl (Nat.le_of_ble_eq_true rfl) ?_
  intro p e s m args below meth c Qf X hW hS htab fin ls hl
  have hx := X.1
  have hb := X.2.1
  have hl : lv_has ls 4 [(0, .ref (bs + 0)), (1, .int v1), (2, .ref (bs + 86))] := hl
  refine lv_aload_n hx hb (dg D_L_sufficientSpeed (i := 0) rfl) rfl (lv_at hl 2 rfl) ?_
  refine n_iconst (a := 0) hx hb (dg D_L_sufficientSpeed (i := 1) rfl) rfl ?_
  refine lv_aload_n hx hb (dg D_L_sufficientSpeed (i := 2) rfl) rfl (lv_at hl 0 rfl) ?_
  refine lv_iload_n hx hb (dg D_L_sufficientSpeed (i := 3) rfl) rfl (lv_at hl 1 rfl) ?_
  refine callWi X hW hS (n := n' + 1) ⟨rfl, rfl⟩ hM (Nat.le_refl _) UVX11_sufficientSpeed LK_L_107 rfl (by decide) rfl rfl rfl (Nat.le_of_ble_eq_true rfl) hl (by show 0 + mc ≤ mc; omega) (by show 0 + ms ≤ ms; omega) (dg D_L_sufficientSpeed (i := 4) rfl) (fun E ce q9 H1 locs1 hpe hW1 hS1 hce hcv hcl => ?_) (fun r I1 L1 R1 H locs hq hW hS => ?_)
  · have hE := hpx E hpe
    subst hE
    refine vx_catch X.2.2.2.1 [] _ [] htab (fun z hz => absurd hz (by simp)) rfl (by decide) (X.2.2.2.2.1 _ CLx_19) (CAST_IOE X) hce hcv hcl ?_
    refine lv_astore_n (lv' := [(3, .ref q9), (0, .ref (bs + 0)), (1, .int v1), (2, .ref (bs + 86))]) hx hb (dg D_L_sufficientSpeed (i := 8) rfl) rfl hl (by decide) rfl (fun ls hl => ?_)
    refine n_iconst (a := 1) hx hb (dg D_L_sufficientSpeed (i := 9) rfl) rfl ?_
    exact fin (dg D_L_sufficientSpeed (i := 10) rfl) (by omega) (by omega) hW1 hS1 (Or.inr ⟨_, List.mem_singleton.mpr rfl, rfl, hpe, rfl, rfl, rfl⟩)
  · refine lv_i2l (v := r.toInt64) hx hb (dg D_L_sufficientSpeed (i := 5) rfl) rfl ?_
    refine r_last (k := 86) (j := 0) (v := r.toInt64) X hW hS rfl (by decide) rfl (by decide) (by decide) (dg D_L_sufficientSpeed (i := 6) rfl) (fun H locs hW hS => ?_)
    refine lv_goto (tgt := 15) hx hb (dg D_L_sufficientSpeed (i := 7) rfl) (by decide) ?_
    refine n_iconst (a := 0) hx hb (dg D_L_sufficientSpeed (i := 11) rfl) rfl ?_
    exact fin (dg D_L_sufficientSpeed (i := 12) rfl) (by omega) (by omega) hW hS (Or.inl ⟨rfl, r, L1, hq, rfl⟩)

set_option maxHeartbeats 400000 in
set_option maxRecDepth 100000 in
theorem w_paint {l : Launch} {G : va_G} {bs : Nat} {cy : Nat → ClassId} {I : CI} {L : CL} {R : CR} (v1 : Int32) (v2 : Int32) (v3 : Int32) {Q' : Int32 → CI → CL → CR → Prop} {PX' : String → Prop} {n' mc ms : Nat} (hM : XTi l G bs cy MX11_paint n' [.ref (bs + 0), .int v1, .int v2, .int v3] I L R Q' PX' mc ms) (hpx : ∀ E, PX' E → E = IOE) : WTi l G bs cy ML_paint [(0, 12, 15, 19)] (n' + 1) [.ref (bs + 0), .int v1, .int v2, .int v3, .ref (bs + 86)] I L R (WQ I L R Q' PX' [(IOE, 1)]) mc ms := by
  refine WTi.of (own := RL) pn_RL rfl (Nat.le_of_ble_eq_true rfl) ?_
  intro p e s m args below meth c Qf X hW hS htab fin ls hl
  have hx := X.1
  have hb := X.2.1
  have hl : lv_has ls 6 [(0, .ref (bs + 0)), (1, .int v1), (2, .int v2), (3, .int v3), (4, .ref (bs + 86))] := hl
  refine lv_aload hx hb (dg D_L_paint (i := 0) rfl) (lv_at hl 4 rfl) ?_
  refine n_iconst (a := 0) hx hb (dg D_L_paint (i := 1) rfl) rfl ?_
  refine lv_aload_n hx hb (dg D_L_paint (i := 2) rfl) rfl (lv_at hl 0 rfl) ?_
  refine lv_iload_n hx hb (dg D_L_paint (i := 3) rfl) rfl (lv_at hl 1 rfl) ?_
  refine lv_iload_n hx hb (dg D_L_paint (i := 4) rfl) rfl (lv_at hl 2 rfl) ?_
  refine lv_iload_n hx hb (dg D_L_paint (i := 5) rfl) rfl (lv_at hl 3 rfl) ?_
  refine callWi X hW hS (n := n' + 1) ⟨rfl, rfl⟩ hM (Nat.le_refl _) UVX11_paint LK_L_110 rfl (by decide) rfl rfl rfl (Nat.le_of_ble_eq_true rfl) hl (by show 0 + mc ≤ mc; omega) (by show 0 + ms ≤ ms; omega) (dg D_L_paint (i := 6) rfl) (fun E ce q9 H1 locs1 hpe hW1 hS1 hce hcv hcl => ?_) (fun r I1 L1 R1 H locs hq hW hS => ?_)
  · have hE := hpx E hpe
    subst hE
    refine vx_catch X.2.2.2.1 [] _ [] htab (fun z hz => absurd hz (by simp)) rfl (by decide) (X.2.2.2.2.1 _ CLx_19) (CAST_IOE X) hce hcv hcl ?_
    refine lv_astore (lv' := [(5, .ref q9), (0, .ref (bs + 0)), (1, .int v1), (2, .int v2), (3, .int v3), (4, .ref (bs + 86))]) hx hb (dg D_L_paint (i := 10) rfl) hl (by decide) rfl (fun ls hl => ?_)
    refine n_iconst (a := 1) hx hb (dg D_L_paint (i := 11) rfl) rfl ?_
    exact fin (dg D_L_paint (i := 12) rfl) (by omega) (by omega) hW1 hS1 (Or.inr ⟨_, List.mem_singleton.mpr rfl, rfl, hpe, rfl, rfl, rfl⟩)
  · refine lv_i2l (v := r.toInt64) hx hb (dg D_L_paint (i := 7) rfl) rfl ?_
    refine r_last (k := 86) (j := 0) (v := r.toInt64) X hW hS rfl (by decide) rfl (by decide) (by decide) (dg D_L_paint (i := 8) rfl) (fun H locs hW hS => ?_)
    refine lv_goto (tgt := 19) hx hb (dg D_L_paint (i := 9) rfl) (by decide) ?_
    refine n_iconst (a := 0) hx hb (dg D_L_paint (i := 13) rfl) rfl ?_
    exact fin (dg D_L_paint (i := 14) rfl) (by omega) (by omega) hW hS (Or.inl ⟨rfl, r, L1, hq, rfl⟩)

set_option maxHeartbeats 400000 in
set_option maxRecDepth 100000 in
theorem w_unpaint {l : Launch} {G : va_G} {bs : Nat} {cy : Nat → ClassId} {I : CI} {L : CL} {R : CR} (v1 : Int32) (v2 : Int32) {Q' : Int32 → CI → CL → CR → Prop} {PX' : String → Prop} {n' mc ms : Nat} (hM : XTi l G bs cy MX11_unpaint n' [.ref (bs + 0), .int v1, .int v2] I L R Q' PX' mc ms) (hpx : ∀ E, PX' E → E = IOE) : WTi l G bs cy ML_unpaint [(0, 10, 13, 19)] (n' + 1) [.ref (bs + 0), .int v1, .int v2, .ref (bs + 86)] I L R (WQ I L R Q' PX' [(IOE, 1)]) mc ms := by
  refine WTi.of (own := RL) pn_RL rfl (Nat.le_of_ble_eq_true rfl) ?_
  intro p e s m args below meth c Qf X hW hS htab fin ls hl
  have hx := X.1
  have hb := X.2.1
  have hl : lv_has ls 5 [(0, .ref (bs + 0)), (1, .int v1), (2, .int v2), (3, .ref (bs + 86))] := hl
  refine lv_aload_n hx hb (dg D_L_unpaint (i := 0) rfl) rfl (lv_at hl 3 rfl) ?_
  refine n_iconst (a := 0) hx hb (dg D_L_unpaint (i := 1) rfl) rfl ?_
  refine lv_aload_n hx hb (dg D_L_unpaint (i := 2) rfl) rfl (lv_at hl 0 rfl) ?_
  refine lv_iload_n hx hb (dg D_L_unpaint (i := 3) rfl) rfl (lv_at hl 1 rfl) ?_
  refine lv_iload_n hx hb (dg D_L_unpaint (i := 4) rfl) rfl (lv_at hl 2 rfl) ?_
  refine callWi X hW hS (n := n' + 1) ⟨rfl, rfl⟩ hM (Nat.le_refl _) UVX11_unpaint LK_L_113 rfl (by decide) rfl rfl rfl (Nat.le_of_ble_eq_true rfl) hl (by show 0 + mc ≤ mc; omega) (by show 0 + ms ≤ ms; omega) (dg D_L_unpaint (i := 5) rfl) (fun E ce q9 H1 locs1 hpe hW1 hS1 hce hcv hcl => ?_) (fun r I1 L1 R1 H locs hq hW hS => ?_)
  · have hE := hpx E hpe
    subst hE
    refine vx_catch X.2.2.2.1 [] _ [] htab (fun z hz => absurd hz (by simp)) rfl (by decide) (X.2.2.2.2.1 _ CLx_19) (CAST_IOE X) hce hcv hcl ?_
    refine lv_astore (lv' := [(4, .ref q9), (0, .ref (bs + 0)), (1, .int v1), (2, .int v2), (3, .ref (bs + 86))]) hx hb (dg D_L_unpaint (i := 9) rfl) hl (by decide) rfl (fun ls hl => ?_)
    refine n_iconst (a := 1) hx hb (dg D_L_unpaint (i := 10) rfl) rfl ?_
    exact fin (dg D_L_unpaint (i := 11) rfl) (by omega) (by omega) hW1 hS1 (Or.inr ⟨_, List.mem_singleton.mpr rfl, rfl, hpe, rfl, rfl, rfl⟩)
  · refine lv_i2l (v := r.toInt64) hx hb (dg D_L_unpaint (i := 6) rfl) rfl ?_
    refine r_last (k := 86) (j := 0) (v := r.toInt64) X hW hS rfl (by decide) rfl (by decide) (by decide) (dg D_L_unpaint (i := 7) rfl) (fun H locs hW hS => ?_)
    refine lv_goto (tgt := 17) hx hb (dg D_L_unpaint (i := 8) rfl) (by decide) ?_
    refine n_iconst (a := 0) hx hb (dg D_L_unpaint (i := 12) rfl) rfl ?_
    exact fin (dg D_L_unpaint (i := 13) rfl) (by omega) (by omega) hW hS (Or.inl ⟨rfl, r, L1, hq, rfl⟩)

set_option maxHeartbeats 400000 in
set_option maxRecDepth 100000 in
theorem w_movePainting {l : Launch} {G : va_G} {bs : Nat} {cy : Nat → ClassId} {I : CI} {L : CL} {R : CR} (v1 : Int32) (v2 : Int32) (v3 : Int32) {Q' : Int32 → CI → CL → CR → Prop} {PX' : String → Prop} {n' mc ms : Nat} (hM : XTi l G bs cy MX11_movePainting n' [.ref (bs + 0), .int v1, .int v2, .int v3] I L R Q' PX' mc ms) (hpx : ∀ E, PX' E → E = IOE) : WTi l G bs cy ML_movePainting [(0, 12, 15, 19)] (n' + 1) [.ref (bs + 0), .int v1, .int v2, .int v3, .ref (bs + 86)] I L R (WQ I L R Q' PX' [(IOE, 1)]) mc ms := by
  refine WTi.of (own := RL) pn_RL rfl (Nat.le_of_ble_eq_true rfl) ?_
  intro p e s m args below meth c Qf X hW hS htab fin ls hl
  have hx := X.1
  have hb := X.2.1
  have hl : lv_has ls 6 [(0, .ref (bs + 0)), (1, .int v1), (2, .int v2), (3, .int v3), (4, .ref (bs + 86))] := hl
  refine lv_aload hx hb (dg D_L_movePainting (i := 0) rfl) (lv_at hl 4 rfl) ?_
  refine n_iconst (a := 0) hx hb (dg D_L_movePainting (i := 1) rfl) rfl ?_
  refine lv_aload_n hx hb (dg D_L_movePainting (i := 2) rfl) rfl (lv_at hl 0 rfl) ?_
  refine lv_iload_n hx hb (dg D_L_movePainting (i := 3) rfl) rfl (lv_at hl 1 rfl) ?_
  refine lv_iload_n hx hb (dg D_L_movePainting (i := 4) rfl) rfl (lv_at hl 2 rfl) ?_
  refine lv_iload_n hx hb (dg D_L_movePainting (i := 5) rfl) rfl (lv_at hl 3 rfl) ?_
  refine callWi X hW hS (n := n' + 1) ⟨rfl, rfl⟩ hM (Nat.le_refl _) UVX11_movePainting LK_L_116 rfl (by decide) rfl rfl rfl (Nat.le_of_ble_eq_true rfl) hl (by show 0 + mc ≤ mc; omega) (by show 0 + ms ≤ ms; omega) (dg D_L_movePainting (i := 6) rfl) (fun E ce q9 H1 locs1 hpe hW1 hS1 hce hcv hcl => ?_) (fun r I1 L1 R1 H locs hq hW hS => ?_)
  · have hE := hpx E hpe
    subst hE
    refine vx_catch X.2.2.2.1 [] _ [] htab (fun z hz => absurd hz (by simp)) rfl (by decide) (X.2.2.2.2.1 _ CLx_19) (CAST_IOE X) hce hcv hcl ?_
    refine lv_astore (lv' := [(5, .ref q9), (0, .ref (bs + 0)), (1, .int v1), (2, .int v2), (3, .int v3), (4, .ref (bs + 86))]) hx hb (dg D_L_movePainting (i := 10) rfl) hl (by decide) rfl (fun ls hl => ?_)
    refine n_iconst (a := 1) hx hb (dg D_L_movePainting (i := 11) rfl) rfl ?_
    exact fin (dg D_L_movePainting (i := 12) rfl) (by omega) (by omega) hW1 hS1 (Or.inr ⟨_, List.mem_singleton.mpr rfl, rfl, hpe, rfl, rfl, rfl⟩)
  · refine lv_i2l (v := r.toInt64) hx hb (dg D_L_movePainting (i := 7) rfl) rfl ?_
    refine r_last (k := 86) (j := 0) (v := r.toInt64) X hW hS rfl (by decide) rfl (by decide) (by decide) (dg D_L_movePainting (i := 8) rfl) (fun H locs hW hS => ?_)
    refine lv_goto (tgt := 19) hx hb (dg D_L_movePainting (i := 9) rfl) (by decide) ?_
    refine n_iconst (a := 0) hx hb (dg D_L_movePainting (i := 13) rfl) rfl ?_
    exact fin (dg D_L_movePainting (i := 14) rfl) (by omega) (by omega) hW hS (Or.inl ⟨rfl, r, L1, hq, rfl⟩)

set_option maxHeartbeats 400000 in
set_option maxRecDepth 100000 in
theorem w_exchange {l : Launch} {G : va_G} {bs : Nat} {cy : Nat → ClassId} {I : CI} {L : CL} {R : CR} (v1 : Int32) (v2 : Int32) (v3 : Int32) {Q' : Int32 → CI → CL → CR → Prop} {PX' : String → Prop} {n' mc ms : Nat} (hM : XTi l G bs cy MX11_exchange n' [.ref (bs + 0), .int v1, .int v2, .int v3] I L R Q' PX' mc ms) (hpx : ∀ E, PX' E → E = IOE) : WTi l G bs cy ML_exchange [(0, 12, 15, 19)] (n' + 1) [.ref (bs + 0), .int v1, .int v2, .int v3, .ref (bs + 86)] I L R (WQ I L R Q' PX' [(IOE, 1)]) mc ms := by
  refine WTi.of (own := RL) pn_RL rfl (Nat.le_of_ble_eq_true rfl) ?_
  intro p e s m args below meth c Qf X hW hS htab fin ls hl
  have hx := X.1
  have hb := X.2.1
  have hl : lv_has ls 6 [(0, .ref (bs + 0)), (1, .int v1), (2, .int v2), (3, .int v3), (4, .ref (bs + 86))] := hl
  refine lv_aload hx hb (dg D_L_exchange (i := 0) rfl) (lv_at hl 4 rfl) ?_
  refine n_iconst (a := 0) hx hb (dg D_L_exchange (i := 1) rfl) rfl ?_
  refine lv_aload_n hx hb (dg D_L_exchange (i := 2) rfl) rfl (lv_at hl 0 rfl) ?_
  refine lv_iload_n hx hb (dg D_L_exchange (i := 3) rfl) rfl (lv_at hl 1 rfl) ?_
  refine lv_iload_n hx hb (dg D_L_exchange (i := 4) rfl) rfl (lv_at hl 2 rfl) ?_
  refine lv_iload_n hx hb (dg D_L_exchange (i := 5) rfl) rfl (lv_at hl 3 rfl) ?_
  refine callWi X hW hS (n := n' + 1) ⟨rfl, rfl⟩ hM (Nat.le_refl _) UVX11_exchange LK_L_119 rfl (by decide) rfl rfl rfl (Nat.le_of_ble_eq_true rfl) hl (by show 0 + mc ≤ mc; omega) (by show 0 + ms ≤ ms; omega) (dg D_L_exchange (i := 6) rfl) (fun E ce q9 H1 locs1 hpe hW1 hS1 hce hcv hcl => ?_) (fun r I1 L1 R1 H locs hq hW hS => ?_)
  · have hE := hpx E hpe
    subst hE
    refine vx_catch X.2.2.2.1 [] _ [] htab (fun z hz => absurd hz (by simp)) rfl (by decide) (X.2.2.2.2.1 _ CLx_19) (CAST_IOE X) hce hcv hcl ?_
    refine lv_astore (lv' := [(5, .ref q9), (0, .ref (bs + 0)), (1, .int v1), (2, .int v2), (3, .int v3), (4, .ref (bs + 86))]) hx hb (dg D_L_exchange (i := 10) rfl) hl (by decide) rfl (fun ls hl => ?_)
    refine n_iconst (a := 1) hx hb (dg D_L_exchange (i := 11) rfl) rfl ?_
    exact fin (dg D_L_exchange (i := 12) rfl) (by omega) (by omega) hW1 hS1 (Or.inr ⟨_, List.mem_singleton.mpr rfl, rfl, hpe, rfl, rfl, rfl⟩)
  · refine lv_i2l (v := r.toInt64) hx hb (dg D_L_exchange (i := 7) rfl) rfl ?_
    refine r_last (k := 86) (j := 0) (v := r.toInt64) X hW hS rfl (by decide) rfl (by decide) (by decide) (dg D_L_exchange (i := 8) rfl) (fun H locs hW hS => ?_)
    refine lv_goto (tgt := 19) hx hb (dg D_L_exchange (i := 9) rfl) (by decide) ?_
    refine n_iconst (a := 0) hx hb (dg D_L_exchange (i := 13) rfl) rfl ?_
    exact fin (dg D_L_exchange (i := 14) rfl) (by omega) (by omega) hW hS (Or.inl ⟨rfl, r, L1, hq, rfl⟩)

set_option maxHeartbeats 400000 in
set_option maxRecDepth 100000 in
theorem w_setShut {l : Launch} {G : va_G} {bs : Nat} {cy : Nat → ClassId} {I : CI} {L : CL} {R : CR} (v1 : Int32) {Q' : Int32 → CI → CL → CR → Prop} {PX' : String → Prop} {n' mc ms : Nat} (hM : XTi l G bs cy MX11_setShut n' [.ref (bs + 0), .int v1] I L R Q' PX' mc ms) (hpx : ∀ E, PX' E → E = IAE) : WTi l G bs cy ML_setShut [(0, 9, 12, 13)] (n' + 1) [.ref (bs + 0), .int v1, .ref (bs + 86)] I L R (WQ I L R Q' PX' [(IAE, 1)]) mc ms := by
  refine WTi.of (own := RL) pn_RL rfl (Nat.le_of_ble_eq_true rfl) ?_
  intro p e s m args below meth c Qf X hW hS htab fin ls hl
  have hx := X.1
  have hb := X.2.1
  have hl : lv_has ls 4 [(0, .ref (bs + 0)), (1, .int v1), (2, .ref (bs + 86))] := hl
  refine lv_aload_n hx hb (dg D_L_setShut (i := 0) rfl) rfl (lv_at hl 2 rfl) ?_
  refine n_iconst (a := 0) hx hb (dg D_L_setShut (i := 1) rfl) rfl ?_
  refine lv_aload_n hx hb (dg D_L_setShut (i := 2) rfl) rfl (lv_at hl 0 rfl) ?_
  refine lv_iload_n hx hb (dg D_L_setShut (i := 3) rfl) rfl (lv_at hl 1 rfl) ?_
  refine callWi X hW hS (n := n' + 1) ⟨rfl, rfl⟩ hM (Nat.le_refl _) UVX11_setShut LK_L_125 rfl (by decide) rfl rfl rfl (Nat.le_of_ble_eq_true rfl) hl (by show 0 + mc ≤ mc; omega) (by show 0 + ms ≤ ms; omega) (dg D_L_setShut (i := 4) rfl) (fun E ce q9 H1 locs1 hpe hW1 hS1 hce hcv hcl => ?_) (fun r I1 L1 R1 H locs hq hW hS => ?_)
  · have hE := hpx E hpe
    subst hE
    refine vx_catch X.2.2.2.1 [] _ [] htab (fun z hz => absurd hz (by simp)) rfl (by decide) (X.2.2.2.2.1 _ CLx_13) (CAST_IAE X) hce hcv hcl ?_
    refine lv_astore_n (lv' := [(3, .ref q9), (0, .ref (bs + 0)), (1, .int v1), (2, .ref (bs + 86))]) hx hb (dg D_L_setShut (i := 8) rfl) rfl hl (by decide) rfl (fun ls hl => ?_)
    refine n_iconst (a := 1) hx hb (dg D_L_setShut (i := 9) rfl) rfl ?_
    exact fin (dg D_L_setShut (i := 10) rfl) (by omega) (by omega) hW1 hS1 (Or.inr ⟨_, List.mem_singleton.mpr rfl, rfl, hpe, rfl, rfl, rfl⟩)
  · refine lv_i2l (v := r.toInt64) hx hb (dg D_L_setShut (i := 5) rfl) rfl ?_
    refine r_last (k := 86) (j := 0) (v := r.toInt64) X hW hS rfl (by decide) rfl (by decide) (by decide) (dg D_L_setShut (i := 6) rfl) (fun H locs hW hS => ?_)
    refine lv_goto (tgt := 15) hx hb (dg D_L_setShut (i := 7) rfl) (by decide) ?_
    refine n_iconst (a := 0) hx hb (dg D_L_setShut (i := 11) rfl) rfl ?_
    exact fin (dg D_L_setShut (i := 12) rfl) (by omega) (by omega) hW hS (Or.inl ⟨rfl, r, L1, hq, rfl⟩)

set_option maxHeartbeats 400000 in
set_option maxRecDepth 100000 in
theorem w_setClosed {l : Launch} {G : va_G} {bs : Nat} {cy : Nat → ClassId} {I : CI} {L : CL} {R : CR} (v1 : Int32) (v2 : Int32) (v3 : Int32) {Q' : Int32 → CI → CL → CR → Prop} {PX' : String → Prop} {n' mc ms : Nat} (hM : XTi l G bs cy MX11_setClosed n' [.ref (bs + 0), .int v1, .int v2, .int v3] I L R Q' PX' mc ms) (hpx : ∀ E, PX' E → E = IOE) : WTi l G bs cy ML_setClosed [(0, 12, 15, 19)] (n' + 1) [.ref (bs + 0), .int v1, .int v2, .int v3, .ref (bs + 86)] I L R (WQ I L R Q' PX' [(IOE, 1)]) mc ms := by
  refine WTi.of (own := RL) pn_RL rfl (Nat.le_of_ble_eq_true rfl) ?_
  intro p e s m args below meth c Qf X hW hS htab fin ls hl
  have hx := X.1
  have hb := X.2.1
  have hl : lv_has ls 6 [(0, .ref (bs + 0)), (1, .int v1), (2, .int v2), (3, .int v3), (4, .ref (bs + 86))] := hl
  refine lv_aload hx hb (dg D_L_setClosed (i := 0) rfl) (lv_at hl 4 rfl) ?_
  refine n_iconst (a := 0) hx hb (dg D_L_setClosed (i := 1) rfl) rfl ?_
  refine lv_aload_n hx hb (dg D_L_setClosed (i := 2) rfl) rfl (lv_at hl 0 rfl) ?_
  refine lv_iload_n hx hb (dg D_L_setClosed (i := 3) rfl) rfl (lv_at hl 1 rfl) ?_
  refine lv_iload_n hx hb (dg D_L_setClosed (i := 4) rfl) rfl (lv_at hl 2 rfl) ?_
  refine lv_iload_n hx hb (dg D_L_setClosed (i := 5) rfl) rfl (lv_at hl 3 rfl) ?_
  refine callWi X hW hS (n := n' + 1) ⟨rfl, rfl⟩ hM (Nat.le_refl _) UVX11_setClosed LK_L_128 rfl (by decide) rfl rfl rfl (Nat.le_of_ble_eq_true rfl) hl (by show 0 + mc ≤ mc; omega) (by show 0 + ms ≤ ms; omega) (dg D_L_setClosed (i := 6) rfl) (fun E ce q9 H1 locs1 hpe hW1 hS1 hce hcv hcl => ?_) (fun r I1 L1 R1 H locs hq hW hS => ?_)
  · have hE := hpx E hpe
    subst hE
    refine vx_catch X.2.2.2.1 [] _ [] htab (fun z hz => absurd hz (by simp)) rfl (by decide) (X.2.2.2.2.1 _ CLx_19) (CAST_IOE X) hce hcv hcl ?_
    refine lv_astore (lv' := [(5, .ref q9), (0, .ref (bs + 0)), (1, .int v1), (2, .int v2), (3, .int v3), (4, .ref (bs + 86))]) hx hb (dg D_L_setClosed (i := 10) rfl) hl (by decide) rfl (fun ls hl => ?_)
    refine n_iconst (a := 1) hx hb (dg D_L_setClosed (i := 11) rfl) rfl ?_
    exact fin (dg D_L_setClosed (i := 12) rfl) (by omega) (by omega) hW1 hS1 (Or.inr ⟨_, List.mem_singleton.mpr rfl, rfl, hpe, rfl, rfl, rfl⟩)
  · refine lv_i2l (v := r.toInt64) hx hb (dg D_L_setClosed (i := 7) rfl) rfl ?_
    refine r_last (k := 86) (j := 0) (v := r.toInt64) X hW hS rfl (by decide) rfl (by decide) (by decide) (dg D_L_setClosed (i := 8) rfl) (fun H locs hW hS => ?_)
    refine lv_goto (tgt := 19) hx hb (dg D_L_setClosed (i := 9) rfl) (by decide) ?_
    refine n_iconst (a := 0) hx hb (dg D_L_setClosed (i := 13) rfl) rfl ?_
    exact fin (dg D_L_setClosed (i := 14) rfl) (by omega) (by omega) hW hS (Or.inl ⟨rfl, r, L1, hq, rfl⟩)

set_option maxHeartbeats 400000 in
set_option maxRecDepth 100000 in
theorem w_autoPastWithout {l : Launch} {G : va_G} {bs : Nat} {cy : Nat → ClassId} {I : CI} {L : CL} {R : CR} (v1 : Int32) {Q' : Int32 → CI → CL → CR → Prop} {PX' : String → Prop} {n' mc ms : Nat} (hM : XTi l G bs cy MX11_autoPastWithout n' [.ref (bs + 0), .int v1] I L R Q' PX' mc ms) (hpx : ∀ E, PX' E → E = IOE) : WTi l G bs cy ML_autoPastWithout [(0, 9, 12, 19)] (n' + 1) [.ref (bs + 0), .int v1, .ref (bs + 86)] I L R (WQ I L R Q' PX' [(IOE, 1)]) mc ms := by
  refine WTi.of (own := RL) pn_RL rfl (Nat.le_of_ble_eq_true rfl) ?_
  intro p e s m args below meth c Qf X hW hS htab fin ls hl
  have hx := X.1
  have hb := X.2.1
  have hl : lv_has ls 4 [(0, .ref (bs + 0)), (1, .int v1), (2, .ref (bs + 86))] := hl
  refine lv_aload_n hx hb (dg D_L_autoPastWithout (i := 0) rfl) rfl (lv_at hl 2 rfl) ?_
  refine n_iconst (a := 0) hx hb (dg D_L_autoPastWithout (i := 1) rfl) rfl ?_
  refine lv_aload_n hx hb (dg D_L_autoPastWithout (i := 2) rfl) rfl (lv_at hl 0 rfl) ?_
  refine lv_iload_n hx hb (dg D_L_autoPastWithout (i := 3) rfl) rfl (lv_at hl 1 rfl) ?_
  refine callWi X hW hS (n := n' + 1) ⟨rfl, rfl⟩ hM (Nat.le_refl _) UVX11_autoPastWithout LK_L_138 rfl (by decide) rfl rfl rfl (Nat.le_of_ble_eq_true rfl) hl (by show 0 + mc ≤ mc; omega) (by show 0 + ms ≤ ms; omega) (dg D_L_autoPastWithout (i := 4) rfl) (fun E ce q9 H1 locs1 hpe hW1 hS1 hce hcv hcl => ?_) (fun r I1 L1 R1 H locs hq hW hS => ?_)
  · have hE := hpx E hpe
    subst hE
    refine vx_catch X.2.2.2.1 [] _ [] htab (fun z hz => absurd hz (by simp)) rfl (by decide) (X.2.2.2.2.1 _ CLx_19) (CAST_IOE X) hce hcv hcl ?_
    refine lv_astore_n (lv' := [(3, .ref q9), (0, .ref (bs + 0)), (1, .int v1), (2, .ref (bs + 86))]) hx hb (dg D_L_autoPastWithout (i := 8) rfl) rfl hl (by decide) rfl (fun ls hl => ?_)
    refine n_iconst (a := 1) hx hb (dg D_L_autoPastWithout (i := 9) rfl) rfl ?_
    exact fin (dg D_L_autoPastWithout (i := 10) rfl) (by omega) (by omega) hW1 hS1 (Or.inr ⟨_, List.mem_singleton.mpr rfl, rfl, hpe, rfl, rfl, rfl⟩)
  · refine lv_i2l (v := r.toInt64) hx hb (dg D_L_autoPastWithout (i := 5) rfl) rfl ?_
    refine r_last (k := 86) (j := 0) (v := r.toInt64) X hW hS rfl (by decide) rfl (by decide) (by decide) (dg D_L_autoPastWithout (i := 6) rfl) (fun H locs hW hS => ?_)
    refine lv_goto (tgt := 15) hx hb (dg D_L_autoPastWithout (i := 7) rfl) (by decide) ?_
    refine n_iconst (a := 0) hx hb (dg D_L_autoPastWithout (i := 11) rfl) rfl ?_
    exact fin (dg D_L_autoPastWithout (i := 12) rfl) (by omega) (by omega) hW hS (Or.inl ⟨rfl, r, L1, hq, rfl⟩)

set_option maxHeartbeats 400000 in
set_option maxRecDepth 100000 in
theorem w_outputByte {l : Launch} {G : va_G} {bs : Nat} {cy : Nat → ClassId} {I : CI} {L : CL} {R : CR} (v1 : Int32) {Q' : Int32 → CI → CL → CR → Prop} {PX' : String → Prop} {n' mc ms : Nat} (hM : XTi l G bs cy MX11_outputByte n' [.ref (bs + 0), .int v1] I L R Q' PX' mc ms) (hpx : ∀ E, PX' E → E = IOE) : WTi l G bs cy ML_outputByte [(0, 9, 12, 19)] (n' + 1) [.ref (bs + 0), .int v1, .ref (bs + 86)] I L R (WQ I L R Q' PX' [(IOE, 1)]) mc ms := by
  refine WTi.of (own := RL) pn_RL rfl (Nat.le_of_ble_eq_true rfl) ?_
  intro p e s m args below meth c Qf X hW hS htab fin ls hl
  have hx := X.1
  have hb := X.2.1
  have hl : lv_has ls 4 [(0, .ref (bs + 0)), (1, .int v1), (2, .ref (bs + 86))] := hl
  refine lv_aload_n hx hb (dg D_L_outputByte (i := 0) rfl) rfl (lv_at hl 2 rfl) ?_
  refine n_iconst (a := 0) hx hb (dg D_L_outputByte (i := 1) rfl) rfl ?_
  refine lv_aload_n hx hb (dg D_L_outputByte (i := 2) rfl) rfl (lv_at hl 0 rfl) ?_
  refine lv_iload_n hx hb (dg D_L_outputByte (i := 3) rfl) rfl (lv_at hl 1 rfl) ?_
  refine callWi X hW hS (n := n' + 1) ⟨rfl, rfl⟩ hM (Nat.le_refl _) UVX11_outputByte LK_L_141 rfl (by decide) rfl rfl rfl (Nat.le_of_ble_eq_true rfl) hl (by show 0 + mc ≤ mc; omega) (by show 0 + ms ≤ ms; omega) (dg D_L_outputByte (i := 4) rfl) (fun E ce q9 H1 locs1 hpe hW1 hS1 hce hcv hcl => ?_) (fun r I1 L1 R1 H locs hq hW hS => ?_)
  · have hE := hpx E hpe
    subst hE
    refine vx_catch X.2.2.2.1 [] _ [] htab (fun z hz => absurd hz (by simp)) rfl (by decide) (X.2.2.2.2.1 _ CLx_19) (CAST_IOE X) hce hcv hcl ?_
    refine lv_astore_n (lv' := [(3, .ref q9), (0, .ref (bs + 0)), (1, .int v1), (2, .ref (bs + 86))]) hx hb (dg D_L_outputByte (i := 8) rfl) rfl hl (by decide) rfl (fun ls hl => ?_)
    refine n_iconst (a := 1) hx hb (dg D_L_outputByte (i := 9) rfl) rfl ?_
    exact fin (dg D_L_outputByte (i := 10) rfl) (by omega) (by omega) hW1 hS1 (Or.inr ⟨_, List.mem_singleton.mpr rfl, rfl, hpe, rfl, rfl, rfl⟩)
  · refine lv_i2l (v := r.toInt64) hx hb (dg D_L_outputByte (i := 5) rfl) rfl ?_
    refine r_last (k := 86) (j := 0) (v := r.toInt64) X hW hS rfl (by decide) rfl (by decide) (by decide) (dg D_L_outputByte (i := 6) rfl) (fun H locs hW hS => ?_)
    refine lv_goto (tgt := 15) hx hb (dg D_L_outputByte (i := 7) rfl) (by decide) ?_
    refine n_iconst (a := 0) hx hb (dg D_L_outputByte (i := 11) rfl) rfl ?_
    exact fin (dg D_L_outputByte (i := 12) rfl) (by omega) (by omega) hW hS (Or.inl ⟨rfl, r, L1, hq, rfl⟩)
