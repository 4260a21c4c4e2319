set_option maxHeartbeats 4000000 in
set_option maxRecDepth 100000 in
theorem c_X7_clear {l : Launch} {G : va_G} {bs : Nat} {cy : Nat → ClassId} {I : CI} {L : CL} {R : CR} (o : Nat) (ho : isRk o) : MTv l G bs cy MX7_clear 1 [.ref (bs + o)] I L R (fun I1 L1 R1 => Fr (SRk o) I I1 ∧ I1 o 1 = nI 0 ∧ L = L1 ∧ R = R1) := by
  refine MTv.of (own := RX7) pn_RX7 rfl (Nat.le_of_ble_eq_true rfl) ?_
  intro p e s m args below meth c Qf X hW hS fin ls hl
  have hx := X.1
  have hb := X.2.1
  have hR : RmOK (rmL 1 0 0) 1 := ⟨rfl, rfl⟩
  have hcs : 0 ≤ (rmL 1 0 0).cells ∧ 0 ≤ (rmL 1 0 0).slots := ⟨Nat.zero_le _, Nat.zero_le _⟩
  have hl : lv_has ls 1 [(0, .ref (bs + o))] := hl
  have hF : Fr (SRk o) I I := Fr.rf
  refine lv_aload_n hx hb (dg D_X7_clear (i := 0) rfl) rfl (lv_at hl 0 rfl) ?_
  refine n_iconst (a := 0) hx hb (dg D_X7_clear (i := 1) rfl) rfl ?_
  refine r_puti (v := nI 0) (ty := .int) X hW hS FI_X7_15 (shRk ho) (ncR0 ho) rfl rfl (by decide +kernel) rfl rfl (dg D_X7_clear (i := 2) rfl) (fun H locs hW hS => ?_)
  have hF : Fr (SRk o) I (u2 I o 1 (nI 0)) := Fr.put hF SRk_0
  obtain ⟨J2, eJ2⟩ : ∃ J, J = u2 I o 1 (nI 0) := ⟨_, rfl⟩
  rw [← eJ2] at hW hF
  have hsz : J2 o 1 = nI 0 := by rw [eJ2]; exact u2_at
  exact fin (dg D_X7_clear (i := 3) rfl) hW hS ⟨hF, hsz, rfl, rfl⟩

set_option maxHeartbeats 4000000 in
set_option maxRecDepth 100000 in
theorem c_X7_size {l : Launch} {G : va_G} {bs : Nat} {cy : Nat → ClassId} {I : CI} {L : CL} {R : CR} (o : Nat) (n : Nat) (ho : isRk o) (hsz : I o 1 = nI n) : MTi l G bs cy MX7_size 1 [.ref (bs + o)] I L R (fun r I1 L1 R1 => nI n = r ∧ I = I1 ∧ L = L1 ∧ R = R1) := by
  refine MTi.of (own := RX7) pn_RX7 rfl (Nat.le_of_ble_eq_true rfl) ?_
  intro p e s m args below meth c Qf X hW hS fin ls hl
  have hx := X.1
  have hb := X.2.1
  have hR : RmOK (rmL 1 0 0) 1 := ⟨rfl, rfl⟩
  have hcs : 0 ≤ (rmL 1 0 0).cells ∧ 0 ≤ (rmL 1 0 0).slots := ⟨Nat.zero_le _, Nat.zero_le _⟩
  have hl : lv_has ls 1 [(0, .ref (bs + o))] := hl
  refine lv_aload_n hx hb (dg D_X7_size (i := 0) rfl) rfl (lv_at hl 0 rfl) ?_
  refine r_geti (v := nI n) X hW FI_X7_15 (shRk ho) (ncR0 ho) rfl hsz (dg D_X7_size (i := 1) rfl) ?_
  exact fin (dg D_X7_size (i := 2) rfl) hW hS ⟨rfl, rfl, rfl, rfl⟩

set_option maxHeartbeats 4000000 in
set_option maxRecDepth 100000 in
theorem c_X7_spanAt {l : Launch} {G : va_G} {bs : Nat} {cy : Nat → ClassId} {I : CI} {L : CL} {R : CR} (o : Nat) (n : Nat) (K : Nat → Nat) (k : Nat) (ho : isRk o) (hKr : rowP I (o + 1) n (fun j => nI (K j))) (hk : k < n) (hn12 : n ≤ 12) : MTi l G bs cy MX7_spanAt 1 [.ref (bs + o), .int (nI k)] I L R (fun r I1 L1 R1 => nI (K k % 16) = r ∧ I = I1 ∧ L = L1 ∧ R = R1) := by
  refine MTi.of (own := RX7) pn_RX7 rfl (Nat.le_of_ble_eq_true rfl) ?_
  intro p e s m args below meth c Qf X hW hS fin ls hl
  have hx := X.1
  have hb := X.2.1
  have hR : RmOK (rmL 1 0 0) 1 := ⟨rfl, rfl⟩
  have hcs : 0 ≤ (rmL 1 0 0).cells ∧ 0 ≤ (rmL 1 0 0).slots := ⟨Nat.zero_le _, Nat.zero_le _⟩
  have hl : lv_has ls 2 [(0, .ref (bs + o)), (1, .int (nI k))] := hl
  refine lv_aload_n hx hb (dg D_X7_spanAt (i := 0) rfl) rfl (lv_at hl 0 rfl) ?_
  refine r_getc (t := o + 1) X hW FI_X7_9 (shRk ho) (ncR0 ho) rfl (dg D_X7_spanAt (i := 1) rfl) ?_
  refine lv_iload_n hx hb (dg D_X7_spanAt (i := 2) rfl) rfl (lv_at hl 1 rfl) ?_
  refine r_ald (j := k) (v := nI (K k)) X hW (shRk1 ho) (ncR ho (by decide)) rfl (by omega) (by omega) (hKr _ (by omega)) (dg D_X7_spanAt (i := 3) rfl) ?_
  refine lv_bipush (v := nI 15) hx hb (dg D_X7_spanAt (i := 4) rfl) (by decide) ?_
  refine lv_iand hx hb (dg D_X7_spanAt (i := 5) rfl) ?_
  rw [show (nI (K k)) &&& (nI 15) = nI (K k % 16) from (and_N (K k) (k := 4) (by decide))]
  exact fin (dg D_X7_spanAt (i := 6) rfl) hW hS ⟨rfl, rfl, rfl, rfl⟩

set_option maxHeartbeats 4000000 in
set_option maxRecDepth 100000 in
theorem c_X7_yearAt {l : Launch} {G : va_G} {bs : Nat} {cy : Nat → ClassId} {I : CI} {L : CL} {R : CR} (o : Nat) (n : Nat) (K : Nat → Nat) (k : Nat) (ho : isRk o) (hKr : rowP I (o + 1) n (fun j => nI (K j))) (hk : k < n) (hn12 : n ≤ 12) (hKb : K k < 2 ^ 31) : MTi l G bs cy MX7_yearAt 1 [.ref (bs + o), .int (nI k)] I L R (fun r I1 L1 R1 => nI (K k / 2048) = r ∧ I = I1 ∧ L = L1 ∧ R = R1) := by
  refine MTi.of (own := RX7) pn_RX7 rfl (Nat.le_of_ble_eq_true rfl) ?_
  intro p e s m args below meth c Qf X hW hS fin ls hl
  have hx := X.1
  have hb := X.2.1
  have hR : RmOK (rmL 1 0 0) 1 := ⟨rfl, rfl⟩
  have hcs : 0 ≤ (rmL 1 0 0).cells ∧ 0 ≤ (rmL 1 0 0).slots := ⟨Nat.zero_le _, Nat.zero_le _⟩
  have hl : lv_has ls 2 [(0, .ref (bs + o)), (1, .int (nI k))] := hl
  refine lv_aload_n hx hb (dg D_X7_yearAt (i := 0) rfl) rfl (lv_at hl 0 rfl) ?_
  refine r_getc (t := o + 1) X hW FI_X7_9 (shRk ho) (ncR0 ho) rfl (dg D_X7_yearAt (i := 1) rfl) ?_
  refine lv_iload_n hx hb (dg D_X7_yearAt (i := 2) rfl) rfl (lv_at hl 1 rfl) ?_
  refine r_ald (j := k) (v := nI (K k)) X hW (shRk1 ho) (ncR ho (by decide)) rfl (by omega) (by omega) (hKr _ (by omega)) (dg D_X7_yearAt (i := 3) rfl) ?_
  refine lv_bipush (v := nI 11) hx hb (dg D_X7_yearAt (i := 4) rfl) (by decide) ?_
  refine lv_ishr hx hb (dg D_X7_yearAt (i := 5) rfl) ?_
  rw [show (nI (K k)) >>> ((nI 11) &&& 31) = nI (K k / 2048) from (shr_N (k := 11) hKb (by decide))]
  exact fin (dg D_X7_yearAt (i := 6) rfl) hW hS ⟨rfl, rfl, rfl, rfl⟩

set_option maxHeartbeats 4000000 in
set_option maxRecDepth 100000 in
theorem c_X7_add {l : Launch} {G : va_G} {bs : Nat} {cy : Nat → ClassId} {I : CI} {L : CL} {R : CR} (o : Nat) (n : Nat) (K : Nat → Nat) (x : Nat) (f : Nat) (r : Nat) (ho : isRk o) (hsz : I o 1 = nI n) (hn12 : n < 12) (hKr : rowP I (o + 1) n (fun j => nI (K j))) (hKb : ∀ j, j < n → K j < 2 ^ 31) (hx5 : x < 12) (hf5 : f ≤ 100) (hr5 : r ≤ 100) : MTv l G bs cy MX7_add 1 [.ref (bs + o), .int (nI x), .int (nI f), .int (nI r)] I L R (fun I1 L1 R1 => Fr (SRk o) I I1 ∧ I1 o 1 = nI (n + 1) ∧ rowP I1 (o + 1) (n + 1) (fun j => nI (insF K n (kN f r x) j)) ∧ L = L1 ∧ R = R1) := by
  refine MTv.of (own := RX7) pn_RX7 rfl (Nat.le_of_ble_eq_true rfl) ?_
  intro p e s m args below meth c Qf X hW hS fin ls hl
  have hx := X.1
  have hb := X.2.1
  have hR : RmOK (rmL 1 0 0) 1 := ⟨rfl, rfl⟩
  have hcs : 0 ≤ (rmL 1 0 0).cells ∧ 0 ≤ (rmL 1 0 0).slots := ⟨Nat.zero_le _, Nat.zero_le _⟩
  have hl : lv_has ls 6 [(0, .ref (bs + o)), (1, .int (nI x)), (2, .int (nI f)), (3, .int (nI r))] := hl
  have hF : Fr (SRk o) I I := Fr.rf
  have hvb : kN f r x < 2 ^ 31 := kN_b hx5 hf5
  refine lv_aload_n hx hb (dg D_X7_add (i := 0) rfl) rfl (lv_at hl 0 rfl) ?_
  refine r_geti (v := nI n) X hW FI_X7_15 (shRk ho) (ncR0 ho) rfl hsz (dg D_X7_add (i := 1) rfl) ?_
  refine lv_bipush (v := nI 12) hx hb (dg D_X7_add (i := 2) rfl) (by decide) ?_
  refine n_icmp_lt (tgt := 10) hx hb (by omega) (by omega) (dg D_X7_add (i := 3) rfl) (by decide) (fun c6 => ?_) (fun c6 => ?_)
  · refine lv_iload_n hx hb (dg D_X7_add (i := 5) rfl) rfl (lv_at hl 2 rfl) ?_
    refine lv_bipush (v := nI 7) hx hb (dg D_X7_add (i := 6) rfl) (by decide) ?_
    refine lv_ishl hx hb (dg D_X7_add (i := 7) rfl) ?_
    rw [show (nI f) <<< ((nI 7) &&& 31) = nI (f * 128) from (shl_N f (k := 7) (by decide))]
    refine lv_bipush (v := nI 100) hx hb (dg D_X7_add (i := 8) rfl) (by decide) ?_
    refine lv_iadd hx hb (dg D_X7_add (i := 9) rfl) ?_
    rw [show (nI (f * 128)) + (nI 100) = nI (f * 128 + 100) from (by rw [nI_add, Nat.add_comm])]
    refine lv_iload_n hx hb (dg D_X7_add (i := 10) rfl) rfl (lv_at hl 3 rfl) ?_
    refine n_isub hx hb (dg D_X7_add (i := 11) rfl) (by omega) ?_
    refine n_iconst (a := 4) hx hb (dg D_X7_add (i := 12) rfl) rfl ?_
    refine lv_ishl hx hb (dg D_X7_add (i := 13) rfl) ?_
    rw [show (nI ((f * 128 + 100) - r)) <<< ((nI 4) &&& 31) = nI ((f * 128 + 100 - r) * 16) from (shl_N _ (k := 4) (by decide))]
    refine lv_iload_n hx hb (dg D_X7_add (i := 14) rfl) rfl (lv_at hl 1 rfl) ?_
    refine n_iadd hx hb (dg D_X7_add (i := 15) rfl) ?_
    refine lv_istore (lv' := [(4, .int (nI (((f * 128 + 100 - r) * 16) + x))), (0, .ref (bs + o)), (1, .int (nI x)), (2, .int (nI f)), (3, .int (nI r))]) hx hb (dg D_X7_add (i := 16) rfl) hl (by decide) rfl (fun ls hl => ?_)
    have hkv : (f * 128 + 100 - r) * 16 + x = kN f r x := rfl
    rw [hkv] at hl
    refine lv_aload_n hx hb (dg D_X7_add (i := 17) rfl) rfl (lv_at hl 1 rfl) ?_
    refine r_geti (v := nI n) X hW FI_X7_15 (shRk ho) (ncR0 ho) rfl hsz (dg D_X7_add (i := 18) rfl) ?_
    refine lv_istore (lv' := [(5, .int (nI n)), (4, .int (nI (kN f r x))), (0, .ref (bs + o)), (1, .int (nI x)), (2, .int (nI f)), (3, .int (nI r))]) hx hb (dg D_X7_add (i := 19) rfl) hl (by decide) rfl (fun ls hl => ?_)
    have loop31 := up_ind (P := fun t => ∀ (K31 : CI) (H : Heap) (locs : List Loc) (ls : Array Slot) (v5 : Int32), v5 = nI (n - t) → (Fr (SRk o) I K31) → (∀ j, j < n - t → K31 (o + 1) j = nI (K j)) → (∀ j, n - t < j → j ≤ n → K31 (o + 1) j = nI (K (j - 1))) → (K31 o 1 = nI n) → (insP K (kN f r x) n = insP K (kN f r x) (n - t)) → Wd G bs cy K31 L R H → va_S (Aq bs) s.heap H locs → lv_has ls 6 [(0, .ref (bs + o)), (1, .int (nI x)), (2, .int (nI f)), (3, .int (nI r)), (4, .int (nI (kN f r x))), (5, .int v5)] → W p l e (rmL 1 0 0) s m args below meth c H locs 0 0 Qf (F0 m 31 ls [])) n (fun t hx31 ih31 => by
        intro K31 H locs ls v5 q5 hF hlo hhi hsz hip hW hS hl
        subst q5
        refine lv_iload hx hb (dg D_X7_add (i := 20) rfl) (lv_at hl 5 rfl) ?_
        refine n_if_le (tgt := 72) hx hb (by omega) (dg D_X7_add (i := 21) rfl) (by decide) (fun c33 => ?_) (fun c33 => ?_)
        · refine lv_aload_n hx hb (dg D_X7_add (i := 42) rfl) rfl (lv_at hl 0 rfl) ?_
          refine r_getc (t := o + 1) X hW FI_X7_9 (shRk ho) (ncR0 ho) rfl (dg D_X7_add (i := 43) rfl) ?_
          refine lv_iload hx hb (dg D_X7_add (i := 44) rfl) (lv_at hl 5 rfl) ?_
          refine lv_iload hx hb (dg D_X7_add (i := 45) rfl) (lv_at hl 4 rfl) ?_
          refine r_ast (j := n - t) (v := nI (kN f r x)) X hW hS (shRk1 ho) (ncR ho (by decide)) rfl (by omega) (by omega) (dg D_X7_add (i := 46) rfl) (fun H locs hW hS => ?_)
          have hF : Fr (SRk o) I (u2 K31 (o + 1) (n - t) (nI (kN f r x))) := Fr.put hF SRk_1
          obtain ⟨J80, eJ80⟩ : ∃ J, J = u2 K31 (o + 1) (n - t) (nI (kN f r x)) := ⟨_, rfl⟩
          rw [← eJ80] at hW hF
          have hsz : J80 o 1 = nI n := by rw [eJ80, u2_off (Or.inl (by omega))]; exact hsz
          refine lv_aload_n hx hb (dg D_X7_add (i := 47) rfl) rfl (lv_at hl 0 rfl) ?_
          refine lv_dup hx hb (dg D_X7_add (i := 48) rfl) rfl ?_
          refine r_geti (v := nI n) X hW FI_X7_15 (shRk ho) (ncR0 ho) rfl hsz (dg D_X7_add (i := 49) rfl) ?_
          refine n_iconst (a := 1) hx hb (dg D_X7_add (i := 50) rfl) rfl ?_
          refine n_iadd hx hb (dg D_X7_add (i := 51) rfl) ?_
          refine r_puti (v := nI (n + 1)) (ty := .int) X hW hS FI_X7_15 (shRk ho) (ncR0 ho) rfl rfl (by decide +kernel) rfl rfl (dg D_X7_add (i := 52) rfl) (fun H locs hW hS => ?_)
          have hF : Fr (SRk o) I (u2 J80 o 1 (nI (n + 1))) := Fr.put hF SRk_0
          obtain ⟨J88, eJ88⟩ : ∃ J, J = u2 J80 o 1 (nI (n + 1)) := ⟨_, rfl⟩
          rw [← eJ88] at hW hF
          have hsz : J88 o 1 = nI (n + 1) := by rw [eJ88]; exact u2_at
          exact fin (dg D_X7_add (i := 53) rfl) hW hS ⟨hF, hsz, ins_row (I := K31) (p := n - t) (by omega) (hip.trans (insP_stop (Or.inl (by omega)))) hlo hhi (by rw [eJ88, u2_ne (by omega), eJ80, u2_eq]), rfl, rfl⟩
        · refine lv_aload_n hx hb (dg D_X7_add (i := 22) rfl) rfl (lv_at hl 0 rfl) ?_
          refine r_getc (t := o + 1) X hW FI_X7_9 (shRk ho) (ncR0 ho) rfl (dg D_X7_add (i := 23) rfl) ?_
          refine lv_iload hx hb (dg D_X7_add (i := 24) rfl) (lv_at hl 5 rfl) ?_
          refine n_iconst (a := 1) hx hb (dg D_X7_add (i := 25) rfl) rfl ?_
          refine n_isub hx hb (dg D_X7_add (i := 26) rfl) (by omega) ?_
          refine r_ald (j := (n - t) - 1) (v := nI (K ((n - t) - 1))) X hW (shRk1 ho) (ncR ho (by decide)) rfl (by omega) (by omega) (hlo _ (by omega)) (dg D_X7_add (i := 27) rfl) ?_
          refine lv_iload hx hb (dg D_X7_add (i := 28) rfl) (lv_at hl 4 rfl) ?_
          refine n_icmp_le (tgt := 72) hx hb (hKb _ (by omega)) hvb (dg D_X7_add (i := 29) rfl) (by decide) (fun c47 => ?_) (fun c47 => ?_)
          · refine lv_aload_n hx hb (dg D_X7_add (i := 42) rfl) rfl (lv_at hl 0 rfl) ?_
            refine r_getc (t := o + 1) X hW FI_X7_9 (shRk ho) (ncR0 ho) rfl (dg D_X7_add (i := 43) rfl) ?_
            refine lv_iload hx hb (dg D_X7_add (i := 44) rfl) (lv_at hl 5 rfl) ?_
            refine lv_iload hx hb (dg D_X7_add (i := 45) rfl) (lv_at hl 4 rfl) ?_
            refine r_ast (j := n - t) (v := nI (kN f r x)) X hW hS (shRk1 ho) (ncR ho (by decide)) rfl (by omega) (by omega) (dg D_X7_add (i := 46) rfl) (fun H locs hW hS => ?_)
            have hF : Fr (SRk o) I (u2 K31 (o + 1) (n - t) (nI (kN f r x))) := Fr.put hF SRk_1
            obtain ⟨J80, eJ80⟩ : ∃ J, J = u2 K31 (o + 1) (n - t) (nI (kN f r x)) := ⟨_, rfl⟩
            rw [← eJ80] at hW hF
            have hsz : J80 o 1 = nI n := by rw [eJ80, u2_off (Or.inl (by omega))]; exact hsz
            refine lv_aload_n hx hb (dg D_X7_add (i := 47) rfl) rfl (lv_at hl 0 rfl) ?_
            refine lv_dup hx hb (dg D_X7_add (i := 48) rfl) rfl ?_
            refine r_geti (v := nI n) X hW FI_X7_15 (shRk ho) (ncR0 ho) rfl hsz (dg D_X7_add (i := 49) rfl) ?_
            refine n_iconst (a := 1) hx hb (dg D_X7_add (i := 50) rfl) rfl ?_
            refine n_iadd hx hb (dg D_X7_add (i := 51) rfl) ?_
            refine r_puti (v := nI (n + 1)) (ty := .int) X hW hS FI_X7_15 (shRk ho) (ncR0 ho) rfl rfl (by decide +kernel) rfl rfl (dg D_X7_add (i := 52) rfl) (fun H locs hW hS => ?_)
            have hF : Fr (SRk o) I (u2 J80 o 1 (nI (n + 1))) := Fr.put hF SRk_0
            obtain ⟨J88, eJ88⟩ : ∃ J, J = u2 J80 o 1 (nI (n + 1)) := ⟨_, rfl⟩
            rw [← eJ88] at hW hF
            have hsz : J88 o 1 = nI (n + 1) := by rw [eJ88]; exact u2_at
            exact fin (dg D_X7_add (i := 53) rfl) hW hS ⟨hF, hsz, ins_row (I := K31) (p := n - t) (by omega) (hip.trans (insP_stop (Or.inr (Nat.not_lt.mpr c47)))) hlo hhi (by rw [eJ88, u2_ne (by omega), eJ80, u2_eq]), rfl, rfl⟩
          · refine lv_aload_n hx hb (dg D_X7_add (i := 30) rfl) rfl (lv_at hl 0 rfl) ?_
            refine r_getc (t := o + 1) X hW FI_X7_9 (shRk ho) (ncR0 ho) rfl (dg D_X7_add (i := 31) rfl) ?_
            refine lv_iload hx hb (dg D_X7_add (i := 32) rfl) (lv_at hl 5 rfl) ?_
            refine lv_aload_n hx hb (dg D_X7_add (i := 33) rfl) rfl (lv_at hl 0 rfl) ?_
            refine r_getc (t := o + 1) X hW FI_X7_9 (shRk ho) (ncR0 ho) rfl (dg D_X7_add (i := 34) rfl) ?_
            refine lv_iload hx hb (dg D_X7_add (i := 35) rfl) (lv_at hl 5 rfl) ?_
            refine n_iconst (a := 1) hx hb (dg D_X7_add (i := 36) rfl) rfl ?_
            refine n_isub hx hb (dg D_X7_add (i := 37) rfl) (by omega) ?_
            refine r_ald (j := (n - t) - 1) (v := nI (K ((n - t) - 1))) X hW (shRk1 ho) (ncR ho (by decide)) rfl (by omega) (by omega) (hlo _ (by omega)) (dg D_X7_add (i := 38) rfl) ?_
            refine r_ast (j := n - t) (v := nI (K ((n - t) - 1))) X hW hS (shRk1 ho) (ncR ho (by decide)) rfl (by omega) (by omega) (dg D_X7_add (i := 39) rfl) (fun H locs hW hS => ?_)
            have hF : Fr (SRk o) I (u2 K31 (o + 1) (n - t) (nI (K ((n - t) - 1)))) := Fr.put hF SRk_1
            obtain ⟨J65, eJ65⟩ : ∃ J, J = u2 K31 (o + 1) (n - t) (nI (K ((n - t) - 1))) := ⟨_, rfl⟩
            rw [← eJ65] at hW hF
            have hsz : J65 o 1 = nI n := by rw [eJ65, u2_off (Or.inl (by omega))]; exact hsz
            refine lv_iinc (v := nI (n - (t + 1))) (lv' := [(5, .int (nI (n - (t + 1)))), (0, .ref (bs + o)), (1, .int (nI x)), (2, .int (nI f)), (3, .int (nI r)), (4, .int (nI (kN f r x)))]) hx hb (dg D_X7_add (i := 40) rfl) hl (k := 5) rfl (by rw [show n - t = n - (t + 1) + 1 by omega]; exact nI_dec _) (by decide) rfl (fun ls hl => ?_)
            refine lv_goto (tgt := 31) hx hb (dg D_X7_add (i := 41) rfl) (by decide) ?_
            exact ih31 (by omega) J65 _ _ _ _ rfl hF (fun j hj => by rw [eJ65, u2_off (Or.inr (by omega))]; exact hlo j (by omega)) (fun j h1 h2 => by rw [eJ65]; by_cases e : j = n - t; rw [e, u2_at]; rw [u2_off (Or.inr e)]; exact hhi j (by omega) h2) hsz (by rw [hip, insP_on (by omega) c47, show n - t - 1 = n - (t + 1) by omega]) hW hS (lv_sub hl [1, 2, 3, 4, 5, 0] rfl))
    exact loop31 0 (Nat.zero_le _) I _ _ _ _ (congrArg nI (by omega)) hF hKr (fun j h1 h2 => absurd h1 (by omega)) hsz rfl hW hS (lv_sub hl [2, 3, 4, 5, 1, 0] rfl)
  · exact absurd hn12 (Nat.not_lt.mpr c6)

