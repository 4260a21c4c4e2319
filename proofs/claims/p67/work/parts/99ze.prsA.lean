/-! the law's text, token by token -/
def Atl (b : Nat → Int32) (n p : Nat) (l : List Nat) : Prop := ∀ i, i < l.length → p + i < n ∧ b (p + i) = nI (l.getD i 0)
theorem gD_app1 {l1 l2 : List Nat} {i : Nat} (h : i < l1.length) : (l1 ++ l2).getD i 0 = l1.getD i 0 := by
  rw [List.getD_eq_getElem?_getD, List.getD_eq_getElem?_getD, List.getElem?_append_left h]
theorem gD_app2 {l1 l2 : List Nat} {i : Nat} : (l1 ++ l2).getD (l1.length + i) 0 = l2.getD i 0 := by
  rw [List.getD_eq_getElem?_getD, List.getD_eq_getElem?_getD, List.getElem?_append_right (by omega), show l1.length + i - l1.length = i by omega]
theorem gD_mem {l : List Nat} {i : Nat} (h : i < l.length) : l.getD i 0 ∈ l := by
  rw [List.getD_eq_getElem?_getD, List.getElem?_eq_getElem h]
  exact List.getElem_mem h
section ATL
variable {b : Nat → Int32} {n p c : Nat} {l1 l2 w r sp : List Nat} {f : Int32 → Bool}
theorem Atl.fs (h : Atl b n p (l1 ++ l2)) : Atl b n p l1 := fun i hi => by
  have := h i (by rw [List.length_append]; omega)
  rw [gD_app1 hi] at this
  exact this
theorem Atl.sn (h : Atl b n p (l1 ++ l2)) : Atl b n (p + l1.length) l2 := fun i hi => by
  have := h (l1.length + i) (by rw [List.length_append]; omega)
  rw [gD_app2, ← Nat.add_assoc] at this
  exact this
theorem chB_at (l1 l2 l3 : List Nat) : Atl (chB (l1 ++ (l2 ++ l3))) (l1 ++ (l2 ++ l3)).length l1.length l2 := fun i hi => by
  have h : l1.length + i < (l1 ++ (l2 ++ l3)).length := by rw [List.length_append, List.length_append]; omega
  refine ⟨h, ?_⟩
  unfold chB
  rw [chT_in h, gD_app2, gD_app1 hi]
theorem run_at (h : Atl b n p (w ++ c :: r)) (hw : ∀ z ∈ w, f (nI z) = true) (hc : f (nI c) = false) : runE f b n p = p + w.length := by
  have h1 := h.fs
  have h2 := h.sn 0 (by simp)
  refine runE_eq (Nat.le_add_right _ _) (by omega) (fun z hz1 hz2 => ?_) (fun _ => ?_)
  · have := (h1 (z - p) (by omega)).2
    rw [show p + (z - p) = z by omega] at this
    rw [this]
    exact hw _ (gD_mem (by omega))
  · have h3 : b (p + w.length) = nI c := h2.2
    rw [h3]; exact hc
theorem let_nsp {z : Nat} (h : 97 ≤ z ∧ z ≤ 122) : isL (nI z) = true ∧ isSp (nI z) = false := by
  have : ∀ z, z < 123 → 97 ≤ z → isL (nI z) = true ∧ isSp (nI z) = false := by decide +kernel
  exact this z (by omega) h.1
theorem dig_nsp {z : Nat} (h : 48 ≤ z ∧ z ≤ 57) : isL (nI z) = false ∧ isDg (nI z) = true ∧ isSp (nI z) = false := by
  have : ∀ z, z < 58 → 48 ≤ z → isL (nI z) = false ∧ isDg (nI z) = true ∧ isSp (nI z) = false := by decide +kernel
  exact this z (by omega) h.1
theorem ts_at (h : Atl b n p (sp ++ c :: r)) (hsp : ∀ z ∈ sp, isSp (nI z) = true) (hc : isSp (nI c) = false) : tS b n p = p + sp.length := run_at h hsp hc
theorem wF_cg {B : Nat} {d e : Nat → Nat} {s t : Nat} : ∀ k, (∀ i, i < k → d (s + i) = e (t + i)) → wF B d s k = wF B e t k
  | 0, _ => rfl
  | k + 1, h => by
    show B * wF B d s k + d (s + k) = B * wF B e t k + e (t + k)
    rw [wF_cg k (fun i hi => h i (by omega)), h k (by omega)]
def wL (B o : Nat) (w : List Nat) : Nat := wF B (fun i => w.getD i 0 - o) 0 w.length
/-- a word -/
theorem tk_word {a : Nat} (h : Atl b n p (sp ++ ((a :: w) ++ c :: r))) (hsp : ∀ z ∈ sp, isSp (nI z) = true) (hw : ∀ z ∈ a :: w, 97 ≤ z ∧ z ≤ 122) (hc : isL (nI c) = false) (h8 : w.length < 8) :
    tS b n p = p + sp.length ∧ tE b n p = p + sp.length + (w.length + 1) ∧ tK b n p = 2 ∧ w27 b n (p + sp.length) = wL 27 96 (a :: w) ∧ w256 b n (p + sp.length) = wL 256 0 (a :: w) := by
  have ha := let_nsp (hw a List.mem_cons_self)
  have hs : tS b n p = p + sp.length := ts_at (c := a) (r := w ++ c :: r) h hsp ha.2
  have h2 : Atl b n (p + sp.length) ((a :: w) ++ c :: r) := h.sn
  have h0 := h2 0 (by simp)
  have hb0 : b (p + sp.length) = nI a := h0.2
  have hE : lE b n (p + sp.length) = p + sp.length + (w.length + 1) := run_at (w := a :: w) h2 (fun z hz => (let_nsp (hw z hz)).1) hc
  have ht := tok_let hs h0.1 (by rw [hb0]; exact ha.1) hE
  refine ⟨hs, ht.1, by rw [ht.2, if_neg (by omega)], ?_, ?_⟩
  · unfold w27 wL
    rw [hE, show p + sp.length + (w.length + 1) - (p + sp.length) = (a :: w).length by simp]
    refine wF_cg _ (fun i hi => ?_)
    have h3 := (h2.fs i hi).2
    unfold d27
    rw [h3, Nat.zero_add, tN_nI (by have := (hw _ (gD_mem hi)).2; omega)]
  · unfold w256 wL
    rw [hE, show p + sp.length + (w.length + 1) - (p + sp.length) = (a :: w).length by simp]
    refine wF_cg _ (fun i hi => ?_)
    have h3 := (h2.fs i hi).2
    unfold dBy
    rw [h3, Nat.zero_add, tN_nI (by have := (hw _ (gD_mem hi)).2; omega)]
    rfl
/-- a number -/
theorem tk_num {a : Nat} (h : Atl b n p (sp ++ ((a :: w) ++ c :: r))) (hsp : ∀ z ∈ sp, isSp (nI z) = true) (hw : ∀ z ∈ a :: w, 48 ≤ z ∧ z ≤ 57) (hc : isDg (nI c) = false) (h4 : w.length < 4) :
    tS b n p = p + sp.length ∧ tE b n p = p + sp.length + (w.length + 1) ∧ tK b n p = 3 ∧ tV b n p = wL 10 48 (a :: w) := by
  have ha := dig_nsp (hw a List.mem_cons_self)
  have hs : tS b n p = p + sp.length := ts_at (c := a) (r := w ++ c :: r) h hsp ha.2.2
  have h2 : Atl b n (p + sp.length) ((a :: w) ++ c :: r) := h.sn
  have h0 := h2 0 (by simp)
  have hb0 : b (p + sp.length) = nI a := h0.2
  have hE : runE isDg b n (p + sp.length) = p + sp.length + (w.length + 1) := run_at (w := a :: w) h2 (fun z hz => (dig_nsp (hw z hz)).2.1) hc
  have ht := tok_dig hs h0.1 (by rw [hb0]; exact ha.1) (by rw [hb0]; exact ha.2.1) hE
  refine ⟨hs, ht.1, by rw [ht.2, if_neg (by omega)], ?_⟩
  unfold tV wL
  rw [ht.1, hs, show p + sp.length + (w.length + 1) - (p + sp.length) = (a :: w).length by simp]
  refine wF_cg _ (fun i hi => ?_)
  have h3 := (h2.fs i hi).2
  unfold d10
  rw [h3, Nat.zero_add, tN_nI (by have := (hw _ (gD_mem hi)).2; omega)]
/-- a semicolon -/
theorem tk_semi (h : Atl b n p (59 :: r)) : tS b n p = p ∧ tE b n p = p + 1 ∧ tK b n p = 4 := by
  have h0 := h 0 (by simp)
  have hb0 : b p = nI 59 := h0.2
  have hs : tS b n p = p := ts_at (sp := []) (c := 59) (r := r) h (fun z hz => absurd hz List.not_mem_nil) (by decide)
  have ht := tok_oth hs h0.1 (by rw [hb0]; decide) (by rw [hb0]; decide)
  exact ⟨hs, ht.1, by rw [ht.2, if_pos hb0]⟩
end ATL
/-- a number of one or two digits -/
theorem tk_dec {b : Nat → Int32} {n p c x : Nat} {r : List Nat} (h : Atl b n p ([32] ++ (dec2 x ++ c :: r))) (hx : x < 100) (hc : isDg (nI c) = false) :
    tE b n p = p + 1 + (dec2 x).length ∧ tK b n p = 3 ∧ tV b n p = x := by
  have hsp : ∀ z ∈ [32], isSp (nI z) = true := fun z hz => by rw [List.mem_singleton.mp hz]; decide
  unfold dec2 at h ⊢
  by_cases e : x < 10
  · rw [if_pos e] at h ⊢
    obtain ⟨h1, h2, h3, h4⟩ := tk_num (a := 48 + x) (w := []) h hsp (fun z hz => by rw [List.mem_singleton.mp hz]; omega) hc (show 0 < 4 by decide)
    refine ⟨h2, h3, h4.trans ?_⟩
    show 10 * 0 + (48 + x - 48) = x
    omega
  · rw [if_neg e] at h ⊢
    obtain ⟨h1, h2, h3, h4⟩ := tk_num (a := 48 + x / 10) (w := [48 + x % 10]) h hsp (fun z hz => by
      rcases List.mem_cons.mp hz with rfl | hz
      · omega
      · rw [List.mem_singleton.mp hz]; omega) hc (show 1 < 4 by decide)
    refine ⟨h2, h3, h4.trans ?_⟩
    show 10 * (10 * 0 + (48 + x / 10 - 48)) + (48 + x % 10 - 48) = x
    omega
