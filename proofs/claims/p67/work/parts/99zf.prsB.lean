/-! the law's text, statement by statement -/
section PST
variable {b : Nat → Int32} {n p s W : Nat} {σ : Row} {nm : Nm}
theorem kwx_at (hK : tK b n p = 2) (hs : tS b n p = s) (hw : w256 b n s = W) {j : Nat} (h : fstN (fun j => decide (W = kwC.getD j 0)) 8 = j) : kwI b n p = if j < 8 then nI j else -1 := by
  unfold kwI kwS kwJ
  rw [if_pos hK, hs, hw, h]
theorem kw_nm (hK : tK b n p = 2) (hs : tS b n p = s) (hw : w256 b n s = W) (h : W < 65536) : kwI b n p = -1 := by
  have hk : ∀ j, j < 8 → 65536 ≤ kwC.getD j 0 := by decide +kernel
  exact (kwx_at hK hs hw (j := 8) (fstN_none (fun z hz => decide_eq_false (fun e => by have := hk z hz; omega)))).trans (if_neg (Nat.lt_irrefl 8))
/-- the names so far -/
def NmV (b : Nat → Int32) (n : Nat) (σ : Row) (nm : Nm) : Prop := ∀ k, (k < cN σ 0 → w27 b n (nm 0 k) = 325 + k) ∧ (k < cN σ 1 → w27 b n (nm 1 k) = 514 + k) ∧ (k < cN σ 2 → w27 b n (nm 2 k) = 190 + k)
theorem fk_no {t : Nat} (h : ∀ z, z < cN σ t → w27 b n (nm t z) ≠ w27 b n s) : fk b n σ nm t s = cN σ t := fstN_none (fun z hz => decide_eq_false (h z hz))
theorem dclx_no (hv : NmV b n σ nm) (h : (∀ z, z < cN σ 0 → 325 + z ≠ w27 b n s) ∧ (∀ z, z < cN σ 1 → 514 + z ≠ w27 b n s) ∧ ∀ z, z < cN σ 2 → 190 + z ≠ w27 b n s) : dcl b n σ nm s = false := by
  unfold dcl
  rw [fk_no (t := 0) (fun z hz => by rw [(hv z).1 hz]; exact h.1 z hz), fk_no (t := 1) (fun z hz => by rw [(hv z).2.1 hz]; exact h.2.1 z hz), fk_no (t := 2) (fun z hz => by rw [(hv z).2.2 hz]; exact h.2.2 z hz)]
  exact decide_eq_false (fun h => by omega)
theorem nn_ok (hK : tK b n p = 2) (hk : kwI b n p = -1) (hs : tS b n p = s) (hd : dcl b n σ nm s = false) : ¬ nnOk b n σ nm p = false := by
  unfold nnOk isNm
  rw [hs, hd, decide_eq_true ⟨hK, hk⟩]
  decide
theorem nu_ok {v lo hi : Nat} (hK : tK b n p = 3) (hv : tV b n p = v) (h1 : lo ≤ v) (h2 : v ≤ hi) : ¬ nuOk b n p lo hi = false := by
  unfold nuOk
  rw [hv, decide_eq_true ⟨hK, h1, h2⟩]
  decide
theorem sp32 : ∀ z ∈ [32], isSp (nI z) = true := fun z hz => by rw [List.mem_singleton.mp hz]; decide
theorem wL2 (B o a c : Nat) : wL B o (a :: [c]) = B * (B * 0 + (a - o)) + (c - o) := rfl
/-- a name of two letters, behind a blank -/
theorem tk_nm {c0 k c : Nat} {r : List Nat} (h : Atl b n p (32 :: c0 :: (97 + k) :: c :: r)) (h0 : 97 ≤ c0 ∧ c0 ≤ 122) (hk : k < 12) (hc : isL (nI c) = false) :
    tS b n p = p + 1 ∧ tE b n p = p + 3 ∧ tK b n p = 2 ∧ kwI b n p = -1 ∧ w27 b n (p + 1) = 27 * (c0 - 96) + (1 + k) := by
  obtain ⟨h1, h2, h3, h4, h5⟩ := tk_word (sp := [32]) (a := c0) (w := [97 + k]) (c := c) (r := r) h sp32 (fun z hz => by
    rcases List.mem_cons.mp hz with rfl | hz
    · exact h0
    · rw [List.mem_singleton.mp hz]; omega) hc (show 1 < 8 by decide)
  refine ⟨h1, h2, h3, kw_nm h3 h1 h5 ?_, h4.trans ?_⟩
  · rw [wL2]; omega
  · rw [wL2]; omega
/-- the first word of a statement -/
theorem tk_kw {a c : Nat} {w r : List Nat} (h : Atl b n p ((a :: w) ++ c :: r)) (hw : ∀ z ∈ a :: w, 97 ≤ z ∧ z ≤ 122) (hc : isL (nI c) = false) (h8 : w.length < 8) {j : Nat} (hj : fstN (fun j => decide (wL 256 0 (a :: w) = kwC.getD j 0)) 8 = j) (hj8 : j < 8) :
    tS b n p = p ∧ tE b n p = p + (w.length + 1) ∧ tK b n p = 2 ∧ kwI b n p = nI j := by
  obtain ⟨h1, h2, h3, h4, h5⟩ := tk_word (sp := []) (a := a) (w := w) (c := c) (r := r) h (fun z hz => absurd hz List.not_mem_nil) hw hc h8
  exact ⟨h1, h2, h3, (kwx_at h3 h1 h5 hj).trans (if_pos hj8)⟩
theorem stm_ok {f : Bool} {σ' : Row} {nm' : Nm} {q : Nat} {r : List Nat} (h : stBo b n f σ nm p = .inr (σ', nm', q)) (hq : Atl b n q (59 :: r)) : stm b n f σ nm p = .inr (σ', nm', q + 1) := by
  obtain ⟨h1, h2, h3⟩ := tk_semi hq
  unfold stm seK
  rw [h]
  show (if tK b n q = 4 then _ else _) = _
  rw [if_pos h3, h2]
theorem st_lane {f : Bool} {k : Nat} {r : List Nat} (h : Atl b n p (108 :: 97 :: 110 :: 101 :: 32 :: 108 :: (97 + k) :: 32 :: (dec2 (10 * k) ++ 59 :: r))) (hk : k < 3) (hv : NmV b n σ nm) (h0 : cN σ 0 = k) (h1 : cN σ 1 ≤ 12) (h2 : cN σ 2 ≤ 12) :
    stm b n f σ nm p = .inr (adL σ (nI (10 * k)), unm nm 0 k (p + 5), p + 8 + (dec2 (10 * k)).length + 1) ∧ w27 b n (p + 5) = 325 + k ∧ tK b n p ≠ 0 := by
  obtain ⟨a1, a2, a3, a4⟩ := tk_kw (a := 108) (w := [97, 110, 101]) (c := 32) h (by decide) (by decide) (show 3 < 8 by decide) (j := 1) (by decide +kernel) (by decide)
  have hB : Atl b n (p + 4) (32 :: 108 :: (97 + k) :: 32 :: (dec2 (10 * k) ++ 59 :: r)) := Atl.sn (l1 := [108, 97, 110, 101]) h
  obtain ⟨b1, b2, b3, b4, b5⟩ := tk_nm hB (by decide) (by omega) (by decide)
  have hC : Atl b n (p + 7) ([32] ++ (dec2 (10 * k) ++ 59 :: r)) := Atl.sn (l1 := [108, 97, 110, 101, 32, 108, 97 + k]) h
  obtain ⟨c1, c2, c3⟩ := tk_dec hC (by omega) (by decide)
  have hD : Atl b n (p + 7 + 1 + (dec2 (10 * k)).length) (59 :: r) := Atl.sn (l1 := dec2 (10 * k)) (Atl.sn (l1 := [32]) hC)
  have t1 : tt b n p 1 = p + 4 := a2
  have t2 : tt b n p 2 = p + 7 := by show tE b n (tt b n p 1) = _; rw [t1, b2]
  have t3 : tt b n p 3 = p + 7 + 1 + (dec2 (10 * k)).length := by show tE b n (tt b n p 2) = _; rw [t2, c1]
  have hw : w27 b n (p + 4 + 1) = 325 + k := by rw [b5]; omega
  refine ⟨?_, hw, by rw [a3]; decide⟩
  have hL : nLn σ = k := h0
  refine (stm_ok (q := p + 7 + 1 + (dec2 (10 * k)).length) (σ' := adL σ (nI (10 * k))) (nm' := unm nm 0 k (p + 5)) ?_ hD)
  rw [stBo_1 a4]
  unfold stLa
  rw [if_neg (by omega), t1, if_neg (nn_ok b3 b4 b1 (dclx_no hv ⟨fun z hz => by rw [hw]; omega, fun z hz => by rw [hw]; omega, fun z hz => by rw [hw]; omega⟩)), t2, if_neg (nu_ok c2 c3 (by omega) (by omega)), c3, t3, b1, hL]
end PST
