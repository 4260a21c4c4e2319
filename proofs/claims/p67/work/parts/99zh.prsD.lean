/-! a span's statement -/
section PSV
variable {b : Nat → Int32} {n p : Nat} {σ : Row} {nm : Nm}
theorem tk_lane {d c : Nat} {r : List Nat} (h : Atl b n p ([32] ++ (laneT d ++ c :: r))) (hd : d ≤ cN σ 0) (hd3 : d ≤ 4) (hv : NmV b n σ nm) (hc : isL (nI c) = false) :
    tE b n p = p + 1 + (laneT d).length ∧ ¬ lnOk b n σ nm p = false ∧ lnV b n σ nm p = nI d - nI 1 := by
  unfold laneT at h ⊢
  by_cases e : d = 0
  · rw [if_pos e] at h ⊢
    obtain ⟨h1, h2, h3, h4, h5⟩ := tk_word (sp := [32]) (a := 110) (w := [111, 110, 101]) h sp32 (by decide) hc (show 3 < 8 by decide)
    have hk : kwI b n p = nI 7 := (kwx_at h3 h1 h5 (j := 7) (by decide +kernel)).trans (if_pos (by decide))
    obtain ⟨g1, g2⟩ := lnOk_7 (σ := σ) (nm := nm) hk
    exact ⟨h2, by rw [g1]; decide, by rw [g2, e]; decide⟩
  · rw [if_neg e] at h ⊢
    have h' : Atl b n p (32 :: 108 :: (97 + (d - 1)) :: c :: r) := h
    obtain ⟨h1, h2, h3, h4, h5⟩ := tk_nm h' (by decide) (by omega) hc
    obtain ⟨g1, g2⟩ := lnOk_o (b := b) (n := n) (p := p) (σ := σ) (nm := nm) (by rw [h4]; decide)
    have hf : fk b n σ nm 0 (tS b n p) = d - 1 := by
      rw [h1]
      refine fstN_hit (by omega) (decide_eq_true ?_) (fun z hz => decide_eq_false ?_)
      · rw [(hv (d - 1)).1 (by omega), h5]; omega
      · rw [(hv z).1 (by omega), h5]; omega
    refine ⟨by rw [h2]; rfl, ?_, ?_⟩
    · rw [g1]
      unfold onOk isNm
      rw [hf, decide_eq_true ⟨h3, h4⟩, decide_eq_true (show d - 1 < cN σ 0 by omega)]
      decide
    · rw [g2, hf, nI_sub (by omega)]
theorem st_span {f : Bool} {k d a u t m : Nat} {r : List Nat} (h : Atl b n p (115 :: 112 :: 97 :: 110 :: 32 :: 115 :: (97 + k) :: 32 :: (laneT d ++ 32 :: (dec2 a ++ 32 :: (dec2 u ++ 32 :: (dec2 t ++ 32 :: (dec2 m ++ 59 :: r))))))) (hk : k < 5) (hd : d ≤ cN σ 0) (hd3 : cN σ 0 ≤ 4) (ha : 1 ≤ a ∧ a ≤ 99) (hu : u < 100) (ht : 1 ≤ t ∧ t ≤ 50) (hm : 1 ≤ m ∧ m < 100) (hv : NmV b n σ nm) (h1 : cN σ 1 = k) (h2 : cN σ 2 ≤ 12) :
    stm b n f σ nm p = .inr (adS σ (nI d - nI 1) (nI a) (nI u) (nI t) (nI m), unm nm 1 k (p + 5), p + 8 + (laneT d).length + 1 + (dec2 a).length + 1 + (dec2 u).length + 1 + (dec2 t).length + 1 + (dec2 m).length + 1) ∧ w27 b n (p + 5) = 514 + k ∧ tK b n p ≠ 0 := by
  obtain ⟨a1, a2, a3, a4⟩ := tk_kw (a := 115) (w := [112, 97, 110]) (c := 32) h (by decide) (by decide) (show 3 < 8 by decide) (j := 2) (by decide +kernel) (by decide)
  have hB : Atl b n (p + 4) (32 :: 115 :: (97 + k) :: 32 :: (laneT d ++ 32 :: (dec2 a ++ 32 :: (dec2 u ++ 32 :: (dec2 t ++ 32 :: (dec2 m ++ 59 :: r)))))) := Atl.sn (l1 := [115, 112, 97, 110]) h
  obtain ⟨b1, b2, b3, b4, b5⟩ := tk_nm hB (by decide) (by omega) (by decide)
  have hC : Atl b n (p + 7) ([32] ++ (laneT d ++ 32 :: (dec2 a ++ 32 :: (dec2 u ++ 32 :: (dec2 t ++ 32 :: (dec2 m ++ 59 :: r)))))) := Atl.sn (l1 := [115, 112, 97, 110, 32, 115, 97 + k]) h
  obtain ⟨c1, c2, c3⟩ := tk_lane hC hd (by omega) hv (by decide)
  have hD : Atl b n (p + 7 + 1 + (laneT d).length) ([32] ++ (dec2 a ++ 32 :: (dec2 u ++ 32 :: (dec2 t ++ 32 :: (dec2 m ++ 59 :: r))))) := Atl.sn (l1 := laneT d) (Atl.sn (l1 := [32]) hC)
  obtain ⟨d1, d2, d3⟩ := tk_dec hD (by omega) (by decide)
  have hE : Atl b n (p + 7 + 1 + (laneT d).length + 1 + (dec2 a).length) ([32] ++ (dec2 u ++ 32 :: (dec2 t ++ 32 :: (dec2 m ++ 59 :: r)))) := Atl.sn (l1 := dec2 a) (Atl.sn (l1 := [32]) hD)
  obtain ⟨e1, e2, e3⟩ := tk_dec hE hu (by decide)
  have hF : Atl b n (p + 7 + 1 + (laneT d).length + 1 + (dec2 a).length + 1 + (dec2 u).length) ([32] ++ (dec2 t ++ 32 :: (dec2 m ++ 59 :: r))) := Atl.sn (l1 := dec2 u) (Atl.sn (l1 := [32]) hE)
  obtain ⟨f1, f2, f3⟩ := tk_dec hF (by omega) (by decide)
  have hG : Atl b n (p + 7 + 1 + (laneT d).length + 1 + (dec2 a).length + 1 + (dec2 u).length + 1 + (dec2 t).length) ([32] ++ (dec2 m ++ 59 :: r)) := Atl.sn (l1 := dec2 t) (Atl.sn (l1 := [32]) hF)
  obtain ⟨g1, g2, g3⟩ := tk_dec hG (by omega) (by decide)
  have hH : Atl b n (p + 7 + 1 + (laneT d).length + 1 + (dec2 a).length + 1 + (dec2 u).length + 1 + (dec2 t).length + 1 + (dec2 m).length) (59 :: r) := Atl.sn (l1 := dec2 m) (Atl.sn (l1 := [32]) hG)
  have t1 : tt b n p 1 = p + 4 := a2
  have t2 : tt b n p 2 = p + 7 := by show tE b n (tt b n p 1) = _; rw [t1, b2]
  have t3 : tt b n p 3 = p + 7 + 1 + (laneT d).length := by show tE b n (tt b n p 2) = _; rw [t2, c1]
  have t4 : tt b n p 4 = p + 7 + 1 + (laneT d).length + 1 + (dec2 a).length := by show tE b n (tt b n p 3) = _; rw [t3, d1]
  have t5 : tt b n p 5 = p + 7 + 1 + (laneT d).length + 1 + (dec2 a).length + 1 + (dec2 u).length := by show tE b n (tt b n p 4) = _; rw [t4, e1]
  have t6 : tt b n p 6 = p + 7 + 1 + (laneT d).length + 1 + (dec2 a).length + 1 + (dec2 u).length + 1 + (dec2 t).length := by show tE b n (tt b n p 5) = _; rw [t5, f1]
  have t7 : tt b n p 7 = p + 7 + 1 + (laneT d).length + 1 + (dec2 a).length + 1 + (dec2 u).length + 1 + (dec2 t).length + 1 + (dec2 m).length := by show tE b n (tt b n p 6) = _; rw [t6, g1]
  have hw : w27 b n (p + 4 + 1) = 514 + k := by rw [b5]; omega
  refine ⟨?_, hw, by rw [a3]; decide⟩
  have hS : nS σ = k := h1
  refine (stm_ok (q := p + 7 + 1 + (laneT d).length + 1 + (dec2 a).length + 1 + (dec2 u).length + 1 + (dec2 t).length + 1 + (dec2 m).length) (σ' := adS σ (nI d - nI 1) (nI a) (nI u) (nI t) (nI m)) (nm' := unm nm 1 k (p + 5)) ?_ hH)
  rw [stBo_2 a4]
  unfold stSp
  rw [if_neg (by omega), t1, if_neg (nn_ok b3 b4 b1 (dclx_no hv ⟨fun z hz => by rw [hw]; omega, fun z hz => by rw [hw]; omega, fun z hz => by rw [hw]; omega⟩)), t2, if_neg c2, t3, if_neg (nu_ok d2 d3 ha.1 ha.2), t4, if_neg (nu_ok e2 e3 (by omega) (by omega)), t5, if_neg (nu_ok f2 f3 ht.1 ht.2), t6, if_neg (nu_ok g2 g3 hm.1 (by omega)), c3, d3, e3, f3, g3, t7, b1, hS]
end PSV
