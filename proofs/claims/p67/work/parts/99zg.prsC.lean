/-! the other statements -/
section PSU
variable {b : Nat → Int32} {n p : Nat} {σ : Row} {nm : Nm}
theorem st_bridge {Y sh gd : Nat} {r : List Nat} (h : Atl b n p (98 :: 114 :: 105 :: 100 :: 103 :: 101 :: 32 :: (dec2 Y ++ 32 :: (dec2 sh ++ 32 :: (dec2 gd ++ 59 :: r))))) (hY : 1 ≤ Y ∧ Y ≤ 12) (hs : 1 ≤ sh ∧ sh ≤ 4) (hg : gd ≤ 10) :
    stm b n true σ nm p = .inr (upd (upd (upd σ 0 (nI Y)) 1 (nI sh)) 2 (nI gd), nm, p + 7 + (dec2 Y).length + 1 + (dec2 sh).length + 1 + (dec2 gd).length + 1) ∧ tK b n p ≠ 0 := by
  obtain ⟨a1, a2, a3, a4⟩ := tk_kw (a := 98) (w := [114, 105, 100, 103, 101]) (c := 32) h (by decide) (by decide) (show 5 < 8 by decide) (j := 0) (by decide +kernel) (by decide)
  have hB : Atl b n (p + 6) ([32] ++ (dec2 Y ++ 32 :: (dec2 sh ++ 32 :: (dec2 gd ++ 59 :: r)))) := Atl.sn (l1 := [98, 114, 105, 100, 103, 101]) h
  obtain ⟨b1, b2, b3⟩ := tk_dec hB (by omega) (by decide)
  have hC : Atl b n (p + 6 + 1 + (dec2 Y).length) ([32] ++ (dec2 sh ++ 32 :: (dec2 gd ++ 59 :: r))) := Atl.sn (l1 := dec2 Y) (Atl.sn (l1 := [32]) hB)
  obtain ⟨c1, c2, c3⟩ := tk_dec hC (by omega) (by decide)
  have hD : Atl b n (p + 6 + 1 + (dec2 Y).length + 1 + (dec2 sh).length) ([32] ++ (dec2 gd ++ 59 :: r)) := Atl.sn (l1 := dec2 sh) (Atl.sn (l1 := [32]) hC)
  obtain ⟨d1, d2, d3⟩ := tk_dec hD (by omega) (by decide)
  have hE : Atl b n (p + 6 + 1 + (dec2 Y).length + 1 + (dec2 sh).length + 1 + (dec2 gd).length) (59 :: r) := Atl.sn (l1 := dec2 gd) (Atl.sn (l1 := [32]) hD)
  have t1 : tt b n p 1 = p + 6 := a2
  have t2 : tt b n p 2 = p + 6 + 1 + (dec2 Y).length := by show tE b n (tt b n p 1) = _; rw [t1, b1]
  have t3 : tt b n p 3 = p + 6 + 1 + (dec2 Y).length + 1 + (dec2 sh).length := by show tE b n (tt b n p 2) = _; rw [t2, c1]
  have t4 : tt b n p 4 = p + 6 + 1 + (dec2 Y).length + 1 + (dec2 sh).length + 1 + (dec2 gd).length := by show tE b n (tt b n p 3) = _; rw [t3, d1]
  refine ⟨stm_ok (q := p + 6 + 1 + (dec2 Y).length + 1 + (dec2 sh).length + 1 + (dec2 gd).length) ?_ hE, by rw [a3]; decide⟩
  rw [stBo_0 a4]
  unfold stBr
  rw [if_neg (by decide), t1, if_neg (nu_ok b2 b3 hY.1 hY.2), t2, if_neg (nu_ok c2 c3 hs.1 hs.2), t3, if_neg (nu_ok d2 d3 (by omega) hg), b3, c3, d3, t4]
theorem st_gang {f : Bool} {k u w : Nat} {r : List Nat} (h : Atl b n p (103 :: 97 :: 110 :: 103 :: 32 :: 103 :: (97 + k) :: 32 :: (dec2 u ++ 32 :: (dec2 w ++ 59 :: r)))) (hk : k < 2) (hu : 1 ≤ u ∧ u ≤ 50) (hw9 : w ≤ 99) (hv : NmV b n σ nm) (h0 : cN σ 0 ≤ 12) (h1 : cN σ 1 ≤ 12) (h2 : cN σ 2 = k) :
    stm b n f σ nm p = .inr (adG σ (nI u) (nI w), unm nm 2 k (p + 5), p + 8 + (dec2 u).length + 1 + (dec2 w).length + 1) ∧ w27 b n (p + 5) = 190 + k ∧ tK b n p ≠ 0 := by
  obtain ⟨a1, a2, a3, a4⟩ := tk_kw (a := 103) (w := [97, 110, 103]) (c := 32) h (by decide) (by decide) (show 3 < 8 by decide) (j := 3) (by decide +kernel) (by decide)
  have hB : Atl b n (p + 4) (32 :: 103 :: (97 + k) :: 32 :: (dec2 u ++ 32 :: (dec2 w ++ 59 :: r))) := Atl.sn (l1 := [103, 97, 110, 103]) h
  obtain ⟨b1, b2, b3, b4, b5⟩ := tk_nm hB (by decide) (by omega) (by decide)
  have hC : Atl b n (p + 7) ([32] ++ (dec2 u ++ 32 :: (dec2 w ++ 59 :: r))) := Atl.sn (l1 := [103, 97, 110, 103, 32, 103, 97 + k]) h
  obtain ⟨c1, c2, c3⟩ := tk_dec hC (by omega) (by decide)
  have hD : Atl b n (p + 7 + 1 + (dec2 u).length) ([32] ++ (dec2 w ++ 59 :: r)) := Atl.sn (l1 := dec2 u) (Atl.sn (l1 := [32]) hC)
  obtain ⟨d1, d2, d3⟩ := tk_dec hD (by omega) (by decide)
  have hE : Atl b n (p + 7 + 1 + (dec2 u).length + 1 + (dec2 w).length) (59 :: r) := Atl.sn (l1 := dec2 w) (Atl.sn (l1 := [32]) hD)
  have t1 : tt b n p 1 = p + 4 := a2
  have t2 : tt b n p 2 = p + 7 := by show tE b n (tt b n p 1) = _; rw [t1, b2]
  have t3 : tt b n p 3 = p + 7 + 1 + (dec2 u).length := by show tE b n (tt b n p 2) = _; rw [t2, c1]
  have t4 : tt b n p 4 = p + 7 + 1 + (dec2 u).length + 1 + (dec2 w).length := by show tE b n (tt b n p 3) = _; rw [t3, d1]
  have hw : w27 b n (p + 4 + 1) = 190 + k := by rw [b5]; omega
  refine ⟨?_, hw, by rw [a3]; decide⟩
  have hG : nG σ = k := h2
  refine (stm_ok (q := p + 7 + 1 + (dec2 u).length + 1 + (dec2 w).length) (σ' := adG σ (nI u) (nI w)) (nm' := unm nm 2 k (p + 5)) ?_ hE)
  rw [stBo_3 a4]
  unfold stGa
  rw [if_neg (by omega), t1, if_neg (nn_ok b3 b4 b1 (dclx_no hv ⟨fun z hz => by rw [hw]; omega, fun z hz => by rw [hw]; omega, fun z hz => by rw [hw]; omega⟩)), t2, if_neg (nu_ok c2 c3 hu.1 hu.2), t3, if_neg (nu_ok d2 d3 (by omega) hw9), c3, d3, t4, b1, hG]
theorem st_day {f : Bool} {y v : Nat} {r : List Nat} (h : Atl b n p (119 :: 101 :: 97 :: 116 :: 104 :: 101 :: 114 :: 32 :: (dec2 y ++ 32 :: (dec2 v ++ 59 :: r)))) (hy : y ≤ Yn σ - 1 ∧ y < 100) (hv : v < 100) :
    stm b n f σ nm p = .inr (upd σ (80 + y) (nI v), nm, p + 8 + (dec2 y).length + 1 + (dec2 v).length + 1) ∧ tK b n p ≠ 0 := by
  obtain ⟨a1, a2, a3, a4⟩ := tk_kw (a := 119) (w := [101, 97, 116, 104, 101, 114]) (c := 32) h (by decide) (by decide) (show 6 < 8 by decide) (j := 4) (by decide +kernel) (by decide)
  have hC : Atl b n (p + 7) ([32] ++ (dec2 y ++ 32 :: (dec2 v ++ 59 :: r))) := Atl.sn (l1 := [119, 101, 97, 116, 104, 101, 114]) h
  obtain ⟨c1, c2, c3⟩ := tk_dec hC (by omega) (by decide)
  have hD : Atl b n (p + 7 + 1 + (dec2 y).length) ([32] ++ (dec2 v ++ 59 :: r)) := Atl.sn (l1 := dec2 y) (Atl.sn (l1 := [32]) hC)
  obtain ⟨d1, d2, d3⟩ := tk_dec hD (by omega) (by decide)
  have hE : Atl b n (p + 7 + 1 + (dec2 y).length + 1 + (dec2 v).length) (59 :: r) := Atl.sn (l1 := dec2 v) (Atl.sn (l1 := [32]) hD)
  have t1 : tt b n p 1 = p + 7 := a2
  have t2 : tt b n p 2 = p + 7 + 1 + (dec2 y).length := by show tE b n (tt b n p 1) = _; rw [t1, c1]
  have t3 : tt b n p 3 = p + 7 + 1 + (dec2 y).length + 1 + (dec2 v).length := by show tE b n (tt b n p 2) = _; rw [t2, d1]
  refine ⟨stm_ok (q := p + 7 + 1 + (dec2 y).length + 1 + (dec2 v).length) ?_ hE, by rw [a3]; decide⟩
  rw [stBo_4 a4]
  unfold stWe
  rw [t1, if_neg (nu_ok c2 c3 (by omega) hy.1), t2, if_neg (nu_ok d2 d3 (by omega) (by omega)), c3, d3, t3]
end PSU
