/-! a statement; the text as a whole -/
section ST
variable {b : Nat → Int32} {n : Nat} {f : Bool} {σ : Row} {nm : Nm} {p : Nat}
theorem stBo_0 (h : kwI b n p = nI 0) : stBo b n f σ nm p = stBr b n f σ nm p := if_pos h
theorem stBo_1 (h : kwI b n p = nI 1) : stBo b n f σ nm p = stLa b n σ nm p := by unfold stBo; rw [if_neg (by rw [h]; decide), if_pos h]
theorem stBo_2 (h : kwI b n p = nI 2) : stBo b n f σ nm p = stSp b n σ nm p := by unfold stBo; rw [if_neg (by rw [h]; decide), if_neg (by rw [h]; decide), if_pos h]
theorem stBo_3 (h : kwI b n p = nI 3) : stBo b n f σ nm p = stGa b n σ nm p := by unfold stBo; rw [if_neg (by rw [h]; decide), if_neg (by rw [h]; decide), if_neg (by rw [h]; decide), if_pos h]
theorem stBo_4 (h : kwI b n p = nI 4) : stBo b n f σ nm p = stWe b n σ nm p := by unfold stBo; rw [if_neg (by rw [h]; decide), if_neg (by rw [h]; decide), if_neg (by rw [h]; decide), if_neg (by rw [h]; decide), if_pos h]
theorem stBo_5 (h : kwI b n p = nI 5) : stBo b n f σ nm p = stCl b n σ nm p := by unfold stBo; rw [if_neg (by rw [h]; decide), if_neg (by rw [h]; decide), if_neg (by rw [h]; decide), if_neg (by rw [h]; decide), if_neg (by rw [h]; decide), if_pos h]
theorem stBo_6 (h : kwI b n p = nI 6) : stBo b n f σ nm p = stPa b n σ nm p := by unfold stBo; rw [if_neg (by rw [h]; decide), if_neg (by rw [h]; decide), if_neg (by rw [h]; decide), if_neg (by rw [h]; decide), if_neg (by rw [h]; decide), if_neg (by rw [h]; decide), if_pos h]
theorem stBo_o (h : kwI b n p = -1 ∨ kwI b n p = nI 7) : stBo b n f σ nm p = .inl (e2 b n p, tS b n p) := by
  unfold stBo
  rcases h with h | h
  all_goals rw [if_neg (by rw [h]; decide), if_neg (by rw [h]; decide), if_neg (by rw [h]; decide), if_neg (by rw [h]; decide), if_neg (by rw [h]; decide), if_neg (by rw [h]; decide), if_neg (by rw [h]; decide)]
theorem okP_ex {r : PRes} (h : okP r = true) : ∃ π nm q, r = .inr (π, nm, q) := by
  cases r with
  | inl e => cases (show false = true from h)
  | inr e => exact ⟨e.1, e.2.1, e.2.2, rfl⟩
theorem okP_no {r : PRes} (h : okP r = false) : ∃ e, r = .inl e := by
  cases r with
  | inl e => exact ⟨e, rfl⟩
  | inr e => cases (show true = false from h)
theorem seK_l {r : PRes} (h : okP r = false) : seK b n r = r := by
  obtain ⟨e, rfl⟩ := okP_no h
  rfl
/-- the result of one statement is good: where it ends, what it keeps -/
def GdP (n p0 : Nat) (r : PRes) : Prop := ∀ π nm q, r = .inr (π, nm, q) → p0 ≤ q ∧ q ≤ n ∧ Inv π ∧ DR π
theorem GdP_l {e : Int32 × Nat} : GdP n p (.inl e) := fun π nm q h => by cases h
theorem GdP_r {π : Row} {q : Nat} {nm : Nm} (h0 : p ≤ q) (h : q ≤ n) (hi : Inv π) (hd : DR π) : GdP n p (.inr (π, nm, q)) := fun π' nm' q' e => by
  injection e with e
  injection e with e1 e2
  injection e2 with e2 e3
  subst e1 e3
  exact ⟨h0, h, hi, hd⟩
theorem GdP_i {c : Prop} [Decidable c] {r s : PRes} (h1 : c → GdP n p r) (h2 : ¬ c → GdP n p s) : GdP n p (if c then r else s) := by
  by_cases h : c
  · rw [if_pos h]; exact h1 h
  · rw [if_neg h]; exact h2 h
theorem tt_ge : ∀ i, p ≤ tt b n p i
  | 0 => Nat.le_refl _
  | i + 1 => Nat.le_trans (tt_ge i) (Nat.le_trans tS_ge tE_ge)
theorem nuOk_t {q lo hi : Nat} (h : ¬ nuOk b n q lo hi = false) : tK b n q = 3 ∧ lo ≤ tV b n q ∧ tV b n q ≤ hi := of_decide_eq_true (by cases e : nuOk b n q lo hi with | false => exact absurd e h | true => exact e)
theorem onOk_t {t q : Nat} (h : ¬ onOk b n σ nm t q = false) : fk b n σ nm t (tS b n q) < cN σ t := by
  have e : onOk b n σ nm t q = true := by cases e : onOk b n σ nm t q with | false => exact absurd e h | true => rfl
  unfold onOk at e
  rw [Bool.and_eq_true] at e
  exact of_decide_eq_true e.2
end ST
theorem Inv_ct {σ τ : Row} (hY : τ 0 = nI (Yn τ)) (h1 : 1 ≤ Yn τ) (h12 : Yn τ ≤ 12) (hL : τ 3 = nI (nLn τ)) (hl : nLn τ ≤ 4) (hS : τ 4 = nI (nS τ)) (hs : nS τ ≤ 12) (hG : τ 5 = nI (nG τ)) (hg : nG τ ≤ 5) : Inv τ := ⟨hY, h1, h12, hL, hl, hS, hs, hG, hg⟩
theorem Inv_adL {σ : Row} {v : Int32} (hi : Inv σ) (h : nLn σ < 4) : Inv (adL σ v) := by
  obtain ⟨hY, hY1, hY12, hLn, hL4, hSn, hS12, hGn, hG5⟩ := id hi
  obtain ⟨h1, h2, h3, h4⟩ := adL_n (t := v) h
  refine ⟨?_, by omega, by omega, ?_, by omega, ?_, by omega, ?_, by omega⟩
  · rw [h4, adL_at (by omega) (by omega)]; exact hY
  · rw [h1]; exact upd_eq
  · rw [h2, adL_at (by omega) (by omega)]; exact hSn
  · rw [h3, adL_at (by omega) (by omega)]; exact hGn
theorem Inv_adS {σ : Row} {v1 v2 v3 v4 v5 : Int32} (hi : Inv σ) (h : nS σ < 12) : Inv (adS σ v1 v2 v3 v4 v5) := by
  obtain ⟨hY, hY1, hY12, hLn, hL4, hSn, hS12, hGn, hG5⟩ := id hi
  obtain ⟨h1, h2, h3, h4⟩ := adS_n (a := v1) (b := v2) (c := v3) (d := v4) (e := v5) h
  refine ⟨?_, by omega, by omega, ?_, by omega, ?_, by omega, ?_, by omega⟩
  · rw [h4, adS_at (by omega) (by omega)]; exact hY
  · rw [h1, adS_at (by omega) (by omega)]; exact hLn
  · rw [h2]; exact upd_eq
  · rw [h3, adS_at (by omega) (by omega)]; exact hGn
theorem Inv_adG {σ : Row} {v1 v2 : Int32} (hi : Inv σ) (h : nG σ < 5) : Inv (adG σ v1 v2) := by
  obtain ⟨hY, hY1, hY12, hLn, hL4, hSn, hS12, hGn, hG5⟩ := id hi
  obtain ⟨h1, h2, h3, h4⟩ := adG_n (a := v1) (b := v2) h
  refine ⟨?_, by omega, by omega, ?_, by omega, ?_, by omega, ?_, by omega⟩
  · rw [h4, adG_at (by omega) (by omega)]; exact hY
  · rw [h1, adG_at (by omega) (by omega)]; exact hLn
  · rw [h2, adG_at (by omega) (by omega)]; exact hSn
  · rw [h3]; exact upd_eq
theorem DR_adL {σ : Row} {v : Int32} (hi : Inv σ) (hd : DR σ) (h : nLn σ < 4) : DR (adL σ v) := by
  obtain ⟨hY, hY1, hY12, hLn, hL4, hSn, hS12, hGn, hG5⟩ := id hi
  obtain ⟨d1, d2, d3, d4, d5, d6, d7, d8⟩ := hd
  obtain ⟨h1, h2, h3, h4⟩ := adL_n (t := v) h
  unfold DR
  rw [h1, h2, h3, h4]
  refine ⟨fun g hg => ?_, fun x y hx hy => ?_, fun x hx => ?_, fun x hx => ?_, ?_, ?_, fun y hy => ?_, fun y hy => ?_⟩
  · rw [adL_at (by omega) (by omega)]; exact d1 g hg
  · unfold pnt; rw [adL_at (by omega) (by omega)]; exact d2 x y hx hy
  · rw [adL_at (by omega) (by omega)]
    rcases d3 x hx with q | ⟨q, hq, e⟩
    · exact Or.inl q
    · exact Or.inr ⟨q, by omega, e⟩
  · rw [adL_at (by omega) (by omega), adL_at (by omega) (by omega), adL_at (by omega) (by omega), adL_at (by omega) (by omega)]; exact d4 x hx
  · rw [adL_at (by omega) (by omega)]; exact d5
  · rw [adL_at (by omega) (by omega)]; exact d6
  · rw [adL_at (by omega) (by omega)]; exact d7 y hy
  · rw [adL_at (by omega) (by omega)]; exact d8 y hy
theorem DR_adS {σ : Row} {v1 v2 v3 v4 v5 : Int32} (hi : Inv σ) (hd : DR σ) (h : nS σ < 12) (a1 : v1 = -1 ∨ ∃ q : Nat, q < nLn σ ∧ v1 = nI q) (a2 : ∃ a r t m : Nat, 1 ≤ a ∧ a ≤ 99 ∧ r ≤ 100 ∧ 1 ≤ t ∧ t ≤ 50 ∧ 1 ≤ m ∧ m ≤ 100 ∧ v2 = nI a ∧ v3 = nI r ∧ v4 = nI t ∧ v5 = nI m) : DR (adS σ v1 v2 v3 v4 v5) := by
  obtain ⟨hY, hY1, hY12, hLn, hL4, hSn, hS12, hGn, hG5⟩ := id hi
  obtain ⟨d1, d2, d3, d4, d5, d6, d7, d8⟩ := hd
  obtain ⟨h1, h2, h3, h4⟩ := adS_n (a := v1) (b := v2) (c := v3) (d := v4) (e := v5) h
  obtain ⟨k0, k1, k2, k3, k4⟩ := adS_k (σ := σ) (a := v1) (b := v2) (c := v3) (d := v4) (e := v5)
  unfold DR
  rw [h1, h2, h3, h4]
  refine ⟨fun g hg => ?_, fun x y hx hy => ?_, fun x hx => ?_, fun x hx => ?_, ?_, ?_, fun y hy => ?_, fun y hy => ?_⟩
  · rw [adS_at (by omega) (by omega)]; exact d1 g hg
  · unfold pnt; rw [adS_at (by omega) (by omega)]
    rcases d2 x y hx hy with q | ⟨g, q1, q2, q3, q4⟩
    · exact Or.inl q
    · exact Or.inr ⟨g, q1, by omega, q3, q4⟩
  · rcases Nat.lt_succ_iff_lt_or_eq.mp hx with q | q
    · rw [adS_at (by omega) (by omega)]; exact d3 x q
    · rw [q, k0]; exact a1
  · rcases Nat.lt_succ_iff_lt_or_eq.mp hx with q | q
    · rw [adS_at (by omega) (by omega), adS_at (by omega) (by omega), adS_at (by omega) (by omega), adS_at (by omega) (by omega)]; exact d4 x q
    · rw [q, k1, k2, k3, k4]; exact a2
  · rw [adS_at (by omega) (by omega)]; exact d5
  · rw [adS_at (by omega) (by omega)]; exact d6
  · rw [adS_at (by omega) (by omega)]; exact d7 y hy
  · rw [adS_at (by omega) (by omega)]; exact d8 y hy
theorem DR_adG {σ : Row} {v1 v2 : Int32} (hi : Inv σ) (hd : DR σ) (h : nG σ < 5) (a1 : ∃ k : Nat, 1 ≤ k ∧ k ≤ 50 ∧ v1 = nI k) : DR (adG σ v1 v2) := by
  obtain ⟨hY, hY1, hY12, hLn, hL4, hSn, hS12, hGn, hG5⟩ := id hi
  obtain ⟨d1, d2, d3, d4, d5, d6, d7, d8⟩ := hd
  obtain ⟨h1, h2, h3, h4⟩ := adG_n (a := v1) (b := v2) h
  obtain ⟨k0, k1⟩ := adG_k (σ := σ) (a := v1) (b := v2)
  unfold DR
  rw [h1, h2, h3, h4]
  refine ⟨fun g hg => ?_, fun x y hx hy => ?_, fun x hx => ?_, fun x hx => ?_, ?_, ?_, fun y hy => ?_, fun y hy => ?_⟩
  · rcases Nat.lt_succ_iff_lt_or_eq.mp hg with q | q
    · rw [adG_at (by omega) (by omega)]; exact d1 g q
    · rw [q, k0]; exact a1
  · unfold pnt; rw [adG_at (by omega) (by omega)]
    rcases d2 x y hx hy with q | ⟨g, q1, q2, q3, q4⟩
    · exact Or.inl q
    · exact Or.inr ⟨g, by omega, q2, q3, q4⟩
  · rw [adG_at (by omega) (by omega)]; exact d3 x hx
  · rw [adG_at (by omega) (by omega), adG_at (by omega) (by omega), adG_at (by omega) (by omega), adG_at (by omega) (by omega)]; exact d4 x hx
  · rw [adG_at (by omega) (by omega)]; exact d5
  · rw [adG_at (by omega) (by omega)]; exact d6
  · rw [adG_at (by omega) (by omega)]; exact d7 y hy
  · rw [adG_at (by omega) (by omega)]; exact d8 y hy
theorem clo16 : ∀ q : Nat, q < 16 → ∀ k : Nat, k < 4 → ∃ r : Nat, r < 16 ∧ nI q ||| nI 1 <<< (nI k &&& 31) = nI r := by decide
section GD
variable {b : Nat → Int32} {n : Nat} {f : Bool} {σ : Row} {nm : Nm} {p : Nat}
theorem upd3_n {y h g : Int32} : nLn (upd (upd (upd σ 0 y) 1 h) 2 g) = nLn σ ∧ nS (upd (upd (upd σ 0 y) 1 h) 2 g) = nS σ ∧ nG (upd (upd (upd σ 0 y) 1 h) 2 g) = nG σ ∧ Yn (upd (upd (upd σ 0 y) 1 h) 2 g) = y.toNatClampNeg := by
  unfold nLn nS nG Yn
  rw [upd_ne (by omega), upd_ne (by omega), upd_ne (by omega), upd_ne (by omega), upd_ne (by omega), upd_ne (by omega), upd_ne (by omega), upd_ne (by omega), upd_ne (by omega), upd_ne (by omega), upd_ne (by omega), upd_eq]
  exact ⟨rfl, rfl, rfl, rfl⟩
theorem Gd_Br (hp : p ≤ n) (hi : Inv σ) (hd : DR σ) (hf : f = true → ∀ x y, x < 12 → y < 12 → pnt σ x y = -1) : GdP n p (stBr b n f σ nm p) := by
  refine GdP_i (fun _ => GdP_l) (fun c0 => GdP_i (fun _ => GdP_l) (fun c1 => GdP_i (fun _ => GdP_l) (fun c2 => GdP_i (fun _ => GdP_l) (fun c3 => GdP_r (tt_ge _) (tt_le hp _) ?_ ?_))))
  · obtain ⟨_, y1, y12⟩ := nuOk_t c1
    obtain ⟨hY, hY1, hY12, hLn, hL4, hSn, hS12, hGn, hG5⟩ := id hi
    obtain ⟨h1, h2, h3, h4⟩ := upd3_n (σ := σ) (y := nI (tV b n (tt b n p 1))) (h := nI (tV b n (tt b n p 2))) (g := nI (tV b n (tt b n p 3)))
    rw [nI_clamp (by omega)] at h4
    refine ⟨?_, by omega, by omega, ?_, by omega, ?_, by omega, ?_, by omega⟩
    · rw [h4, upd_ne (by omega), upd_ne (by omega), upd_eq]
    · rw [h1, upd_ne (by omega), upd_ne (by omega), upd_ne (by omega)]; exact hLn
    · rw [h2, upd_ne (by omega), upd_ne (by omega), upd_ne (by omega)]; exact hSn
    · rw [h3, upd_ne (by omega), upd_ne (by omega), upd_ne (by omega)]; exact hGn
  · obtain ⟨_, z1, z4⟩ := nuOk_t c2
    obtain ⟨_, g0, g10⟩ := nuOk_t c3
    obtain ⟨h1, h2, h3, h4⟩ := upd3_n (σ := σ) (y := nI (tV b n (tt b n p 1))) (h := nI (tV b n (tt b n p 2))) (g := nI (tV b n (tt b n p 3)))
    obtain ⟨d1, d2, d3, d4, d5, d6, d7, d8⟩ := hd
    have hat : ∀ j, 3 ≤ j → upd (upd (upd σ 0 (nI (tV b n (tt b n p 1)))) 1 (nI (tV b n (tt b n p 2)))) 2 (nI (tV b n (tt b n p 3))) j = σ j := fun j hj => by rw [upd_ne (by omega), upd_ne (by omega), upd_ne (by omega)]
    unfold DR
    rw [h1, h2, h3, h4]
    refine ⟨fun g hg => ?_, fun x y hx hy => ?_, fun x hx => ?_, fun x hx => ?_, ⟨_, z1, z4, by rw [upd_ne (by omega), upd_eq]⟩, ⟨_, g10, upd_eq⟩, fun y hy => ?_, fun y hy => ?_⟩
    · rw [hat _ (by omega)]; exact d1 g hg
    · unfold pnt; rw [hat _ (by omega)]
      exact Or.inl (hf (by cases f with | true => rfl | false => exact absurd rfl c0) x y hx hy)
    · rw [hat _ (by omega)]; exact d3 x hx
    · rw [hat _ (by omega), hat _ (by omega), hat _ (by omega), hat _ (by omega)]; exact d4 x hx
    · rw [hat _ (by omega)]; exact d7 y hy
    · rw [hat _ (by omega)]; exact d8 y hy
theorem Gd_La (hp : p ≤ n) (hi : Inv σ) (hd : DR σ) : GdP n p (stLa b n σ nm p) := by
  have hL4 := hi.2.2.2.2.1
  exact GdP_i (fun _ => GdP_l) (fun c0 => GdP_i (fun _ => GdP_l) (fun c1 => GdP_i (fun _ => GdP_l) (fun c2 => GdP_r (tt_ge _) (tt_le hp _) (Inv_adL hi (by omega)) (DR_adL hi hd (by omega)))))
theorem Gd_Ga (hp : p ≤ n) (hi : Inv σ) (hd : DR σ) : GdP n p (stGa b n σ nm p) := by
  have hG5 := hi.2.2.2.2.2.2.2.2
  refine GdP_i (fun _ => GdP_l) (fun c0 => GdP_i (fun _ => GdP_l) (fun c1 => GdP_i (fun _ => GdP_l) (fun c2 => GdP_i (fun _ => GdP_l) (fun c3 => GdP_r (tt_ge _) (tt_le hp _) (Inv_adG hi (by omega)) (DR_adG hi hd (by omega) ?_)))))
  obtain ⟨_, a, z⟩ := nuOk_t c2
  exact ⟨_, a, z, rfl⟩
theorem Gd_Sp (hp : p ≤ n) (hi : Inv σ) (hd : DR σ) : GdP n p (stSp b n σ nm p) := by
  have hS12 := hi.2.2.2.2.2.2.1
  refine GdP_i (fun _ => GdP_l) (fun c0 => GdP_i (fun _ => GdP_l) (fun c1 => GdP_i (fun _ => GdP_l) (fun c2 => GdP_i (fun _ => GdP_l) (fun c3 => GdP_i (fun _ => GdP_l) (fun c4 => GdP_i (fun _ => GdP_l) (fun c5 => GdP_i (fun _ => GdP_l) (fun c6 => GdP_r (tt_ge _) (tt_le hp _) (Inv_adS hi (by omega)) (DR_adS hi hd (by omega) ?_ ?_))))))))
  · by_cases h7 : kwI b n (tt b n p 2) = nI 7
    · exact Or.inl (lnOk_7 (σ := σ) (nm := nm) h7).2
    · refine Or.inr ⟨_, ?_, (lnOk_o (σ := σ) (nm := nm) h7).2⟩
      rw [(lnOk_o h7).1] at c2
      exact onOk_t c2
  · obtain ⟨_, a1, a2⟩ := nuOk_t c3
    obtain ⟨_, b1, b2⟩ := nuOk_t c4
    obtain ⟨_, e1, e2⟩ := nuOk_t c5
    obtain ⟨_, m1, m2⟩ := nuOk_t c6
    exact ⟨_, _, _, _, a1, a2, b2, e1, e2, m1, m2, rfl, rfl, rfl, rfl⟩
theorem Gd_We (hp : p ≤ n) (hi : Inv σ) (hd : DR σ) : GdP n p (stWe b n σ nm p) := by
  have hY12 := hi.2.2.1
  refine GdP_i (fun _ => GdP_l) (fun c0 => GdP_i (fun _ => GdP_l) (fun c1 => GdP_r (tt_ge _) (tt_le hp _) (Inv_u (by omega) hi) ?_))
  obtain ⟨_, a1, a2⟩ := nuOk_t c0
  obtain ⟨_, b1, b2⟩ := nuOk_t c1
  have hY1 := hi.2.1
  exact DR_day hi hd (by omega) b2
theorem Gd_Cl (hp : p ≤ n) (hi : Inv σ) (hd : DR σ) : GdP n p (stCl b n σ nm p) := by
  have hY12 := hi.2.2.1
  have hY1 := hi.2.1
  have hL4 := hi.2.2.2.2.1
  have hG5 := hi.2.2.2.2.2.2.2.2
  have hS12 := hi.2.2.2.2.2.2.1
  refine GdP_i (fun _ => GdP_l) (fun c0 => GdP_i (fun _ => GdP_l) (fun c1 => GdP_r (tt_ge _) (tt_le hp _) (Inv_u (by omega) hi) ?_))
  obtain ⟨_, a1, a2⟩ := nuOk_t c1
  have hk := onOk_t c0
  obtain ⟨q, hq, e⟩ := hd.2.2.2.2.2.2.2 (tV b n (tt b n p 2)) (by omega)
  have hk4 : fk b n σ nm 0 (tS b n (tt b n p 1)) < 4 := Nat.lt_of_lt_of_le hk hL4
  obtain ⟨r, hr, er⟩ := clo16 q hq _ hk4
  exact DR_u hi hd (by omega) (by omega) (fun z => absurd z (by omega)) (fun g hg z => absurd z (by omega)) (fun x hx z => absurd z (by omega)) (fun y hy z => absurd z (by omega)) (fun y hy z => ⟨r, hr, by rw [e]; exact er⟩) (fun x hx => ⟨by omega, by omega, by omega, by omega⟩) (by omega)
theorem Gd_Pa (hp : p ≤ n) (hi : Inv σ) (hd : DR σ) : GdP n p (stPa b n σ nm p) := by
  have hY12 := hi.2.2.1
  have hY1 := hi.2.1
  refine GdP_i (fun _ => GdP_l) (fun c0 => GdP_i (fun _ => GdP_l) (fun c1 => GdP_i (fun _ => GdP_l) (fun c2 => GdP_i (fun _ => GdP_l) (fun c3 => GdP_r (tt_ge _) (tt_le hp _) (Inv_setP hi) ?_))))
  obtain ⟨_, a1, a2⟩ := nuOk_t c0
  exact DR_setP hi hd (onOk_t c1) (by unfold paY; omega) (onOk_t c3)
theorem Gd_Bo (hp : p ≤ n) (hi : Inv σ) (hd : DR σ) (hf : f = true → ∀ x y, x < 12 → y < 12 → pnt σ x y = -1) : GdP n p (stBo b n f σ nm p) :=
  GdP_i (fun _ => Gd_Br hp hi hd hf) (fun _ => GdP_i (fun _ => Gd_La hp hi hd) (fun _ => GdP_i (fun _ => Gd_Sp hp hi hd) (fun _ => GdP_i (fun _ => Gd_Ga hp hi hd) (fun _ => GdP_i (fun _ => Gd_We hp hi hd) (fun _ => GdP_i (fun _ => Gd_Cl hp hi hd) (fun _ => GdP_i (fun _ => Gd_Pa hp hi hd) (fun _ => GdP_l)))))))
theorem stm_i {e : Int32 × Nat} (h : stBo b n f σ nm p = .inl e) : stm b n f σ nm p = .inl e := by unfold stm; rw [h]; rfl
theorem stm_y {π : Row} {mm : Nm} {q : Nat} (h : stBo b n f σ nm p = .inr (π, mm, q)) (hk : tK b n q = 4) : stm b n f σ nm p = .inr (π, mm, tE b n q) := by unfold stm; rw [h]; exact if_pos hk
theorem stm_n {π : Row} {mm : Nm} {q : Nat} (h : stBo b n f σ nm p = .inr (π, mm, q)) (hk : tK b n q ≠ 4) : stm b n f σ nm p = .inl (e2 b n q, tS b n q) := by unfold stm; rw [h]; exact if_neg hk
end GD
