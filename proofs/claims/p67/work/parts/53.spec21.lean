/-! the ranking: numbers kept in increasing order -/
theorem shl_N (a : Nat) {k : Nat} (hk : k < 32) : nI a <<< (nI k &&& 31) = nI (a * 2 ^ k) := by
  apply b_ext
  intro i hi
  rw [b_shl k hk _ hi, bt_nI _ hi, bt_nI _ (by omega), ← Nat.shiftLeft_eq, Nat.testBit_shiftLeft]
theorem shr_N {a k : Nat} (ha : a < 2 ^ 31) (hk : k < 32) : nI a >>> (nI k &&& 31) = nI (a / 2 ^ k) := by
  apply b_ext
  intro i hi
  rw [b_sshr k hk _ hi, bt_nI _ hi, ← Nat.shiftRight_eq_div_pow, Nat.testBit_shiftRight]
  by_cases h : k + i < 32
  · rw [if_pos h, bt_nI _ h]
  · rw [if_neg h, bt_nI _ (by decide), Nat.testBit_lt_two_pow (show a < 2 ^ 31 from ha), Nat.testBit_lt_two_pow (show a < 2 ^ (k + i) from Nat.lt_of_lt_of_le ha (Nat.pow_le_pow_right (by decide) (by omega)))]
theorem and_N (a : Nat) {k : Nat} (hk : k < 32) : nI a &&& nI (2 ^ k - 1) = nI (a % 2 ^ k) := by
  apply b_ext
  intro i hi
  rw [b_and, bt_nI _ hi, bt_nI _ hi, bt_nI _ hi, ← Nat.and_two_pow_sub_one_eq_mod, Nat.testBit_and]
def kN (f r x : Nat) : Nat := (f * 128 + 100 - r) * 16 + x
theorem kN_x {f r x : Nat} (hx : x < 12) : kN f r x % 16 = x := by unfold kN; omega
theorem kN_f {f r x : Nat} (hx : x < 12) (hr : r ≤ 100) : kN f r x / 2048 = f := by unfold kN; omega
theorem kN_b {f r x : Nat} (hx : x < 12) (hf : f ≤ 100) : kN f r x < 2 ^ 31 := by unfold kN; omega
theorem kN_lt {f r x g s y : Nat} (hr : r ≤ 100) (hs : s ≤ 100) (hx : x < 12) (hy : y < 12) : kN f r x < kN g s y ↔ (f < g ∨ (f = g ∧ (s < r ∨ (s = r ∧ x < y)))) := by
  unfold kN
  omega
def insP (K : Nat → Nat) (v : Nat) : Nat → Nat
  | 0 => 0
  | n + 1 => if v < K n then insP K v n else n + 1
def insF (K : Nat → Nat) (n v j : Nat) : Nat := if j < insP K v n then K j else if j = insP K v n then v else K (j - 1)
theorem insP_le (K : Nat → Nat) (v : Nat) : ∀ n, insP K v n ≤ n
  | 0 => Nat.le_refl 0
  | n + 1 => by
    have h := insP_le K v n
    unfold insP
    split <;> omega
theorem insP_stop {K : Nat → Nat} {v n : Nat} (h : n = 0 ∨ ¬ v < K (n - 1)) : insP K v n = n := by
  cases n with
  | zero => rfl
  | succ n =>
    rcases h with h | h
    · omega
    · exact if_neg h
theorem insP_on {K : Nat → Nat} {v n : Nat} (h0 : 0 < n) (h : v < K (n - 1)) : insP K v n = insP K v (n - 1) := by
  obtain ⟨m, rfl⟩ : ∃ m, n = m + 1 := ⟨n - 1, by omega⟩
  exact if_pos h
theorem insP_eq {K : Nat → Nat} {v p : Nat} (h1 : p = 0 ∨ ¬ v < K (p - 1)) : ∀ n, p ≤ n → (∀ j, p ≤ j → j < n → v < K j) → insP K v n = p
  | 0, hp, _ => by rw [show p = 0 by omega]; rfl
  | n + 1, hp, h2 => by
    by_cases e : p = n + 1
    · rw [e]; rw [e] at h1; exact insP_stop h1
    · rw [insP_on (by omega) (h2 n (by omega) (by omega))]
      exact insP_eq h1 n (by omega) (fun j hj hj2 => h2 j hj (by omega))
def isRk (o : Nat) : Prop := o = 2 ∨ o = 5 ∨ o = 7
section SHR
variable {o : Nat}
theorem shRk (h : isRk o) : shp o = .inl (7, [o + 1 + 3, 0]) := by rcases h with rfl | rfl | rfl <;> rfl
theorem shRk1 (h : isRk o) : shp (o + 1) = .inr (0, 12) := by rcases h with rfl | rfl | rfl <;> rfl
theorem ncR (h : isRk o) {k : Nat} (hk : k ≤ 1) : o + k < NC := by rcases h with rfl | rfl | rfl <;> (show _ < 67; omega)
theorem ncR0 (h : isRk o) : o < NC := ncR h (Nat.zero_le _)
theorem rk9 (h : isRk o) : o < 9 := by rcases h with rfl | rfl | rfl <;> omega
end SHR
def SRk (o a j : Nat) : Bool := a == o || a == o + 1
theorem SRk_in {o : Nat} : inC o (o + 1) (SRk o) := fun a j h => by
  simp only [SRk, Bool.or_eq_true, beq_iff_eq] at h; omega
theorem SRk_0 {o j : Nat} : SRk o o j = true := by unfold SRk; rw [beq_self_eq_true]; rfl
theorem SRk_1 {o j : Nat} : SRk o (o + 1) j = true := by unfold SRk; rw [beq_self_eq_true, Bool.or_true]
theorem ins_row {I J : CI} {c n p v : Nat} {K : Nat → Nat} (hp : p ≤ n) (hs : insP K v n = p) (hlo : ∀ j, j < p → I c j = nI (K j)) (hhi : ∀ j, p < j → j ≤ n → I c j = nI (K (j - 1))) (e : J c = upd (I c) p (nI v)) : rowP J c (n + 1) (fun j => nI (insF K n v j)) := by
  intro j hj
  show J c j = nI (insF K n v j)
  rw [e]
  unfold insF
  rw [hs]
  rcases Nat.lt_trichotomy j p with q | q | q
  · rw [upd_ne (by omega), if_pos q]; exact hlo j q
  · rw [q, upd_eq, if_neg (Nat.lt_irrefl _), if_pos rfl]
  · rw [upd_ne (by omega), if_neg (by omega), if_neg (by omega)]; exact hhi j q (by omega)
/-- the ranking holds the keys of the members below s of a set, in their order -/
def RkAt (I : CI) (o : Nat) (C : Nat → Bool) (lt : Nat → Nat → Bool) (kf : Nat → Nat) (s : Nat) : Prop := I o 1 = nI (cntB C s) ∧ rowP I (o + 1) (cntB C s) (fun j => nI (kf (elK C lt s j)))
theorem RkAt.frI {S : Nat → Nat → Bool} {I J : CI} {o lo hi : Nat} {C : Nat → Bool} {lt : Nat → Nat → Bool} {kf : Nat → Nat} {s : Nat} (h : RkAt I o C lt kf s) (hF : Fr S I J) (hs : inC lo hi S) (hb : o + 1 < lo ∨ hi < o) : RkAt J o C lt kf s :=
  ⟨by rw [hF _ _ (hs.no (by omega) _)]; exact h.1, fun z hz => by rw [hF _ _ (hs.no (by omega) _)]; exact h.2 z hz⟩
theorem RkAt.pu {I : CI} {o k j : Nat} {v : Int32} {C : Nat → Bool} {lt : Nat → Nat → Bool} {kf : Nat → Nat} {s : Nat} (h : RkAt I o C lt kf s) (hb : o + 1 < k ∨ k < o) : RkAt (u2 I k j v) o C lt kf s := h.frI fr_u2 in_u2 hb
theorem RkAt.skip {I : CI} {o : Nat} {C : Nat → Bool} {lt : Nat → Nat → Bool} {kf : Nat → Nat} {s : Nat} (ho : StO lt) (h : RkAt I o C lt kf s) (hc : C s = false) : RkAt I o C lt kf (s + 1) := by
  have e : cntB C (s + 1) = cntB C s := by
    show cntB C s + _ = _
    rw [hc, if_neg (by decide)]; rfl
  refine ⟨by rw [e]; exact h.1, fun j hj => ?_⟩
  rw [e] at hj
  rw [h.2 j hj]
  obtain ⟨h1, h2, h3⟩ := elK_is ho hj
  have e2 : elK C lt (s + 1) j = elK C lt s j := elK_eq ho (by omega) h2 (by rw [rk_s, hc, Bool.false_and, if_neg (by decide), h3]; rfl)
  show nI (kf (elK C lt s j)) = nI (kf (elK C lt (s + 1) j))
  rw [e2]
theorem ins_el {C : Nat → Bool} {lt : Nat → Nat → Bool} {kf : Nat → Nat} {s m : Nat} (ho : StO lt) (hs : s < m) (hc : C s = true) (hk : ∀ a b, a < m → b < m → C a = true → C b = true → (kf a < kf b ↔ lt a b = true)) : insP (fun j => kf (elK C lt s j)) (kf s) (cntB C s) = rkC C lt s s := by
  have hle : rkC C lt s s ≤ cntB C s := cntB_imp (fun z _ hz => (Bool.and_eq_true_iff.mp hz).1)
  refine insP_eq ?_ _ hle (fun j h1 h2 => ?_)
  · rcases Nat.eq_zero_or_pos (rkC C lt s s) with q | q
    · exact Or.inl q
    · refine Or.inr (fun z => ?_)
      obtain ⟨g1, g2, g3⟩ := elK_is (C := C) (s := s) (k := rkC C lt s s - 1) ho (by omega)
      have g4 := (hk s _ (by omega) (by omega) hc g2).mp z
      have g5 := rk_le (C := C) (s := s) ho g4
      rw [g3] at g5
      omega
  · obtain ⟨g1, g2, g3⟩ := elK_is ho h2
    rw [hk s _ (by omega) (by omega) hc g2]
    rcases ho.2.2 s (elK C lt s j) (by omega) with g | g
    · exact g
    · have g4 := rk_lt (s := s) ho g1 g2 g
      rw [g3] at g4
      omega
theorem el_ins {C : Nat → Bool} {lt : Nat → Nat → Bool} {s j : Nat} (ho : StO lt) (hc : C s = true) (hj : j < cntB C s + 1) : elK C lt (s + 1) j = if j < rkC C lt s s then elK C lt s j else if j = rkC C lt s s then s else elK C lt s (j - 1) := by
  have hle : rkC C lt s s ≤ cntB C s := cntB_imp (fun z _ hz => (Bool.and_eq_true_iff.mp hz).1)
  rcases Nat.lt_trichotomy j (rkC C lt s s) with q | q | q
  · rw [if_pos q]
    obtain ⟨g1, g2, g3⟩ := elK_is (C := C) (s := s) (k := j) ho (by omega)
    have h4 : lt s (elK C lt s j) = false := by
      cases hl : lt s (elK C lt s j) with
      | false => rfl
      | true => have := rk_le (C := C) (s := s) ho hl; omega
    exact elK_eq ho (by omega) g2 (by rw [rk_s, hc, Bool.true_and, h4, if_neg (by decide), g3]; rfl)
  · rw [if_neg (by omega), if_pos q]
    exact elK_eq ho (by omega) hc (by rw [rk_s, ho.1 s, Bool.and_false, if_neg (by decide), q]; rfl)
  · rw [if_neg (by omega), if_neg (by omega)]
    obtain ⟨g1, g2, g3⟩ := elK_is (C := C) (s := s) (k := j - 1) ho (by omega)
    have h4 : lt s (elK C lt s (j - 1)) = true := by
      rcases ho.2.2 s (elK C lt s (j - 1)) (by omega) with g | g
      · exact g
      · have := rk_lt (s := s) ho g1 g2 g; omega
    exact elK_eq ho (by omega) g2 (by rw [rk_s, hc, Bool.true_and, h4, if_pos rfl, g3]; omega)
theorem RkAt.add {I : CI} {o : Nat} {C : Nat → Bool} {lt : Nat → Nat → Bool} {kf : Nat → Nat} {s m : Nat} (ho : StO lt) (hs : s < m) (hc : C s = true) (hk : ∀ a b, a < m → b < m → C a = true → C b = true → (kf a < kf b ↔ lt a b = true))
    (h1 : I o 1 = nI (cntB C s + 1)) (h2 : rowP I (o + 1) (cntB C s + 1) (fun j => nI (insF (fun j => kf (elK C lt s j)) (cntB C s) (kf s) j))) : RkAt I o C lt kf (s + 1) := by
  have e : cntB C (s + 1) = cntB C s + 1 := by
    show cntB C s + _ = _
    rw [hc, if_pos rfl]
  refine ⟨by rw [e]; exact h1, fun j hj => ?_⟩
  rw [e] at hj
  show I (o + 1) j = nI (kf (elK C lt (s + 1) j))
  rw [h2 j hj, el_ins ho hc hj]
  show nI (insF (fun j => kf (elK C lt s j)) (cntB C s) (kf s) j) = _
  unfold insF
  rw [ins_el ho hs hc hk]
  by_cases q : j < rkC C lt s s
  · rw [if_pos q, if_pos q]
  · rw [if_neg q, if_neg q]
    by_cases q2 : j = rkC C lt s s
    · rw [if_pos q2, if_pos q2]
    · rw [if_neg q2, if_neg q2]
theorem RkAt.nil {I : CI} {o : Nat} {C : Nat → Bool} {lt : Nat → Nat → Bool} {kf : Nat → Nat} (h : I o 1 = nI 0) : RkAt I o C lt kf 0 := ⟨h, fun j hj => absurd hj (Nat.not_lt_zero j)⟩
/-- keys in their order -/
theorem key_ahd {fy lr : Nat → Int32} {fN lN : Nat → Nat} {C : Nat → Bool} {m : Nat} (hm : m ≤ 12) (h : ∀ a, a < m → C a = true → fy a = nI (fN a) ∧ lr a = nI (lN a) ∧ fN a ≤ 100 ∧ lN a ≤ 100) : ∀ a b, a < m → b < m → C a = true → C b = true → (kN (fN a) (lN a) a < kN (fN b) (lN b) b ↔ ahd fy lr a b = true) := by
  intro a b ha hb ca cb
  obtain ⟨a1, a2, a3, a4⟩ := h a ha ca
  obtain ⟨b1, b2, b3, b4⟩ := h b hb cb
  rw [kN_lt a4 b4 (by omega) (by omega)]
  unfold ahd
  rw [a1, a2, b1, b2]
  by_cases e1 : fN a = fN b
  · rw [e1, if_neg (fun z => z rfl)]
    by_cases e2 : lN a = lN b
    · rw [e2, if_neg (fun z => z rfl), decide_eq_true_eq]
      omega
    · rw [if_pos (fun z => e2 (nI_inj (by omega) (by omega) z)), decide_eq_true_eq, nI_ltI (by omega) (by omega)]
      omega
  · rw [if_pos (fun z => e1 (nI_inj (by omega) (by omega) z)), decide_eq_true_eq, nI_ltI (by omega) (by omega)]
    omega
