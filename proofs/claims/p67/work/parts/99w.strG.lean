/-! what the builder's bytes are after each step -/
theorem negLe {x k : Nat} (hx : x < 2 ^ 30) (hk : k < 2 ^ 30) : -nI x ≤ -nI k ↔ k ≤ x := by
  rw [Int32.le_iff_toInt_le, Int32.toInt_neg, Int32.toInt_neg, nI_toInt (by omega), nI_toInt (by omega), Int.bmod_eq_of_le_mul_two (by omega) (by omega), Int.bmod_eq_of_le_mul_two (by omega) (by omega)]
  omega
theorem neg10 : (-10 : Int32) = -nI 10 := by decide
theorem neg100 : (-100 : Int32) = -nI 100 := by decide
theorem neg9 : (-9 : Int32) = -nI 9 := by decide
theorem decP {p : Nat} (h : 1 ≤ p) : nI p + Int32.ofInt (-1) = nI (p - 1) := by
  obtain ⟨k, rfl⟩ := Nat.exists_eq_add_of_le h
  rw [show 1 + k = k + 1 by omega, nI_dec]
  rfl
def dgA (a : Nat → Int32) (p x : Nat) : Nat → Int32 := if x < 10 then upd a (p - 1) (nI (48 + x % 10)) else upd (upd a (p - 1) (nI (48 + x % 10))) (p - 1 - 1) (nI (48 + x / 10))
theorem BT.cpy {a f : Nat → Int32} {m n : Nat} {l t : List Nat} (h : BT a m l) (hn : n = l.length) (hf : ∀ j, f j = nI (t.getD j 0)) (ht : ∀ z ∈ t, z < 128) (hm : n + t.length ≤ m) : BT (va_cpy f a 0 n t.length) m (l ++ t) := by
  subst hn
  obtain ⟨h1, h2, h3, h4⟩ := h
  refine ⟨by rw [List.length_append]; exact hm, fun j hj => ?_, fun j => ?_, fun z hz => ?_⟩
  · rw [List.length_append] at hj
    unfold va_cpy
    rw [List.getD_eq_getElem?_getD, List.getElem?_append]
    by_cases hl : j < l.length
    · rw [if_neg (by omega), if_pos hl, h2 j hl, List.getD_eq_getElem?_getD]
    · rw [if_pos (by omega), if_neg hl, hf, List.getD_eq_getElem?_getD, Nat.zero_add]
  · unfold va_cpy
    split
    · rw [hf]; exact fitB _ (getD_lt ht (by decide))
    · exact h3 j
  · rcases List.mem_append.mp hz with h | h
    · exact h4 z h
    · exact ht z h
theorem BT.ch {a : Nat → Int32} {m n c : Nat} {l : List Nat} (h : BT a m l) (hn : n = l.length) (hc : c < 128) (hm : n + 1 ≤ m) : BT (upd a n (nI c)) m (l ++ [c]) := by
  subst hn
  obtain ⟨h1, h2, h3, h4⟩ := h
  refine ⟨by rw [List.length_append]; exact hm, fun j hj => ?_, fun j => ?_, fun z hz => ?_⟩
  · rw [List.length_append] at hj
    simp only [List.length_cons, List.length_nil] at hj
    unfold upd
    rw [List.getD_eq_getElem?_getD, List.getElem?_append]
    by_cases hl : j < l.length
    · rw [if_neg (by omega), if_pos hl, h2 j hl, List.getD_eq_getElem?_getD]
    · rw [if_pos (by omega), if_neg hl, show j - l.length = 0 by omega]; rfl
  · unfold upd
    split
    · exact fitB _ hc
    · exact h3 j
  · rcases List.mem_append.mp hz with h | h
    · exact h4 z h
    · rw [List.mem_singleton.mp h]; exact hc
theorem BT.up {a : Nat → Int32} {m : Nat} {l : List Nat} (h : BT a m l) {m' : Nat} (hm : m < m') : BT (va_cpy a (fun _ => 0) 0 0 m) m' l := by
  obtain ⟨h1, h2, h3, h4⟩ := h
  refine ⟨by omega, fun j hj => ?_, fun j => ?_, h4⟩
  · unfold va_cpy
    rw [if_pos (by omega), Nat.zero_add, Nat.sub_zero]
    exact h2 j hj
  · unfold va_cpy
    split
    · exact h3 _
    · rfl
theorem BT.dg {a : Nat → Int32} {m n x : Nat} {l : List Nat} (h : BT a m l) (hn : n = l.length) (hx : x < 100) (hm : n + (dec2 x).length ≤ m) : BT (dgA a (n + (dec2 x).length) x) m (l ++ dec2 x) := by
  rw [dec2_len] at hm ⊢
  unfold dgA dec2
  by_cases h10 : x < 10
  · simp only [if_pos h10] at hm ⊢
    rw [show 48 + x % 10 = 48 + x by omega, show n + 1 - 1 = n by omega]
    exact h.ch hn (by omega) hm
  · simp only [if_neg h10] at hm ⊢
    have e : upd (upd a (n + 2 - 1) (nI (48 + x % 10))) (n + 2 - 1 - 1) (nI (48 + x / 10)) = upd (upd a n (nI (48 + x / 10))) (n + 1) (nI (48 + x % 10)) := by
      funext j
      unfold upd
      rw [show n + 2 - 1 = n + 1 by omega, show n + 1 - 1 = n by omega]
      by_cases e1 : j = n
      · subst e1; rw [if_pos rfl, if_neg (by omega), if_pos rfl]
      · rw [if_neg e1]
        by_cases e2 : j = n + 1
        · rw [if_pos e2, if_pos e2]
        · rw [if_neg e2, if_neg e2, if_neg e1]
    rw [e, show l ++ [48 + x / 10, 48 + x % 10] = (l ++ [48 + x / 10]) ++ [48 + x % 10] by simp]
    exact (h.ch hn (by omega) (by omega)).ch (by rw [List.length_append]; simp [hn]) (by omega) (by omega)
theorem en_uni {cy : Nat → ClassId} {q v m9 n9 k sz : Nat} {a9 : Nat → Int32} {u : va_W} {l : List Nat} (h : (k ≤ m9 ∧ u = wB cy q v m9 n9 a9) ∨ (m9 < k ∧ ∃ v1, sz ≤ v1 ∧ u = wB cy q v1 (capK m9 k) n9 (va_cpy a9 (fun _ => 0) 0 0 m9))) (hB : BT a9 m9 l) (hm : m9 ≤ 600) (hk : k ≤ 300) :
    ∃ v1 m1 a1, u = wB cy q v1 m1 n9 a1 ∧ BT a1 m1 l ∧ k ≤ m1 ∧ m1 ≤ 600 ∧ (v1 = v ∨ sz ≤ v1) := by
  rcases h with ⟨h1, h2⟩ | ⟨h1, v1, h2, h3⟩
  · exact ⟨v, m9, a9, h2, hB, h1, hm, Or.inl rfl⟩
  · exact ⟨v1, _, _, h3, hB.up capK_gt, capK_ge, capK_le h1 hk, Or.inr h2⟩
/-- a builder after a step: the letters l -/
def BuU (cy : Nat → ClassId) (q v sz : Nat) (l : List Nat) (u : va_W) : Prop := ∃ v1 m1 a1, u = wB cy q v1 m1 l.length a1 ∧ BT a1 m1 l ∧ m1 ≤ 600 ∧ (v1 = v ∨ sz ≤ v1)
