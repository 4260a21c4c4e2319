/-! the text as a whole -/
theorem ini_at {ρ : Nat → Int32} {j : Nat} (h : 3 ≤ j) (h2 : j < 248) (h3 : j < 80 ∨ 92 ≤ j) : iniR ρ j = nI 0 := by
  unfold iniR dyR
  rw [if_neg (by omega), upd_ne (by omega), upd_ne (by omega), upd_ne (by omega)]
  exact if_pos h2
theorem Pst.br (d : Nat → Nat → Nat) (ρ : Nat → Int32) : Pst d 0 0 0 0 (upd (upd (upd (iniR ρ) 0 (nI (2 + d 0 5))) 1 (nI (1 + d 1 3))) 2 (nI (d 2 3))) := by
  refine ⟨⟨?_, ?_, ?_, ?_, ?_, ?_⟩, fun x hx => absurd hx (Nat.not_lt_zero x), fun x hx => absurd hx (Nat.not_lt_zero x), fun x hx => absurd hx (Nat.not_lt_zero x), fun y hy => ?_, fun x y hx hy => ?_⟩
  · rw [upd_ne (by omega), upd_ne (by omega), upd_eq]
  · rw [upd_ne (by omega), upd_eq]
  · rw [upd_eq]
  · rw [upd_ne (by omega), upd_ne (by omega), upd_ne (by omega)]; exact ini_at (by omega) (by omega) (by omega)
  · rw [upd_ne (by omega), upd_ne (by omega), upd_ne (by omega)]; exact ini_at (by omega) (by omega) (by omega)
  · rw [upd_ne (by omega), upd_ne (by omega), upd_ne (by omega)]; exact ini_at (by omega) (by omega) (by omega)
  · rw [upd_ne (by omega), upd_ne (by omega), upd_ne (by omega)]; exact ini_at (by omega) (by omega) (by omega)
  · rw [upd_ne (by omega), upd_ne (by omega), upd_ne (by omega)]; exact ini_at (by omega) (by omega) (by omega)
def Pfx (l tx : List Nat) : Prop := ∃ r, tx = l ++ r
theorem Pfx.rf {l : List Nat} : Pfx l l := ⟨[], (List.append_nil l).symm⟩
theorem Pfx.fs {l1 l2 tx : List Nat} (h : Pfx (l1 ++ l2) tx) : Pfx l1 tx := by
  obtain ⟨r, rfl⟩ := h
  exact ⟨l2 ++ r, List.append_assoc _ _ _⟩
theorem Pfx.at {l1 l2 tx : List Nat} (h : Pfx (l1 ++ l2) tx) : Atl (chB tx) tx.length l1.length l2 := by
  obtain ⟨r, rfl⟩ := h
  rw [List.append_assoc]
  exact chB_at l1 l2 r
theorem lnT_s (b : List Nat) (k : Nat) : lnT b (k + 1) = lnT b k ++ (108 :: 97 :: 110 :: 101 :: 32 :: 108 :: (97 + k) :: 32 :: (dec2 (10 * k) ++ 59 :: [])) := by
  simp [lnT, List.append_assoc]
theorem spanT_s (k d a u t m : Nat) : spanT k d a u t m = 115 :: 112 :: 97 :: 110 :: 32 :: 115 :: (97 + k) :: 32 :: (laneT d ++ 32 :: (dec2 a ++ 32 :: (dec2 u ++ 32 :: (dec2 t ++ 32 :: (dec2 m ++ 59 :: []))))) := by
  simp [spanT, List.append_assoc]
theorem gnT_s (d : Nat → Nat → Nat) (c : Nat) (b : List Nat) (k : Nat) : gnT d c b (k + 1) = gnT d c b k ++ (103 :: 97 :: 110 :: 103 :: 32 :: 103 :: (97 + k) :: 32 :: (dec2 (1 + d (c + 2 * k) 8) ++ 32 :: (dec2 (d (c + 2 * k + 1) 9) ++ 59 :: []))) := by
  simp [gnT, List.append_assoc]
theorem dyT_s (d : Nat → Nat → Nat) (c : Nat) (b : List Nat) (k : Nat) : dyT d c b (k + 1) = dyT d c b k ++ (119 :: 101 :: 97 :: 116 :: 104 :: 101 :: 114 :: 32 :: (dec2 k ++ 32 :: (dec2 (d (c + k) 30) ++ 59 :: []))) := by
  simp [dyT, List.append_assoc]
theorem spT_s (d : Nat → Nat → Nat) (ln : Nat) (b : List Nat) (k : Nat) : spT d ln b (k + 1) = spT d ln b k ++ spanT k (d (6 + 5 * k) (ln + 1)) (1 + d (6 + 5 * k + 1) 30) (d (6 + 5 * k + 2) 60) (1 + d (6 + 5 * k + 3) 20) (30 + d (6 + 5 * k + 4) 60) := by
  simp [spT, List.append_assoc]
theorem hdT_s (Y sh gd : Nat) : hdT Y sh gd = 98 :: 114 :: 105 :: 100 :: 103 :: 101 :: 32 :: (dec2 Y ++ 32 :: (dec2 sh ++ 32 :: (dec2 gd ++ 59 :: []))) := by
  simp [hdT, List.append_assoc]
theorem lnT_p {b tx : List Nat} {j : Nat} : ∀ e, Pfx (lnT b (j + e)) tx → Pfx (lnT b j) tx
  | 0, h => h
  | e + 1, h => lnT_p e (by rw [← Nat.add_assoc, lnT_s] at h; exact h.fs)
theorem spT_p {d : Nat → Nat → Nat} {ln : Nat} {b tx : List Nat} {j : Nat} : ∀ e, Pfx (spT d ln b (j + e)) tx → Pfx (spT d ln b j) tx
  | 0, h => h
  | e + 1, h => spT_p e (by rw [← Nat.add_assoc, spT_s] at h; exact h.fs)
theorem gnT_p {d : Nat → Nat → Nat} {c : Nat} {b tx : List Nat} {j : Nat} : ∀ e, Pfx (gnT d c b (j + e)) tx → Pfx (gnT d c b j) tx
  | 0, h => h
  | e + 1, h => gnT_p e (by rw [← Nat.add_assoc, gnT_s] at h; exact h.fs)
theorem dyT_p {d : Nat → Nat → Nat} {c : Nat} {b tx : List Nat} {j : Nat} : ∀ e, Pfx (dyT d c b (j + e)) tx → Pfx (dyT d c b j) tx
  | 0, h => h
  | e + 1, h => dyT_p e (by rw [← Nat.add_assoc, dyT_s] at h; exact h.fs)
