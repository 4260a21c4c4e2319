/-! the whole text is read -/
section PX
variable {b : Nat → Int32} {n s k : Nat} {σ σ' : Row} {nm : Nm}
theorem NmV.l (hv : NmV b n σ nm) (h0 : cN σ 0 = k) (e0 : cN σ' 0 = k + 1) (e1 : cN σ' 1 = cN σ 1) (e2 : cN σ' 2 = cN σ 2) (hw : w27 b n s = 325 + k) : NmV b n σ' (unm nm 0 k s) := fun j => by
  refine ⟨fun hj => ?_, fun hj => ?_, fun hj => ?_⟩
  · unfold unm
    by_cases e : j = k
    · rw [if_pos ⟨rfl, e⟩, hw, e]
    · rw [if_neg (fun h => e h.2)]; exact (hv j).1 (by omega)
  · unfold unm
    rw [if_neg (fun h => absurd h.1 (by decide))]; exact (hv j).2.1 (by omega)
  · unfold unm
    rw [if_neg (fun h => absurd h.1 (by decide))]; exact (hv j).2.2 (by omega)
theorem NmV.z (hv : NmV b n σ nm) (h0 : cN σ 1 = k) (e0 : cN σ' 1 = k + 1) (e1 : cN σ' 0 = cN σ 0) (e2 : cN σ' 2 = cN σ 2) (hw : w27 b n s = 514 + k) : NmV b n σ' (unm nm 1 k s) := fun j => by
  refine ⟨fun hj => ?_, fun hj => ?_, fun hj => ?_⟩
  · unfold unm
    rw [if_neg (fun h => absurd h.1 (by decide))]; exact (hv j).1 (by omega)
  · unfold unm
    by_cases e : j = k
    · rw [if_pos ⟨rfl, e⟩, hw, e]
    · rw [if_neg (fun h => e h.2)]; exact (hv j).2.1 (by omega)
  · unfold unm
    rw [if_neg (fun h => absurd h.1 (by decide))]; exact (hv j).2.2 (by omega)
theorem NmV.g (hv : NmV b n σ nm) (h0 : cN σ 2 = k) (e0 : cN σ' 2 = k + 1) (e1 : cN σ' 0 = cN σ 0) (e2 : cN σ' 1 = cN σ 1) (hw : w27 b n s = 190 + k) : NmV b n σ' (unm nm 2 k s) := fun j => by
  refine ⟨fun hj => ?_, fun hj => ?_, fun hj => ?_⟩
  · unfold unm
    rw [if_neg (fun h => absurd h.1 (by decide))]; exact (hv j).1 (by omega)
  · unfold unm
    rw [if_neg (fun h => absurd h.1 (by decide))]; exact (hv j).2.1 (by omega)
  · unfold unm
    by_cases e : j = k
    · rw [if_pos ⟨rfl, e⟩, hw, e]
    · rw [if_neg (fun h => e h.2)]; exact (hv j).2.2 (by omega)
theorem NmV.o (hv : NmV b n σ nm) (e0 : cN σ' 0 = cN σ 0) (e1 : cN σ' 1 = cN σ 1) (e2 : cN σ' 2 = cN σ 2) : NmV b n σ' nm := fun j => ⟨fun h => (hv j).1 (by omega), fun h => (hv j).2.1 (by omega), fun h => (hv j).2.2 (by omega)⟩
end PX
/-- read so far -/
def PR (d : Nat → Nat → Nat) (tx : List Nat) (ρ : Nat → Int32) (q : Nat) (l : List Nat) (k1 k2 k3 k4 : Nat) : Prop := ∃ σ nm, pI (chB tx) tx.length (iniR ρ) q = .inr (σ, nm, l.length) ∧ Pst d k1 k2 k3 k4 σ ∧ NmV (chB tx) tx.length σ nm
section PY
variable {d : Nat → Nat → Nat} {tx : List Nat} {ρ : Nat → Int32} {q k1 k2 k3 k4 : Nat} {l : List Nat}
theorem PR.br (hd : ∀ j m, 0 < m → d j m < m) (h : Pfx (tA d) tx) : PR d tx ρ 1 (tA d) 0 0 0 0 := by
  have y0 := hd 0 5 (by decide); have y1 := hd 1 3 (by decide); have y2 := hd 2 3 (by decide)
  have hA : Atl (chB tx) tx.length 0 (tA d) := Pfx.at (l1 := []) h
  have e : tA d = 98 :: 114 :: 105 :: 100 :: 103 :: 101 :: 32 :: (dec2 (2 + d 0 5) ++ 32 :: (dec2 (1 + d 1 3) ++ 32 :: (dec2 (d 2 3) ++ 59 :: []))) := hdT_s _ _ _
  have hl : 0 + 7 + (dec2 (2 + d 0 5)).length + 1 + (dec2 (1 + d 1 3)).length + 1 + (dec2 (d 2 3)).length + 1 = (tA d).length := by
    rw [e]; simp only [List.length_cons, List.length_append, List.length_nil]; omega
  rw [e] at hA
  obtain ⟨g1, g2⟩ := st_bridge (σ := iniR ρ) (nm := fun _ _ => 0) hA (by omega) (by omega) (by omega)
  have h0 : pI (chB tx) tx.length (iniR ρ) 0 = .inr (iniR ρ, fun _ _ => 0, 0) := rfl
  have hs := pI_s h0 g2
  have hP := Pst.br d ρ
  obtain ⟨-, -, -, c0, c1, c2⟩ := hP.n (by omega) (by omega) (by omega)
  refine ⟨_, _, (hs.trans g1).trans (by rw [hl]), hP, fun j => ⟨fun hj => ?_, fun hj => ?_, fun hj => ?_⟩⟩
  · rw [c0] at hj; exact absurd hj (Nat.not_lt_zero j)
  · rw [c1] at hj; exact absurd hj (Nat.not_lt_zero j)
  · rw [c2] at hj; exact absurd hj (Nat.not_lt_zero j)
theorem PR.ln {bb : List Nat} (h : PR d tx ρ (q + 1) (lnT bb k1) k1 0 0 0) (hp : Pfx (lnT bb (k1 + 1)) tx) (hk : k1 < 3) : PR d tx ρ (q + 1 + 1) (lnT bb (k1 + 1)) (k1 + 1) 0 0 0 := by
  obtain ⟨σ, nm, h1, h2, h3⟩ := h
  obtain ⟨-, -, -, c0, c1, c2⟩ := h2.n (by omega) (by omega) (by omega)
  have hl : (lnT bb k1).length + 8 + (dec2 (10 * k1)).length + 1 = (lnT bb (k1 + 1)).length := by
    rw [lnT_s]; simp only [List.length_cons, List.length_append, List.length_nil]; omega
  rw [lnT_s] at hp
  have hA := hp.at
  obtain ⟨g1, g2, g3⟩ := st_lane (f := decide (q + 1 = 0)) hA hk h3 c0 (by omega) (by omega)
  have hP := h2.lane (v := nI (10 * k1)) (by omega)
  obtain ⟨-, -, -, a0, a1, a2⟩ := hP.n (by omega) (by omega) (by omega)
  exact ⟨_, _, ((pI_s h1 g3).trans g1).trans (by rw [hl]), hP, h3.l c0 a0 (by omega) (by omega) g2⟩
end PY
