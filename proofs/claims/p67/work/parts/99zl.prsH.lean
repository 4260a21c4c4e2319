section PZ
variable {d : Nat → Nat → Nat} {tx bb : List Nat} {ρ : Nat → Int32} {q k1 k2 k3 k4 : Nat} {l : List Nat}
theorem PR.sp (hd : ∀ j m, 0 < m → d j m < m) (h : PR d tx ρ (q + 1) (spT d (1 + d 3 3) bb k2) (1 + d 3 3) k2 0 0) (hp : Pfx (spT d (1 + d 3 3) bb (k2 + 1)) tx) (hk : k2 < 5) : PR d tx ρ (q + 1 + 1) (spT d (1 + d 3 3) bb (k2 + 1)) (1 + d 3 3) (k2 + 1) 0 0 := by
  have y3 := hd 3 3 (by decide)
  have z0 := hd (6 + 5 * k2) (1 + d 3 3 + 1) (by omega); have z1 := hd (6 + 5 * k2 + 1) 30 (by decide); have z2 := hd (6 + 5 * k2 + 2) 60 (by decide); have z3 := hd (6 + 5 * k2 + 3) 20 (by decide); have z4 := hd (6 + 5 * k2 + 4) 60 (by decide)
  obtain ⟨σ, nm, h1, h2, h3⟩ := h
  obtain ⟨-, -, -, c0, c1, c2⟩ := h2.n (by omega) (by omega) (by omega)
  have hl : (spT d (1 + d 3 3) bb k2).length + 8 + (laneT (d (6 + 5 * k2) (1 + d 3 3 + 1))).length + 1 + (dec2 (1 + d (6 + 5 * k2 + 1) 30)).length + 1 + (dec2 (d (6 + 5 * k2 + 2) 60)).length + 1 + (dec2 (1 + d (6 + 5 * k2 + 3) 20)).length + 1 + (dec2 (30 + d (6 + 5 * k2 + 4) 60)).length + 1 = (spT d (1 + d 3 3) bb (k2 + 1)).length := by
    rw [spT_s, spanT_s]; simp only [List.length_cons, List.length_append, List.length_nil]; omega
  rw [spT_s, spanT_s] at hp
  have hA := hp.at
  obtain ⟨g1, g2, g3⟩ := st_span (f := decide (q + 1 = 0)) hA hk (by omega) (by omega) ⟨by omega, by omega⟩ (by omega) ⟨by omega, by omega⟩ ⟨by omega, by omega⟩ h3 c1 (by omega)
  have hP := h2.span (by omega) hk
  obtain ⟨-, -, -, a0, a1, a2⟩ := hP.n (by omega) (by omega) (by omega)
  exact ⟨_, _, ((pI_s h1 g3).trans g1).trans (by rw [hl]), hP, h3.z c1 a1 (by omega) (by omega) g2⟩
theorem PR.gn (hd : ∀ j m, 0 < m → d j m < m) (h : PR d tx ρ (q + 1) (gnT d (DC2 d) bb k3) k1 k2 k3 0) (hp : Pfx (gnT d (DC2 d) bb (k3 + 1)) tx) (h1k : k1 ≤ 3) (h2k : k2 ≤ 5) (hk : k3 < 2) : PR d tx ρ (q + 1 + 1) (gnT d (DC2 d) bb (k3 + 1)) k1 k2 (k3 + 1) 0 := by
  have z0 := hd (DC2 d + 2 * k3) 8 (by decide); have z1 := hd (DC2 d + 2 * k3 + 1) 9 (by decide)
  obtain ⟨σ, nm, h1, h2, h3⟩ := h
  obtain ⟨-, -, -, c0, c1, c2⟩ := h2.n (by omega) (by omega) (by omega)
  have hl : (gnT d (DC2 d) bb k3).length + 8 + (dec2 (1 + d (DC2 d + 2 * k3) 8)).length + 1 + (dec2 (d (DC2 d + 2 * k3 + 1) 9)).length + 1 = (gnT d (DC2 d) bb (k3 + 1)).length := by
    rw [gnT_s]; simp only [List.length_cons, List.length_append, List.length_nil]; omega
  rw [gnT_s] at hp
  have hA := hp.at
  obtain ⟨g1, g2, g3⟩ := st_gang (f := decide (q + 1 = 0)) hA hk ⟨by omega, by omega⟩ (by omega) h3 (by omega) (by omega) c2
  have hP := h2.gang (v := nI (d (DC2 d + 2 * k3 + 1) 9)) (by omega) h2k hk
  obtain ⟨-, -, -, a0, a1, a2⟩ := hP.n (by omega) (by omega) (by omega)
  exact ⟨_, _, ((pI_s h1 g3).trans g1).trans (by rw [hl]), hP, h3.g c2 a2 (by omega) (by omega) g2⟩
theorem PR.dy (hd : ∀ j m, 0 < m → d j m < m) (h : PR d tx ρ (q + 1) (dyT d (DC3 d) bb k4) k1 k2 k3 k4) (hp : Pfx (dyT d (DC3 d) bb (k4 + 1)) tx) (h1k : k1 ≤ 3) (h2k : k2 ≤ 5) (h3k : k3 ≤ 2) (hk : k4 < 2 + d 0 5) : PR d tx ρ (q + 1 + 1) (dyT d (DC3 d) bb (k4 + 1)) k1 k2 k3 (k4 + 1) := by
  have y0 := hd 0 5 (by decide); have z0 := hd (DC3 d + k4) 30 (by decide)
  obtain ⟨σ, nm, h1, h2, h3⟩ := h
  obtain ⟨-, -, -, c0, c1, c2⟩ := h2.n (by omega) (by omega) (by omega)
  have hY : Yn σ = 2 + d 0 5 := by show (σ 0).toNatClampNeg = _; rw [h2.1.1]; exact nI_clamp (by omega)
  have hl : (dyT d (DC3 d) bb k4).length + 8 + (dec2 k4).length + 1 + (dec2 (d (DC3 d + k4) 30)).length + 1 = (dyT d (DC3 d) bb (k4 + 1)).length := by
    rw [dyT_s]; simp only [List.length_cons, List.length_append, List.length_nil]; omega
  rw [dyT_s] at hp
  have hA := hp.at
  obtain ⟨g1, g3⟩ := st_day (nm := nm) (σ := σ) (f := decide (q + 1 = 0)) hA ⟨by omega, by omega⟩ (by omega)
  have hP := h2.day (by omega) h2k h3k
  obtain ⟨-, -, -, a0, a1, a2⟩ := hP.n (by omega) (by omega) (by omega)
  exact ⟨_, _, ((pI_s h1 g3).trans g1).trans (by rw [hl]), hP, h3.o (by omega) (by omega) (by omega)⟩
theorem PR.lns (h : PR d tx ρ (q + 1) bb 0 0 0 0) : ∀ k, k ≤ 3 → Pfx (lnT bb k) tx → PR d tx ρ (q + k + 1) (lnT bb k) k 0 0 0
  | 0, _, _ => h
  | k + 1, hk, hp => by
    have := PR.ln (PR.lns h k (by omega) (lnT_p 1 hp)) hp (by omega)
    rw [show q + (k + 1) + 1 = q + k + 1 + 1 by omega]
    exact this
theorem PR.sps (hd : ∀ j m, 0 < m → d j m < m) (h : PR d tx ρ (q + 1) bb (1 + d 3 3) 0 0 0) : ∀ k, k ≤ 5 → Pfx (spT d (1 + d 3 3) bb k) tx → PR d tx ρ (q + k + 1) (spT d (1 + d 3 3) bb k) (1 + d 3 3) k 0 0
  | 0, _, _ => h
  | k + 1, hk, hp => by
    have := PR.sp hd (PR.sps hd h k (by omega) (spT_p 1 hp)) hp (by omega)
    rw [show q + (k + 1) + 1 = q + k + 1 + 1 by omega]
    exact this
theorem PR.gns (hd : ∀ j m, 0 < m → d j m < m) (h : PR d tx ρ (q + 1) bb k1 k2 0 0) (h1 : k1 ≤ 3) (h2 : k2 ≤ 5) : ∀ k, k ≤ 2 → Pfx (gnT d (DC2 d) bb k) tx → PR d tx ρ (q + k + 1) (gnT d (DC2 d) bb k) k1 k2 k 0
  | 0, _, _ => h
  | k + 1, hk, hp => by
    have := PR.gn hd (PR.gns hd h h1 h2 k (by omega) (gnT_p 1 hp)) hp h1 h2 (by omega)
    rw [show q + (k + 1) + 1 = q + k + 1 + 1 by omega]
    exact this
theorem PR.dys (hd : ∀ j m, 0 < m → d j m < m) (h : PR d tx ρ (q + 1) bb k1 k2 k3 0) (h1 : k1 ≤ 3) (h2 : k2 ≤ 5) (h3 : k3 ≤ 2) : ∀ k, k ≤ 2 + d 0 5 → Pfx (dyT d (DC3 d) bb k) tx → PR d tx ρ (q + k + 1) (dyT d (DC3 d) bb k) k1 k2 k3 k
  | 0, _, _ => h
  | k + 1, hk, hp => by
    have := PR.dy hd (PR.dys hd h h1 h2 h3 k (by omega) (dyT_p 1 hp)) hp h1 h2 h3 (by omega)
    rw [show q + (k + 1) + 1 = q + k + 1 + 1 by omega]
    exact this
theorem lnT_ge : ∀ k, bb.length + k ≤ (lnT bb k).length
  | 0 => Nat.le_refl _
  | k + 1 => by have := lnT_ge k; rw [lnT_s]; simp only [List.length_cons, List.length_append, List.length_nil]; omega
theorem spT_ge {ln : Nat} : ∀ k, bb.length + k ≤ (spT d ln bb k).length
  | 0 => Nat.le_refl _
  | k + 1 => by have := spT_ge (ln := ln) k; rw [spT_s, spanT_s]; simp only [List.length_cons, List.length_append, List.length_nil]; omega
theorem gnT_ge {c : Nat} : ∀ k, bb.length + k ≤ (gnT d c bb k).length
  | 0 => Nat.le_refl _
  | k + 1 => by have := gnT_ge (c := c) k; rw [gnT_s]; simp only [List.length_cons, List.length_append, List.length_nil]; omega
theorem dyT_ge {c : Nat} : ∀ k, bb.length + k ≤ (dyT d c bb k).length
  | 0 => Nat.le_refl _
  | k + 1 => by have := dyT_ge (c := c) k; rw [dyT_s]; simp only [List.length_cons, List.length_append, List.length_nil]; omega
theorem lnT_p0 : ∀ k, Pfx (lnT bb k) tx → Pfx bb tx
  | 0, h => h
  | k + 1, h => lnT_p0 k (lnT_p 1 h)
theorem spT_p0 {ln : Nat} : ∀ k, Pfx (spT d ln bb k) tx → Pfx bb tx
  | 0, h => h
  | k + 1, h => spT_p0 k (spT_p 1 h)
theorem gnT_p0 {c : Nat} : ∀ k, Pfx (gnT d c bb k) tx → Pfx bb tx
  | 0, h => h
  | k + 1, h => gnT_p0 k (gnT_p 1 h)
theorem dyT_p0 {c : Nat} : ∀ k, Pfx (dyT d c bb k) tx → Pfx bb tx
  | 0, h => h
  | k + 1, h => dyT_p0 k (dyT_p 1 h)
end PZ
/-- the law's text is read, and says what was drawn -/
theorem brT_prs {d : Nat → Nat → Nat} (hd : ∀ j m, 0 < m → d j m < m) (ρ : Nat → Int32) : ∃ σ nm p, prs (chB (brT d)) (brT d).length ρ = .inr (σ, nm, p) ∧ Pst d (1 + d 3 3) (1 + d 4 5) (1 + d 5 2) (2 + d 0 5) σ := by
  have y0 := hd 0 5 (by decide); have y3 := hd 3 3 (by decide); have y4 := hd 4 5 (by decide); have y5 := hd 5 2 (by decide)
  have hp4 : Pfx (dyT d (DC3 d) (tD d) (2 + d 0 5)) (brT d) := Pfx.rf
  have hp3 : Pfx (gnT d (DC2 d) (tC d) (1 + d 5 2)) (brT d) := dyT_p0 _ hp4
  have hp2 : Pfx (spT d (1 + d 3 3) (tB d) (1 + d 4 5)) (brT d) := gnT_p0 _ hp3
  have hp1 : Pfx (lnT (tA d) (1 + d 3 3)) (brT d) := spT_p0 _ hp2
  have hp0 : Pfx (tA d) (brT d) := lnT_p0 _ hp1
  have r0 : PR d (brT d) ρ (0 + 1) (tA d) 0 0 0 0 := PR.br hd hp0
  have r1 : PR d (brT d) ρ (0 + (1 + d 3 3) + 1) (tB d) (1 + d 3 3) 0 0 0 := PR.lns r0 _ (by omega) hp1
  have r2 : PR d (brT d) ρ (0 + (1 + d 3 3) + (1 + d 4 5) + 1) (tC d) (1 + d 3 3) (1 + d 4 5) 0 0 := PR.sps hd r1 _ (by omega) hp2
  have r3 : PR d (brT d) ρ (0 + (1 + d 3 3) + (1 + d 4 5) + (1 + d 5 2) + 1) (tD d) (1 + d 3 3) (1 + d 4 5) (1 + d 5 2) 0 := PR.gns hd r2 (by omega) (by omega) _ (by omega) hp3
  have r4 : PR d (brT d) ρ (0 + (1 + d 3 3) + (1 + d 4 5) + (1 + d 5 2) + (2 + d 0 5) + 1) (brT d) (1 + d 3 3) (1 + d 4 5) (1 + d 5 2) (2 + d 0 5) := PR.dys hd r3 (by omega) (by omega) (by omega) _ (by omega) hp4
  obtain ⟨σ, nm, h1, h2, h3⟩ := r4
  have l4 : (tD d).length + (2 + d 0 5) ≤ (brT d).length := dyT_ge _
  have l3 : (tC d).length + (1 + d 5 2) ≤ (tD d).length := gnT_ge _
  have l2 : (tB d).length + (1 + d 4 5) ≤ (tC d).length := spT_ge _
  have l1 : (tA d).length + (1 + d 3 3) ≤ (tB d).length := lnT_ge _
  have hs : tS (chB (brT d)) (brT d).length (brT d).length = (brT d).length := runE_stop (Nat.le_refl _) (fun h => absurd h (Nat.lt_irrefl _))
  have hz := (tok_end hs (Nat.le_refl _)).2
  exact ⟨σ, nm, _, (prs_z (by omega) h1 hz).symm.trans h1, h2⟩
/-- what the row says, to the law -/
theorem Pst.LwB {d : Nat → Nat → Nat} (hd : ∀ j m, 0 < m → d j m < m) {σ : Row} (h : Pst d (1 + d 3 3) (1 + d 4 5) (1 + d 5 2) (2 + d 0 5) σ) : LwB σ := by
  have y0 := hd 0 5 (by decide); have y3 := hd 3 3 (by decide); have y4 := hd 4 5 (by decide); have y5 := hd 5 2 (by decide)
  obtain ⟨a1, a2, a3, -, -, -⟩ := h.n (by omega) (by omega) (by omega)
  have hY : Yn σ = 2 + d 0 5 := by show (σ 0).toNatClampNeg = _; rw [h.1.1]; exact nI_clamp (by omega)
  exact ⟨by omega, by omega, by omega, by omega, h.2.2.2.2.1⟩
