/-! places by an order: how many of a set are ahead -/
def StO (lt : Nat → Nat → Bool) : Prop := (∀ a, lt a a = false) ∧ (∀ a b c, lt a b = true → lt b c = true → lt a c = true) ∧ (∀ a b, a ≠ b → lt a b = true ∨ lt b a = true)
def rkC (C : Nat → Bool) (lt : Nat → Nat → Bool) (s x : Nat) : Nat := cntB (fun j => C j && lt j x) s
theorem cntB_imp {p q : Nat → Bool} : ∀ {n : Nat}, (∀ z, z < n → p z = true → q z = true) → cntB p n ≤ cntB q n
  | 0, _ => Nat.le_refl _
  | n + 1, h => by
    have h1 := cntB_imp (n := n) (fun z hz => h z (by omega))
    have h2 := h n (by omega)
    show cntB p n + _ ≤ cntB q n + _
    cases hp : p n with
    | true => rw [h2 hp]; omega
    | false => rw [if_neg (by decide)]; omega
theorem cntB_lt {p q : Nat → Bool} {n a : Nat} (h : ∀ z, z < n → p z = true → q z = true) (ha : a < n) (h1 : p a = false) (h2 : q a = true) : cntB p n < cntB q n := by
  induction n with
  | zero => exact absurd ha (Nat.not_lt_zero _)
  | succ n ih =>
    show cntB p n + _ < cntB q n + _
    by_cases e : a = n
    · subst e
      have h3 := cntB_imp (n := a) (p := p) (q := q) (fun z hz => h z (by omega))
      rw [h1, h2, if_neg (by decide), if_pos rfl]
      omega
    · have h3 := ih (fun z hz => h z (by omega)) (by omega)
      have h4 := h n (by omega)
      cases hp : p n with
      | true => rw [h4 hp]; omega
      | false => rw [if_neg (by decide)]; omega
section RK
variable {C : Nat → Bool} {lt : Nat → Nat → Bool} {s x y k : Nat}
theorem rk_le (h : StO lt) (hl : lt x y = true) : rkC C lt s x ≤ rkC C lt s y :=
  cntB_imp (fun z _ hz => by
    obtain ⟨h1, h2⟩ := Bool.and_eq_true_iff.mp hz
    exact Bool.and_eq_true_iff.mpr ⟨h1, h.2.1 _ _ _ h2 hl⟩)
theorem rk_lt (h : StO lt) (hx : x < s) (hc : C x = true) (hl : lt x y = true) : rkC C lt s x < rkC C lt s y :=
  cntB_lt (a := x) (fun z _ hz => by
    obtain ⟨h1, h2⟩ := Bool.and_eq_true_iff.mp hz
    exact Bool.and_eq_true_iff.mpr ⟨h1, h.2.1 _ _ _ h2 hl⟩) hx (by show (C x && lt x x) = false; rw [h.1 x, Bool.and_false]) (by show (C x && lt x y) = true; rw [hc, hl]; rfl)
theorem rk_inj (h : StO lt) (hx : x < s) (hy : y < s) (hcx : C x = true) (hcy : C y = true) (e : rkC C lt s x = rkC C lt s y) : x = y := by
  by_cases q : x = y
  · exact q
  · rcases h.2.2 x y q with g | g
    · have := rk_lt (s := s) h hx hcx g; omega
    · have := rk_lt (s := s) h hy hcy g; omega
theorem rk_top (h : StO lt) (hx : x < s) (hc : C x = true) : rkC C lt s x < cntB C s :=
  cntB_lt (a := x) (fun z _ hz => (Bool.and_eq_true_iff.mp hz).1) hx (by show (C x && lt x x) = false; rw [h.1 x, Bool.and_false]) hc
theorem rk_s (C : Nat → Bool) (lt : Nat → Nat → Bool) (s x : Nat) : rkC C lt (s + 1) x = rkC C lt s x + (if (C s && lt s x) = true then 1 else 0) := rfl
theorem rk_all (h : StO lt) : ∀ s k, k < cntB C s → ∃ x, x < s ∧ C x = true ∧ rkC C lt s x = k
  | 0, k, hk => absurd hk (Nat.not_lt_zero _)
  | s + 1, k, hk => by
    have hk2 : k < cntB C s + (if C s = true then 1 else 0) := hk
    cases hc : C s with
    | false =>
      rw [hc, if_neg (by decide)] at hk2
      obtain ⟨x, h1, h2, h3⟩ := rk_all h s k hk2
      refine ⟨x, by omega, h2, ?_⟩
      rw [rk_s, h3, hc, Bool.false_and, if_neg (by decide)]; rfl
    | true =>
      rw [hc, if_pos rfl] at hk2
      rcases Nat.lt_trichotomy k (rkC C lt s s) with q | q | q
      · have hle : rkC C lt s s ≤ cntB C s := cntB_imp (fun z _ hz => (Bool.and_eq_true_iff.mp hz).1)
        obtain ⟨x, h1, h2, h3⟩ := rk_all h s k (by omega)
        refine ⟨x, by omega, h2, ?_⟩
        have h4 : lt s x = false := by
          cases hl : lt s x with
          | false => rfl
          | true => have := rk_le (C := C) (s := s) h hl; omega
        rw [rk_s, h3, h4, Bool.and_false, if_neg (by decide)]; rfl
      · refine ⟨s, by omega, hc, ?_⟩
        rw [rk_s, h.1 s, Bool.and_false, if_neg (by decide), q]; rfl
      · obtain ⟨x, h1, h2, h3⟩ := rk_all h s (k - 1) (by omega)
        refine ⟨x, by omega, h2, ?_⟩
        have h4 : lt s x = true := by
          rcases h.2.2 s x (by omega) with g | g
          · exact g
          · have := rk_lt (s := s) h h1 h2 g; omega
        rw [rk_s, h3, h4, hc, Bool.and_true, if_pos rfl]; omega
end RK
/-- the k-th of a set -/
def elK (C : Nat → Bool) (lt : Nat → Nat → Bool) (s k : Nat) : Nat := fstN (fun x => C x && decide (rkC C lt s x = k)) s
theorem elK_is {C : Nat → Bool} {lt : Nat → Nat → Bool} {s k : Nat} (h : StO lt) (hk : k < cntB C s) : elK C lt s k < s ∧ C (elK C lt s k) = true ∧ rkC C lt s (elK C lt s k) = k := by
  obtain ⟨h1, h2⟩ := fstN_spec (fun x => C x && decide (rkC C lt s x = k)) s
  have h0 := fstN_le (fun x => C x && decide (rkC C lt s x = k)) s
  obtain ⟨x, g1, g2, g3⟩ := rk_all h s k hk
  have hlt : fstN (fun x => C x && decide (rkC C lt s x = k)) s < s := by
    rcases Nat.lt_or_ge (fstN (fun x => C x && decide (rkC C lt s x = k)) s) s with q | q
    · exact q
    · have h3 : (C x && decide (rkC C lt s x = k)) = false := h1 x (by omega)
      rw [g2, decide_eq_true g3] at h3
      cases h3
  obtain ⟨h4, h5⟩ := Bool.and_eq_true_iff.mp (h2 hlt)
  exact ⟨hlt, h4, of_decide_eq_true h5⟩
theorem elK_eq {C : Nat → Bool} {lt : Nat → Nat → Bool} {s k x : Nat} (h : StO lt) (hx : x < s) (hc : C x = true) (hk : rkC C lt s x = k) : elK C lt s k = x := by
  have h1 := elK_is (C := C) (s := s) (k := k) h (by rw [← hk]; exact rk_top h hx hc)
  exact rk_inj h h1.1 hx h1.2.1 hc (by rw [h1.2.2, hk])
theorem elK_inj {C : Nat → Bool} {lt : Nat → Nat → Bool} {s j k : Nat} (h : StO lt) (hj : j < cntB C s) (hk : k < cntB C s) (e : elK C lt s j = elK C lt s k) : j = k := by
  have h1 := elK_is h hj
  have h2 := elK_is h hk
  rw [← h1.2.2, ← h2.2.2, e]
theorem ahd_StO (fy lr : Nat → Int32) : StO (ahd fy lr) := by
  refine ⟨fun a => ?_, fun a b c h1 h2 => ?_, fun a b hab => ?_⟩
  · unfold ahd
    rw [if_neg (fun z => z rfl), if_neg (fun z => z rfl)]
    exact decide_eq_false (Nat.lt_irrefl _)
  · unfold ahd at h1 h2 ⊢
    by_cases e1 : fy a = fy b
    · rw [if_neg (fun z => z e1)] at h1
      by_cases e2 : fy b = fy c
      · rw [if_neg (fun z => z e2)] at h2
        rw [if_neg (fun z => z (e1.trans e2))]
        by_cases l1 : lr a = lr b
        · rw [if_neg (fun z => z l1)] at h1
          by_cases l2 : lr b = lr c
          · rw [if_neg (fun z => z l2)] at h2
            rw [if_neg (fun z => z (l1.trans l2))]
            have := of_decide_eq_true h1
            have := of_decide_eq_true h2
            exact decide_eq_true (by omega)
          · rw [if_pos l2] at h2
            rw [if_pos (by rw [l1]; exact l2), l1]
            exact h2
        · rw [if_pos l1] at h1
          have h3 := of_decide_eq_true h1
          by_cases l2 : lr b = lr c
          · rw [if_pos (by rw [← l2]; exact l1), ← l2]
            exact h1
          · rw [if_pos l2] at h2
            have h4 := of_decide_eq_true h2
            have h5 : lr c < lr a := Int32.lt_trans h4 h3
            rw [if_pos (fun z => by rw [z] at h5; exact Int32.lt_irrefl h5)]
            exact decide_eq_true h5
      · rw [if_pos e2] at h2
        rw [if_pos (by rw [e1]; exact e2), e1]
        exact h2
    · rw [if_pos e1] at h1
      have h3 := of_decide_eq_true h1
      by_cases e2 : fy b = fy c
      · rw [if_pos (by rw [← e2]; exact e1), ← e2]
        exact h1
      · rw [if_pos e2] at h2
        have h4 := of_decide_eq_true h2
        have h5 : fy a < fy c := Int32.lt_trans h3 h4
        rw [if_pos (fun z => by rw [z] at h5; exact Int32.lt_irrefl h5)]
        exact decide_eq_true h5
  · unfold ahd
    by_cases e1 : fy a = fy b
    · rw [if_neg (show ¬ (fy a ≠ fy b) from fun z => z e1), if_neg (show ¬ (fy b ≠ fy a) from fun z => z e1.symm)]
      by_cases l1 : lr a = lr b
      · rw [if_neg (show ¬ (lr a ≠ lr b) from fun z => z l1), if_neg (show ¬ (lr b ≠ lr a) from fun z => z l1.symm)]
        rcases Nat.lt_or_gt_of_ne hab with q | q
        · exact Or.inl (decide_eq_true q)
        · exact Or.inr (decide_eq_true q)
      · rw [if_pos (show lr a ≠ lr b from l1), if_pos (show lr b ≠ lr a from fun z => l1 z.symm)]
        rcases Int32.lt_or_lt_of_ne l1 with q | q
        · exact Or.inr (decide_eq_true q)
        · exact Or.inl (decide_eq_true q)
    · rw [if_pos (show fy a ≠ fy b from e1), if_pos (show fy b ≠ fy a from fun z => e1 z.symm)]
      rcases Int32.lt_or_lt_of_ne e1 with q | q
      · exact Or.inl (decide_eq_true q)
      · exact Or.inr (decide_eq_true q)
/-- the counts by which the model ranks are naturals -/
theorem sum_ahd (p : Nat → Bool) : ∀ n, sumT (fun k => if p k = true then nI 1 else nI 0) n = nI (cntB p n)
  | 0 => rfl
  | n + 1 => by
    show sumT _ n + (if p n = true then nI 1 else nI 0) = nI (cntB p n + (if p n = true then 1 else 0))
    rw [sum_ahd p n]
    split <;> rw [nI_add]
theorem rkd_el {fy lr : Nat → Int32} {n k : Nat} (hn : n ≤ 12) (hk : k < n) : rkd fy lr n (nI k) = nI (elK (fun _ => true) (ahd fy lr) n k) ∧ elK (fun _ => true) (ahd fy lr) n k < n := by
  have hS := ahd_StO fy lr
  have hc : ∀ m, cntB (fun _ => true) m = m := by
    intro m
    induction m with
    | zero => rfl
    | succ m ih => show cntB _ m + 1 = _; rw [ih]
  have h1 := elK_is (C := fun _ => true) (s := n) (k := k) hS (by rw [hc]; exact hk)
  have hr : ∀ x, sumT (fun k => if ahd fy lr k x = true then nI 1 else nI 0) n = nI (rkC (fun _ => true) (ahd fy lr) n x) := fun x => sum_ahd (fun j => ahd fy lr j x) n
  have hlt : ∀ x, rkC (fun _ => true) (ahd fy lr) n x ≤ n := fun x => cntB_le _ _
  refine ⟨?_, h1.1⟩
  unfold rkd
  refine fstI_hit h1.1 (decide_eq_true (by rw [hr, h1.2.2])) (fun z hz => decide_eq_false (fun e => ?_))
  rw [hr] at e
  have h2 := hlt z
  have h3 : rkC (fun _ => true) (ahd fy lr) n z = k := nI_inj (by omega) (by omega) e
  have h4 := rk_inj hS (by omega) h1.1 rfl rfl (h3.trans h1.2.2.symm)
  omega
