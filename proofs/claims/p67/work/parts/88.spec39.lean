/-! the class's parser: what its state says -/
def KC (I : CI) : Prop := I 61 4 = nI 0 ∧ I 61 5 = -1000004
theorem KC.pu {I : CI} {k j : Nat} {v : Int32} (h : KC I) (hk : k ≠ 61 ∨ (j ≠ 4 ∧ j ≠ 5)) : KC (u2 I k j v) := ⟨by rw [u2_off (by omega)]; exact h.1, by rw [u2_off (by omega)]; exact h.2⟩
theorem KC.fr {I J : CI} {S : Nat → Nat → Bool} (h : KC I) (hF : Fr S I J) (a : S 61 4 = false) (c9 : S 61 5 = false) : KC J := ⟨(hF _ _ a).trans h.1, (hF _ _ c9).trans h.2⟩
def SFc (a j : Nat) : Bool := a == 61 && (j == 4 || j == 5)
def SNr (a j : Nat) : Bool := (a == 66 && decide (2 ≤ j ∧ j ≤ 5)) || (a == 61 && (j == 4 || j == 5))
theorem cK_eq {k : Nat} (hk : k ≤ 4) : (cK k = 4 ↔ k = 1) ∧ (cK k = 2 ↔ k = 3) ∧ (cK k = 3 ↔ k = 4) ∧ (cK k = 1 ↔ k = 2) ∧ (cK k = 0 ↔ k = 0) ∧ cK k ≤ 4 := by
  have h : ∀ k, k < 5 → (cK k = 4 ↔ k = 1) ∧ (cK k = 2 ↔ k = 3) ∧ (cK k = 3 ↔ k = 4) ∧ (cK k = 1 ↔ k = 2) ∧ (cK k = 0 ↔ k = 0) ∧ cK k ≤ 4 := by decide
  exact h k (by omega)
section KS
variable {b : Nat → Int32} {n p s : Nat}
theorem kwC_d : ∀ i, i < 8 → ∀ j, j < 8 → kwC.getD i 0 = kwC.getD j 0 → i = j := by decide
theorem kwC_lt : ∀ j, j < 8 → kwC.getD j 0 < 2 ^ 63 := by decide
theorem kwS_j {j : Nat} (hj : j < 8) : kwS b n s = nI j ↔ w256 b n s = kwC.getD j 0 := by
  constructor
  · intro h
    unfold kwS at h
    by_cases q : kwJ b n s < 8
    · rw [if_pos q] at h
      have e := nI_inj (by omega) (by omega) h
      have := (fstN_spec (fun j => decide (w256 b n s = kwC.getD j 0)) 8).2 q
      have e2 : fstN (fun j => decide (w256 b n s = kwC.getD j 0)) 8 = j := e
      rw [e2] at this
      exact of_decide_eq_true this
    · rw [if_neg q] at h
      exact absurd h.symm (nI_m1 (by omega))
  · intro h
    exact kwS_hit hj h (fun z hz w => by have := kwC_d z (by omega) j hj (w.symm.trans h); omega)
theorem kwI_j {j : Nat} (hk : tK b n p = 2) (hj : j < 8) : kwI b n p = nI j ↔ w256 b n (tS b n p) = kwC.getD j 0 := by
  unfold kwI
  rw [if_pos hk]
  exact kwS_j hj
theorem kwS_none8 (h0 : w256 b n s ≠ kwC.getD 0 0) (h1 : w256 b n s ≠ kwC.getD 1 0) (h2 : w256 b n s ≠ kwC.getD 2 0) (h3 : w256 b n s ≠ kwC.getD 3 0) (h4 : w256 b n s ≠ kwC.getD 4 0) (h5 : w256 b n s ≠ kwC.getD 5 0) (h6 : w256 b n s ≠ kwC.getD 6 0) (h7 : w256 b n s ≠ kwC.getD 7 0) : kwS b n s = -1 := kwS_none (fun z hz => by
  match z, hz with
  | 0, _ => exact h0
  | 1, _ => exact h1
  | 2, _ => exact h2
  | 3, _ => exact h3
  | 4, _ => exact h4
  | 5, _ => exact h5
  | 6, _ => exact h6
  | 7, _ => exact h7
  | z + 8, hz => exact absurd hz (by omega))
theorem isNm_n (h : tK b n p ≠ 2) : isNm b n p = false := decide_eq_false (fun z => h z.1)
theorem isNm_w (h : tK b n p = 2) : isNm b n p = !(decide (kwS b n (tS b n p) ≠ -1)) := by
  unfold isNm kwI
  rw [if_pos h]
  by_cases q : kwS b n (tS b n p) = -1
  · rw [decide_eq_true (And.intro h q), decide_eq_false (fun z => z q)]; rfl
  · rw [decide_eq_false (fun z => q z.2), decide_eq_true q]; rfl
end KS
/-- numbers' result at once -/
def nuV (b : Nat → Int32) (n p lo hi : Nat) : Int32 := if nuOk b n p lo hi = true then nI (tV b n p) else -2
theorem nI_m2 {a : Nat} (h : a < 2 ^ 31 - 2) : nI a ≠ -2 := fun e => by
  have h1 := congrArg Int32.toInt e
  rw [nI_toInt (by omega), show (-2 : Int32).toInt = -2 by decide] at h1
  omega
section NV
variable {b : Nat → Int32} {n p lo hi : Nat}
theorem nuV_t (hh : hi ≤ 1000) (h : nuV b n p lo hi ≠ -2) : nuOk b n p lo hi = true ∧ nuV b n p lo hi = nI (tV b n p) := by
  cases e : nuOk b n p lo hi with
  | true => exact ⟨rfl, by unfold nuV; rw [e]; exact if_pos rfl⟩
  | false => exact absurd (by unfold nuV; rw [e]; exact if_neg (by decide)) h
theorem nuV_f (h : nuV b n p lo hi = -2) (hh : hi ≤ 1000) : nuOk b n p lo hi = false := by
  cases e : nuOk b n p lo hi with
  | false => rfl
  | true =>
    have h2 := of_decide_eq_true (p := tK b n p = 3 ∧ lo ≤ tV b n p ∧ tV b n p ≤ hi) e
    unfold nuV at h
    rw [e, if_pos rfl] at h
    exact absurd h (nI_m2 (by omega))
end NV
def nwV (b : Nat → Int32) (n : Nat) (σ : Row) (nm : Nm) (p : Nat) : Int64 := if nnOk b n σ nm p = true then Int64.ofNat (w256 b n (tS b n p)) else -2
def onV (b : Nat → Int32) (n : Nat) (σ : Row) (nm : Nm) (t p : Nat) : Int32 := if onOk b n σ nm t p = true then nI (fk b n σ nm t (tS b n p)) else -2
def lnW (b : Nat → Int32) (n : Nat) (σ : Row) (nm : Nm) (p : Nat) : Int32 := if lnOk b n σ nm p = true then lnV b n σ nm p else -2
section VV
variable {b : Nat → Int32} {n t p : Nat} {σ : Row} {nm : Nm}
theorem onOk_2 (h : onOk b n σ nm t p = true) : tK b n p = 2 ∧ fk b n σ nm t (tS b n p) < cN σ t := by
  unfold onOk at h
  rw [Bool.and_eq_true] at h
  exact ⟨(isNm_2 h.1).1, of_decide_eq_true h.2⟩
theorem nnOk_2 (h : nnOk b n σ nm p = true) : tK b n p = 2 ∧ dcl b n σ nm (tS b n p) = false := by
  unfold nnOk at h
  rw [Bool.and_eq_true] at h
  exact ⟨(isNm_2 h.1).1, by cases e : dcl b n σ nm (tS b n p) with | false => rfl | true => rw [e] at h; cases h.2⟩
theorem onV_t (h : onV b n σ nm t p ≠ -2) : onOk b n σ nm t p = true ∧ onV b n σ nm t p = nI (fk b n σ nm t (tS b n p)) := by
  cases e : onOk b n σ nm t p with
  | true => exact ⟨rfl, by unfold onV; rw [e]; exact if_pos rfl⟩
  | false => exact absurd (by unfold onV; rw [e]; exact if_neg (by decide)) h
theorem onV_f (hi : Inv σ) (h : onV b n σ nm t p = -2) (ht : t < 3) : onOk b n σ nm t p = false := by
  cases e : onOk b n σ nm t p with
  | false => rfl
  | true =>
    have h2 := (onOk_2 e).2
    have h3 := (cN_I hi ht).2
    unfold onV at h
    rw [e, if_pos rfl] at h
    exact absurd h (nI_m2 (by omega))
theorem lnW_t (h : lnW b n σ nm p ≠ -2) : lnOk b n σ nm p = true ∧ lnW b n σ nm p = lnV b n σ nm p := by
  cases e : lnOk b n σ nm p with
  | true => exact ⟨rfl, by unfold lnW; rw [e]; exact if_pos rfl⟩
  | false => exact absurd (by unfold lnW; rw [e]; exact if_neg (by decide)) h
theorem lnW_f (hi : Inv σ) (h : lnW b n σ nm p = -2) : lnOk b n σ nm p = false := by
  cases e : lnOk b n σ nm p with
  | false => rfl
  | true =>
    unfold lnW at h
    rw [e, if_pos rfl] at h
    by_cases h7 : kwI b n p = nI 7
    · rw [(lnOk_7 (σ := σ) (nm := nm) h7).2] at h; exact absurd h (by decide)
    · rw [(lnOk_o (σ := σ) (nm := nm) h7).1] at e
      rw [(lnOk_o (σ := σ) (nm := nm) h7).2] at h
      have h2 := (onOk_2 e).2
      have h3 := (cN_I hi (t := 0) (by decide)).2
      exact absurd h (nI_m2 (by omega))
theorem nwV_t (h : nwV b n σ nm p ≠ -2) : nnOk b n σ nm p = true ∧ nwV b n σ nm p = Int64.ofNat (w256 b n (tS b n p)) := by
  cases e : nnOk b n σ nm p with
  | true => exact ⟨rfl, by unfold nwV; rw [e]; exact if_pos rfl⟩
  | false => exact absurd (by unfold nwV; rw [e]; exact if_neg (by decide)) h
theorem nwV_f (hT : TB b n) (h : nwV b n σ nm p = -2) : nnOk b n σ nm p = false := by
  cases e : nnOk b n σ nm p with
  | false => rfl
  | true =>
    have h2 := w256_lt hT (tok_w (nnOk_2 e).1).1
    unfold nwV at h
    rw [e, if_pos rfl] at h
    have h1 := congrArg Int64.toInt h
    rw [Int64.toInt_ofNat_of_lt h2, show (-2 : Int64).toInt = -2 by decide] at h1
    omega
end VV
/-- the names of the class, and which they are -/
def NmI (b : Nat → Int32) (n : Nat) (I : CI) (N : Nat) (ds st nu : Nat → Nat) : Prop := I 62 3 = nI N ∧ N ≤ 21 ∧ ∀ i, i < N → VP b n (ds i) ∧ I 64 i = nI (st i) ∧ I 65 i = nI (nu i)
theorem NmI.pu {b : Nat → Int32} {n N : Nat} {I : CI} {ds st nu : Nat → Nat} {k j : Nat} {v : Int32} (h : NmI b n I N ds st nu) (hk : k < 62 ∨ 66 ≤ k) : NmI b n (u2 I k j v) N ds st nu := ⟨by rw [u2_off (by omega)]; exact h.1, h.2.1, fun i hi => ⟨(h.2.2 i hi).1, by rw [u2_off (by omega)]; exact (h.2.2 i hi).2.1, by rw [u2_off (by omega)]; exact (h.2.2 i hi).2.2⟩⟩
theorem NmI.fr {b : Nat → Int32} {n N : Nat} {I J : CI} {S : Nat → Nat → Bool} {ds st nu : Nat → Nat} (h : NmI b n I N ds st nu) (hF : Fr S I J) (a : ∀ k j, 62 ≤ k → k ≤ 65 → S k j = false) : NmI b n J N ds st nu := ⟨(hF _ _ (a _ _ (by omega) (by omega))).trans h.1, h.2.1, fun i hi => ⟨(h.2.2 i hi).1, (hF _ _ (a _ _ (by omega) (by omega))).trans (h.2.2 i hi).2.1, (hF _ _ (a _ _ (by omega) (by omega))).trans (h.2.2 i hi).2.2⟩⟩
def NmL (b : Nat → Int32) (n : Nat) (L : CL) (N : Nat) (ds : Nat → Nat) : Prop := ∀ i, i < N → L 63 i = Int64.ofNat (w256 b n (ds i))
theorem NmL.fl {b : Nat → Int32} {n N : Nat} {L M : CL} {S : Nat → Nat → Bool} {ds : Nat → Nat} (h : NmL b n L N ds) (hF : FL S L M) (a : ∀ j, S 63 j = false) : NmL b n M N ds := fun i hi => (hF _ _ (a _)).trans (h i hi)
theorem NmI.c {b : Nat → Int32} {n N : Nat} {I : CI} {L : CL} {ds st nu : Nat → Nat} (h : NmI b n I N ds st nu) (hL : NmL b n L N ds) : NmC b n I L N ds st nu := ⟨h.1, h.2.1, fun i hi => ⟨(h.2.2 i hi).1, hL i hi, (h.2.2 i hi).2⟩⟩
def NmR (b : Nat → Int32) (n : Nat) (σ : Row) (nm : Nm) (N : Nat) (ds st nu : Nat → Nat) : Prop :=
  N = nLn σ + nS σ + nG σ ∧
  (∀ i, i < N → ∃ t, t < 3 ∧ nu i < cN σ t ∧ st i = t + 1 ∧ ds i = nm t (nu i)) ∧
  (∀ t k, t < 3 → k < cN σ t → ∃ i, i < N ∧ st i = t + 1 ∧ nu i = k) ∧
  (∀ t k t' k', t < 3 → k < cN σ t → t' < 3 → k' < cN σ t' → w27 b n (nm t k) = w27 b n (nm t' k') → t = t' ∧ k = k')
section NR
variable {b : Nat → Int32} {n N s t : Nat} {I : CI} {σ : Row} {nm : Nm} {ds st nu : Nat → Nat}
theorem NmR.stb (h : NmR b n σ nm N ds st nu) : ∀ i, i < N → st i < 10 := fun i hi => by
  obtain ⟨t, h1, h2, h3, h4⟩ := h.2.1 i hi
  omega
theorem NmR.at9 (h : NmR b n σ nm N ds st nu) {i t : Nat} (hi : i < N) (hs : st i = t + 1) : nu i < cN σ t ∧ ds i = nm t (nu i) := by
  obtain ⟨t', h1, h2, h3, h4⟩ := h.2.1 i hi
  have e : t' = t := by omega
  subst e
  exact ⟨h2, h4⟩
theorem fst_lt {p : Nat → Bool} {N i : Nat} (hi : i < N) (hp : p i = true) : fstN p N < N := by
  rcases Nat.lt_or_ge (fstN p N) N with h | h
  · exact h
  · have := (fstN_spec p N).1 i (by omega)
    rw [hp] at this; cases this
theorem nuC_fk (hT : TB b n) (hI : NmI b n I N ds st nu) (h : NmR b n σ nm N ds st nu) (hs : VP b n s) (ht : t < 3) : (if nuC b n N ds st (w256 b n s) (t + 1) < N then nI (nu (nuC b n N ds st (w256 b n s) (t + 1))) else -1) = fkI b n σ nm t s := by
  have hsp := (fstN_spec (fun i => decide (w256 b n (ds i) = w256 b n s) && decide (st i = t + 1)) N).2
  have hfk := (fstN_spec (fun k => decide (w27 b n (nm t k) = w27 b n s)) (cN σ t)).2
  by_cases hc : nuC b n N ds st (w256 b n s) (t + 1) < N
  · have hp := hsp hc
    rw [Bool.and_eq_true] at hp
    have e1 := of_decide_eq_true hp.1
    have e2 := of_decide_eq_true hp.2
    obtain ⟨a1, a2⟩ := h.at9 hc e2
    have e3 := (w_same hT (hI.2.2 _ hc).1 hs).mp e1
    have e4 : w27 b n (nm t (nu (nuC b n N ds st (w256 b n s) (t + 1)))) = w27 b n s := by rw [← a2]; exact e3
    have hf : fk b n σ nm t s < cN σ t := fst_lt a1 (decide_eq_true e4)
    have e5 := of_decide_eq_true (hfk hf)
    have := h.2.2.2 t _ t _ ht a1 ht hf (e4.trans e5.symm)
    rw [if_pos hc, fkI_N hf]
    exact congrArg nI this.2
  · rw [if_neg hc]
    refine (if_neg (fun hf => hc ?_)).symm
    have hf : fk b n σ nm t s < cN σ t := hf
    obtain ⟨i, h1, h2, h3⟩ := h.2.2.1 t _ ht hf
    obtain ⟨a1, a2⟩ := h.at9 h1 h2
    refine fst_lt h1 ?_
    show (decide _ && decide _) = true
    rw [decide_eq_true h2, Bool.and_true]
    refine decide_eq_true ((w_same hT (hI.2.2 _ h1).1 hs).mpr ?_)
    rw [a2, h3]
    exact of_decide_eq_true (hfk hf)
theorem dcC_dcl (hT : TB b n) (hI : NmI b n I N ds st nu) (h : NmR b n σ nm N ds st nu) (hs : VP b n s) : decide (dcC b n N ds (w256 b n s) < N) = dcl b n σ nm s := by
  have hsp := (fstN_spec (fun i => decide (w256 b n (ds i) = w256 b n s)) N).2
  refine decide_eq_decide.mpr ⟨fun hc => ?_, fun hd => ?_⟩
  · have e1 := of_decide_eq_true (hsp hc)
    obtain ⟨t, h1, h2, h3, h4⟩ := h.2.1 _ hc
    have e3 := (w_same hT (hI.2.2 _ hc).1 hs).mp e1
    have hf : fk b n σ nm t s < cN σ t := fst_lt h2 (decide_eq_true (by rw [← h4]; exact e3))
    rcases (show t = 0 ∨ t = 1 ∨ t = 2 by omega) with rfl | rfl | rfl
    · exact Or.inl hf
    · exact Or.inr (Or.inl hf)
    · exact Or.inr (Or.inr hf)
  · have key : ∀ t, t < 3 → fk b n σ nm t s < cN σ t → dcC b n N ds (w256 b n s) < N := fun t ht hf => by
      obtain ⟨i, h1, h2, h3⟩ := h.2.2.1 t _ ht hf
      obtain ⟨a1, a2⟩ := h.at9 h1 h2
      refine fst_lt h1 (decide_eq_true ((w_same hT (hI.2.2 _ h1).1 hs).mpr ?_))
      rw [a2, h3]
      exact of_decide_eq_true ((fstN_spec (fun k => decide (w27 b n (nm t k) = w27 b n s)) (cN σ t)).2 hf)
    rcases hd with hd | hd | hd
    · exact key 0 (by omega) hd
    · exact key 1 (by omega) hd
    · exact key 2 (by omega) hd
def upN (f : Nat → Nat) (k v : Nat) : Nat → Nat := fun i => if i = k then v else f i
theorem dcl_no (h : dcl b n σ nm s = false) {t k : Nat} (ht : t < 3) (hk : k < cN σ t) : w27 b n (nm t k) ≠ w27 b n s := fun e => by
  have h := of_decide_eq_false h
  have hf : fk b n σ nm t s < cN σ t := fst_lt hk (decide_eq_true e)
  refine h ?_
  rcases (show t = 0 ∨ t = 1 ∨ t = 2 by omega) with rfl | rfl | rfl
  · exact Or.inl hf
  · exact Or.inr (Or.inl hf)
  · exact Or.inr (Or.inr hf)
theorem NmR.grow {σ' : Row} (h : NmR b n σ nm N ds st nu) (ht : t < 3) (hN : ∀ a, a < 3 → cN σ' a = cN σ a + (if a = t then 1 else 0)) (hd : dcl b n σ nm s = false) :
    NmR b n σ' (unm nm t (cN σ t) s) (N + 1) (upN ds N s) (upN st N (t + 1)) (upN nu N (cN σ t)) := by
  obtain ⟨h1, h2, h3, h4⟩ := h
  have hun : ∀ a k, ¬ (a = t ∧ k = cN σ t) → unm nm t (cN σ t) s a k = nm a k := fun a k q => if_neg q
  have hun2 : unm nm t (cN σ t) s t (cN σ t) = s := if_pos ⟨rfl, rfl⟩
  have hct : cN σ' t = cN σ t + 1 := by rw [hN t ht, if_pos rfl]
  have hco : ∀ a, a < 3 → cN σ a ≤ cN σ' a := fun a ha => by rw [hN a ha]; omega
  refine ⟨?_, fun i hi => ?_, fun a k ha hk => ?_, fun a k a' k' ha hk ha' hk' e => ?_⟩
  · have e0 := hN 0 (by omega)
    have e1 := hN 1 (by omega)
    have e2 := hN 2 (by omega)
    rw [cN_0, cN_0] at e0
    rw [cN_1, cN_1] at e1
    rw [cN_2, cN_2] at e2
    rcases (show t = 0 ∨ t = 1 ∨ t = 2 by omega) with rfl | rfl | rfl
    · rw [if_pos rfl] at e0; rw [if_neg (by omega)] at e1; rw [if_neg (by omega)] at e2; omega
    · rw [if_neg (by omega)] at e0; rw [if_pos rfl] at e1; rw [if_neg (by omega)] at e2; omega
    · rw [if_neg (by omega)] at e0; rw [if_neg (by omega)] at e1; rw [if_pos rfl] at e2; omega
  · by_cases q : i = N
    · refine ⟨t, ht, ?_, if_pos q, ?_⟩
      · show (if i = N then _ else _) < _
        rw [if_pos q]; omega
      · show (if i = N then _ else _) = unm _ _ _ _ t (if i = N then _ else _)
        rw [if_pos q, if_pos q, hun2]
    · obtain ⟨a, b1, b2, b3, b4⟩ := h2 i (by omega)
      refine ⟨a, b1, ?_, ?_, ?_⟩
      · show (if i = N then _ else _) < _
        rw [if_neg q]; have := hco a b1; omega
      · show (if i = N then _ else _) = _
        rw [if_neg q]; exact b3
      · show (if i = N then _ else _) = unm _ _ _ _ a (if i = N then _ else _)
        rw [if_neg q, if_neg q, hun _ _ (fun z => by rw [z.1] at b2; omega)]; exact b4
  · by_cases q : a = t ∧ k = cN σ t
    · exact ⟨N, by omega, by show (if N = N then _ else _) = _; rw [if_pos rfl, q.1], by show (if N = N then _ else _) = _; rw [if_pos rfl, q.2]⟩
    · have hk2 : k < cN σ a := by
        rw [hN a ha] at hk
        by_cases z : a = t
        · rw [if_pos z] at hk; have : k ≠ cN σ t := fun w => q ⟨z, w⟩
          rw [z] at hk ⊢; omega
        · rw [if_neg z] at hk; exact hk
      obtain ⟨i, b1, b2, b3⟩ := h3 a k ha hk2
      have hne : i ≠ N := by omega
      exact ⟨i, by omega, by show (if i = N then _ else _) = _; rw [if_neg hne]; exact b2, by show (if i = N then _ else _) = _; rw [if_neg hne]; exact b3⟩
  · have old : ∀ a k, a < 3 → k < cN σ' a → ¬ (a = t ∧ k = cN σ t) → k < cN σ a := fun a k ha hk q => by
      rw [hN a ha] at hk
      by_cases z : a = t
      · rw [if_pos z] at hk; have : k ≠ cN σ t := fun w => q ⟨z, w⟩
        rw [z] at hk ⊢; omega
      · rw [if_neg z] at hk; exact hk
    by_cases q : a = t ∧ k = cN σ t
    · by_cases q' : a' = t ∧ k' = cN σ t
      · exact ⟨q.1.trans q'.1.symm, q.2.trans q'.2.symm⟩
      · rw [hun _ _ q', q.1, q.2, hun2] at e
        exact absurd e.symm (dcl_no hd ha' (old _ _ ha' hk' q'))
    · by_cases q' : a' = t ∧ k' = cN σ t
      · rw [hun _ _ q, q'.1, q'.2, hun2] at e
        exact absurd e (dcl_no hd ha (old _ _ ha hk q))
      · rw [hun _ _ q, hun _ _ q'] at e
        exact h4 a k a' k' ha (old _ _ ha hk q) ha' (old _ _ ha' hk' q') e
theorem NmR.same {σ' : Row} (h : NmR b n σ nm N ds st nu) (hN : ∀ a, a < 3 → cN σ' a = cN σ a) : NmR b n σ' nm N ds st nu := by
  obtain ⟨h1, h2, h3, h4⟩ := h
  refine ⟨?_, fun i hi => ?_, fun a k ha hk => ?_, fun a k a' k' ha hk ha' hk' e => ?_⟩
  · rw [← cN_0, ← cN_1, ← cN_2, hN 0 (by omega), hN 1 (by omega), hN 2 (by omega)]; exact h1
  · obtain ⟨a, b1, b2, b3, b4⟩ := h2 i hi
    exact ⟨a, b1, by rw [hN a b1]; exact b2, b3, b4⟩
  · rw [hN a ha] at hk; exact h3 a k ha hk
  · rw [hN a ha] at hk; rw [hN a' ha'] at hk'; exact h4 a k a' k' ha hk ha' hk' e
end NR
theorem TokC.pu {b : Nat → Int32} {n k j p : Nat} {v : Int32} {I : CI} {L : CL} (h : TokC b n I L p) (hk : k ≠ 66) : TokC b n (u2 I k j v) L p := by
  obtain ⟨a, c, d, e, f⟩ := h
  exact ⟨by rw [u2_off (by omega)]; exact a, by rw [u2_off (by omega)]; exact c, by rw [u2_off (by omega)]; exact d, fun w => by rw [u2_off (by omega)]; exact e w, f⟩
theorem SNr_in : inC 61 66 SNr := fun a j h => by simp only [SNr, Bool.or_eq_true, Bool.and_eq_true, beq_iff_eq, decide_eq_true_eq] at h; omega
theorem SFc_in : inC 61 61 SFc := fun a j h => by simp only [SFc, Bool.or_eq_true, Bool.and_eq_true, beq_iff_eq, decide_eq_true_eq] at h; omega
theorem SNa_in : inC 62 65 SNa := fun a j h => by simp only [SNa, Bool.or_eq_true, Bool.and_eq_true, beq_iff_eq, decide_eq_true_eq] at h; omega
theorem STc_in : inC 66 66 STc := fun a j h => by simp only [STc, Bool.or_eq_true, Bool.and_eq_true, beq_iff_eq, decide_eq_true_eq] at h; omega
def SCP (β q a j : Nat) : Bool := a == 61 || decide (62 ≤ a ∧ a ≤ 65) || (a == 66 && decide (2 ≤ j ∧ j ≤ 5)) || decide (β ≤ a ∧ a ≤ β + 10) || decide (q + 1 ≤ a ∧ a ≤ q + 3)
def SLq (a j : Nat) : Bool := a == 63 || (a == 66 && j == 6)
def PostC (b : Nat → Int32) (n β q : Nat) (r : PRes) (σ : Row) (I : CI) (L : CL) : Prop := match r with
  | .inl (k, s) => I 61 4 = k ∧ I 61 5 = nI s ∧ BrAt I β σ ∧ GaAt I q σ
  | .inr (π, nm, p) => BrAt I β π ∧ GaAt I q π ∧ (∃ N ds st nu, NmI b n I N ds st nu ∧ NmL b n L N ds ∧ NmR b n π nm N ds st nu) ∧ I 66 3 = nI p ∧ KC I
theorem seK_r {b : Nat → Int32} {n q : Nat} {σ : Row} {nm : Nm} (h : decide (tK b n q = 4) = true) : seK b n (.inr (σ, nm, q)) = .inr (σ, nm, tE b n q) := if_pos (of_decide_eq_true h)
theorem seK_n {b : Nat → Int32} {n q : Nat} {σ : Row} {nm : Nm} (h : decide (tK b n q = 4) = false) : seK b n (.inr (σ, nm, q)) = .inl (e2 b n q, tS b n q) := if_neg (of_decide_eq_false h)
theorem GaAt_c {I : CI} {q : Nat} {σ τ : Row} (h : GaAt I q σ) (hj : ∀ j, 104 ≤ j → τ j = σ j) : GaAt I q τ := fun x y hx hy => by
  rw [h x y hx hy]; unfold pnt; rw [hj _ (by omega)]
theorem NmI.add {b : Nat → Int32} {n N so k s : Nat} {I J : CI} {ds st nu : Nat → Nat} (h : NmI b n I N ds st nu) (hN : N < 21) (hv : VP b n s) (h1 : J 62 3 = nI (N + 1)) (h2 : J 64 N = nI so) (h3 : J 65 N = nI k) (h4 : ∀ i, i ≠ N → J 64 i = I 64 i ∧ J 65 i = I 65 i) : NmI b n J (N + 1) (upN ds N s) (upN st N so) (upN nu N k) := by
  refine ⟨h1, by omega, fun i hi => ?_⟩
  unfold upN
  by_cases e : i = N
  · rw [if_pos e, if_pos e, if_pos e, e]; exact ⟨hv, h2, h3⟩
  · rw [if_neg e, if_neg e, if_neg e, (h4 i e).1, (h4 i e).2]; exact h.2.2 i (by omega)
theorem NmL.add {b : Nat → Int32} {n N s : Nat} {L M : CL} {ds : Nat → Nat} (h : NmL b n L N ds) (h1 : M 63 N = Int64.ofNat (w256 b n s)) (h2 : ∀ i, i ≠ N → M 63 i = L 63 i) : NmL b n M (N + 1) (upN ds N s) := fun i hi => by
  unfold upN
  by_cases e : i = N
  · rw [if_pos e, e]; exact h1
  · rw [if_neg e, h2 i e]; exact h i (by omega)
theorem BrAt_br {I : CI} {β : Nat} {σ : Row} {y h g : Int32} (hB : BrAt I β σ) : BrAt (u2 (u2 (u2 I β 0 y) β 1 h) β 2 g) β (upd (upd (upd σ 0 y) 1 h) 2 g) := by
  obtain ⟨⟨a0, a1, a2, a3, a4, a5⟩, b1, b2, b3, b4⟩ := hB
  obtain ⟨h1, h2, h3, h4⟩ := upd3_n (σ := σ) (y := y) (h := h) (g := g)
  have hat : ∀ j, 3 ≤ j → upd (upd (upd σ 0 y) 1 h) 2 g j = σ j := fun j hj => by rw [upd_ne (by omega), upd_ne (by omega), upd_ne (by omega)]
  have hs : ∀ a j, (a ≠ β ∨ 3 ≤ j) → u2 (u2 (u2 I β 0 y) β 1 h) β 2 g a j = I a j := fun a j hj => by rw [u2_off (by omega), u2_off (by omega), u2_off (by omega)]
  unfold BrAt
  rw [h1, h2, h3]
  refine ⟨⟨?_, ?_, u2_at.trans upd_eq.symm, ?_, ?_, ?_⟩, fun k hk => ?_, fun x hx => ?_, fun k hk => ?_, fun k hk => ?_⟩
  · rw [u2_off (Or.inr (by decide)), u2_off (Or.inr (by decide)), u2_at, upd_ne (by omega), upd_ne (by omega), upd_eq]
  · rw [u2_off (Or.inr (by decide)), u2_at, upd_ne (by omega), upd_eq]
  · rw [hs _ _ (Or.inr (by omega)), hat _ (by omega)]; exact a3
  · rw [hs _ _ (Or.inr (by omega)), hat _ (by omega)]; exact a4
  · rw [hs _ _ (Or.inr (by omega)), hat _ (by omega)]; exact a5
  · rw [hs _ _ (Or.inl (by omega)), hat _ (by omega)]; exact b1 k hk
  · rw [hs _ _ (Or.inl (by omega)), hs _ _ (Or.inl (by omega)), hs _ _ (Or.inl (by omega)), hs _ _ (Or.inl (by omega)), hs _ _ (Or.inl (by omega)), hat _ (by omega), hat _ (by omega), hat _ (by omega), hat _ (by omega), hat _ (by omega)]; exact b2 x hx
  · rw [hs _ _ (Or.inl (by omega)), hs _ _ (Or.inl (by omega)), hat _ (by omega), hat _ (by omega)]; exact b3 k hk
  · rw [hs _ _ (Or.inl (by omega)), hs _ _ (Or.inl (by omega)), hat _ (by omega), hat _ (by omega)]; exact b4 k hk
