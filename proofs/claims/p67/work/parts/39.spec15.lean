/-! what may have changed among the longs -/
def FL (S : Nat → Nat → Bool) (L M : CL) : Prop := ∀ a j, S a j = false → M a j = L a j
theorem FL.rf {S : Nat → Nat → Bool} {L : CL} : FL S L L := fun _ _ _ => rfl
theorem FL.put {S : Nat → Nat → Bool} {L M : CL} (h : FL S L M) {k j : Nat} {v : Int64} (hs : S k j = true) : FL S L (u2L M k j v) := by
  intro a b hab
  rw [← h a b hab]
  unfold u2L
  by_cases ha : a = k
  · subst ha
    rw [if_pos rfl]
    by_cases hb : b = j
    · subst hb
      rw [hs] at hab
      cases hab
    · unfold vp_updL
      rw [if_neg hb]
  · rw [if_neg ha]
theorem FL.tr {S T : Nat → Nat → Bool} {L M K : CL} (h : FL S L M) (h2 : FL T M K) (sub : ∀ a j, T a j = true → S a j = true) : FL S L K := by
  intro a j hs
  rw [← h a j hs]
  apply h2
  cases ht : T a j with
  | false => rfl
  | true => rw [sub a j ht] at hs; cases hs
/-! the text: bytes b, length n -/
def isL (c : Int32) : Bool := decide (97 ≤ c ∧ c ≤ 122)
def isDg (c : Int32) : Bool := decide (48 ≤ c ∧ c ≤ 57)
def isSp (c : Int32) : Bool := decide (c = 32 ∨ c = 10)
/-- the first place from p on that has not the property, or n -/
def runE (f : Int32 → Bool) (b : Nat → Int32) (n p : Nat) : Nat := p + fstN (fun i => !(f (b (p + i)))) (n - p)
theorem runE_ge {f : Int32 → Bool} {b : Nat → Int32} {n p : Nat} : p ≤ runE f b n p := Nat.le_add_right _ _
theorem runE_le {f : Int32 → Bool} {b : Nat → Int32} {n p : Nat} (h : p ≤ n) : runE f b n p ≤ n := by
  have := fstN_le (fun i => !(f (b (p + i)))) (n - p)
  unfold runE
  omega
theorem runE_in {f : Int32 → Bool} {b : Nat → Int32} {n p z : Nat} (h1 : p ≤ z) (h2 : z < runE f b n p) : f (b z) = true := by
  have h := (fstN_spec (fun i => !(f (b (p + i)))) (n - p)).1 (z - p) (by unfold runE at h2; omega)
  rw [show p + (z - p) = z by omega] at h
  cases hf : f (b z) with
  | true => rfl
  | false => rw [hf] at h; cases h
theorem runE_end {f : Int32 → Bool} {b : Nat → Int32} {n p : Nat} (h : runE f b n p < n) : f (b (runE f b n p)) = false := by
  have h1 := fstN_le (fun i => !(f (b (p + i)))) (n - p)
  have h2 := (fstN_spec (fun i => !(f (b (p + i)))) (n - p)).2 (by unfold runE at h; omega)
  unfold runE
  cases hf : f (b (p + fstN (fun i => !(f (b (p + i)))) (n - p))) with
  | false => rfl
  | true => rw [hf] at h2; cases h2
theorem runE_eq {f : Int32 → Bool} {b : Nat → Int32} {n p q : Nat} (h1 : p ≤ q) (h2 : q ≤ n) (h3 : ∀ z, p ≤ z → z < q → f (b z) = true) (h4 : q < n → f (b q) = false) : runE f b n p = q := by
  unfold runE
  by_cases e : q < n
  · rw [fstN_hit (p := fun i => !(f (b (p + i)))) (y := q - p) (by omega) (by show (!(f (b (p + (q - p))))) = true; rw [show p + (q - p) = q by omega, h4 e]; rfl) (fun z hz => by show (!(f (b (p + z)))) = false; rw [h3 (p + z) (by omega) (by omega)]; rfl)]
    omega
  · rw [fstN_none (p := fun i => !(f (b (p + i)))) (fun z hz => by show (!(f (b (p + z)))) = false; rw [h3 (p + z) (by omega) (by omega)]; rfl)]
    omega
def bA (b : Nat → Int32) (n p : Nat) : Int32 := if p < n then b p else -1
theorem bA_in {b : Nat → Int32} {n p : Nat} (h : p < n) : bA b n p = b p := if_pos h
theorem bA_out {b : Nat → Int32} {n p : Nat} (h : n ≤ p) : bA b n p = -1 := if_neg (by omega)
def SFl (a j : Nat) : Bool := a == 67 && (j == 17 || j == 18)
