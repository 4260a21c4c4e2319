/-! numbers that the JDK's texts work with -/
theorem shl0 (x : Int32) : x <<< (nI 0 &&& 31) = x := by
  show x <<< ((0 : Int32) &&& 31) = x
  rw [show ((0 : Int32) &&& 31) = 0 by decide]
  exact Int32.shiftLeft_zero
theorem shr0 (x : Int32) : x >>> (nI 0 &&& 31) = x := by
  show x >>> ((0 : Int32) &&& 31) = x
  rw [show ((0 : Int32) &&& 31) = 0 by decide]
  exact Int32.shiftRight_zero
theorem mxN {a b : Nat} (ha : a < 2 ^ 31) (hb : b < 2 ^ 31) : (if nI a < nI b then nI b else nI a) = nI (max a b) := by
  by_cases h : a < b
  · rw [if_pos (nI_lt h hb), Nat.max_eq_right (Nat.le_of_lt h)]
  · rw [if_neg (fun z => h ((nI_ltI ha hb).mp z)), Nat.max_eq_left (Nat.not_lt.mp h)]
theorem mnN {a b : Nat} (ha : a < 2 ^ 31) (hb : b < 2 ^ 31) : (if nI b < nI a then nI b else nI a) = nI (min a b) := by
  by_cases h : b < a
  · rw [if_pos (nI_lt h ha), Nat.min_eq_right (Nat.le_of_lt h)]
  · rw [if_neg (fun z => h ((nI_ltI hb ha).mp z)), Nat.min_eq_left (Nat.not_lt.mp h)]
theorem big1 {n : Nat} (h : n < 2 ^ 30) : ¬ (2147483639 : Int32) < nI n := fun z => by
  have h1 := Int32.lt_iff_toInt_lt.mp z
  rw [nI_toInt (by omega), show (2147483639 : Int32).toInt = 2147483639 by decide] at h1
  omega
theorem big2 {n : Nat} (h : n < 2 ^ 30) : nI n ≠ (2147483647 : Int32) := fun z => by
  have h1 := congrArg Int32.toInt z
  rw [nI_toInt (by omega), show (2147483647 : Int32).toInt = 2147483647 by decide] at h1
  omega
def capK (m k : Nat) : Nat := m + max (k - m) (m + 2)
theorem capK_ge {m k : Nat} : k ≤ capK m k := by unfold capK; omega
theorem capK_gt {m k : Nat} : m < capK m k := by unfold capK; omega
theorem capK_le {m k : Nat} (h : m < k) (hk : k ≤ 300) : capK m k ≤ 600 := by unfold capK; omega
/-- the digits of a number below 100 -/
def dec2 (x : Nat) : List Nat := if x < 10 then [48 + x] else [48 + x / 10, 48 + x % 10]
theorem dec2_len (x : Nat) : (dec2 x).length = if x < 10 then 1 else 2 := by unfold dec2; split <;> rfl
theorem vP0 {G : va_G} {H : Heap} : va_P G vwCl [] H := fun k q h => by simp at h
theorem va_keep {G : va_G} {ws : va_W} {H H1 : Heap} {A' : Nat → Prop} (hP : va_P G vwCl ws H) (hk : ∀ q : Nat, q < H.size → ¬ A' q → H1[q]? = H[q]?) (hA : ∀ (k : Nat) (x : Nat × va_E), ws[k]? = some x → ¬ A' x.1) : va_P G vwCl ws H1 := hP.kept (fun k x hx => hk x.1 ((hP k x hx).lt) (hA k x hx))
theorem vD_app {G : va_G} {ws : va_W} {H : Heap} {A : Nat → Prop} {r : Nat} {e : va_E} (hD : va_D A ws) (hP : va_P G vwCl ws H) (hr : H.size ≤ r) (hA : A r) : va_D A (ws ++ [(r, e)]) := by
  refine va_D.app hD ⟨fun i j p q h1 h2 _ => ?_, fun k q h => ?_⟩ (fun i j p q h1 h2 => ?_)
  · have e1 : i < 1 := (List.getElem?_eq_some_iff.mp h1).1
    have e2 : j < 1 := (List.getElem?_eq_some_iff.mp h2).1
    omega
  · have e1 : k < 1 := (List.getElem?_eq_some_iff.mp h).1
    rw [show k = 0 by omega] at h
    cases h
    exact hA
  · have e2 : j < 1 := (List.getElem?_eq_some_iff.mp h2).1
    rw [show j = 0 by omega] at h2
    cases h2
    have := (hP i p h1).lt
    show p.1 ≠ r
    omega
