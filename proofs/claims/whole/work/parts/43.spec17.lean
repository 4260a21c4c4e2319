/-! the two bridges, the two plans: cells by a base -/
def isBr (β : Nat) : Prop := β = 31 ∨ β = 42
def isPl (q : Nat) : Prop := q = 53 ∨ q = 57
section SHB
variable {β q : Nat}
theorem shB (h : isBr β) : shp β = .inl (1, [0, 0, 0, 0, 0, 0, β + 1 + 3, β + 2 + 3, β + 3 + 3, β + 4 + 3, β + 5 + 3, β + 6 + 3, β + 7 + 3, β + 8 + 3, β + 9 + 3, β + 10 + 3]) := by rcases h with rfl | rfl <;> rfl
theorem shB1 (h : isBr β) : shp (β + 1) = .inr (0, 4) := by rcases h with rfl | rfl <;> rfl
theorem shB2 (h : isBr β) : shp (β + 2) = .inr (0, 12) := by rcases h with rfl | rfl <;> rfl
theorem shB3 (h : isBr β) : shp (β + 3) = .inr (0, 12) := by rcases h with rfl | rfl <;> rfl
theorem shB4 (h : isBr β) : shp (β + 4) = .inr (0, 12) := by rcases h with rfl | rfl <;> rfl
theorem shB5 (h : isBr β) : shp (β + 5) = .inr (0, 12) := by rcases h with rfl | rfl <;> rfl
theorem shB6 (h : isBr β) : shp (β + 6) = .inr (0, 12) := by rcases h with rfl | rfl <;> rfl
theorem shB7 (h : isBr β) : shp (β + 7) = .inr (0, 5) := by rcases h with rfl | rfl <;> rfl
theorem shB8 (h : isBr β) : shp (β + 8) = .inr (0, 5) := by rcases h with rfl | rfl <;> rfl
theorem shB9 (h : isBr β) : shp (β + 9) = .inr (0, 12) := by rcases h with rfl | rfl <;> rfl
theorem shB10 (h : isBr β) : shp (β + 10) = .inr (0, 12) := by rcases h with rfl | rfl <;> rfl
theorem ncB (h : isBr β) {k : Nat} (hk : k ≤ 10) : β + k < NC := by rcases h with rfl | rfl <;> (show _ < 88; omega)
theorem ncB0 (h : isBr β) : β < NC := ncB h (Nat.zero_le _)
theorem shP (h : isPl q) : shp q = .inl (6, [2, q + 1 + 3, q + 2 + 3, q + 3 + 3]) := by rcases h with rfl | rfl <;> rfl
theorem shP1 (h : isPl q) : shp (q + 1) = .inr (0, 144) := by rcases h with rfl | rfl <;> rfl
theorem shP2 (h : isPl q) : shp (q + 2) = .inr (0, 156) := by rcases h with rfl | rfl <;> rfl
theorem shP3 (h : isPl q) : shp (q + 3) = .inr (0, 156) := by rcases h with rfl | rfl <;> rfl
theorem ncP (h : isPl q) {k : Nat} (hk : k ≤ 3) : q + k < NC := by rcases h with rfl | rfl <;> (show _ < 88; omega)
theorem ncP0 (h : isPl q) : q < NC := ncP h (Nat.zero_le _)
theorem br_pl (h : isBr β) (g : isPl q) : β + 10 < q ∧ 31 ≤ β := by rcases h with rfl | rfl <;> rcases g with rfl | rfl <;> omega
end SHB
