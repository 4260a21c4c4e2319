/-! the world behind the constructors: the law's sixteen cells, then the class's -/
def bnL : va_E := .inr (12, [.null, .int 0, .int 0, .int 0, .int 0, .int 0, .int 0, .int 0, .null, .null, .null, .null, .null, .null, .null, .null, .null, .int 0])
def bnA : va_E := .inr (11, [.null, .null, .null, .null, .null, .null, .null, .null, .null, .null, .null, .int 0, .int 0])
def wG (bs : Nat) (cy : Nat → ClassId) : List va_E := [.inr (12, [.ref (bs + (0 + 1)), .int 0, .int 0, .int 0, .int 0, .int 0, .int 0, .int 0, .ref (bs + (0 + 2)), .ref (bs + (0 + 3)), .ref (bs + (0 + 4)), .ref (bs + (0 + 5)), .ref (bs + (0 + 6)), .ref (bs + (0 + 7)), .ref (bs + (0 + 8)), .ref (bs + (0 + 9)), .ref (bs + (0 + 10)), .int 0]), arE cy 0 0, arE cy 0 5, arE cy 0 5, arE cy 0 5, arE cy 0 5, arE cy 0 5, arE cy 0 2, arE cy 0 2, arE cy 0 6, rowsEL bs (0 + 10 + 1) cy, arE cy 0 6, arE cy 0 6, arE cy 0 6, arE cy 0 6, arE cy 0 6]
def wG2 (bs : Nat) (cy : Nat → ClassId) (b : Nat) : List va_E := [.inr (12, [.ref b, .int 0, .int 0, .int 0, .int 0, .int 0, .int 0, .int 0, .ref (bs + (0 + 2)), .ref (bs + (0 + 3)), .ref (bs + (0 + 4)), .ref (bs + (0 + 5)), .ref (bs + (0 + 6)), .ref (bs + (0 + 7)), .ref (bs + (0 + 8)), .ref (bs + (0 + 9)), .ref (bs + (0 + 10)), .int 0]), arE cy 0 0, arE cy 0 5, arE cy 0 5, arE cy 0 5, arE cy 0 5, arE cy 0 5, arE cy 0 2, arE cy 0 2, arE cy 0 6, rowsEL bs (0 + 10 + 1) cy, arE cy 0 6, arE cy 0 6, arE cy 0 6, arE cy 0 6, arE cy 0 6]
def wA (bs : Nat) (cy : Nat → ClassId) : List va_E := [.inr (11, [.ref (bs + (16 + 29)), .ref (bs + (16 + 61)), .ref (bs + (16 + 1)), .ref (bs + (16 + 4)), .ref (bs + (16 + 7)), .ref (bs + (16 + 9)), .ref (bs + (16 + 27)), .ref (bs + (16 + 31)), .ref (bs + (16 + 57)), .ref (bs + (16 + 42)), .ref (bs + (16 + 53)), .int (nI 0), .int (-1000004)]), .inr (0, [.ref (bs + (16 + 2))]), .inr (7, [.ref (bs + (16 + 3)), .int 0]), arE cy 0 12, .inr (8, [.ref (bs + (16 + 5)), .int 0]), .inr (7, [.ref (bs + (16 + 6)), .int 0]), arE cy 0 12, .inr (7, [.ref (bs + (16 + 8)), .int 0]), arE cy 0 12, .inr (2, [.ref (bs + (16 + 10)), .int (nI 15), .int 0]), rowsE bs (16 + 10 + 1) cy, arE cy 0 186, arE cy 0 186, arE cy 0 186, arE cy 0 186, arE cy 0 186, arE cy 0 186, arE cy 0 186, arE cy 0 186, arE cy 0 186, arE cy 0 186, arE cy 0 186, arE cy 0 186, arE cy 0 186, arE cy 0 186, arE cy 0 186, arE cy 0 186, .inr (4, [.ref (bs + (16 + 28)), .int 0]), arE cy 1 1152, .inr (9, [.ref (bs + (16 + 30)), .int 0]), arE cy 1 900, .inr (1, [.int (nI 8), .int (nI 2), .int (nI 3), .int (nI 0), .int (nI 0), .int (nI 0), .ref (bs + (16 + 32)), .ref (bs + (16 + 33)), .ref (bs + (16 + 34)), .ref (bs + (16 + 35)), .ref (bs + (16 + 36)), .ref (bs + (16 + 37)), .ref (bs + (16 + 38)), .ref (bs + (16 + 39)), .ref (bs + (16 + 40)), .ref (bs + (16 + 41))]), arE cy 0 4, arE cy 0 12, arE cy 0 12, arE cy 0 12, arE cy 0 12, arE cy 0 12, arE cy 0 5, arE cy 0 5, .inl (cy 0, 12, .inl (flR (fun _ => 0) (nI 100) 12)), .inl (cy 0, 12, .inl (flR (fun _ => 0) (nI 0) 12)), .inr (1, [.int (nI 8), .int (nI 2), .int (nI 3), .int (nI 0), .int (nI 0), .int (nI 0), .ref (bs + (16 + 43)), .ref (bs + (16 + 44)), .ref (bs + (16 + 45)), .ref (bs + (16 + 46)), .ref (bs + (16 + 47)), .ref (bs + (16 + 48)), .ref (bs + (16 + 49)), .ref (bs + (16 + 50)), .ref (bs + (16 + 51)), .ref (bs + (16 + 52))]), arE cy 0 4, arE cy 0 12, arE cy 0 12, arE cy 0 12, arE cy 0 12, arE cy 0 12, arE cy 0 5, arE cy 0 5, .inl (cy 0, 12, .inl (flR (fun _ => 0) (nI 100) 12)), .inl (cy 0, 12, .inl (flR (fun _ => 0) (nI 0) 12)), .inr (6, [.ref (bs + (16 + 42)), .ref (bs + (16 + 54)), .ref (bs + (16 + 55)), .ref (bs + (16 + 56))]), .inl (cy 0, 144, .inl (flR (fun _ => 0) (-1) 144)), arE cy 0 156, arE cy 0 156, .inr (6, [.ref (bs + (16 + 31)), .ref (bs + (16 + 58)), .ref (bs + (16 + 59)), .ref (bs + (16 + 60))]), .inl (cy 0, 144, .inl (flR (fun _ => 0) (-1) 144)), arE cy 0 156, arE cy 0 156, .inr (5, [.ref (bs + (16 + 66)), .ref (bs + (16 + 62)), .ref (bs + (16 + 42)), .ref (bs + (16 + 53)), .int 0, .int (-1000004)]), .inr (3, [.ref (bs + (16 + 63)), .ref (bs + (16 + 64)), .ref (bs + (16 + 65)), .int 0]), arE cy 2 21, arE cy 0 21, arE cy 0 21, .inr (10, [.ref (bs + (16 + 29)), .int 0, .int 0, .int 0, .int 0, .int 0, .long 0])]
def I0 (k : Nat) : Nat → Int32 := match k with
  | 0 => fun j => if j = 12 then -1000004 else 0
  | 9 => fun j => if j = 1 then nI 15 else 0
  | 61 => fun j => if j = 5 then -1000004 else 0
  | 54 => flR (fun _ => 0) (-1) 144
  | 58 => flR (fun _ => 0) (-1) 144
  | 31 => fun j => if j = 0 then nI 8 else if j = 1 then nI 2 else if j = 2 then nI 3 else nI 0
  | 40 => flR (fun _ => 0) (nI 100) 12
  | 41 => flR (fun _ => 0) (nI 0) 12
  | 42 => fun j => if j = 0 then nI 8 else if j = 1 then nI 2 else if j = 2 then nI 3 else nI 0
  | 51 => flR (fun _ => 0) (nI 100) 12
  | 52 => flR (fun _ => 0) (nI 0) 12
  | _ => fun _ => 0
def R0 (b k : Nat) : Nat → Nat := match k with
  | 67 => fun _ => b
  | 0 => fun j => if j = 7 then 31 else if j = 8 then 57 else if j = 9 then 42 else if j = 10 then 53 else 0
  | 53 => fun j => if j = 0 then 42 else 0
  | 57 => fun j => if j = 0 then 31 else 0
  | 61 => fun j => if j = 2 then 42 else if j = 3 then 53 else 0
  | _ => fun _ => 0
def L0 : CL := fun _ _ => 0
theorem wG_len {bs : Nat} {cy : Nat → ClassId} : (wG bs cy).length = 16 := rfl
theorem wG2_len {bs b : Nat} {cy : Nat → ClassId} : (wG2 bs cy b).length = 16 := rfl
theorem wA_len {bs : Nat} {cy : Nat → ClassId} : (wA bs cy).length = 67 := rfl
set_option maxRecDepth 100000 in
set_option maxHeartbeats 2000000 in
theorem wA_at (bs b : Nat) (cy : Nat → ClassId) (k : Nat) (hk : k < 67) : (wA bs cy)[k]? = some (ent (bs + 16) cy (shp k) (I0 k) (L0 k) (R0 b k)) := by
  match k, hk with
  | 0, _ => rfl
  | 1, _ => rfl
  | 2, _ => rfl
  | 3, _ => rfl
  | 4, _ => rfl
  | 5, _ => rfl
  | 6, _ => rfl
  | 7, _ => rfl
  | 8, _ => rfl
  | 9, _ => rfl
  | 10, _ => rfl
  | 11, _ => rfl
  | 12, _ => rfl
  | 13, _ => rfl
  | 14, _ => rfl
  | 15, _ => rfl
  | 16, _ => rfl
  | 17, _ => rfl
  | 18, _ => rfl
  | 19, _ => rfl
  | 20, _ => rfl
  | 21, _ => rfl
  | 22, _ => rfl
  | 23, _ => rfl
  | 24, _ => rfl
  | 25, _ => rfl
  | 26, _ => rfl
  | 27, _ => rfl
  | 28, _ => rfl
  | 29, _ => rfl
  | 30, _ => rfl
  | 31, _ => rfl
  | 32, _ => rfl
  | 33, _ => rfl
  | 34, _ => rfl
  | 35, _ => rfl
  | 36, _ => rfl
  | 37, _ => rfl
  | 38, _ => rfl
  | 39, _ => rfl
  | 40, _ => rfl
  | 41, _ => rfl
  | 42, _ => rfl
  | 43, _ => rfl
  | 44, _ => rfl
  | 45, _ => rfl
  | 46, _ => rfl
  | 47, _ => rfl
  | 48, _ => rfl
  | 49, _ => rfl
  | 50, _ => rfl
  | 51, _ => rfl
  | 52, _ => rfl
  | 53, _ => rfl
  | 54, _ => rfl
  | 55, _ => rfl
  | 56, _ => rfl
  | 57, _ => rfl
  | 58, _ => rfl
  | 59, _ => rfl
  | 60, _ => rfl
  | 61, _ => rfl
  | 62, _ => rfl
  | 63, _ => rfl
  | 64, _ => rfl
  | 65, _ => rfl
  | 66, _ => rfl
  | k + 67, hk => exact absurd hk (by omega)
theorem ad16 {bs k : Nat} (h : 67 ≤ k) : ad (bs + 16) k = bs + (k - 67) := by unfold ad; omega
theorem wG_0 {bs b : Nat} {cy : Nat → ClassId} : (wG2 bs cy b)[0]? = some (ent (bs + 16) cy (shp 67) (I0 67) (L0 67) (R0 b 67)) := by
  show (wG2 bs cy b)[0]? = some (.inr (12, wfs (bs + 16) (I0 67) (R0 b 67)) : va_E)
  unfold wfs
  rw [ad16 (k := 69) (by decide), ad16 (k := 70) (by decide), ad16 (k := 71) (by decide), ad16 (k := 72) (by decide), ad16 (k := 73) (by decide), ad16 (k := 74) (by decide), ad16 (k := 75) (by decide), ad16 (k := 76) (by decide), ad16 (k := 77) (by decide)]
  rfl
theorem wG_10 {bs b : Nat} {cy : Nat → ClassId} (h5 : cy 5 = cy 4) : (wG2 bs cy b)[10]? = some (ent (bs + 16) cy (shp 77) (I0 77) (L0 77) (R0 b 77)) := by
  show some (rowsEL bs (0 + 10 + 1) cy) = some (.inl (cy 5, 5, .inr (.inr (.inr (.inr (fun j => some (ad (bs + 16) (78 + j))))))))
  have e : (fun j => some (bs + (0 + 10 + 1) + j)) = fun j => some (ad (bs + 16) (78 + j)) := funext fun j => congrArg some (by unfold ad; omega)
  unfold rowsEL
  rw [e, h5]
set_option maxRecDepth 100000 in
set_option maxHeartbeats 2000000 in
theorem wG_at {bs b : Nat} {cy : Nat → ClassId} (h5 : cy 5 = cy 4) (k : Nat) (hk : k < 16) : (wG2 bs cy b)[k]? = some (ent (bs + 16) cy (shp (67 + k)) (I0 (67 + k)) (L0 (67 + k)) (R0 b (67 + k))) := by
  match k, hk with
  | 0, _ => exact wG_0
  | 1, _ => exact rfl
  | 2, _ => exact rfl
  | 3, _ => exact rfl
  | 4, _ => exact rfl
  | 5, _ => exact rfl
  | 6, _ => exact rfl
  | 7, _ => exact rfl
  | 8, _ => exact rfl
  | 9, _ => exact rfl
  | 10, _ => exact wG_10 h5
  | 11, _ => exact rfl
  | 12, _ => exact rfl
  | 13, _ => exact rfl
  | 14, _ => exact rfl
  | 15, _ => exact rfl
  | k + 16, hk => exact absurd hk (by omega)
theorem es_Wd {G : va_G} {bs b : Nat} {cy : Nat → ClassId} {H : Heap} (h5 : cy 5 = cy 4) (h : va_P G vwCl (wq bs (wG2 bs cy b ++ wA bs cy)) H) : Wd G (bs + 16) cy I0 L0 (R0 b) H := by
  intro k q hq
  obtain ⟨hk, -⟩ := wl_in hq
  rcases Nat.lt_or_ge k 67 with hk2 | hk2
  · rw [wl_at hk2] at hq
    have h1 : (wG2 bs cy b ++ wA bs cy)[16 + k]? = some (ent (bs + 16) cy (shp k) (I0 k) (L0 k) (R0 b k)) := by
      rw [List.getElem?_append_right (by rw [wG2_len]; omega), wG2_len, show 16 + k - 16 = k by omega]
      exact wA_at bs b cy k hk2
    have h2 := h _ _ (wq_at (bs := bs) h1)
    rw [← Nat.add_assoc] at h2
    cases hq
    exact h2
  · rw [wl_atL ⟨hk2, hk⟩] at hq
    have hk3 : k - 67 < 16 := by have : k < 83 := hk; omega
    have h0 := wG_at (bs := bs) (b := b) h5 (k - 67) hk3
    rw [show 67 + (k - 67) = k by omega] at h0
    have h1 : (wG2 bs cy b ++ wA bs cy)[k - 67]? = some (ent (bs + 16) cy (shp k) (I0 k) (L0 k) (R0 b k)) := by
      rw [List.getElem?_append_left (by rw [wG2_len]; exact hk3)]
      exact h0
    have h2 := h _ _ (wq_at (bs := bs) h1)
    rw [← ad16 hk2] at h2
    cases hq
    exact h2
