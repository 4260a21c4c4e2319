/-! the world behind the constructors -/
def esW (bs : Nat) (cy : Nat → ClassId) : List va_E := [.inr (11, [.ref (bs + (0 + 29)), .ref (bs + (0 + 61)), .ref (bs + (0 + 1)), .ref (bs + (0 + 4)), .ref (bs + (0 + 7)), .ref (bs + (0 + 9)), .ref (bs + (0 + 27)), .ref (bs + (0 + 31)), .ref (bs + (0 + 57)), .ref (bs + (0 + 42)), .ref (bs + (0 + 53)), .int (nI 0), .int (-1000004)]), .inr (0, [.ref (bs + (0 + 2))]), .inr (7, [.ref (bs + (0 + 3)), .int 0]), arE cy 0 12, .inr (8, [.ref (bs + (0 + 5)), .int 0]), .inr (7, [.ref (bs + (0 + 6)), .int 0]), arE cy 0 12, .inr (7, [.ref (bs + (0 + 8)), .int 0]), arE cy 0 12, .inr (2, [.ref (bs + (0 + 10)), .int (nI 15), .int 0]), rowsE bs (0 + 10 + 1) cy, arE cy 0 186, arE cy 0 186, arE cy 0 186, arE cy 0 186, arE cy 0 186, arE cy 0 186, arE cy 0 186, arE cy 0 186, arE cy 0 186, arE cy 0 186, arE cy 0 186, arE cy 0 186, arE cy 0 186, arE cy 0 186, arE cy 0 186, arE cy 0 186, .inr (4, [.ref (bs + (0 + 28)), .int 0]), arE cy 1 1152, .inr (9, [.ref (bs + (0 + 30)), .int 0]), arE cy 1 900, .inr (1, [.int (nI 8), .int (nI 2), .int (nI 3), .int (nI 0), .int (nI 0), .int (nI 0), .ref (bs + (0 + 32)), .ref (bs + (0 + 33)), .ref (bs + (0 + 34)), .ref (bs + (0 + 35)), .ref (bs + (0 + 36)), .ref (bs + (0 + 37)), .ref (bs + (0 + 38)), .ref (bs + (0 + 39)), .ref (bs + (0 + 40)), .ref (bs + (0 + 41))]), arE cy 0 4, arE cy 0 12, arE cy 0 12, arE cy 0 12, arE cy 0 12, arE cy 0 12, arE cy 0 5, arE cy 0 5, .inl (cy 0, 12, .inl (flR (fun _ => 0) (nI 100) 12)), .inl (cy 0, 12, .inl (flR (fun _ => 0) (nI 0) 12)), .inr (1, [.int (nI 8), .int (nI 2), .int (nI 3), .int (nI 0), .int (nI 0), .int (nI 0), .ref (bs + (0 + 43)), .ref (bs + (0 + 44)), .ref (bs + (0 + 45)), .ref (bs + (0 + 46)), .ref (bs + (0 + 47)), .ref (bs + (0 + 48)), .ref (bs + (0 + 49)), .ref (bs + (0 + 50)), .ref (bs + (0 + 51)), .ref (bs + (0 + 52))]), arE cy 0 4, arE cy 0 12, arE cy 0 12, arE cy 0 12, arE cy 0 12, arE cy 0 12, arE cy 0 5, arE cy 0 5, .inl (cy 0, 12, .inl (flR (fun _ => 0) (nI 100) 12)), .inl (cy 0, 12, .inl (flR (fun _ => 0) (nI 0) 12)), .inr (6, [.ref (bs + (0 + 42)), .ref (bs + (0 + 54)), .ref (bs + (0 + 55)), .ref (bs + (0 + 56))]), .inl (cy 0, 144, .inl (flR (fun _ => 0) (-1) 144)), arE cy 0 156, arE cy 0 156, .inr (6, [.ref (bs + (0 + 31)), .ref (bs + (0 + 58)), .ref (bs + (0 + 59)), .ref (bs + (0 + 60))]), .inl (cy 0, 144, .inl (flR (fun _ => 0) (-1) 144)), arE cy 0 156, arE cy 0 156, .inr (5, [.ref (bs + (0 + 66)), .ref (bs + (0 + 62)), .ref (bs + (0 + 42)), .ref (bs + (0 + 53)), .int 0, .int (-1000004)]), .inr (3, [.ref (bs + (0 + 63)), .ref (bs + (0 + 64)), .ref (bs + (0 + 65)), .int 0]), arE cy 2 21, arE cy 0 21, arE cy 0 21, .inr (10, [.ref (bs + (0 + 29)), .int 0, .int 0, .int 0, .int 0, .int 0, .long 0]), .inr (12, [.ref (bs + (67 + 1)), .ref (bs + (67 + 2)), .ref (bs + (67 + 3)), .ref (bs + (67 + 4)), .ref (bs + (67 + 5)), .int 0, .int 0, .ref (bs + (67 + 6)), .int 0, .int 0, .int (-1000004), .int 0, .int 0, .int 0, .int 0, .int 0, .int 0, .int 0, .int 0, .long 0, .ref (bs + (67 + 7)), .int 0, .int 0, .ref (bs + (67 + 8)), .ref (bs + (67 + 9)), .ref (bs + (67 + 10)), .ref (bs + (67 + 11)), .ref (bs + (67 + 12)), .ref (bs + (67 + 13)), .ref (bs + (67 + 14)), .int 0, .ref (bs + (67 + 15)), .int 0, .int 0, .int 0, .ref (bs + (67 + 16)), .ref (bs + (67 + 17)), .ref (bs + (67 + 18)), .int 0]), .inl (cy 0, 248, .inl (iniR (fun _ => 0))), arE cy 0 248, arE cy 0 248, arE cy 0 248, arE cy 0 3968, arE cy 0 900, arE cy 2 36, arE cy 0 12, arE cy 0 12, arE cy 0 12, arE cy 0 12, arE cy 0 12, arE cy 0 12, arE cy 0 5, arE cy 0 12, arE cy 0 12, arE cy 0 12, arE cy 0 1400, arE cy 2 1, arE cy 3 1]
def I0 (k : Nat) : Nat → Int32 := match k with
  | 0 => fun j => if j = 12 then -1000004 else 0
  | 9 => fun j => if j = 1 then nI 15 else 0
  | 61 => fun j => if j = 5 then -1000004 else 0
  | 67 => fun j => if j = 10 then -1000004 else 0
  | 68 => iniR (fun _ => 0)
  | 54 => flR (fun _ => 0) (-1) 144
  | 58 => flR (fun _ => 0) (-1) 144
  | 31 => fun j => if j = 0 then nI 8 else if j = 1 then nI 2 else if j = 2 then nI 3 else nI 0
  | 40 => flR (fun _ => 0) (nI 100) 12
  | 41 => flR (fun _ => 0) (nI 0) 12
  | 42 => fun j => if j = 0 then nI 8 else if j = 1 then nI 2 else if j = 2 then nI 3 else nI 0
  | 51 => flR (fun _ => 0) (nI 100) 12
  | 52 => flR (fun _ => 0) (nI 0) 12
  | _ => fun _ => 0
def R0 (k : Nat) : Nat → Nat := match k with
  | 0 => fun j => if j = 7 then 31 else if j = 8 then 57 else if j = 9 then 42 else if j = 10 then 53 else 0
  | 53 => fun j => if j = 0 then 42 else 0
  | 57 => fun j => if j = 0 then 31 else 0
  | 61 => fun j => if j = 2 then 42 else if j = 3 then 53 else 0
  | _ => fun _ => 0
def L0 : CL := fun _ _ => 0
set_option maxRecDepth 100000 in
set_option maxHeartbeats 2000000 in
theorem esW_at (bs : Nat) (cy : Nat → ClassId) (k : Nat) (hk : k < NC) : (esW bs cy)[k]? = some (ent bs cy (shp k) (I0 k) (L0 k) (R0 k)) := by
  match k, hk with
  | 0, _ => rfl
  | 1, _ => rfl
  | 2, _ => rfl
  | 3, _ => rfl
  | 4, _ => rfl
  | 5, _ => rfl
  | 6, _ => rfl
  | 7, _ => rfl
  | 8, _ => rfl
  | 9, _ => rfl
  | 10, _ => rfl
  | 11, _ => rfl
  | 12, _ => rfl
  | 13, _ => rfl
  | 14, _ => rfl
  | 15, _ => rfl
  | 16, _ => rfl
  | 17, _ => rfl
  | 18, _ => rfl
  | 19, _ => rfl
  | 20, _ => rfl
  | 21, _ => rfl
  | 22, _ => rfl
  | 23, _ => rfl
  | 24, _ => rfl
  | 25, _ => rfl
  | 26, _ => rfl
  | 27, _ => rfl
  | 28, _ => rfl
  | 29, _ => rfl
  | 30, _ => rfl
  | 31, _ => rfl
  | 32, _ => rfl
  | 33, _ => rfl
  | 34, _ => rfl
  | 35, _ => rfl
  | 36, _ => rfl
  | 37, _ => rfl
  | 38, _ => rfl
  | 39, _ => rfl
  | 40, _ => rfl
  | 41, _ => rfl
  | 42, _ => rfl
  | 43, _ => rfl
  | 44, _ => rfl
  | 45, _ => rfl
  | 46, _ => rfl
  | 47, _ => rfl
  | 48, _ => rfl
  | 49, _ => rfl
  | 50, _ => rfl
  | 51, _ => rfl
  | 52, _ => rfl
  | 53, _ => rfl
  | 54, _ => rfl
  | 55, _ => rfl
  | 56, _ => rfl
  | 57, _ => rfl
  | 58, _ => rfl
  | 59, _ => rfl
  | 60, _ => rfl
  | 61, _ => rfl
  | 62, _ => rfl
  | 63, _ => rfl
  | 64, _ => rfl
  | 65, _ => rfl
  | 66, _ => rfl
  | 67, _ => rfl
  | 68, _ => rfl
  | 69, _ => rfl
  | 70, _ => rfl
  | 71, _ => rfl
  | 72, _ => rfl
  | 73, _ => rfl
  | 74, _ => rfl
  | 75, _ => rfl
  | 76, _ => rfl
  | 77, _ => rfl
  | 78, _ => rfl
  | 79, _ => rfl
  | 80, _ => rfl
  | 81, _ => rfl
  | 82, _ => rfl
  | 83, _ => rfl
  | 84, _ => rfl
  | 85, _ => rfl
  | 86, _ => rfl
  | 87, _ => rfl
  | k + 88, hk => exact absurd hk (by show ¬ k + 88 < 88; omega)
