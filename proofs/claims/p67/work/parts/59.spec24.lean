/-! the class's history, output and text -/
def HisN (I : CI) (k : Nat) (U : Nat → Row) (nw : Nat) : Prop := k ≤ 16 ∧ nw < 16 ∧ I 9 1 = nI nw ∧ I 9 2 = nI k ∧ ∀ t, t < k → Svd (I (11 + (nw + 16 - t) % 16)) (U t)
theorem HisN.frI {S : Nat → Nat → Bool} {I J : CI} {k nw : Nat} {U : Nat → Row} (h : HisN I k U nw) (hF : Fr S I J) (hs : ∀ a j, 9 ≤ a → a ≤ 26 → S a j = false) : HisN J k U nw := by
  obtain ⟨h1, h2, h3, h4, h5⟩ := h
  refine ⟨h1, h2, by rw [hF _ _ (hs _ _ (by omega) (by omega))]; exact h3, by rw [hF _ _ (hs _ _ (by omega) (by omega))]; exact h4, fun t ht => ?_⟩
  rw [hF.row (fun j => hs _ j (by omega) (by omega))]
  exact h5 t ht
theorem SvB_congr {f g : Nat → Int32} {σ : Row} (hi : Inv σ) (h : ∀ j, j < 42 → g j = f j) (hs : SvB f σ) : SvB g σ := by
  obtain ⟨hY, hY1, hY12, hLn, hL4, hSn, hS12, hGn, hG5⟩ := id hi
  obtain ⟨a, b, c, d⟩ := hs
  refine ⟨fun y hy => ⟨by rw [h _ (by omega)]; exact (a y hy).1, by rw [h _ (by omega)]; exact (a y hy).2⟩, fun x hx => by rw [h _ (by omega)]; exact b x hx, fun g2 hg => by rw [h _ (by omega)]; exact c g2 hg, by rw [h _ (by omega)]; exact d⟩
def SHk (a j : Nat) : Bool := decide (9 ≤ a ∧ a ≤ 26)
theorem SHk_9 {j : Nat} : SHk 9 j = true := rfl
theorem SHk_in : inC 9 26 SHk := fun a j h => of_decide_eq_true h
def STb (β q a j : Nat) : Bool := a == 9 || decide (β ≤ a ∧ a ≤ β + 10) || a == q + 1 || a == q + 2 || a == q + 3
theorem STb_9 {β q j : Nat} : STb β q 9 j = true := by simp [STb]
/-- the output written so far -/
def OuAt (I : CI) (o : Out) : Prop := I 27 1 = nI o.2 ∧ rowP I 28 o.2 o.1
theorem OuAt.frI {S : Nat → Nat → Bool} {I J : CI} {o : Out} (h : OuAt I o) (hF : Fr S I J) (hs : ∀ a j, 27 ≤ a → a ≤ 28 → S a j = false) : OuAt J o := ⟨by rw [hF _ _ (hs _ _ (by omega) (by omega))]; exact h.1, fun z hz => by rw [hF _ _ (hs _ _ (by omega) (by omega))]; exact h.2 z hz⟩
theorem OuAt.ext {I : CI} {o : Out} {c : Int32} (h : OuAt I o) : rowP I 28 o.2 (fun z => (oP o c).1 z) := fun z hz => by
  show I 28 z = (oP o c).1 z
  rw [h.2 z hz]
  exact (upd_ne (by omega)).symm
def sg (v : Int32) : Int32 := v.toInt8.toInt32
theorem nar_sg (v : Int32) : vp_nar .byte v = sg v := rfl
theorem sg_sg (v : Int32) : sg (sg v) = sg v := by
  unfold sg
  rw [Int8.toInt8_toInt32]
def SOu (a j : Nat) : Bool := (a == 27 && j == 1) || a == 28
theorem dgH_c : ∀ v, v < 100 → ((nI 48 + (nI v / nI 10 - nI v / nI 10 / nI 10 * nI 10)).toUInt32 % 65536).toInt32 = dgH v := by decide +kernel
theorem dgL_c : ∀ v, v < 100 → ((nI 48 + (nI v - nI v / nI 10 * nI 10)).toUInt32 % 65536).toInt32 = dgL v := by decide +kernel
theorem dg_sg : ∀ v, v < 100 → sg (dgH v) = dgH v ∧ sg (dgL v) = dgL v := by decide +kernel
/-- the text in the buffer: bytes b of 0 to 255 -/
def TxAt (I : CI) (n : Nat) (b : Nat → Int32) : Prop := I 29 1 = nI n ∧ rowP I 30 n (fun j => sg (b j))
theorem TxAt.frI {S : Nat → Nat → Bool} {I J : CI} {n : Nat} {b : Nat → Int32} (h : TxAt I n b) (hF : Fr S I J) (hs : ∀ a j, 29 ≤ a → a ≤ 30 → S a j = false) : TxAt J n b := ⟨by rw [hF _ _ (hs _ _ (by omega) (by omega))]; exact h.1, fun z hz => by rw [hF _ _ (hs _ _ (by omega) (by omega))]; exact h.2 z hz⟩
theorem ap4_lt {b : Nat → Int32} {n : Nat} {v : Int32} {z : Nat} (h : z < n) : ap4 b n v z = b z := by
  unfold ap4
  rw [upd_ne (by omega), upd_ne (by omega), upd_ne (by omega), upd_ne (by omega)]
theorem ap4_0 {b : Nat → Int32} {n : Nat} {v : Int32} : ap4 b n v n = byV v 24 := by
  unfold ap4
  rw [upd_ne (by omega), upd_ne (by omega), upd_ne (by omega), upd_eq]
theorem ap4_1 {b : Nat → Int32} {n : Nat} {v : Int32} : ap4 b n v (n + 1) = byV v 16 := by
  unfold ap4
  rw [upd_ne (by omega), upd_ne (by omega), upd_eq]
theorem ap4_2 {b : Nat → Int32} {n : Nat} {v : Int32} : ap4 b n v (n + 1 + 1) = byV v 8 := by
  unfold ap4
  rw [upd_ne (by omega), upd_eq]
theorem ap4_3 {b : Nat → Int32} {n : Nat} {v : Int32} : ap4 b n v (n + 1 + 1 + 1) = byV v 0 := by
  unfold ap4
  rw [upd_eq]
theorem TxAt.ext {I : CI} {n : Nat} {b : Nat → Int32} {v : Int32} (h : TxAt I n b) : rowP I 30 n (fun z => sg (ap4 b n v z)) := fun z hz => by
  show I 30 z = sg (ap4 b n v z)
  rw [h.2 z hz, ap4_lt hz]
def STx (a j : Nat) : Bool := (a == 29 && j == 1) || a == 30
theorem sg_low {x y : Int32} (h : ∀ i, i < 8 → bt x i = bt y i) : sg x = sg y := by
  unfold sg
  have e : x.toInt8 = y.toInt8 := by
    apply Int8.toBitVec_inj.mp
    apply BitVec.eq_of_getLsbD_eq
    intro i hi
    have h1 := h i hi
    unfold bt at h1
    show (x.toBitVec.signExtend 8).getLsbD i = (y.toBitVec.signExtend 8).getLsbD i
    rw [BitVec.getLsbD_signExtend, BitVec.getLsbD_signExtend, if_pos (by omega), if_pos (by omega), h1]
  rw [e]
theorem b_255x : ∀ i, i < 8 → bt (nI 255) i = true := by decide +kernel
theorem sg_by (v : Int32) {s : Nat} (hs : s ≤ 24) : sg (v >>> (nI s &&& 31)) = sg (byV v s) := by
  refine sg_low (fun i hi => ?_)
  unfold byV
  rw [b_and, b_255x i hi, Bool.and_true, b_sshr s (by omega) v (by omega), if_pos (by omega)]
  unfold bt
  show v.toBitVec.getLsbD (s + i) = (v.toBitVec >>> ((BitVec.ofNat 32 s &&& BitVec.ofNat 32 31) % 32#32)).getLsbD i
  have e : ((BitVec.ofNat 32 s &&& BitVec.ofNat 32 31) % 32#32) = BitVec.ofNat 32 s := by
    have : ∀ s, s ≤ 24 → ((BitVec.ofNat 32 s &&& BitVec.ofNat 32 31) % 32#32) = BitVec.ofNat 32 s := by decide +kernel
    exact this s hs
  rw [e]
  show _ = (v.toBitVec >>> (BitVec.ofNat 32 s).toNat).getLsbD i
  rw [BitVec.getLsbD_ushiftRight, BitVec.toNat_ofNat, Nat.mod_eq_of_lt (by omega)]
