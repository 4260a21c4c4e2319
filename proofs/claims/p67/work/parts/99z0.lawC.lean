/-! texts that the law makes: builders and texts alive, beside the world -/
abbrev BD : Type := Nat × Nat × List Nat
def AF : Nat → Prop := fun _ => False
def BU (G : va_G) (cy : Nat → ClassId) (bs : Nat) (H : Heap) (b : BD) : Prop := ∃ m a, va_P G vwCl (wB cy b.1 b.2.1 m b.2.2.length a) H ∧ BT a m b.2.2 ∧ m ≤ 600 ∧ bs + 67 ≤ b.1 ∧ bs + 67 ≤ b.2.1 ∧ b.1 ≠ b.2.1
def apx (x : SD) (q v : Nat) : Prop := x.1 ≠ q ∧ x.1 ≠ v ∧ x.2.1 ≠ q ∧ x.2.1 ≠ v
def apb (b c : BD) : Prop := b.1 ≠ c.1 ∧ b.1 ≠ c.2.1 ∧ b.2.1 ≠ c.1 ∧ b.2.1 ≠ c.2.1
def TW (G : va_G) (cy : Nat → ClassId) (bs : Nat) (s : State) (H : Heap) (Bs : List BD) (Ts : List SD) : Prop :=
  (∀ b ∈ Bs, BU G cy bs H b) ∧ (∀ x ∈ Ts, SLt AF s H x ∧ ¬ Aq bs x.1 ∧ ¬ Aq bs x.2.1) ∧ Bs.Pairwise apb ∧ (∀ b ∈ Bs, ∀ x ∈ Ts, apx x b.1 b.2.1) ∧ s.heap.size ≤ H.size ∧ ∀ b ∈ Bs, s.heap.size ≤ b.1 ∧ s.heap.size ≤ b.2.1
section TWS
variable {G : va_G} {cy : Nat → ClassId} {bs : Nat} {s : State} {H H1 : Heap} {Bs : List BD} {Ts Ts' : List SD} {q v v1 : Nat} {l l1 : List Nat}
theorem BU.lt {b : BD} (h : BU G cy bs H b) : b.1 < H.size ∧ b.2.1 < H.size := by
  obtain ⟨m, a, hP, -⟩ := h
  exact ⟨(hP 0 _ rfl).lt, (hP 1 _ rfl).lt⟩
theorem BU.kp {b : BD} (h : BU G cy bs H b) (h1 : H1[b.1]? = H[b.1]?) (h2 : H1[b.2.1]? = H[b.2.1]?) : BU G cy bs H1 b := by
  obtain ⟨m, a, hP, r⟩ := h
  refine ⟨m, a, hP.kept (fun k x hx => ?_), r⟩
  have hk : k < 2 := (List.getElem?_eq_some_iff.mp hx).1
  rcases (show k = 0 ∨ k = 1 by omega) with rfl | rfl <;> cases hx
  · exact h1
  · exact h2
theorem SLt.lt {A : Nat → Prop} {x : SD} (h : SLt A s H x) : x.1 < H.size ∧ x.2.1 < H.size := by
  obtain ⟨⟨c1, h1, -⟩, -, -, ⟨c2, h2, -⟩, -⟩ := h
  exact ⟨(Array.getElem?_eq_some_iff.mp h1).1, (Array.getElem?_eq_some_iff.mp h2).1⟩
theorem SLt.kp {x : SD} (h : SLt AF s H x) (h1 : H1[x.1]? = H[x.1]?) (h2 : H1[x.2.1]? = H[x.2.1]?) : SLt AF s H1 x := by
  obtain ⟨⟨c1, a1, a2⟩, ⟨b1, b2, b3, b4, b5, b6, b7, b8, b9⟩, ⟨d1, d2, d3, d4, d5, d6, d7, d8, d9⟩, ⟨c2, e1, e2⟩, r⟩ := h
  exact ⟨⟨c1, h1.trans a1, a2⟩, ⟨b1, b2, b3, b4, b5, b6, b7, h1.trans b8, b9⟩, ⟨d1, d2, d3, d4, d5, d6, d7, h1.trans d8, d9⟩, ⟨c2, h2.trans e1, e2⟩, r⟩
theorem SLt.wid {A : Nat → Prop} {x : SD} (h : SLt AF s H x) (h1 : ¬ A x.1) (h2 : ¬ A x.2.1) : SLt A s H x := by
  obtain ⟨⟨c1, a1, a2, a3, -⟩, ⟨b1, b2, b3, b4, b5, b6, b7, b8, b9, b10, -⟩, ⟨d1, d2, d3, d4, d5, d6, d7, d8, d9, d10, -⟩, ⟨c2, e1, e2, e3, e4, e5, e6, -⟩, r⟩ := h
  exact ⟨⟨c1, a1, a2, a3, h1⟩, ⟨b1, b2, b3, b4, b5, b6, b7, b8, b9, b10, h1⟩, ⟨d1, d2, d3, d4, d5, d6, d7, d8, d9, d10, h1⟩, ⟨c2, e1, e2, e3, e4, e5, e6, h2⟩, r⟩
theorem TW.step (h : TW G cy bs s H ((q, v, l) :: Bs) Ts) (hz : H.size ≤ H1.size) (hk : ∀ z, z < H.size → z ≠ q → z ≠ v → H1[z]? = H[z]?) (hB : BU G cy bs H1 (q, v1, l1)) (hv : v1 = v ∨ H.size ≤ v1) : TW G cy bs s H1 ((q, v1, l1) :: Bs) Ts := by
  obtain ⟨h1, h2, h3, h4, h5, h6⟩ := h
  have hp := List.pairwise_cons.mp h3
  refine ⟨fun b hb => ?_, fun x hx => ?_, List.pairwise_cons.mpr ⟨fun b hb => ?_, hp.2⟩, fun b hb x hx => ?_, Nat.le_trans h5 hz, fun b hb => ?_⟩
  · rcases List.mem_cons.mp hb with rfl | hb
    · exact hB
    · have hb1 := h1 b (List.mem_cons_of_mem _ hb)
      obtain ⟨p1, p2, p3, p4⟩ := hp.1 b hb
      exact hb1.kp (hk _ hb1.lt.1 (Ne.symm p1) (Ne.symm p3)) (hk _ hb1.lt.2 (Ne.symm p2) (Ne.symm p4))
  · obtain ⟨x1, x2, x3⟩ := h2 x hx
    obtain ⟨p1, p2, p3, p4⟩ := h4 _ List.mem_cons_self x hx
    exact ⟨x1.kp (hk _ x1.lt.1 p1 p2) (hk _ x1.lt.2 p3 p4), x2, x3⟩
  · have hb1 := h1 b (List.mem_cons_of_mem _ hb)
    obtain ⟨p1, p2, p3, p4⟩ := hp.1 b hb
    rcases hv with rfl | hv
    · exact ⟨p1, p2, p3, p4⟩
    · have := hb1.lt
      exact ⟨p1, p2, by show v1 ≠ b.1; omega, by show v1 ≠ b.2.1; omega⟩
  · rcases List.mem_cons.mp hb with rfl | hb
    · obtain ⟨x1, x2, x3⟩ := h2 x hx
      obtain ⟨p1, p2, p3, p4⟩ := h4 _ List.mem_cons_self x hx
      rcases hv with rfl | hv
      · exact ⟨p1, p2, p3, p4⟩
      · have := x1.lt
        exact ⟨p1, by show x.1 ≠ v1; omega, p3, by show x.2.1 ≠ v1; omega⟩
    · exact h4 b (List.mem_cons_of_mem _ hb) x hx
  · rcases List.mem_cons.mp hb with rfl | hb
    · have h7 := h6 _ List.mem_cons_self
      refine ⟨h7.1, ?_⟩
      rcases hv with rfl | hv
      · exact h7.2
      · show s.heap.size ≤ v1; omega
    · exact h6 b (List.mem_cons_of_mem _ hb)
theorem TW.frame (h : TW G cy bs s H Bs Ts) (hz : H.size ≤ H1.size) (hk : ∀ z, z < H.size → ¬ Aq bs z → H1[z]? = H[z]?) : TW G cy bs s H1 Bs Ts := by
  obtain ⟨h1, h2, h3, h4, h5, h6⟩ := h
  refine ⟨fun b hb => ?_, fun x hx => ?_, h3, h4, Nat.le_trans h5 hz, h6⟩
  · have hb1 := h1 b hb
    obtain ⟨m, a, hP, g1, g2, g3, g4, g5⟩ := id hb1
    exact hb1.kp (hk _ hb1.lt.1 (fun z => by have := z.2; omega)) (hk _ hb1.lt.2 (fun z => by have := z.2; omega))
  · obtain ⟨x1, x2, x3⟩ := h2 x hx
    exact ⟨x1.kp (hk _ x1.lt.1 x2) (hk _ x1.lt.2 x3), x2, x3⟩
theorem TW.all (h : TW G cy bs s H Bs Ts) (hz : H.size ≤ H1.size) (hk : ∀ z, z < H.size → H1[z]? = H[z]?) : TW G cy bs s H1 Bs Ts := h.frame hz (fun z h1 _ => hk z h1)
theorem TW.pushB (h : TW G cy bs s H Bs Ts) (hz : H.size ≤ H1.size) (hk : ∀ z, z < H.size → H1[z]? = H[z]?) (hB : BU G cy bs H1 (q, v, l)) (hq : H.size ≤ q) (hv : H.size ≤ v) : TW G cy bs s H1 ((q, v, l) :: Bs) Ts := by
  obtain ⟨h1, h2, h3, h4, h5, h6⟩ := h.all hz hk
  obtain ⟨o1, o2, o3, o4, o5, o6⟩ := h
  refine ⟨fun b hb => ?_, h2, List.pairwise_cons.mpr ⟨fun b hb => ?_, h3⟩, fun b hb x hx => ?_, h5, fun b hb => ?_⟩
  · rcases List.mem_cons.mp hb with rfl | hb
    · exact hB
    · exact h1 b hb
  · have := (o1 b hb).lt
    exact ⟨by show q ≠ b.1; omega, by show q ≠ b.2.1; omega, by show v ≠ b.1; omega, by show v ≠ b.2.1; omega⟩
  · rcases List.mem_cons.mp hb with rfl | hb
    · have := (o2 x hx).1.lt
      exact ⟨by show x.1 ≠ q; omega, by show x.1 ≠ v; omega, by show x.2.1 ≠ q; omega, by show x.2.1 ≠ v; omega⟩
    · exact h4 b hb x hx
  · rcases List.mem_cons.mp hb with rfl | hb
    · exact ⟨by show s.heap.size ≤ q; omega, by show s.heap.size ≤ v; omega⟩
    · exact h6 b hb
theorem TW.popB (h : TW G cy bs s H ((q, v, l) :: Bs) Ts) : TW G cy bs s H Bs Ts := ⟨fun b hb => h.1 b (List.mem_cons_of_mem _ hb), h.2.1, (List.pairwise_cons.mp h.2.2.1).2, fun b hb => h.2.2.2.1 b (List.mem_cons_of_mem _ hb), h.2.2.2.2.1, fun b hb => h.2.2.2.2.2 b (List.mem_cons_of_mem _ hb)⟩
theorem TW.pushT (h : TW G cy bs s H Bs Ts) {x : SD} (hz : H.size ≤ H1.size) (hk : ∀ z, z < H.size → H1[z]? = H[z]?) (hx : SLt AF s H1 x) (hb : bs + 67 ≤ H.size) (h1 : H.size ≤ x.1) (h2 : H.size ≤ x.2.1) : TW G cy bs s H1 Bs (x :: Ts) := by
  obtain ⟨a1, a2, a3, a4, a5, a6⟩ := h.all hz hk
  obtain ⟨o1, o2, o3, o4, o5, o6⟩ := h
  refine ⟨a1, fun y hy => ?_, a3, fun b hb9 y hy => ?_, a5, a6⟩
  · rcases List.mem_cons.mp hy with rfl | hy
    · exact ⟨hx, fun z => by have := z.2; omega, fun z => by have := z.2; omega⟩
    · exact a2 y hy
  · rcases List.mem_cons.mp hy with rfl | hy
    · have := (o1 b hb9).lt
      exact ⟨by omega, by omega, by omega, by omega⟩
    · exact a4 b hb9 y hy
theorem TW.sub (h : TW G cy bs s H Bs Ts) (hs : ∀ x ∈ Ts', x ∈ Ts) : TW G cy bs s H Bs Ts' := ⟨h.1, fun x hx => h.2.1 x (hs x hx), h.2.2.1, fun b hb x hx => h.2.2.2.1 b hb x (hs x hx), h.2.2.2.2⟩
theorem TW.nil (hz : s.heap.size ≤ H.size) : TW G cy bs s H [] [] := by
  unfold TW
  exact ⟨fun b hb => absurd hb List.not_mem_nil, fun b hb => absurd hb List.not_mem_nil, List.Pairwise.nil, fun b hb => absurd hb List.not_mem_nil, hz, fun b hb => absurd hb List.not_mem_nil⟩
/-- a text made: its cells -/
theorem SLt.mk' {args : Array Value} (hts : ∀ w ∈ wsL_law, w.before args s = true) (hK : va_K G vwCl (tyLs cy) s) {r w n : Nat} {a : Nat → Int32} (hP : va_P G vwCl [(r, (.inr (13, [.ref w, .int (nI 0), .int (nI 0), .int (nI 0)]) : va_E)), (w, arB cy n a)] H) {l : List Nat} (hn : n = l.length) (ha : ∀ j, j < n → a j = nI (l.getD j 0)) (hl : ∀ z ∈ l, z < 128) (hn6 : n ≤ 65536) : SLt AF s H (r, w, l) := by
  subst hn
  obtain ⟨hS, hfc, kC, hkC, hkind⟩ := hK.1 13 _ rfl
  obtain ⟨r0, e0, cell, g1, g2, g3, g4⟩ := hP 0 _ rfl
  cases e0
  refine ⟨⟨cell, g1, by rw [g3]; rfl, by rw [g2]; exact hfc, fun z => z⟩, ?_, ?_, ?_, hl, hn6⟩
  · obtain ⟨cf, kf, fi, f, hi, hsl⟩ := hS 1 (by decide)
    exact ⟨cf, kf, fi, f, cell, hi, (u_facts hfc hkC (u_lays hts inlJ0 (k := 1) (by decide)) hi).1, g1, (by rw [g3]; intro h; cases h), by rw [hsl, g4 1 (by decide)]; rfl, fun z => z⟩
  · obtain ⟨cf, kf, fi, f, hi, hsl⟩ := hS 0 (by decide)
    exact ⟨cf, kf, fi, f, cell, hi, (u_facts hfc hkC (u_lays hts inlJ0 (k := 0) (by decide)) hi).1, g1, (by rw [g3]; intro h; cases h), by rw [hsl, g4 0 (by decide)]; rfl, fun z => z⟩
  · have hT := arT hK hP (i := 1) rfl (A := AF) (fun z => z)
    obtain ⟨c2, t1, t2, t3, t4, t5, t6, t7⟩ := hT
    exact ⟨c2, t1, t2, t3, t4, t5, fun j hj => (t6 j hj).trans (congrArg (fun z => some (Value.int z)) (ha j hj)), t7⟩
end TWS
