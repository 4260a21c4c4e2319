/-! the law's text: its making -/
section GA
variable {p : Program} {l : Launch} {e : Env} {Rm : Room} {s : State} {m : MethodId} {args : Array Value} {below : List Frame} {meth : Method} {c : Code} {H : Heap} {locs : List Loc} {cells slots : Nat} {Q : State → Prop}
variable {cc : ByteArray} {pc nL : Nat} {ls : Array Slot} {rest : List Value} {own : String} {G : va_G} {bs : Nat} {cy : Nat → ClassId} {I : CI} {L : CL} {R : CR} {A : Nat → Prop} {Bs : List BD} {Ts : List SD} {n : Nat} {lv : List (Nat × Value)} {st0 : List Value}
theorem TW.hd {x : SD} (h : TW G cy bs s H Bs (x :: Ts)) : TW G cy bs s H Bs [x] := h.sub (fun y hy => by rw [List.mem_singleton.mp hy]; exact List.mem_cons_self)
theorem TW.pushF (h : TW G cy bs s H Bs Ts) {H1 : Heap} {x : SD} (hz : H.size ≤ H1.size) (hk : ∀ z, z < H.size → ¬ Aq bs z → H1[z]? = H[z]?) (hx : SLt AF s H1 x) (hb : bs + 67 ≤ H.size) (h1 : H.size ≤ x.1) (h2 : H.size ≤ x.2.1) : TW G cy bs s H1 Bs (x :: Ts) := by
  obtain ⟨a1, a2, a3, a4, a5, a6⟩ := h.frame hz hk
  obtain ⟨o1, o2, o3, o4, o5, o6⟩ := h
  refine ⟨a1, fun y hy => ?_, a3, fun b hb9 y hy => ?_, a5, a6⟩
  · rcases List.mem_cons.mp hy with rfl | hy
    · exact ⟨hx, fun z => by have := z.2; omega, fun z => by have := z.2; omega⟩
    · exact a2 y hy
  · rcases List.mem_cons.mp hy with rfl | hy
    · have := (o1 b hb9).lt
      exact ⟨by omega, by omega, by omega, by omega⟩
    · exact a4 b hb9 y hy
/-- a call of a method of the law's own that answers a text -/
theorem gA_r (X : Cx p s m args c cc nL own G bs cy) (hA : AOK bs s.heap.size A) (hW : Wd G bs cy I L R H) (hT : TW G cy bs s H Bs Ts) (hS : va_S A s.heap H locs) (hR : RmOK Rm n) {μ : MI} {n' mc ms : Nat} {As : List Value} {Q' : List Nat → CI → CL → CR → Prop} (hM : MAr l G bs cy μ n' (.ref (ad bs 67) :: As) H.size I L R Q' mc ms) (hn : n' + 1 ≤ n) {na idx : Nat} (hu : UV μ RL na) (hl : Cond.methodLink own idx μ.1 ∈ wsL_law)
    (hA9 : As.length = na) (hst : st0 = As.reverse ++ .ref (ad bs 67) :: rest) (hrest : (rest.map fun v => v.category).sum ≤ 8) (hl2 : lv_has ls nL lv) (hcs : cells + mc ≤ Rm.cells ∧ slots + ms ≤ Rm.slots) (hdg : decode cc pc = .ok (.invokevirtual idx, 3))
    (kk : ∀ (x : SD) (I' : CI) (L' : CL) (R' : CR) (H1 : Heap) (locs1 : List Loc), Q' x.2.2 I' L' R' → TxC G cy s.heap.size H1 x → Wd G bs cy I' L' R' H1 → TW G cy bs s H1 Bs (x :: Ts) → va_S A s.heap H1 locs1 → W p l e Rm s m args below meth c H1 locs1 (cells + mc) (slots + ms) Q (F0 m (pc + 3) ls (.ref x.1 :: rest))) : W p l e Rm s m args below meth c H locs cells slots Q (F0 m pc ls st0) := by
  have hX := X
  obtain ⟨hx, hb, hml, hown, hts, hK, hE⟩ := id X
  have h5 := hT.2.2.2.2.1
  have hAA : ∀ z, Ar bs H.size z → A z := fun z h => h.elim (hA.1 z) (fun h => hA.2.1 z (Nat.le_trans h5 h))
  subst hst
  exact va_callr (va_runV (As := As) (rest := rest) ⟨hx, hb, hml, hown, hts⟩ hM (cwX_UV hts hu hl hR hn) ⟨PcA_blind, recvL X hW, fun U hU hW2 => ⟨rfl, by rw [hU], by rw [hU]; exact hW, va_K.moved hW2.alike hK, by rw [hU]; exact gK hX hA hS hW2⟩⟩ rfl hA9 hl2.1 rfl (lv_room hrest) hdg hcs) hS (fun q _ h => hAA q h) hAA
    (fun u ra t H1 locs1 ht hvm hp hB hz hk1 hS1 => by
      obtain ⟨rfl, hW1, hx1⟩ := hB
      have hW1 : Wd G bs cy u.2.1 u.2.2.1 u.2.2.2 H1 := by rw [← ht]; exact hW1
      rw [ht] at hx1
      obtain ⟨t1, t2, t3, t4, a, t5, t6⟩ := hx1
      exact kk u.1 u.2.1 u.2.2.1 u.2.2.2 H1 locs1 hp ⟨Nat.le_trans h5 t1, Nat.le_trans h5 t2, t3, t4, a, t5, t6⟩ hW1
        (hT.pushF hz (fun z h1 h2 => hk1 z h1 (fun h => h.elim h2 (fun h => by omega))) (SLt.mk' hts hK t5 rfl t6 t3 (by omega)) hW.sz t1 t2) hS1)
end GA
/-! the whole text, by the numbers drawn -/
def hdT (Y sh gd : Nat) : List Nat := [] ++ [98, 114, 105, 100, 103, 101, 32] ++ dec2 Y ++ [32] ++ dec2 sh ++ [32] ++ dec2 gd ++ [59]
def lnT (b : List Nat) : Nat → List Nat
  | 0 => b
  | k + 1 => [] ++ lnT b k ++ [108, 97, 110, 101, 32, 108] ++ [97 + k] ++ [32] ++ dec2 (10 * k) ++ [59]
def spT (d : Nat → Nat → Nat) (ln : Nat) (b : List Nat) : Nat → List Nat
  | 0 => b
  | k + 1 => [] ++ spT d ln b k ++ spanT k (d (6 + 5 * k) (ln + 1)) (1 + d (6 + 5 * k + 1) 30) (d (6 + 5 * k + 2) 60) (1 + d (6 + 5 * k + 3) 20) (30 + d (6 + 5 * k + 4) 60)
def gnT (d : Nat → Nat → Nat) (c : Nat) (b : List Nat) : Nat → List Nat
  | 0 => b
  | k + 1 => [] ++ gnT d c b k ++ [103, 97, 110, 103, 32, 103] ++ [97 + k] ++ [32] ++ dec2 (1 + d (c + 2 * k) 8) ++ [32] ++ dec2 (d (c + 2 * k + 1) 9) ++ [59]
def dyT (d : Nat → Nat → Nat) (c : Nat) (b : List Nat) : Nat → List Nat
  | 0 => b
  | k + 1 => [] ++ dyT d c b k ++ [119, 101, 97, 116, 104, 101, 114, 32] ++ dec2 k ++ [32] ++ dec2 (d (c + k) 30) ++ [59]
def tA (d : Nat → Nat → Nat) : List Nat := hdT (2 + d 0 5) (1 + d 1 3) (d 2 3)
def tB (d : Nat → Nat → Nat) : List Nat := lnT (tA d) (1 + d 3 3)
def tC (d : Nat → Nat → Nat) : List Nat := spT d (1 + d 3 3) (tB d) (1 + d 4 5)
def tD (d : Nat → Nat → Nat) : List Nat := gnT d (6 + 5 * (1 + d 4 5)) (tC d) (1 + d 5 2)
def brT (d : Nat → Nat → Nat) : List Nat := dyT d (6 + 5 * (1 + d 4 5) + 2 * (1 + d 5 2)) (tD d) (2 + d 0 5)
theorem laneT_le (d : Nat) : (laneT d).length ≤ 4 := by unfold laneT; split <;> simp
theorem spanT_le (k d a r t m : Nat) : (spanT k d a r t m).length ≤ 25 := by
  unfold spanT
  have h1 := laneT_le d; have h2 := dec2_le a; have h3 := dec2_le r; have h4 := dec2_le t; have h5 := dec2_le m
  simp only [List.length_append, List.length_cons, List.length_nil]; omega
theorem hdT_le (Y sh gd : Nat) : (hdT Y sh gd).length ≤ 16 := by
  unfold hdT
  have h1 := dec2_le Y; have h2 := dec2_le sh; have h3 := dec2_le gd
  simp only [List.length_append, List.length_cons, List.length_nil]; omega
theorem lnT_le (b : List Nat) : ∀ k, (lnT b k).length ≤ b.length + 11 * k
  | 0 => Nat.le_refl _
  | k + 1 => by
    have h := lnT_le b k; have h2 := dec2_le (10 * k)
    unfold lnT
    simp only [List.length_append, List.length_cons, List.length_nil]; omega
theorem spT_le (d : Nat → Nat → Nat) (ln : Nat) (b : List Nat) : ∀ k, (spT d ln b k).length ≤ b.length + 25 * k
  | 0 => Nat.le_refl _
  | k + 1 => by
    have h := spT_le d ln b k; have h2 := spanT_le k (d (6 + 5 * k) (ln + 1)) (1 + d (6 + 5 * k + 1) 30) (d (6 + 5 * k + 2) 60) (1 + d (6 + 5 * k + 3) 20) (30 + d (6 + 5 * k + 4) 60)
    unfold spT
    simp only [List.length_append, List.length_cons, List.length_nil]; omega
theorem gnT_le (d : Nat → Nat → Nat) (c : Nat) (b : List Nat) : ∀ k, (gnT d c b k).length ≤ b.length + 14 * k
  | 0 => Nat.le_refl _
  | k + 1 => by
    have h := gnT_le d c b k; have h2 := dec2_le (1 + d (c + 2 * k) 8); have h3 := dec2_le (d (c + 2 * k + 1) 9)
    unfold gnT
    simp only [List.length_append, List.length_cons, List.length_nil]; omega
theorem dyT_le (d : Nat → Nat → Nat) (c : Nat) (b : List Nat) : ∀ k, (dyT d c b k).length ≤ b.length + 14 * k
  | 0 => Nat.le_refl _
  | k + 1 => by
    have h := dyT_le d c b k; have h2 := dec2_le k; have h3 := dec2_le (d (c + k) 30)
    unfold dyT
    simp only [List.length_append, List.length_cons, List.length_nil]; omega
def SBr (a j : Nat) : Bool := (a == 67 && decide (1 ≤ j ∧ j ≤ 7)) || decide (69 ≤ a ∧ a ≤ 76)
theorem SAt_SBr {a j : Nat} (h : SAt a j = true) : SBr a j = true := by
  simp only [SAt, SBr, Bool.or_eq_true, Bool.and_eq_true, beq_iff_eq, decide_eq_true_eq] at h ⊢; omega
theorem SSn_SBr {a j : Nat} (h : SSn a j = true) : SBr a j = true := by
  simp only [SSn, SBr, Bool.or_eq_true, Bool.and_eq_true, beq_iff_eq, decide_eq_true_eq] at h ⊢; omega
theorem rowP.up {I J : CI} {c x : Nat} {f : Nat → Int32} {v : Int32} (h : rowP I c x f) (e : J c = upd (I c) x v) (hv : v = f x) : rowP J c (x + 1) f := fun j hj => by
  rw [e]
  unfold upd
  by_cases hjx : j = x
  · rw [if_pos hjx, hv, hjx]
  · rw [if_neg hjx]; exact h j (by omega)
