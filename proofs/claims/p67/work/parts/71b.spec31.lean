abbrev KWT : String := "bridge lane span gang weather closed paint none "
def kwB : List Int32 := [98, 114, 105, 100, 103, 101, 32, 108, 97, 110, 101, 32, 115, 112, 97, 110, 32, 103, 97, 110, 103, 32, 119, 101, 97, 116, 104, 101, 114, 32, 99, 108, 111, 115, 101, 100, 32, 112, 97, 105, 110, 116, 32, 110, 111, 110, 101, 32]
/-! the keywords' text: cells below bs -/
section KS
variable {p : Program} {l : Launch} {e : Env} {Rm : Room} {s : State} {m : MethodId} {args : Array Value} {below : List Frame} {meth : Method} {c : Code} {H : Heap} {locs : List Loc} {cells slots : Nat} {Q : State → Prop}
variable {cc : ByteArray} {pc nL : Nat} {ls : Array Slot} {rest : List Value} {own : String} {G : va_G} {bs : Nat} {cy : Nat → ClassId} {I : CI} {L : CL} {R : CR}
theorem MTn.of {y : MethodName} {n : Nat} {av : List Value} {ty : FieldType} {Q : Int32 → CI → CL → CR → Prop} (hy : plainName own = true) (ho : y.cls = own) (hlen : (lg_sl av).length ≤ nL)
    (body : ∀ (p : Program) (e : Env) (s : State) (m : MethodId) (args : Array Value) (below : List Frame) (meth : Method) (c : Code) (Qf : State → Prop), Cx p s m args c cc nL own G bs cy → Wd G bs cy I L R s.heap → va_S (Aq bs) s.heap s.heap [] →
      (∀ {pc : Nat} {ls : Array Slot} {H : Heap} {locs : List Loc} {v : Int32} {I' : CI} {L' : CL} {R' : CR}, decode cc pc = .ok (.ireturn, 1) → Wd G bs cy I' L' R' H → va_S (Aq bs) s.heap H locs → narrow ty (.int v) = .int v → Q v I' L' R' → W p l e (rmL n 0 0) s m args below meth c H locs 0 0 Qf (F0 m pc ls [.int v])) →
      ∀ ls : Array Slot, lv_has ls nL (lv_args 0 av) → W p l e (rmL n 0 0) s m args below meth c s.heap [] 0 0 Qf (F0 m 0 ls [])) : MTi l G bs cy (y, cc, nL, some ty) n av I L R Q := by
  refine Met.ofW (cc := cc) (maxL := nL) (ret := some ty) (by rw [ho]; exact hy) rfl ?_
  intro p e s m args below meth c s₁ B hml hv
  obtain ⟨rfl, hW, hK, hE⟩ := hv
  have hts := atoms_spec (ws := mws (y, cc, nL, some ty)) B.pre
  have hown : s.vm.findClass own = some m.cls := ho ▸ findClass_of_methodNamed B.named
  have hlocks := B.notSynchronized
  rw [lg_entry_eq]
  exact body p e s m _ below meth c _ ⟨B.exec, B.bytes, hml, hown, fun w hw => hts w (List.mem_cons_of_mem _ hw), hK, hE⟩ hW va_S.rf
    (fun {pc ls H locs v I' L' R'} hdg hW' hS' hn hQ => W.zret (v := v) B.exec B.bytes B.returns hn (fun t ht _ => ⟨⟨v, (I', L', R'), rfl, hQ, by show Wd _ _ _ _ _ _ t.heap; rw [ht]; exact hW'⟩, hS'.F ht⟩) hS'.2.2 hdg hlocks) _ (lv_entry av hlen)
end KS
def KW (i : Nat) : Nat := tN (kwB.getD i 0)
theorem kw_get : ∀ i, i < 48 → (((kwB.getD i 0) &&& nI 255).toUInt32 % 65536).toInt32 = nI (KW i) ∧ narrow .char (.int (nI (KW i))) = .int (nI (KW i)) ∧ KW i < 128 := by decide +kernel
def kxI : Nat → Nat
  | 0 => 0
  | i + 1 => if KW i = 32 then kxI i + 1 else kxI i
def kxS : Nat → Nat
  | 0 => 0
  | i + 1 => if KW i = 32 then i + 1 else kxS i
def kwC : List Nat := [0x627269646765, 0x6c616e65, 0x7370616e, 0x67616e67, 0x77656174686572, 0x636c6f736564, 0x7061696e74, 0x6e6f6e65]
theorem kx_le : ∀ i, i < 49 → kxS i ≤ i ∧ kxI i ≤ 8 := by decide +kernel
theorem kx_sp : ∀ i, i < 48 → KW i = 32 → kxI i < 8 ∧ kwC.getD (kxI i) 0 = wF 256 KW (kxS i) (i - kxS i) ∧ ∀ j, j < i - kxS i → 1 ≤ KW (kxS i + j) ∧ KW (kxS i + j) < 256 := by
  have h : ∀ i, i < 48 → KW i = 32 → kxI i < 8 ∧ kwC.getD (kxI i) 0 = wF 256 KW (kxS i) (i - kxS i) ∧ ∀ j, j < 48 → j < i - kxS i → 1 ≤ KW (kxS i + j) ∧ KW (kxS i + j) < 256 := by decide +kernel
  intro i hi hk
  obtain ⟨h1, h2, h3⟩ := h i hi hk
  exact ⟨h1, h2, fun j hj => h3 j (by omega) hj⟩
theorem kx_48 : kxI 48 = 8 := by decide +kernel
def kwJ (b : Nat → Int32) (n s : Nat) : Nat := fstN (fun j => decide (w256 b n s = kwC.getD j 0)) 8
def kwS (b : Nat → Int32) (n s : Nat) : Int32 := if kwJ b n s < 8 then nI (kwJ b n s) else -1
def kwI (b : Nat → Int32) (n p : Nat) : Int32 := if tK b n p = 2 then kwS b n (tS b n p) else -1
def smB (b : Nat → Int32) (s e i : Nat) : Bool := allB (fun j => decide (s + j < e ∧ b (s + j) = nI (KW (kxS i + j)))) (i - kxS i)
theorem smB_s {b : Nat → Int32} {s e i : Nat} (hi : i < 48) (hk : ¬ KW i = 32) : smB b s e (i + 1) = (smB b s e i && decide (s + (i - kxS i) < e ∧ b (s + (i - kxS i)) = nI (KW i))) := by
  have h1 := (kx_le i (by omega)).1
  have e1 : kxS (i + 1) = kxS i := if_neg hk
  unfold smB
  rw [e1, show i + 1 - kxS i = i - kxS i + 1 by omega]
  show (allB _ _ && decide (s + (i - kxS i) < e ∧ b (s + (i - kxS i)) = nI (KW (kxS i + (i - kxS i))))) = _
  rw [show kxS i + (i - kxS i) = i by omega]
theorem smB_0 {b : Nat → Int32} {s e i : Nat} (hk : KW i = 32) : smB b s e (i + 1) = true := by
  have e1 : kxS (i + 1) = i + 1 := if_pos hk
  unfold smB
  rw [e1, Nat.sub_self]; rfl
theorem allB_iff {p : Nat → Bool} : ∀ n, allB p n = true ↔ ∀ j, j < n → p j = true
  | 0 => ⟨fun _ j hj => absurd hj (Nat.not_lt_zero _), fun _ => rfl⟩
  | n + 1 => by
    show (allB p n && p n) = true ↔ _
    rw [Bool.and_eq_true_iff, allB_iff n]
    constructor
    · rintro ⟨h1, h2⟩ j hj
      rcases Nat.lt_succ_iff_lt_or_eq.mp hj with q | q
      · exact h1 j q
      · rw [q]; exact h2
    · intro h
      exact ⟨fun j hj => h j (by omega), h n (by omega)⟩
theorem kw_at {b : Nat → Int32} {n s i : Nat} (hT : TB b n) (hv : VP b n s) (hi : i < 48) (hk : KW i = 32) : w256 b n s = kwC.getD (kxI i) 0 ↔ (smB b s (lE b n s) i = true ∧ s + (i - kxS i) = lE b n s) := by
  obtain ⟨h1, h2, h3⟩ := kx_sp i hi hk
  have hl : ∀ j, j < lE b n s - s → b (s + j) = nI (dBy b (s + j)) ∧ 97 ≤ dBy b (s + j) ∧ dBy b (s + j) ≤ 122 := fun j hj => by
    obtain ⟨g1, g2⟩ := lE_in hT (Nat.le_of_lt hv.1) hj
    obtain ⟨a1, a2, a3, _⟩ := let_d hT g1 g2
    exact ⟨a1, a2, a3⟩
  have hge : s ≤ lE b n s := runE_ge
  unfold w256
  rw [h2, wF_inj (by decide) _ _ (fun j hj => by have := hl j hj; omega) h3]
  unfold smB
  rw [allB_iff]
  constructor
  · rintro ⟨g1, g2⟩
    refine ⟨fun j hj => decide_eq_true ⟨by omega, ?_⟩, by omega⟩
    rw [(hl j (by omega)).1, g2 j (by omega)]
  · rintro ⟨g1, g2⟩
    refine ⟨by omega, fun j hj => ?_⟩
    have g3 := (of_decide_eq_true (g1 j (by omega))).2
    have g4 := (hl j hj).1
    rw [g4] at g3
    exact nI_inj (by have := (hl j hj).2; omega) (by have := h3 j (by omega); omega) g3
theorem kwS_hit {b : Nat → Int32} {n s j : Nat} (hj : j < 8) (h : w256 b n s = kwC.getD j 0) (hb : ∀ z, z < j → w256 b n s ≠ kwC.getD z 0) : kwS b n s = nI j := by
  unfold kwS kwJ
  rw [fstN_hit hj (decide_eq_true h) (fun z hz => decide_eq_false (hb z hz)), if_pos hj]
theorem kwS_none {b : Nat → Int32} {n s : Nat} (hb : ∀ z, z < 8 → w256 b n s ≠ kwC.getD z 0) : kwS b n s = -1 := by
  unfold kwS kwJ
  rw [fstN_none (fun z hz => decide_eq_false (hb z hz)), if_neg (Nat.lt_irrefl _)]
