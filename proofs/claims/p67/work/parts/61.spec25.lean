/-! the class's face: indexes, counts -/
theorem inB_lo {v : Int32} {n : Nat} (h : v < 0) : inB v n = false := by
  unfold inB
  refine decide_eq_false (fun z => ?_)
  have h1 := Int32.lt_iff_toInt_lt.mp h
  rw [show (0 : Int32).toInt = 0 by decide] at h1
  omega
theorem inB_hi {v : Int32} {n : Nat} (h : ¬ v < nI n) (hn : n < 2 ^ 31) : inB v n = false := by
  unfold inB
  refine decide_eq_false (fun z => h ?_)
  rw [Int32.lt_iff_toInt_lt, nI_toInt hn]
  exact z.2
theorem inB_ok {v : Int32} {n : Nat} (h : ¬ v < 0) (h2 : v < nI n) (hn : n < 2 ^ 31) : inB v n = true := by
  unfold inB
  have h1 := Int32.le_iff_toInt_le.mp (Int32.not_lt.mp h)
  have h3 := Int32.lt_iff_toInt_lt.mp h2
  rw [nI_toInt hn] at h3
  rw [show (0 : Int32).toInt = 0 by decide] at h1
  exact decide_eq_true ⟨h1, h3⟩
theorem inR_lo {v : Int32} {a : Nat} {b : Int} (h : v < nI a) (ha : a < 2 ^ 31) : inR v (a : Int) b = false := by
  unfold inR
  refine decide_eq_false (fun z => ?_)
  have h1 := Int32.lt_iff_toInt_lt.mp h
  rw [nI_toInt ha] at h1
  omega
theorem inR_hi {v : Int32} {b : Nat} {a : Int} (h : ¬ v ≤ nI b) (hb : b < 2 ^ 31) : inR v a (b : Int) = false := by
  unfold inR
  refine decide_eq_false (fun z => h ?_)
  rw [Int32.le_iff_toInt_le, nI_toInt hb]
  exact z.2
theorem inR_ok {v : Int32} {a b : Nat} (h : ¬ v < nI a) (h2 : v ≤ nI b) (ha : a < 2 ^ 31) (hb : b < 2 ^ 31) : inR v (a : Int) (b : Int) = true := by
  unfold inR
  have h1 := Int32.le_iff_toInt_le.mp (Int32.not_lt.mp h)
  have h3 := Int32.le_iff_toInt_le.mp h2
  rw [nI_toInt ha] at h1
  rw [nI_toInt hb] at h3
  exact decide_eq_true ⟨h1, h3⟩
def XTd (l : Launch) (G : va_G) (bs : Nat) (cy : Nat → ClassId) (μ : MI) (n : Nat) (av : List Value) (I : CI) (L : CL) (R : CR) (Q : UInt64 → CI → CL → CR → Prop) (PX : String → Prop) (mc ms : Nat) : Prop :=
  vx_Met l μ.1 (mws μ) (rmL n mc ms) (PcM G bs cy av I L R) (va_Qd (fun (r : UInt64) (u : Sto) => Q r u.1 u.2.1 u.2.2) (BM G bs cy) (Aq bs)) (XCM G bs cy I L R PX) mc ms (Aq bs)
theorem XTd.of {l : Launch} {G : va_G} {bs : Nat} {cy : Nat → ClassId} {own : String} {y : MethodName} {cc : ByteArray} {nL n mc ms : Nat} {av : List Value} {I : CI} {L : CL} {R : CR} {Q : UInt64 → CI → CL → CR → Prop} {PX : String → Prop} (hy : plainName own = true) (ho : y.cls = own) (hlen : (lg_sl av).length ≤ nL)
    (body : ∀ (p : Program) (e : Env) (s : State) (m : MethodId) (args : Array Value) (below : List Frame) (meth : Method) (c : Code) (Qc : Array Value → State → Outcome → State → Prop) (Qf : State → Prop), Cx p s m args c cc nL own G bs cy → Wd G bs cy I L R s.heap → va_S (Aq bs) s.heap s.heap [] → (∀ x ∈ c.exceptionTable.toList, False) → meth.locks = false → Qf = vx_MQ below Qc (XCM G bs cy I L R PX) args s mc ms (Aq bs) →
      (∀ {pc : Nat} {ls : Array Slot} {H : Heap} {locs : List Loc} {v : UInt64} {I' : CI} {L' : CL} {R' : CR} {cells slots : Nat}, decode cc pc = .ok (.dreturn, 1) → cells ≤ mc → slots ≤ ms → Wd G bs cy I' L' R' H → va_S (Aq bs) s.heap H locs → Q v I' L' R' → W p l e (rmL n mc ms) s m args below meth c H locs cells slots Qf (F0 m pc ls [.double v])) →
      ∀ ls : Array Slot, lv_has ls nL (lv_args 0 av) → W p l e (rmL n mc ms) s m args below meth c s.heap [] 0 0 Qf (F0 m 0 ls [])) : XTd l G bs cy (y, cc, nL, (some .double)) n av I L R Q PX mc ms := by
  refine vx_ofW (cc := cc) (maxL := nL) (ret := (some .double)) (by rw [ho]; exact hy) rfl ?_
  intro p e s m args below meth c s₁ B hml htab hv
  obtain ⟨rfl, hW, hK, hE⟩ := hv
  have hts := atoms_spec (ws := mws (y, cc, nL, (some .double))) B.pre
  have hown : s.vm.findClass own = some m.cls := ho ▸ findClass_of_methodNamed B.named
  have hlocks := B.notSynchronized
  rw [lg_entry_eq]
  exact body p e s m _ below meth c _ _ ⟨B.exec, B.bytes, hml, hown, fun w hw => hts w (List.mem_cons_of_mem _ hw), hK, hE⟩ hW va_S.rf htab hlocks rfl
    (fun {pc ls H locs v I' L' R' cells slots} hdg hc hs hW' hS' hQ => W.widen hc hs (vx_ret (W.dret (v := v) B.exec B.bytes B.returns (fun t ht _ => ⟨⟨v, (I', L', R'), rfl, hQ, by show Wd _ _ _ _ _ _ t.heap; rw [ht]; exact hW'⟩, hS'.F ht⟩) hS'.2.2 hdg hlocks))) _ (lv_entry av hlen)
/-- the coats of the latest schedule, one by one -/
theorem cnt_hit {p : Nat → Bool} {c : Nat} : ∀ n, c < cntB p n → ∃ y, y < n ∧ p y = true ∧ cntB p y = c
  | 0, h => absurd h (Nat.not_lt_zero _)
  | n + 1, h => by
    have h2 : c < cntB p n + (if p n = true then 1 else 0) := h
    by_cases q : c < cntB p n
    · obtain ⟨y, h3, h4⟩ := cnt_hit n q
      exact ⟨y, by omega, h4⟩
    · cases hp : p n with
      | true => rw [hp, if_pos rfl] at h2; exact ⟨n, by omega, hp, by omega⟩
      | false => rw [hp, if_neg (by decide)] at h2; omega
theorem cnt_lt {p : Nat → Bool} {y n : Nat} (hy : y < n) (hp : p y = true) : cntB p y < cntB p n := by
  have h1 : cntB p (y + 1) = cntB p y + 1 := by show cntB p y + _ = _; rw [hp, if_pos rfl]
  have h2 := cntB_mono p (show y + 1 ≤ n by omega)
  omega
theorem lp_none {σ : Row} {x c : Nat} (hc : c < 2 ^ 31) (hY : Yn σ ≤ 12) : lpY σ x (nI c) = NOTF ↔ coN σ x ≤ c := by
  unfold lpY coN
  constructor
  · intro h
    rcases fstI_cases (fun y => gzB σ x y && decide (nI (cntB (gzB σ x) y) = nI c)) (Yn σ) with ⟨_, h2⟩ | ⟨q, h1, h2, _⟩
    · rcases Nat.lt_or_ge c (cntB (gzB σ x) (Yn σ)) with g | g
      · obtain ⟨y, h3, h4, h5⟩ := cnt_hit _ g
        have h6 : (gzB σ x y && decide (nI (cntB (gzB σ x) y) = nI c)) = false := h2 y h3
        rw [h4, h5, decide_eq_true rfl] at h6
        cases h6
      · exact g
    · rw [h2] at h
      exact absurd h (nI_NOTF (by omega))
  · intro h
    refine fstI_none (fun z hz => ?_)
    show (gzB σ x z && decide (nI (cntB (gzB σ x) z) = nI c)) = false
    cases hp : gzB σ x z with
    | false => rfl
    | true =>
      have h1 := cnt_lt hz hp
      have h2 := cntB_le (gzB σ x) (Yn σ)
      rw [decide_eq_false (fun w => by have := nI_inj (by omega) hc w; omega)]
      rfl
/-- how many spans are past, as a natural -/
theorem cntP_N (σ : Row) : ∃ c, c ≤ nS σ ∧ cntP σ = nI c := by
  have h : ∀ n, ∃ c, c ≤ n ∧ sumT (fun x => if fp σ x = NOTF then nI 0 else nI 1) n = nI c := by
    intro n
    induction n with
    | zero => exact ⟨0, Nat.le_refl _, rfl⟩
    | succ n ih =>
      obtain ⟨c, h1, h2⟩ := ih
      by_cases q : fp σ n = NOTF
      · refine ⟨c, by omega, ?_⟩
        show sumT _ n + (if fp σ n = NOTF then nI 0 else nI 1) = _
        rw [h2, if_pos q, nI_add]; rfl
      · refine ⟨c + 1, by omega, ?_⟩
        show sumT _ n + (if fp σ n = NOTF then nI 0 else nI 1) = _
        rw [h2, if_neg q, nI_add]
  exact h _
def lsF (q : Int32 × Int32) : Int32 := if q.1 = NOTF then nI 13 else q.2
section BS
variable {σ : Row} {x y g : Nat} {q : Int32 × Int32}
theorem bs_c1 (h : ¬ rfs σ y x g = 0) : bsS σ x y g q = q := if_pos h
theorem bs_c2 (h0 : rfs σ y x g = 0) (hS : nS σ ≤ 12) (h : lsF q ≤ cntP (setP σ x y (nI g))) : bsS σ x y g q = q := by
  unfold bsS
  rw [if_neg (fun z => z h0)]
  unfold lsF at h
  by_cases e : q.1 = NOTF
  · rw [if_pos e] at h
    obtain ⟨c, h1, h2⟩ := cntP_N (setP σ x y (nI g))
    rw [nS_setP] at h1
    rw [h2] at h
    exact absurd h (nI_ge (by omega) (by omega))
  · rw [if_neg e] at h
    rw [if_neg (orN e (Int32.not_lt.mpr h))]
theorem bs_c3 (h0 : rfs σ y x g = 0) (h : ¬ lsF q ≤ cntP (setP σ x y (nI g))) : bsS σ x y g q = (nI (10 * y + g), cntP (setP σ x y (nI g))) := by
  unfold bsS
  rw [if_neg (fun z => z h0)]
  unfold lsF at h
  by_cases e : q.1 = NOTF
  · rw [if_pos (Or.inl e)]
  · rw [if_neg e] at h
    rw [if_pos (Or.inr (Int32.not_le.mp h))]
theorem lsF_n {n : Nat} {v : Int32} (h : n < 2 ^ 31) : lsF (nI n, v) = v := if_neg (nI_NOTF h)
end BS
theorem shy_b {σ : Row} {q y : Nat} (hy : y < 32) (h : ((shu σ y >>> (nI q &&& 31)) &&& nI 1) = 0) : shy σ q y = nI 0 := by
  unfold shy
  rw [h]
  apply b_ext
  intro i hi
  show bt (nI 0 <<< (nI y &&& 31)) i = bt (nI 0) i
  rw [b_shl y hy _ hi, b_n0, Bool.and_false, b_n0]
theorem shy_1 {σ : Row} {q y : Nat} (hq : q < 32) (h : ¬ ((shu σ y >>> (nI q &&& 31)) &&& nI 1) = 0) : shy σ q y = nI 1 <<< (nI y &&& 31) := by
  unfold shy
  rw [bit1 _ hq] at h ⊢
  by_cases e : bitB (shu σ y) q = true
  · rw [if_pos e]
  · rw [if_neg e] at h
    exact absurd rfl h
/-! counting the paintings -/
def sN (f : Nat → Nat) : Nat → Nat
  | 0 => 0
  | n + 1 => sN f n + f n
theorem sN_congr {f g : Nat → Nat} : ∀ {n : Nat}, (∀ z, z < n → f z = g z) → sN f n = sN g n
  | 0, _ => rfl
  | n + 1, h => by show sN f n + f n = sN g n + g n; rw [sN_congr (n := n) (fun z hz => h z (by omega)), h n (by omega)]
theorem sN_add {f g : Nat → Nat} : ∀ n, sN (fun z => f z + g z) n = sN f n + sN g n
  | 0 => rfl
  | n + 1 => by show sN _ n + (f n + g n) = sN f n + f n + (sN g n + g n); rw [sN_add n]; omega
theorem sN_one {p : Nat → Bool} : ∀ n, sN (fun z => if p z = true then 1 else 0) n = cntB p n
  | 0 => rfl
  | n + 1 => by show sN _ n + _ = cntB p n + _; rw [sN_one n]
theorem sN_0 : ∀ n, sN (fun _ => 0) n = 0
  | 0 => rfl
  | n + 1 => by show sN _ n + 0 = 0; rw [sN_0 n]
theorem sN_swap {P : Nat → Nat → Bool} {n : Nat} : ∀ m, sN (fun y => cntB (fun x => P x y) m) n = sN (fun x => cntB (fun y => P x y) n) m
  | 0 => sN_0 n
  | m + 1 => by
    show sN (fun y => cntB (fun x => P x y) m + (if P m y = true then 1 else 0)) n = sN _ m + cntB (fun y => P m y) n
    rw [sN_add, sN_swap m, sN_one]
theorem cntB_add (p : Nat → Bool) (a : Nat) : ∀ b, cntB p (a + b) = cntB p a + cntB (fun i => p (a + i)) b
  | 0 => rfl
  | b + 1 => by
    show cntB p (a + b) + _ = cntB p a + (cntB (fun i => p (a + i)) b + _)
    rw [cntB_add p a b, Nat.add_assoc]
    rfl
theorem cnt_12 (p : Nat → Bool) : ∀ m, cntB p (12 * m) = sN (fun y => cntB (fun x => p (12 * y + x)) 12) m
  | 0 => rfl
  | m + 1 => by
    show cntB p (12 * m + 12) = sN _ m + cntB (fun x => p (12 * m + x)) 12
    rw [cntB_add, cnt_12 p m]
theorem cpB_ptd (σ : Row) (x y : Nat) : cpB σ (12 * y + x) = ptd σ x y := by
  unfold cpB ptd pnt
  rw [show 104 + (12 * y + x) = 104 + 12 * y + x by omega]
theorem sumT_N {f : Nat → Int32} {g : Nat → Nat} : ∀ n, (∀ z, z < n → f z = nI (g z)) → sumT f n = nI (sN g n)
  | 0, _ => rfl
  | n + 1, h => by show sumT f n + f n = nI (sN g n + g n); rw [sumT_N n (fun z hz => h z (by omega)), h n (by omega), nI_add]
theorem ptd_out {σ : Row} (hd : DR σ) {x y : Nat} (hx : x < 12) (hy : y < 12) (h : nS σ ≤ x ∨ Yn σ ≤ y) : ptd σ x y = false := by
  unfold ptd
  rcases hd.2.1 x y hx hy with e | ⟨g, h1, h2, h3, _⟩
  · rw [e]; exact decide_eq_false (fun w => w rfl)
  · omega
theorem pc_sum {σ : Row} (hd : DR σ) (hi : Inv σ) : sumT (fun x => cnt16 (orT (setF (ptd σ x)) (Yn σ))) (nS σ) = nI (pcN σ) := by
  obtain ⟨hY, hY1, hY12, hLn, hL4, hSn, hS12, hGn, hG5⟩ := id hi
  have h1 : pcN σ = sN (fun y => cntB (fun x => ptd σ x y) 12) 12 := by
    show cntB (cpB σ) (12 * 12) = _
    rw [cnt_12]
    exact sN_congr (fun y _ => cntB_congr (fun x _ => cpB_ptd σ x y))
  rw [h1, sN_swap]
  have h2 : ∀ x, x < nS σ → cnt16 (orT (setF (ptd σ x)) (Yn σ)) = nI (cntB (fun y => ptd σ x y) 12) := by
    intro x hx
    rw [cnt16_N]
    refine congrArg nI ?_
    rw [cntB_zero (p := bitB (orT (setF (ptd σ x)) (Yn σ))) (a := Yn σ) (b := 16) (by omega) (fun z h1 h2 => by rw [bitB_bt _ (by omega), bt_setF _ (by omega) (by omega), decide_eq_false (by omega), Bool.false_and])]
    rw [cntB_zero (p := fun y => ptd σ x y) (a := Yn σ) (b := 12) hY12 (fun z h1 h2 => ptd_out hd (by omega) h2 (Or.inr h1))]
    exact cntB_congr (fun z hz => bitB_setF _ hY12 hz)
  rw [sumT_N (nS σ) h2]
  refine congrArg nI ?_
  have h3 : ∀ m, nS σ ≤ m → m ≤ 12 → sN (fun x => cntB (fun y => ptd σ x y) 12) m = sN (fun x => cntB (fun y => ptd σ x y) 12) (nS σ) := by
    intro m
    induction m with
    | zero => intro h _; rw [show nS σ = 0 by omega]
    | succ m ih =>
      intro h1 h2
      by_cases e : nS σ = m + 1
      · rw [e]
      · show sN _ m + cntB (fun y => ptd σ m y) 12 = _
        rw [ih (by omega) (by omega), cntB_zero (p := fun y => ptd σ m y) (a := 0) (b := 12) (by omega) (fun z _ hz => ptd_out hd (by omega) hz (Or.inl (by omega)))]
        rfl
  exact (h3 12 hS12 (Nat.le_refl _)).symm
/-- urgent's keys -/
theorem ur_all {σ : Row} (hd : DR σ) (hi : Inv σ) {x : Nat} (hx : x < nS σ) : urF σ x = nI (tN (urF σ x)) ∧ urL σ x = nI (tN (urL σ x)) ∧ tN (urF σ x) ≤ 100 ∧ tN (urL σ x) ≤ 100 := by
  obtain ⟨hY, hY1, hY12, hLn, hL4, hSn, hS12, hGn, hG5⟩ := id hi
  have h1 := rgS_N hd hx (Yn σ)
  refine ⟨?_, h1.1, ?_, h1.2⟩
  · unfold urF
    by_cases e : fp σ x = NOTF
    · rw [if_pos e, tN_nI (by omega)]
    · rw [if_neg e]; exact (fp_N hY12 e).1
  · unfold urF
    by_cases e : fp σ x = NOTF
    · rw [if_pos e, tN_nI (by omega)]; omega
    · rw [if_neg e]; have := (fp_N hY12 e).2; omega
def kU (σ : Row) (x : Nat) : Nat := kN (tN (urF σ x)) (tN (urL σ x)) x
theorem kU_ahd {σ : Row} (hd : DR σ) (hi : Inv σ) : ∀ a b, a < nS σ → b < nS σ → true = true → true = true → (kU σ a < kU σ b ↔ ahd (urF σ) (urL σ) a b = true) :=
  key_ahd (C := fun _ => true) hi.2.2.2.2.2.2.1 (fun a ha _ => ur_all hd hi ha)
theorem avA_le {σ : Row} (hd : DR σ) (hi : Inv σ) : (0 < avA σ ↔ ¬ avA σ = 0) := by
  obtain ⟨hY, hY1, hY12, hLn, hL4, hSn, hS12, hGn, hG5⟩ := id hi
  obtain ⟨b, hb, e⟩ := area_N hd (nS σ) (Nat.le_refl _)
  have e2 : avA σ = nI b := e
  rw [e2]
  constructor
  · intro h z
    rw [z] at h
    exact absurd h (by decide)
  · intro h
    have h0 : b ≠ 0 := fun z => h (by rw [z]; rfl)
    exact (nI_ltI (a := 0) (by decide) (by omega)).mpr (by omega)
