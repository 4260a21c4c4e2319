/-! a double that is a quotient of two numbers is no NaN -/
def okB (n : Nat) : Prop := n < 2 ^ 64 ∧ n % 2 ^ 63 ≤ 0x7ff0000000000000
theorem tl64 : FP.Core.b64.tails = 4503599627370496 := by decide
theorem ex64 : FP.Core.b64.exps = 2048 := by decide
theorem qm64 : FP.Core.b64.qmin = -1074 := by decide
theorem qx64 : FP.Core.b64.qmax = 971 := by decide
theorem ok_as {s : Bool} {e t : Nat} (h : (e < 2047 ∧ t < 4503599627370496) ∨ (e = 2047 ∧ t = 0)) : okB (FP.Core.assemble FP.Core.b64 s e t) := by
  unfold FP.Core.assemble okB
  rw [tl64, ex64]
  cases s <;> simp only [Bool.toNat_true, Bool.toNat_false] <;> omega
theorem ok_inf {s : Bool} : okB (FP.Core.encode FP.Core.b64 (.inf s)) := by
  show okB (FP.Core.assemble FP.Core.b64 s (FP.Core.b64.exps - 1) 0)
  rw [ex64]
  exact ok_as (Or.inr ⟨rfl, rfl⟩)
theorem ok_fin {s : Bool} {c : Nat} {q : Int} (hc : c < 9007199254740992) (hq : q ≤ 971) : okB (FP.Core.encode FP.Core.b64 (.fin s c q)) := by
  show okB (if c < FP.Core.b64.tails then _ else _)
  rw [tl64, qm64]
  split
  · exact ok_as (Or.inl ⟨by decide, by assumption⟩)
  · exact ok_as (Or.inl ⟨by omega, by omega⟩)
theorem ok_bound {s : Bool} {c : Nat} {q : Int} (hc : c < 9007199254740992) : okB (FP.Core.encode FP.Core.b64 (FP.Core.bound FP.Core.b64 s c q)) := by
  unfold FP.Core.bound
  rw [qx64]
  split
  · exact ok_fin hc (by assumption)
  · exact ok_inf
theorem ok_rr {s : Bool} {a b : Nat} {e : Int} : okB (FP.Core.encode FP.Core.b64 (FP.Core.roundRatio FP.Core.b64 s a b e)) := by
  unfold FP.Core.roundRatio
  split
  · exact ok_fin (by decide) (by decide)
  · unfold FP.Core.roundAt FP.Core.settle
    split
    · rename_i h
      exact ok_bound h
    · exact ok_bound (by decide)
theorem ok_dec {n : Nat} (h : okB n) : FP.Core.decode FP.Core.b64 n ≠ .nan := by
  unfold FP.Core.decode FP.Core.fieldE FP.Core.fieldT okB at *
  rw [tl64, ex64]
  obtain ⟨h1, h2⟩ := h
  by_cases he : n / 4503599627370496 % 2048 = 2048 - 1
  · rw [if_pos he, if_pos (by omega)]
    exact fun z => by cases z
  · rw [if_neg he]
    split <;> exact fun z => by cases z
theorem ok_i (i : Int) : okB (FP.Core.fromInt FP.Core.b64 i) := by
  show okB (FP.Core.encode FP.Core.b64 (FP.Core.roundRatio FP.Core.b64 (decide (i < 0)) i.natAbs 1 0))
  exact ok_rr
def finD (d : FP.Core.Datum) : Bool := match d with
  | .fin _ c _ => c != 0
  | _ => false
theorem fin_b : ∀ b : Nat, b < 1189 → b ≠ 0 → finD (FP.Core.decode FP.Core.b64 (FP.Core.fromInt FP.Core.b64 (b : Int))) = true := by decide +kernel
theorem ok_div {x y : Nat} (hx : okB x) (hy : finD (FP.Core.decode FP.Core.b64 y) = true) : okB (FP.Core.div FP.Core.b64 x y) := by
  unfold FP.Core.div
  have hx2 := ok_dec hx
  cases hX : FP.Core.decode FP.Core.b64 x with
  | nan => exact absurd hX hx2
  | inf s =>
    cases hY : FP.Core.decode FP.Core.b64 y with
    | nan => rw [hY] at hy; cases hy
    | inf t => rw [hY] at hy; cases hy
    | fin t d r => exact ok_inf
  | fin s c q =>
    cases hY : FP.Core.decode FP.Core.b64 y with
    | nan => rw [hY] at hy; cases hy
    | inf t => rw [hY] at hy; cases hy
    | fin t d r =>
      rw [hY] at hy
      have hd : d ≠ 0 := by
        intro z
        subst z
        exact absurd hy (by show ¬ ((0 != 0) = true); decide)
      show okB (FP.Core.encode FP.Core.b64 (if d = 0 then _ else _))
      rw [if_neg hd]
      exact ok_rr
theorem ok_of {n : Nat} (h : okB n) : (UInt64.ofNat n).toNat = n := by
  rw [UInt64.toNat_ofNat']
  exact Nat.mod_eq_of_lt h.1
theorem ok_vf {n : Nat} (h : okB n) : vf_n64 (UInt64.ofNat n) := by
  unfold vf_n64
  rw [UInt64.le_iff_toNat_le, UInt64.toNat_and, ok_of h]
  show n &&& (2 ^ 63 - 1) ≤ _
  rw [Nat.and_two_pow_sub_one_eq_mod]
  exact h.2
theorem dv_ok {a : Int32} {b : Nat} (hb : b < 1189) (h0 : b ≠ 0) : okB (FP.Core.div FP.Core.b64 (FP.i2d a).toNat (FP.i2d (nI b)).toNat) := by
  show okB (FP.Core.div FP.Core.b64 (UInt64.ofNat (FP.Core.fromInt FP.Core.b64 a.toInt)).toNat (UInt64.ofNat (FP.Core.fromInt FP.Core.b64 (nI b).toInt)).toNat)
  rw [ok_of (ok_i _), ok_of (ok_i _), nI_toInt (by omega)]
  exact ok_div (ok_i _) (fin_b b hb h0)
theorem dv_vf {a : Int32} {b : Nat} (hb : b < 1189) (h0 : b ≠ 0) : vf_n64 (FP.ddiv (FP.i2d a) (FP.i2d (nI b))) := ok_vf (dv_ok hb h0)
/-- such a quotient is equal to itself -/
theorem dv_cmp {x : UInt64} (h : vf_n64 x) : FP.Core.decode FP.Core.b64 x.toNat ≠ .nan := by
  refine ok_dec ⟨x.toNat_lt, ?_⟩
  unfold vf_n64 at h
  rw [UInt64.le_iff_toNat_le, UInt64.toNat_and] at h
  have h2 : x.toNat &&& (2 ^ 63 - 1) ≤ _ := h
  rw [Nat.and_two_pow_sub_one_eq_mod] at h2
  exact h2
section DD
variable {l : Launch} {G : va_G} {bs : Nat} {cy : Nat → ClassId} {I : CI} {L : CL} {R : CR} {own : String} {y : MethodName} {cc : ByteArray} {nL n : Nat} {av : List Value}
theorem MTd.of {Q : UInt64 → CI → CL → CR → Prop} (hy : plainName own = true) (ho : y.cls = own) (hlen : (lg_sl av).length ≤ nL)
    (body : ∀ (p : Program) (e : Env) (s : State) (m : MethodId) (args : Array Value) (below : List Frame) (meth : Method) (c : Code) (Qf : State → Prop), Cx p s m args c cc nL own G bs cy → Wd G bs cy I L R s.heap → va_S (Aq bs) s.heap s.heap [] →
      (∀ {pc : Nat} {ls : Array Slot} {H : Heap} {locs : List Loc} {v : UInt64} {I' : CI} {L' : CL} {R' : CR}, decode cc pc = .ok (.dreturn, 1) → Wd G bs cy I' L' R' H → va_S (Aq bs) s.heap H locs → Q v I' L' R' → W p l e (rmL n 0 0) s m args below meth c H locs 0 0 Qf (F0 m pc ls [.double v])) →
      ∀ ls : Array Slot, lv_has ls nL (lv_args 0 av) → W p l e (rmL n 0 0) s m args below meth c s.heap [] 0 0 Qf (F0 m 0 ls [])) : MTd l G bs cy (y, cc, nL, some .double) n av I L R Q := by
  refine Met.ofW (cc := cc) (maxL := nL) (ret := some .double) (by rw [ho]; exact hy) rfl ?_
  intro p e s m args below meth c s₁ B hml hv
  obtain ⟨rfl, hW, hK, hE⟩ := hv
  have hts := atoms_spec (ws := mws (y, cc, nL, some .double)) B.pre
  have hown : s.vm.findClass own = some m.cls := ho ▸ findClass_of_methodNamed B.named
  have hlocks := B.notSynchronized
  rw [lg_entry_eq]
  exact body p e s m _ below meth c _ ⟨B.exec, B.bytes, hml, hown, fun w hw => hts w (List.mem_cons_of_mem _ hw), hK, hE⟩ hW va_S.rf
    (fun {pc ls H locs v I' L' R'} hdg hW' hS' hQ => W.dret (v := v) B.exec B.bytes B.returns (fun t ht _ => ⟨⟨v, (I', L', R'), rfl, hQ, by show Wd _ _ _ _ _ _ t.heap; rw [ht]; exact hW'⟩, hS'.F ht⟩) hS'.2.2 hdg hlocks) _ (lv_entry av hlen)
end DD
def avS (σ : Row) (y : Nat) : Int32 := sumT (fun x => σ (10 + 5 * x + 1) * (rgS σ x (y + 1)).1) (nS σ)
def avA (σ : Row) : Int32 := sumT (fun x => σ (10 + 5 * x + 1)) (nS σ)
def avR (σ : Row) (y : Nat) : UInt64 := if avA σ = 0 then FP.dconst0 else FP.ddiv (FP.i2d (avS σ y)) (FP.i2d (avA σ))
theorem area_N {σ : Row} (hd : DR σ) : ∀ n, n ≤ nS σ → ∃ b, b ≤ 99 * n ∧ sumT (fun x => σ (10 + 5 * x + 1)) n = nI b
  | 0, _ => ⟨0, Nat.le_refl _, rfl⟩
  | n + 1, hn => by
    obtain ⟨b, hb, e⟩ := area_N hd n (by omega)
    obtain ⟨_, h2, _, _, _, _, _, e1, _⟩ := z_all hd (x := n) (by omega)
    refine ⟨b + zA σ n, by omega, ?_⟩
    show sumT _ n + σ (10 + 5 * n + 1) = _
    rw [e, e1, nI_add]
theorem avA_nn {σ : Row} {a : Int32} (hd : DR σ) (hi : Inv σ) (h : ¬ avA σ = 0) : vf_n64 (FP.ddiv (FP.i2d a) (FP.i2d (avA σ))) := by
  obtain ⟨hY, hY1, hY12, hLn, hL4, hSn, hS12, hGn, hG5⟩ := id hi
  obtain ⟨b, hb, e⟩ := area_N hd (nS σ) (Nat.le_refl _)
  have e2 : avA σ = nI b := e
  rw [e2] at h ⊢
  exact dv_vf (by omega) (fun z => h (by rw [z]; rfl))
