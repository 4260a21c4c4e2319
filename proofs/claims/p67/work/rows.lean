section
-- ===== PART A: goes FIRST, ahead of the names: the tables' words, and 'selects' of the private methods out of them =====
/-- a private method of a class that the tables say can be made, by its rows of tables_1 -/
def lw_okq (q : MethodName × Nat) : Prop := (q.1.cls ≠ "java/lang/invoke/MethodHandle" ∧ q.1.cls ≠ "java/lang/invoke/VarHandle") ∧ Cond.instantiable q.1.cls q.2 ∈ tables_1 ∧ Cond.privateMethod q.1 ∈ tables_1 ∧ Cond.instanceMethod q.1 ∈ tables_1
theorem lw_p0 : lw_okq (⟨"SpanPainter", "checkYear", "(I)V"⟩, 13) := ⟨⟨by decide +kernel, by decide +kernel⟩, List.mem_of_getElem? (i := 31) (by decide +kernel), List.mem_of_getElem? (i := 361) (by decide +kernel), List.mem_of_getElem? (i := 362) (by decide +kernel)⟩
theorem lw_p1 : lw_okq (⟨"java/lang/Throwable", "fillInStackTrace", "(I)Ljava/lang/Throwable;"⟩, 6) := ⟨⟨by decide +kernel, by decide +kernel⟩, List.mem_of_getElem? (i := 402) (by decide +kernel), List.mem_of_getElem? (i := 400) (by decide +kernel), List.mem_of_getElem? (i := 401) (by decide +kernel)⟩
theorem lw_p2 : lw_okq (⟨"SpanPainter", "checkSpan", "(I)V"⟩, 13) := ⟨⟨by decide +kernel, by decide +kernel⟩, List.mem_of_getElem? (i := 31) (by decide +kernel), List.mem_of_getElem? (i := 431) (by decide +kernel), List.mem_of_getElem? (i := 432) (by decide +kernel)⟩
theorem lw_p3 : lw_okq (⟨"SpanPainter", "checkGang", "(I)V"⟩, 13) := ⟨⟨by decide +kernel, by decide +kernel⟩, List.mem_of_getElem? (i := 31) (by decide +kernel), List.mem_of_getElem? (i := 436) (by decide +kernel), List.mem_of_getElem? (i := 437) (by decide +kernel)⟩
theorem lw_p4 : lw_okq (⟨"SpanPainter", "remember", "()V"⟩, 13) := ⟨⟨by decide +kernel, by decide +kernel⟩, List.mem_of_getElem? (i := 31) (by decide +kernel), List.mem_of_getElem? (i := 484) (by decide +kernel), List.mem_of_getElem? (i := 485) (by decide +kernel)⟩
theorem lw_p5 : lw_okq (⟨"SpanPainter$Tokens", "takeLetters", "()V"⟩, 7) := ⟨⟨by decide +kernel, by decide +kernel⟩, List.mem_of_getElem? (i := 254) (by decide +kernel), List.mem_of_getElem? (i := 732) (by decide +kernel), List.mem_of_getElem? (i := 733) (by decide +kernel)⟩
theorem lw_p6 : lw_okq (⟨"SpanPainter$Tokens", "takeDigits", "()V"⟩, 7) := ⟨⟨by decide +kernel, by decide +kernel⟩, List.mem_of_getElem? (i := 254) (by decide +kernel), List.mem_of_getElem? (i := 736) (by decide +kernel), List.mem_of_getElem? (i := 737) (by decide +kernel)⟩
theorem lw_p7 : lw_okq (⟨"SpanPainter$Parser", "readStatement", "(Z)Z"⟩, 6) := ⟨⟨by decide +kernel, by decide +kernel⟩, List.mem_of_getElem? (i := 227) (by decide +kernel), List.mem_of_getElem? (i := 740) (by decide +kernel), List.mem_of_getElem? (i := 741) (by decide +kernel)⟩
theorem lw_p8 : lw_okq (⟨"SpanPainter$Parser", "failOnToken", "()Z"⟩, 6) := ⟨⟨by decide +kernel, by decide +kernel⟩, List.mem_of_getElem? (i := 227) (by decide +kernel), List.mem_of_getElem? (i := 744) (by decide +kernel), List.mem_of_getElem? (i := 745) (by decide +kernel)⟩
theorem lw_p9 : lw_okq (⟨"SpanPainter$Parser", "readBridge", "()Z"⟩, 6) := ⟨⟨by decide +kernel, by decide +kernel⟩, List.mem_of_getElem? (i := 227) (by decide +kernel), List.mem_of_getElem? (i := 749) (by decide +kernel), List.mem_of_getElem? (i := 750) (by decide +kernel)⟩
theorem lw_p10 : lw_okq (⟨"SpanPainter$Parser", "number", "(II)I"⟩, 6) := ⟨⟨by decide +kernel, by decide +kernel⟩, List.mem_of_getElem? (i := 227) (by decide +kernel), List.mem_of_getElem? (i := 753) (by decide +kernel), List.mem_of_getElem? (i := 754) (by decide +kernel)⟩
theorem lw_p11 : lw_okq (⟨"SpanPainter$Parser", "fail", "(I)Z"⟩, 6) := ⟨⟨by decide +kernel, by decide +kernel⟩, List.mem_of_getElem? (i := 227) (by decide +kernel), List.mem_of_getElem? (i := 757) (by decide +kernel), List.mem_of_getElem? (i := 758) (by decide +kernel)⟩
theorem lw_p12 : lw_okq (⟨"SpanPainter$Parser", "semicolon", "()Z"⟩, 6) := ⟨⟨by decide +kernel, by decide +kernel⟩, List.mem_of_getElem? (i := 227) (by decide +kernel), List.mem_of_getElem? (i := 761) (by decide +kernel), List.mem_of_getElem? (i := 762) (by decide +kernel)⟩
theorem lw_p13 : lw_okq (⟨"SpanPainter$Parser", "readLane", "()Z"⟩, 6) := ⟨⟨by decide +kernel, by decide +kernel⟩, List.mem_of_getElem? (i := 227) (by decide +kernel), List.mem_of_getElem? (i := 766) (by decide +kernel), List.mem_of_getElem? (i := 767) (by decide +kernel)⟩
theorem lw_p14 : lw_okq (⟨"SpanPainter$Parser", "newName", "()J"⟩, 6) := ⟨⟨by decide +kernel, by decide +kernel⟩, List.mem_of_getElem? (i := 227) (by decide +kernel), List.mem_of_getElem? (i := 770) (by decide +kernel), List.mem_of_getElem? (i := 771) (by decide +kernel)⟩
theorem lw_p15 : lw_okq (⟨"SpanPainter$Parser", "readSpan", "()Z"⟩, 6) := ⟨⟨by decide +kernel, by decide +kernel⟩, List.mem_of_getElem? (i := 227) (by decide +kernel), List.mem_of_getElem? (i := 796) (by decide +kernel), List.mem_of_getElem? (i := 797) (by decide +kernel)⟩
def lw_privs_1 : List (MethodName × Nat) := [(⟨"SpanPainter", "checkYear", "(I)V"⟩, 13), (⟨"java/lang/Throwable", "fillInStackTrace", "(I)Ljava/lang/Throwable;"⟩, 6), (⟨"SpanPainter", "checkSpan", "(I)V"⟩, 13), (⟨"SpanPainter", "checkGang", "(I)V"⟩, 13), (⟨"SpanPainter", "remember", "()V"⟩, 13), (⟨"SpanPainter$Tokens", "takeLetters", "()V"⟩, 7), (⟨"SpanPainter$Tokens", "takeDigits", "()V"⟩, 7), (⟨"SpanPainter$Parser", "readStatement", "(Z)Z"⟩, 6), (⟨"SpanPainter$Parser", "failOnToken", "()Z"⟩, 6), (⟨"SpanPainter$Parser", "readBridge", "()Z"⟩, 6), (⟨"SpanPainter$Parser", "number", "(II)I"⟩, 6), (⟨"SpanPainter$Parser", "fail", "(I)Z"⟩, 6), (⟨"SpanPainter$Parser", "semicolon", "()Z"⟩, 6), (⟨"SpanPainter$Parser", "readLane", "()Z"⟩, 6), (⟨"SpanPainter$Parser", "newName", "()J"⟩, 6), (⟨"SpanPainter$Parser", "readSpan", "()Z"⟩, 6)]
theorem lw_r1 : ∀ q ∈ lw_privs_1, lw_okq q := List.forall_mem_cons.mpr ⟨lw_p0, List.forall_mem_cons.mpr ⟨lw_p1, List.forall_mem_cons.mpr ⟨lw_p2, List.forall_mem_cons.mpr ⟨lw_p3, List.forall_mem_cons.mpr ⟨lw_p4, List.forall_mem_cons.mpr ⟨lw_p5, List.forall_mem_cons.mpr ⟨lw_p6, List.forall_mem_cons.mpr ⟨lw_p7, List.forall_mem_cons.mpr ⟨lw_p8, List.forall_mem_cons.mpr ⟨lw_p9, List.forall_mem_cons.mpr ⟨lw_p10, List.forall_mem_cons.mpr ⟨lw_p11, List.forall_mem_cons.mpr ⟨lw_p12, List.forall_mem_cons.mpr ⟨lw_p13, List.forall_mem_cons.mpr ⟨lw_p14, List.forall_mem_cons.mpr ⟨lw_p15, fun _ h => absurd h List.not_mem_nil⟩⟩⟩⟩⟩⟩⟩⟩⟩⟩⟩⟩⟩⟩⟩⟩
theorem lw_p16 : lw_okq (⟨"SpanPainter$Parser", "laneOrNone", "()I"⟩, 6) := ⟨⟨by decide +kernel, by decide +kernel⟩, List.mem_of_getElem? (i := 227) (by decide +kernel), List.mem_of_getElem? (i := 800) (by decide +kernel), List.mem_of_getElem? (i := 801) (by decide +kernel)⟩
theorem lw_p17 : lw_okq (⟨"SpanPainter$Parser", "thisName", "(I)I"⟩, 6) := ⟨⟨by decide +kernel, by decide +kernel⟩, List.mem_of_getElem? (i := 227) (by decide +kernel), List.mem_of_getElem? (i := 804) (by decide +kernel), List.mem_of_getElem? (i := 805) (by decide +kernel)⟩
theorem lw_p18 : lw_okq (⟨"SpanPainter$Parser", "readGang", "()Z"⟩, 6) := ⟨⟨by decide +kernel, by decide +kernel⟩, List.mem_of_getElem? (i := 227) (by decide +kernel), List.mem_of_getElem? (i := 816) (by decide +kernel), List.mem_of_getElem? (i := 817) (by decide +kernel)⟩
theorem lw_p19 : lw_okq (⟨"SpanPainter$Parser", "readWeather", "()Z"⟩, 6) := ⟨⟨by decide +kernel, by decide +kernel⟩, List.mem_of_getElem? (i := 227) (by decide +kernel), List.mem_of_getElem? (i := 824) (by decide +kernel), List.mem_of_getElem? (i := 825) (by decide +kernel)⟩
theorem lw_p20 : lw_okq (⟨"SpanPainter$Parser", "readClosed", "()Z"⟩, 6) := ⟨⟨by decide +kernel, by decide +kernel⟩, List.mem_of_getElem? (i := 227) (by decide +kernel), List.mem_of_getElem? (i := 828) (by decide +kernel), List.mem_of_getElem? (i := 829) (by decide +kernel)⟩
theorem lw_p21 : lw_okq (⟨"SpanPainter$Parser", "knownName", "(I)I"⟩, 6) := ⟨⟨by decide +kernel, by decide +kernel⟩, List.mem_of_getElem? (i := 227) (by decide +kernel), List.mem_of_getElem? (i := 832) (by decide +kernel), List.mem_of_getElem? (i := 833) (by decide +kernel)⟩
theorem lw_p22 : lw_okq (⟨"SpanPainter$Parser", "readPainting", "()Z"⟩, 6) := ⟨⟨by decide +kernel, by decide +kernel⟩, List.mem_of_getElem? (i := 227) (by decide +kernel), List.mem_of_getElem? (i := 836) (by decide +kernel), List.mem_of_getElem? (i := 837) (by decide +kernel)⟩
theorem lw_p23 : lw_okq (⟨"SpanPainter", "takeDraft", "()V"⟩, 13) := ⟨⟨by decide +kernel, by decide +kernel⟩, List.mem_of_getElem? (i := 31) (by decide +kernel), List.mem_of_getElem? (i := 856) (by decide +kernel), List.mem_of_getElem? (i := 857) (by decide +kernel)⟩
theorem lw_p24 : lw_okq (⟨"SpanPainterLaw", "chosen", "(I)I"⟩, 18) := ⟨⟨by decide +kernel, by decide +kernel⟩, List.mem_of_getElem? (i := 557) (by decide +kernel), List.mem_of_getElem? (i := 864) (by decide +kernel), List.mem_of_getElem? (i := 865) (by decide +kernel)⟩
theorem lw_p25 : lw_okq (⟨"SpanPainterLaw", "bridge", "()Ljava/lang/String;"⟩, 18) := ⟨⟨by decide +kernel, by decide +kernel⟩, List.mem_of_getElem? (i := 557) (by decide +kernel), List.mem_of_getElem? (i := 874) (by decide +kernel), List.mem_of_getElem? (i := 875) (by decide +kernel)⟩
theorem lw_p26 : lw_okq (⟨"SpanPainterLaw", "span", "(I)Ljava/lang/String;"⟩, 18) := ⟨⟨by decide +kernel, by decide +kernel⟩, List.mem_of_getElem? (i := 557) (by decide +kernel), List.mem_of_getElem? (i := 1104) (by decide +kernel), List.mem_of_getElem? (i := 1105) (by decide +kernel)⟩
theorem lw_p27 : lw_okq (⟨"SpanPainterLaw", "refused", "(III)I"⟩, 18) := ⟨⟨by decide +kernel, by decide +kernel⟩, List.mem_of_getElem? (i := 557) (by decide +kernel), List.mem_of_getElem? (i := 1122) (by decide +kernel), List.mem_of_getElem? (i := 1123) (by decide +kernel)⟩
theorem lw_p28 : lw_okq (⟨"SpanPainterLaw", "load", "(II)I"⟩, 18) := ⟨⟨by decide +kernel, by decide +kernel⟩, List.mem_of_getElem? (i := 557) (by decide +kernel), List.mem_of_getElem? (i := 1126) (by decide +kernel), List.mem_of_getElem? (i := 1127) (by decide +kernel)⟩
theorem lw_p29 : lw_okq (⟨"SpanPainterLaw", "effort", "(II)I"⟩, 18) := ⟨⟨by decide +kernel, by decide +kernel⟩, List.mem_of_getElem? (i := 557) (by decide +kernel), List.mem_of_getElem? (i := 1130) (by decide +kernel), List.mem_of_getElem? (i := 1131) (by decide +kernel)⟩
theorem lw_p30 : lw_okq (⟨"SpanPainterLaw", "begin", "(II)I"⟩, 18) := ⟨⟨by decide +kernel, by decide +kernel⟩, List.mem_of_getElem? (i := 557) (by decide +kernel), List.mem_of_getElem? (i := 1134) (by decide +kernel), List.mem_of_getElem? (i := 1135) (by decide +kernel)⟩
theorem lw_p31 : lw_okq (⟨"SpanPainterLaw", "end", "(II)I"⟩, 18) := ⟨⟨by decide +kernel, by decide +kernel⟩, List.mem_of_getElem? (i := 557) (by decide +kernel), List.mem_of_getElem? (i := 1138) (by decide +kernel), List.mem_of_getElem? (i := 1139) (by decide +kernel)⟩
def lw_privs_2 : List (MethodName × Nat) := [(⟨"SpanPainter$Parser", "laneOrNone", "()I"⟩, 6), (⟨"SpanPainter$Parser", "thisName", "(I)I"⟩, 6), (⟨"SpanPainter$Parser", "readGang", "()Z"⟩, 6), (⟨"SpanPainter$Parser", "readWeather", "()Z"⟩, 6), (⟨"SpanPainter$Parser", "readClosed", "()Z"⟩, 6), (⟨"SpanPainter$Parser", "knownName", "(I)I"⟩, 6), (⟨"SpanPainter$Parser", "readPainting", "()Z"⟩, 6), (⟨"SpanPainter", "takeDraft", "()V"⟩, 13), (⟨"SpanPainterLaw", "chosen", "(I)I"⟩, 18), (⟨"SpanPainterLaw", "bridge", "()Ljava/lang/String;"⟩, 18), (⟨"SpanPainterLaw", "span", "(I)Ljava/lang/String;"⟩, 18), (⟨"SpanPainterLaw", "refused", "(III)I"⟩, 18), (⟨"SpanPainterLaw", "load", "(II)I"⟩, 18), (⟨"SpanPainterLaw", "effort", "(II)I"⟩, 18), (⟨"SpanPainterLaw", "begin", "(II)I"⟩, 18), (⟨"SpanPainterLaw", "end", "(II)I"⟩, 18)]
theorem lw_r2 : ∀ q ∈ lw_privs_2, lw_okq q := List.forall_mem_cons.mpr ⟨lw_p16, List.forall_mem_cons.mpr ⟨lw_p17, List.forall_mem_cons.mpr ⟨lw_p18, List.forall_mem_cons.mpr ⟨lw_p19, List.forall_mem_cons.mpr ⟨lw_p20, List.forall_mem_cons.mpr ⟨lw_p21, List.forall_mem_cons.mpr ⟨lw_p22, List.forall_mem_cons.mpr ⟨lw_p23, List.forall_mem_cons.mpr ⟨lw_p24, List.forall_mem_cons.mpr ⟨lw_p25, List.forall_mem_cons.mpr ⟨lw_p26, List.forall_mem_cons.mpr ⟨lw_p27, List.forall_mem_cons.mpr ⟨lw_p28, List.forall_mem_cons.mpr ⟨lw_p29, List.forall_mem_cons.mpr ⟨lw_p30, List.forall_mem_cons.mpr ⟨lw_p31, fun _ h => absurd h List.not_mem_nil⟩⟩⟩⟩⟩⟩⟩⟩⟩⟩⟩⟩⟩⟩⟩⟩
theorem lw_p32 : lw_okq (⟨"SpanPainterLaw", "isSame", "(LSpanPainter;)Z"⟩, 18) := ⟨⟨by decide +kernel, by decide +kernel⟩, List.mem_of_getElem? (i := 557) (by decide +kernel), List.mem_of_getElem? (i := 1144) (by decide +kernel), List.mem_of_getElem? (i := 1145) (by decide +kernel)⟩
def lw_privs_3 : List (MethodName × Nat) := [(⟨"SpanPainterLaw", "isSame", "(LSpanPainter;)Z"⟩, 18)]
theorem lw_r3 : ∀ q ∈ lw_privs_3, lw_okq q := List.forall_mem_cons.mpr ⟨lw_p32, fun _ h => absurd h List.not_mem_nil⟩
def lw_privs : List (MethodName × Nat) := lw_privs_1 ++ (lw_privs_2 ++ (lw_privs_3))
def lw_tbl : List Cond := k2_sels lw_privs ++ tables_1
theorem lw_privs_ok : ∀ q ∈ lw_privs, lw_okq q := by
  show ∀ q ∈ lw_privs_1 ++ (lw_privs_2 ++ (lw_privs_3)), lw_okq q
  exact List.forall_mem_append.mpr ⟨lw_r1, List.forall_mem_append.mpr ⟨lw_r2, lw_r3⟩⟩
end
section
/-- an array over arrays of ty is known (the printed text names it, the kit lacks it) -/
def va_AOA (ty : FieldType) (U : State) : Prop := (Cond.arrayOver (.array ty)).before #[] U = true
theorem va_AOA.of {ty : FieldType} {A : Array Value} {U : State} (h : (Cond.arrayOver (.array ty)).before A U = true) : va_AOA ty U := h
theorem va_AOA.use {ty : FieldType} {A : Array Value} {U : State} (h : va_AOA ty U) : (Cond.arrayOver (.array ty)).before A U = true := h
/-! ===== BEGIN words of one list among another's, by their places ===== -/
theorem goodIn_r {big : List Cond} (ws : List Cond) (ps : List Nat) (hp : ws = ps.filterMap (fun i => big[i]?)) (h : ws.all goodWord = true) : GoodIn big ws := by
  intro w hw
  have h1 := List.all_eq_true.mp h w hw
  rw [hp] at hw
  obtain ⟨i, -, hi⟩ := List.mem_filterMap.mp hw
  have hm : w ∈ big := by first | exact List.mem_of_getElem? hi | exact List.getElem?_mem hi
  exact ⟨hm, good_of_word h1⟩
theorem goodIn_app {big a b : List Cond} (ha : GoodIn big a) (hb : GoodIn big b) : GoodIn big (a ++ b) := fun w h => (List.mem_append.mp h).elim (ha w) (hb w)
theorem goodIn_ca {big a b : List Cond} {c : Cond} (ha : GoodIn big (c :: a)) (hb : GoodIn big b) : GoodIn big (c :: (a ++ b)) := fun w h => (List.mem_cons.mp h).elim (fun e => ha w (List.mem_cons.mpr (Or.inl e))) (fun h => (List.mem_append.mp h).elim (fun h => ha w (List.mem_cons.mpr (Or.inr h))) (hb w))
theorem goodIn_sub {big ws : List Cond} (hm : ∀ w ∈ ws, w ∈ big) (h : ws.all goodWord = true) : GoodIn big ws := fun w hw => ⟨hm w hw, good_of_word (List.all_eq_true.mp h w hw)⟩
/-! ===== END ===== -/

/-! ===== BEGIN new T[n][m]: the outer array a place, the inner ones among the pooled ===== -/
/-- f, but v at every address of l -/
def vr_up {α : Type} (f : Nat → α) (l : List Nat) (v : α) : Nat → α := fun a => if a ∈ l then v else f a
theorem vr_up_in {α : Type} {f : Nat → α} {l : List Nat} {v : α} {a : Nat} (h : a ∈ l) : vr_up f l v a = v := if_pos h
theorem vr_up_ne {α : Type} {f : Nat → α} {l : List Nat} {v : α} {a : Nat} (h : a ∉ l) : vr_up f l v a = f a := if_neg h
theorem vr_rows {L l : List Nat} {f : Nat → va_E} {e : va_E} (h : ∀ a, a ∈ l → a ∉ L) : va_pl L f ++ l.map (fun a => (a, e)) = va_pl (L ++ l) (vr_up f l e) := by
  unfold va_pl
  rw [List.map_append]
  congr 1
  · apply List.map_congr_left
    intro a ha
    rw [vr_up_ne (fun q => h a q ha)]
  · apply List.map_congr_left
    intro a ha
    rw [vr_up_in ha]
theorem vr_lay {X rows : va_W} {x : Nat × va_E} {pl : va_W} {D : va_G} {cl : List vw_C} {H : Heap} (hP : va_P D cl (((X ++ pl) ++ [x]) ++ rows) H) : va_P D cl ((X ++ [x]) ++ (pl ++ rows)) H := by
  rw [List.append_assoc (X ++ pl)] at hP
  have h := va_P.swap hP
  rw [← List.append_assoc X] at h
  have h2 := va_P.swap h
  rw [List.append_assoc (X ++ [x])] at h2
  exact h2
theorem vr_layD {X rows : va_W} {x : Nat × va_E} {pl : va_W} {A : Nat → Prop} (hD : va_D A (((X ++ pl) ++ [x]) ++ rows)) : va_D A ((X ++ [x]) ++ (pl ++ rows)) := by
  rw [List.append_assoc (X ++ pl)] at hD
  have h := va_D.swap hD
  rw [← List.append_assoc X] at h
  have h2 := va_D.swap h
  rw [List.append_assoc (X ++ [x])] at h2
  exact h2
theorem vr_outer (c : ClassId) (N h0 : Nat) : ∀ i : Nat, Jvm.Free.Multi.outerC c N h0 i = arrV c N (fun j => va_rf (if j < i then some (h0 + 1 + j) else none))
  | 0 => by
    show ({ cls := c, slots := Array.replicate N .null, vm := .none } : Cell) = _
    rw [arrV_new]
    refine congrArg (arrV c N) (funext fun j => ?_)
    simp [va_rf]
  | i + 1 => by
    show (Jvm.Free.Multi.outerC c N h0 i).setSlot i (.ref (h0 + 1 + i)) = _
    rw [vr_outer c N h0 i, arrV_store]
    refine congrArg (arrV c N) (funext fun j => ?_)
    by_cases e : j = i
    · subst e
      simp [updV, va_rf]
    · by_cases h : j < i
      · simp [updV, e, h, Nat.lt_succ_of_lt h]
      · simp [updV, e, h, show ¬ j < i + 1 by omega]
section VGM
variable {p : Program} {l : Launch} {e : Env} {R : Room} {s : State} {m : MethodId} {args : Array Value} {below : List Frame} {meth : Method} {c : Code} {H : Heap} {locs : List Loc} {cells slots : Nat} {Q : State → Prop}
variable {cc : ByteArray} {pc : Nat} {ls : Array Slot} {rest : List Value} {D : va_G} {cl : List vw_C} {A : Nat → Prop} {a : Nat} {tys : List (ClassId × FieldType)} {ws : va_W} {H0 : Heap}
theorem va_mna {X : va_W} {L : List Nat} {f : Nat → va_E} {cc : ByteArray} (hexec : p.tables.exec = Jvm.exec) (hb : c.code = cc) {own : String} {index : Nat} {ty : FieldType} {cy : ClassId} (hown : s.vm.findClass own = some m.cls) (hclink : (Cond.classLink own index ("[" ++ (FieldType.array ty).toString)).before args s = true) (hover : va_AOA ty s) (harr : (Cond.arrayClass ty).before args s = true) (hcy : s.vm.findClass (FieldType.array ty).toString = some cy)
    (hK : va_K D cl tys s) (hP : va_P D cl (X ++ va_pl L f) H) (hD : va_D A (X ++ va_pl L f)) (hS : va_S A H0 H locs) (hA : ∀ q, H0.size ≤ q → A q) {n k : Int32} {N' K' : Nat} {z : vp_A} (hn : ¬ n < 0) (hk : ¬ k < 0) (hN : n.toNatClampNeg = N') (hM : k.toNatClampNeg = K')
    (hb1 : N' * 4 ≤ 536870912) (hb2 : K' * componentBytes ty ≤ 536870912) (hb3 : K' ≤ 536870912) (hdf : fits ty (defaultValue ty) = true) (hdd : (defaultValue ty).isDefault = true) (hcells : cells + (1 + N') ≤ R.cells) (hslots : slots + (N' + N' * K') ≤ R.slots) (hz : ∀ c : ClassId, Jvm.Free.Multi.innerC c K' (defaultValue ty) = vp_cell c z) (hdg : decode cc pc = .ok (.multianewarray index 2, 4))
    (kk : ∀ (q : Nat) (r : Nat → Nat) (cA : ClassId) (H1 : Heap), (∀ i j : Nat, i < N' → j < N' → r i = r j → i = j) → (∀ i : Nat, i < N' → r i ∉ L) → va_K D cl (tys ++ [(cA, .array ty)]) s →
      va_P D cl ((X ++ [(q, .inl (cA, N', .inr (.inr (.inr (.inr (fun i => if i < N' then some (r i) else none))))))]) ++ va_pl (L ++ (List.range N').map r) (vr_up f ((List.range N').map r) (.inl (cy, z)))) H1 → va_D A ((X ++ [(q, .inl (cA, N', .inr (.inr (.inr (.inr (fun i => if i < N' then some (r i) else none))))))]) ++ va_pl (L ++ (List.range N').map r) (vr_up f ((List.range N').map r) (.inl (cy, z)))) → va_S A H0 H1 locs →
      W p l e R s m args below meth c H1 locs (cells + 1 + N') (slots + N' + N' * K') Q (F0 m (pc + 4) ls (.ref q :: rest))) : W p l e R s m args below meth c H locs cells slots Q (F0 m pc ls (.int k :: .int n :: rest)) := by
  subst hN
  subst hM
  intro T hT Xs
  obtain ⟨vm₁, cA, comp, -, fA, fC, hO, -, X', step⟩ := Xs.multianewarray2F hexec hown hclink (va_AOA.use hover) harr (g := F0 m pc ls (.int k :: .int n :: rest)) rfl (by rw [hb]; exact hdg) rfl hn hk hb1 hb2 hb3 hdf hdd hcells hslots
  have ec : some cy = some comp := hcy.symm.trans fC
  cases ec
  generalize hF : Jvm.Free.Multi.fill (T.setVm vm₁) cA cy n.toNatClampNeg k.toNatClampNeg (defaultValue ty) n.toNatClampNeg = F at X' step
  have hTh : (T.setVm vm₁).heap = H := hT
  obtain ⟨f1, f2, -, -⟩ := Jvm.Free.Multi.fill_facts (T.setVm vm₁) cA cy n.toNatClampNeg k.toNatClampNeg (defaultValue ty) n.toNatClampNeg
  rw [hF, hTh] at f1 f2
  have hold : ∀ x : Nat, x < H.size → F.heap[x]? = H[x]? := fun x hx => by
    have := Jvm.Free.Multi.fill_old (T.setVm vm₁) cA cy n.toNatClampNeg k.toNatClampNeg (defaultValue ty) (a := x) (by rw [hTh]; exact hx) n.toNatClampNeg
    rw [hF, hTh] at this
    exact this
  have hrow : ∀ j : Nat, j < n.toNatClampNeg → F.heap[H.size + 1 + j]? = some (vp_cell cy z) := fun j hj => by
    have := Jvm.Free.Multi.fill_inner (T.setVm vm₁) cA cy n.toNatClampNeg k.toNatClampNeg (defaultValue ty) n.toNatClampNeg j hj
    rw [hF, hTh, hz] at this
    exact this
  have hout : Jvm.Free.Multi.outerC cA n.toNatClampNeg H.size n.toNatClampNeg = vp_cell cA (n.toNatClampNeg, .inr (.inr (.inr (.inr (fun i => if i < n.toNatClampNeg then some (H.size + 1 + i) else none))))) := by
    rw [vp_cell_q]
    exact vr_outer cA n.toNatClampNeg H.size n.toNatClampNeg
  rw [hout] at f2
  have hlt : ∀ a, a ∈ L → a < H.size := fun a ha => by
    obtain ⟨k9, hk9⟩ := va_pl_get (X := X) (f := f) ha
    exact (hP k9 _ hk9).lt
  have hnl : ∀ i : Nat, i < n.toNatClampNeg → H.size + 1 + i ∉ L := fun i _ h => by
    have := hlt _ h
    omega
  have hnm : ∀ a, a ∈ (List.range n.toNatClampNeg).map (fun i => H.size + 1 + i) → a ∉ L := fun a ha h => by
    obtain ⟨i, -, rfl⟩ := List.mem_map.mp ha
    have := hlt _ h
    omega
  have hP0 : va_P D cl (X ++ va_pl L f) F.heap := hP.kept (fun k9 x hx => hold x.1 ((hP k9 x hx).lt))
  have hP1 : va_P D cl ((X ++ va_pl L f) ++ [(H.size, .inl (cA, n.toNatClampNeg, .inr (.inr (.inr (.inr (fun i => if i < n.toNatClampNeg then some (H.size + 1 + i) else none))))))]) F.heap := hP0.app (fun k9 x hx => by
    have h0 : k9 < 1 := (List.getElem?_eq_some_iff.mp hx).1
    rw [show k9 = 0 by omega] at hx
    cases hx
    exact f2)
  have hP2 : va_P D cl (((X ++ va_pl L f) ++ [(H.size, .inl (cA, n.toNatClampNeg, .inr (.inr (.inr (.inr (fun i => if i < n.toNatClampNeg then some (H.size + 1 + i) else none))))))]) ++ ((List.range n.toNatClampNeg).map (fun i => H.size + 1 + i)).map (fun a => (a, .inl (cy, z)))) F.heap := hP1.app (fun k9 x hx => by
    obtain ⟨a, ha, rfl⟩ := List.mem_map.mp (List.mem_of_getElem? hx)
    obtain ⟨i, hi, rfl⟩ := List.mem_map.mp ha
    exact hrow i (List.mem_range.mp hi))
  have hD2 : va_D A (((X ++ va_pl L f) ++ [(H.size, .inl (cA, n.toNatClampNeg, .inr (.inr (.inr (.inr (fun i => if i < n.toNatClampNeg then some (H.size + 1 + i) else none))))))]) ++ ((List.range n.toNatClampNeg).map (fun i => H.size + 1 + i)).map (fun a => (a, .inl (cy, z)))) := by
    have hD1 := hD.push (e := .inl (cA, n.toNatClampNeg, .inr (.inr (.inr (.inr (fun i => if i < n.toNatClampNeg then some (H.size + 1 + i) else none)))))) hP rfl (hA _ hS.1)
    generalize hW1 : (X ++ va_pl L f) ++ [(H.size, .inl (cA, n.toNatClampNeg, .inr (.inr (.inr (.inr (fun i => if i < n.toNatClampNeg then some (H.size + 1 + i) else none))))))] = W1 at hD1 hP1 ⊢
    have hle : ∀ (k9 : Nat) (x : Nat × va_E), W1[k9]? = some x → x.1 ≤ H.size := fun k9 x hx => by
      rw [← hW1] at hx
      by_cases hl : k9 < (X ++ va_pl L f).length
      · rw [List.getElem?_append_left hl] at hx
        exact Nat.le_of_lt ((hP k9 x hx).lt)
      · rw [List.getElem?_append_right (by omega)] at hx
        have h0 : k9 - (X ++ va_pl L f).length < 1 := (List.getElem?_eq_some_iff.mp hx).1
        rw [show k9 - (X ++ va_pl L f).length = 0 by omega] at hx
        cases hx
        exact Nat.le_refl _
    have hr : ∀ (k9 : Nat) (x : Nat × va_E), (((List.range n.toNatClampNeg).map (fun i => H.size + 1 + i)).map (fun a => ((a, .inl (cy, z)) : Nat × va_E)))[k9]? = some x → x.1 = H.size + 1 + k9 := fun k9 x hx => by
      rw [List.getElem?_map, List.getElem?_map] at hx
      by_cases h9 : k9 < n.toNatClampNeg
      · rw [List.getElem?_range h9] at hx
        cases hx
        rfl
      · have hn0 : (List.range n.toNatClampNeg)[k9]? = none := List.getElem?_eq_none (by rw [List.length_range]; omega)
        rw [hn0] at hx
        cases hx
    refine ⟨fun i j x y hi hj hxy => ?_, fun k9 x hx => ?_⟩
    · by_cases h1 : i < W1.length <;> by_cases h2 : j < W1.length
      · rw [List.getElem?_append_left h1] at hi
        rw [List.getElem?_append_left h2] at hj
        exact hD1.1 i j x y hi hj hxy
      · rw [List.getElem?_append_left h1] at hi
        rw [List.getElem?_append_right (by omega)] at hj
        have := hle _ _ hi
        have := hr _ _ hj
        omega
      · rw [List.getElem?_append_right (by omega)] at hi
        rw [List.getElem?_append_left h2] at hj
        have := hle _ _ hj
        have := hr _ _ hi
        omega
      · rw [List.getElem?_append_right (by omega)] at hi hj
        have := hr _ _ hi
        have := hr _ _ hj
        omega
    · by_cases h1 : k9 < W1.length
      · rw [List.getElem?_append_left h1] at hx
        exact hD1.2 k9 x hx
      · rw [List.getElem?_append_right (by omega)] at hx
        have := hr _ _ hx
        exact hA _ (by have := hS.1; omega)
  have hAr : ArrOfT s cA (.array ty) := fun N9 z9 => by
    obtain ⟨-, k9, hk9, cm9, hkk9⟩ := (hO 0 0 0).1
    exact ⟨(fun q hq => by cases hq), k9, hk9, cm9, hkk9⟩
  have hK2 : va_K D cl (tys ++ [(cA, .array ty)]) s := ⟨hK.1, fun k9 x hx => by
    by_cases hl : k9 < tys.length
    · rw [List.getElem?_append_left hl] at hx
      exact hK.2 k9 x hx
    · rw [List.getElem?_append_right (by omega)] at hx
      have h0 : k9 - tys.length < 1 := (List.getElem?_eq_some_iff.mp hx).1
      rw [show k9 - tys.length = 0 by omega] at hx
      cases hx
      exact ⟨hAr, fA⟩⟩
  obtain ⟨t, a1, b1⟩ := kk H.size (fun i => H.size + 1 + i) cA F.heap (fun i j _ _ h => by have h9 : H.size + 1 + i = H.size + 1 + j := h; omega) hnl hK2 (by rw [← vr_rows hnm]; exact vr_lay hP2) (by rw [← vr_rows hnm]; exact vr_layD hD2) ⟨by rw [f1]; have := hS.1; omega, fun x h1 h2 => (hold x (Nat.lt_of_lt_of_le h1 hS.1)).trans (hS.2.1 x h1 h2), hS.2.2⟩ F rfl X'
  refine ⟨t, step t ?_, b1⟩
  have e : T.heap.size = H.size := by rw [hT]
  rw [e]
  exact a1
end VGM
/-! ===== END ===== -/

/-! ===== BEGIN exceptions that leave a method, and their catching by the caller (launches without stack traces) ===== -/
section VXA
/-! The laws vx_back, vx_callV, vx_callS, vx_callSW, vx_throw0, vx_throwS follow proofs of the library, with one case more: JvmDerived/Free/Laws.lean (Back.of_free), Shelf42/LK1.lean (callV, callS), Shelf/KitTraced.lean (throwNew0V, throwNewS). -/
/-- where a method has thrown q: the class by its name, the cell, what was written, the world -/
def vx_T (XC : String → State → State → Prop) (st : State) (q : Addr) (t : State) (mc ms : Nat) (free : Addr → Prop) : Prop :=
  ∃ (E : String) (ce : Cell) (L : List Loc), XC E st t ∧ t.heap[q]? = some ce ∧ ce.vm = .none ∧ st.vm.findClass E = some ce.cls ∧ st.WarmedH t.vm ∧ st.sameButNew ({ t with vm := st.vm } : State) L mc ms ∧ ∀ z ∈ L, free z.base
def vx_Q (Qc : Array Value → State → Outcome → State → Prop) (XC : String → State → State → Prop) (mc ms : Nat) (free : Addr → Prop) : Array Value → State → Outcome → State → Prop := fun a st o t =>
  (Qc a st o t ∧ ∃ L, FrameEnd st o t L mc ms ∧ ∀ q ∈ L, free q.base) ∨ ∃ q, o = .threw q ∧ vx_T XC st q t mc ms free
/-- a callee that returns or throws -/
def vx_Met (l : Launch) (y : MethodName) (ws : List Cond) (rm : Room) (Pc : Array Value → State → Prop) (Qc : Array Value → State → Outcome → State → Prop) (XC : String → State → State → Prop) (mc ms : Nat) (free : Addr → Prop) : Prop :=
  MetFree l y (headSpec ws rm) Pc (fun _ _ _ _ _ => True) (vx_Q Qc XC mc ms free)
def vx_Post (XC : String → State → State → Prop) (mc ms : Nat) (free : Addr → Prop) : Pt → Array Value → Addr → Pt → Prop := fun A a q B =>
  ∃ (g : JFrame) (mk : MethodId) (t : State) (L : List Loc) (E : String) (ce : Cell), B.U.heap = t.heap ∧ B.U.vm = t.vm ∧ XC E (A.U.calling g mk a) t ∧ t.heap[q]? = some ce ∧ ce.vm = .none ∧ A.U.vm.findClass E = some ce.cls ∧ B.locs = A.locs ++ L ∧ (∀ z ∈ L, free z.base) ∧ B.cells = A.cells + mc ∧ B.slots = A.slots + ms
def vx_Back (l : Launch) (R : Room) (p : Program) (e : Env) (below : List Frame) (s : State) (sargs : Array Value) (y : MethodName) (len W9 : Nat)
    (Pre : Pt → Array Value → Prop) (Post : Pt → Array Value → Option Value → Pt → Prop) (PostX : Pt → Array Value → Addr → Pt → Prop) : Prop :=
  ∀ (m : MethodId) (meth : Method) (c : Code) (A : Pt) (g : JFrame) (ig : Instr) (mk : MethodId) (a : Array Value),
    Stand p l e R s m sargs below meth c A.U A.locs A.cells A.slots → g.method = m → g.locals.size = c.maxLocals → decode c.code g.pc = .ok (ig, len) →
    2 * g.monitorRoom + (g.stack.map fun v => v.category).sum ≤ W9 → A.U.methodNamed? y = some mk → Pre A a →
    (∃ (v : Option Value) (B : Pt), Stand p l e R s m sargs below meth c B.U B.locs B.cells B.slots ∧ Post A a v B ∧
      Steps p.tables e below (doInvoke e (A.U.setTop g) [] mk a).1 (B.U.setTop { g with pc := g.pc + len, stack := v.toList ++ g.stack })) ∨
    (∃ (q : Addr) (B : Pt), Stand p l e R s m sargs below meth c B.U B.locs B.cells B.slots ∧ PostX A a q B ∧
      Steps p.tables e below (doInvoke e (A.U.setTop g) [] mk a).1 ((B.U.setTop g).pushFrame (.throwing q)))
section Payer
variable {l : Launch} {R : Room} {p : Program} {e : Env} {below : List Frame} {s : State} {sargs : Array Value} {y : MethodName} {len W9 : Nat}
theorem vx_back {ws : List Cond} {rm : Room} {Pc : Array Value → State → Prop} {Qc : Array Value → State → Outcome → State → Prop} {XC : String → State → State → Prop} {mc ms : Nat} {free : Addr → Prop} {bytes : ByteArray} {maxL : Nat} {ret : Option FieldType}
    (hM : vx_Met l y ws rm Pc Qc XC mc ms free) (hblind : FrameBlind Pc) (hrc : rm.cells = mc) (hrs : rm.slots = ms)
    (hframes : rm.frames + 1 ≤ R.frames) (hlocals : W9 + (maxL + 11) + rm.locals ≤ R.locals)
    (hws : ∀ w ∈ ws, ∀ a' U, s.WarmedH U.vm → w.before a' U = true) (hcode : Cond.code y bytes maxL ret ∈ ws) (hinit : ∀ a' U, s.WarmedH U.vm → (Cond.initialized y.cls).before a' U = true) :
    vx_Back l R p e below s sargs y len W9 (PreOf R mc ms Pc) (PostOf Qc mc ms free) (vx_Post XC mc ms free) := by
  intro m meth c A g ig mk a X hg hsize hdg hW hn hp
  have h1 : (headSpec ws rm).pre.before a A.U = true := atoms_intro fun w hw => hws w hw _ _ X.warmed
  have h2 : (Cond.code y bytes maxL ret).before a A.U = true := hws _ hcode _ _ X.warmed
  have h3 : (Cond.initialized y.cls).before a A.U = true := hinit _ _ X.warmed
  have h4 : A.cells + (headSpec ws rm).room.cells ≤ R.cells := by rw [show (headSpec ws rm).room.cells = mc from hrc]; exact hp.1
  have h5 : A.slots + (headSpec ws rm).room.slots ≤ R.slots := by rw [show (headSpec ws rm).room.slots = ms from hrs]; exact hp.2.1
  have hPc : Pc a (A.U.calling g mk a) := hblind _ _ _ _ hp.2.2
  obtain ⟨U, Ls, c0, s0⟩ := A
  dsimp only [Pt.U, Pt.locs, Pt.cells, Pt.slots] at h1 h2 h3 h4 h5 X hn hPc ⊢
  obtain ⟨methY, cY, hmY, hcY, -, hlY, -, -, -, -⟩ := Cond.code_spec hn h2
  obtain ⟨kY, hkY, -⟩ := className_of_methodNamed hn
  have hinitY : kY.init = .initialized := Cond.initialized_spec (findClass_of_methodNamed hn) hkY h3
  have h : At U g.method c below := by rw [hg]; exact X.here
  have hlocals9 : W9 + (maxL + 11) + (headSpec ws rm).room.locals ≤ R.locals := hlocals
  have happ : (headSpec ws rm).appliesLoose y e.platform (U.calling g mk a) = true :=
    Spec.appliesLoose_calling (g := g) h hdg hn hkY hinitY
      (X.room_calling (g := g) (R' := (headSpec ws rm).room) hsize hmY hcY hframes (by rw [hlY]; omega) h4 h5) h1
  obtain ⟨mid, hmid⟩ := h.above
  have hfr : (U.setTop g).frames = (.java g :: mid) ++ below := by rw [State.frames_setTop' g h.top, hmid]; rfl
  obtain ⟨o, s₂, hsteps, -, hend, hq⟩ := Steps.callFree hM p X.admits X.cas X.clock (acts := []) hfr happ hPc trivial
  have hq' : vx_Q Qc XC mc ms free a (U.calling g mk a) o s₂ := hq
  rw [State.frames_setTop' g h.top] at hend
  obtain ⟨g₀, hg0⟩ := Option.isSome_iff_exists.mp h.top
  obtain ⟨r, hr⟩ := State.topJava?_eq_some.mp hg0
  have hr' : (({ U with heap := s₂.heap, slotsUsed := s₂.slotsUsed } : State).setVm s₂.vm).frames = .java g₀ :: r := hr
  rcases hq' with ⟨hqc, L, hfe, hL⟩ | ⟨q, rfl, E, ce, L, hx, hce, hcv, hcl, hW₂, hsm, hL⟩
  · obtain ⟨⟨v, rfl⟩, hW₂, e2, q2, q3, q4, q5, q6⟩ := id hfe
    have e3 : s₂ = ({ (U.calling g mk a).setFrames s₂.frames with heap := s₂.heap, slotsUsed := s₂.slotsUsed } : State).setVm s₂.vm := by
      have : s₂ = ({ s₂ with vm := (U.calling g mk a).vm } : State).setVm s₂.vm := rfl
      rw [e2] at this
      exact this
    obtain ⟨c₂, i₂, len₂, hc₂, hd₂, hf₂⟩ := hend
    have hW' : U.WarmedH s₂.vm := hW₂
    have hcc : c₂ = c := by
      have h1 : s₂.code? g.method = U.code? g.method := by
        rw [State.code?_eq, State.code?_eq, hW'.alike.method?]
      exact Option.some.inj (hc₂.symm.trans (h1.trans h.code))
    subst hcc
    have hlen : len₂ = len := by rw [hdg] at hd₂; cases hd₂; rfl
    subst hlen
    have hs₂ : s₂ = (({ U with heap := s₂.heap, slotsUsed := s₂.slotsUsed } : State).setVm s₂.vm).setTop { g with pc := g.pc + len₂, stack := v.toList ++ g.stack } := by
      refine e3.trans ?_
      rw [hf₂, State.calling_eq h.top, State.setFrames_setFrames, State.setTop_of_frames _ hr', hr]
      rfl
    have hsame : U.sameButNew ({ U with heap := s₂.heap, slotsUsed := s₂.slotsUsed } : State) L mc ms := by
      refine ⟨?_, q2, q3, q4, q5, q6⟩
      obtain ⟨t, ht, -⟩ := State.frames_cons hr
      show ({ U with heap := s₂.heap, slotsUsed := s₂.slotsUsed } : State) = { U.setFrames U.frames with heap := s₂.heap, slotsUsed := s₂.slotsUsed }
      rw [State.setFrames_self ht]
    subst hg
    refine Or.inl ⟨v, ⟨(({ U with heap := s₂.heap, slotsUsed := s₂.slotsUsed } : State).setVm s₂.vm), Ls ++ L, c0 + mc, s0 + ms⟩,
      ⟨X.admits, X.cas, X.clock, X.frames, X.room, X.hears, X.method, X.code, (X.here.setHeapUsed s₂.heap s₂.slotsUsed).setVm hW'.alike, X.tail, State.WarmedH.trans X.warmed hW', X.limits, X.bytes, X.same.trans (hsame.setVm s.vm)⟩,
      ⟨g, mk, s₂, L, rfl, rfl, hqc, rfl, hL, rfl, rfl⟩, ?_⟩
    show Steps p.tables e below _ ((({ U with heap := s₂.heap, slotsUsed := s₂.slotsUsed } : State).setVm s₂.vm).setTop { g with pc := g.pc + len₂, stack := v.toList ++ g.stack })
    rw [← hs₂]
    exact hsteps
  · obtain ⟨e2, q2, q3, q4, q5, q6⟩ := id hsm
    have e3 : s₂ = ({ (U.calling g mk a).setFrames s₂.frames with heap := s₂.heap, slotsUsed := s₂.slotsUsed } : State).setVm s₂.vm := by
      have : s₂ = ({ s₂ with vm := (U.calling g mk a).vm } : State).setVm s₂.vm := rfl
      rw [e2] at this
      exact this
    have hf₂ : s₂.frames = .throwing q :: .java g :: U.frames.tail := hend
    have hW' : U.WarmedH s₂.vm := hW₂
    have hs₂ : s₂ = ((({ U with heap := s₂.heap, slotsUsed := s₂.slotsUsed } : State).setVm s₂.vm).setTop g).pushFrame (.throwing q) := by
      refine e3.trans ?_
      rw [hf₂, State.calling_eq h.top, State.setFrames_setFrames, State.pushFrame, State.frames_setTop _ hr', State.setTop_of_frames _ hr', State.setFrames_setFrames, hr]
      rfl
    have hsame : U.sameButNew ({ U with heap := s₂.heap, slotsUsed := s₂.slotsUsed } : State) L mc ms := by
      refine ⟨?_, q2, q3, q4, q5, q6⟩
      obtain ⟨t, ht, -⟩ := State.frames_cons hr
      show ({ U with heap := s₂.heap, slotsUsed := s₂.slotsUsed } : State) = { U.setFrames U.frames with heap := s₂.heap, slotsUsed := s₂.slotsUsed }
      rw [State.setFrames_self ht]
    subst hg
    refine Or.inr ⟨q, ⟨(({ U with heap := s₂.heap, slotsUsed := s₂.slotsUsed } : State).setVm s₂.vm), Ls ++ L, c0 + mc, s0 + ms⟩,
      ⟨X.admits, X.cas, X.clock, X.frames, X.room, X.hears, X.method, X.code, (X.here.setHeapUsed s₂.heap s₂.slotsUsed).setVm hW'.alike, X.tail, State.WarmedH.trans X.warmed hW', X.limits, X.bytes, X.same.trans (hsame.setVm s.vm)⟩,
      ⟨g, mk, s₂, L, E, ce, rfl, rfl, hx, hce, hcv, hcl, rfl, hL, rfl, rfl⟩, ?_⟩
    show Steps p.tables e below _ (((({ U with heap := s₂.heap, slotsUsed := s₂.slotsUsed } : State).setVm s₂.vm).setTop g).pushFrame (.throwing q))
    rw [← hs₂]
    exact hsteps
end Payer
section Calls
variable {p : Program} {l : Launch} {e : Env} {R : Room} {s : State} {m : MethodId} {args : Array Value} {below : List Frame} {meth : Method} {c : Code} {T : State} {locs : List Loc} {cells slots : Nat}
theorem vx_callV (X : Stand p l e R s m args below meth c T locs cells slots) (hexec : p.tables.exec = Jvm.exec) {own C : String} {index : Nat} {y : MethodName} {bytes : ByteArray} {maxL : Nat} {ret : Option FieldType}
    (hown : s.vm.findClass own = some m.cls) (hlink : (Cond.methodLink own index y).before args s = true) (hinst : (Cond.instanceMethod y).before args s = true) (hsel : (Cond.selects C y y).before args s = true)
    (hcode : (Cond.code y bytes maxL ret).before args s = true) (hy : y.cls ≠ "java/lang/invoke/MethodHandle" ∧ y.cls ≠ "java/lang/invoke/VarHandle")
    {W9 : Nat} {Pre : Pt → Array Value → Prop} {Post : Pt → Array Value → Option Value → Pt → Prop} {PostX : Pt → Array Value → Addr → Pt → Prop} (hK : vx_Back l R p e below s args y 3 W9 Pre Post PostX)
    {b : Addr} {cellB : Cell} (hcell : T.heap[b]? = some cellB) (hobj : cellB.vm.isStatics = false) (hcls : s.vm.findClass C = some cellB.cls)
    {g : JFrame} (hg : g.method = m) (hsize : g.locals.size = c.maxLocals) {argsL rest : List Value} (hlen : ∀ sig, parseMethodDescriptor y.desc = some sig → argsL.length = sig.parameters.length)
    (hstack : g.stack = argsL.reverse ++ .ref b :: rest) (hW : 2 * g.monitorRoom + (rest.map fun v => v.category).sum ≤ W9) (hdg : decode c.code g.pc = .ok (.invokevirtual index, 3))
    (hpre : ∀ vm₁, s.WarmedH vm₁ → Pre ⟨T.setVm vm₁, locs, cells, slots⟩ (Value.ref b :: argsL).toArray) :
    (∃ (v : Option Value) (vm₁ : Vm) (B : Pt), s.WarmedH vm₁ ∧ Stand p l e R s m args below meth c B.U B.locs B.cells B.slots ∧ Post ⟨T.setVm vm₁, locs, cells, slots⟩ (Value.ref b :: argsL).toArray v B ∧
      ∀ target, Steps p.tables e below (B.U.setTop { g with pc := g.pc + 3, stack := v.toList ++ rest }) target → Steps p.tables e below (T.setTop g) target) ∨
    (∃ (q : Addr) (vm₁ : Vm) (B : Pt), s.WarmedH vm₁ ∧ Stand p l e R s m args below meth c B.U B.locs B.cells B.slots ∧ PostX ⟨T.setVm vm₁, locs, cells, slots⟩ (Value.ref b :: argsL).toArray q B ∧
      Steps p.tables e below (T.setTop g) ((B.U.setTop { g with stack := rest }).pushFrame (.throwing q))) := by
  obtain ⟨mk, methM, hnamed, hmethM, hstM, habM⟩ := Cond.instanceMethod_spec hinst
  obtain ⟨methM', cM, hmethM', -, -, -, -, -, -, hsigM⟩ := Cond.code_spec hnamed hcode
  cases hmethM.symm.trans hmethM'
  obtain ⟨c2, r2, m2, q1, q2, q3, q4, kP, hkP, hkPi⟩ := Cond.selects_spec hsel
  cases hcls.symm.trans q1
  cases (State.methodFound?_of_named hnamed hy).symm.trans q2
  cases hnamed.symm.trans q3
  have hselP : selectMethod e.platform s.vm cellB.cls mk = .method mk := by rw [Launch.admits_selectMethod X.admits]; exact q4
  obtain ⟨vm₁, X₁, hstep₁⟩ := X.invokevirtual hexec hown hlink hnamed hmethM hstM hkP hkPi hy (a := b) (cell := cellB) hcell
    (fun z h => by rw [h] at hobj; cases hobj) hselP hmethM habM hkP hkPi (g := g) hg (argsL := argsL) (rest := rest) (hlen _ hsigM) hstack hdg
  rcases hK m meth c ⟨T.setVm vm₁, locs, cells, slots⟩ { g with stack := rest } (.invokevirtual index) mk (Value.ref b :: argsL).toArray X₁ hg hsize hdg hW (X₁.named hnamed) (hpre vm₁ X₁.warmed) with ⟨v, B, X', hpost, hsteps⟩ | ⟨q, B, X', hpost, hsteps⟩
  · exact Or.inl ⟨v, vm₁, B, X₁.warmed, X', hpost, fun target h => hstep₁ _ fun acts => by rw [doInvoke_state]; exact hsteps.trans h⟩
  · exact Or.inr ⟨q, vm₁, B, X₁.warmed, X', hpost, hstep₁ _ fun acts => by rw [doInvoke_state]; exact hsteps⟩
theorem vx_callS (X : Stand p l e R s m args below meth c T locs cells slots) (hexec : p.tables.exec = Jvm.exec) {own : String} {index : Nat} {y : MethodName} {bytes : ByteArray} {maxL : Nat} {ret : Option FieldType}
    (hown : s.vm.findClass own = some m.cls) (hlink : (Cond.methodLink own index y).before args s = true) (hstat : (Cond.static y).before args s = true) (hinit : (Cond.initialized y.cls).before args s = true)
    (hcode : (Cond.code y bytes maxL ret).before args s = true) (hy : y.cls ≠ "java/lang/invoke/MethodHandle" ∧ y.cls ≠ "java/lang/invoke/VarHandle")
    {W9 : Nat} {Pre : Pt → Array Value → Prop} {Post : Pt → Array Value → Option Value → Pt → Prop} {PostX : Pt → Array Value → Addr → Pt → Prop} (hK : vx_Back l R p e below s args y 3 W9 Pre Post PostX)
    {g : JFrame} (hg : g.method = m) (hsize : g.locals.size = c.maxLocals) {argsL rest : List Value} (hlen : ∀ sig, parseMethodDescriptor y.desc = some sig → argsL.length = sig.parameters.length)
    (hstack : g.stack = argsL.reverse ++ rest) (hW : 2 * g.monitorRoom + (rest.map fun v => v.category).sum ≤ W9) (hdg : decode c.code g.pc = .ok (.invokestatic index, 3))
    (hpre : ∀ vm₁, s.WarmedH vm₁ → Pre ⟨T.setVm vm₁, locs, cells, slots⟩ argsL.toArray) :
    (∃ (v : Option Value) (vm₁ : Vm) (B : Pt), s.WarmedH vm₁ ∧ Stand p l e R s m args below meth c B.U B.locs B.cells B.slots ∧ Post ⟨T.setVm vm₁, locs, cells, slots⟩ argsL.toArray v B ∧
      ∀ target, Steps p.tables e below (B.U.setTop { g with pc := g.pc + 3, stack := v.toList ++ rest }) target → Steps p.tables e below (T.setTop g) target) ∨
    (∃ (q : Addr) (vm₁ : Vm) (B : Pt), s.WarmedH vm₁ ∧ Stand p l e R s m args below meth c B.U B.locs B.cells B.slots ∧ PostX ⟨T.setVm vm₁, locs, cells, slots⟩ argsL.toArray q B ∧
      Steps p.tables e below (T.setTop g) ((B.U.setTop { g with stack := rest }).pushFrame (.throwing q))) := by
  obtain ⟨mk, hnamed⟩ := Cond.code_named hcode
  obtain ⟨methM, cM, hmethM, -, -, -, -, -, -, hsigM⟩ := Cond.code_spec hnamed hcode
  have hstatic : methM.isStatic = true := Cond.static_spec hnamed hmethM hstat
  obtain ⟨kP, hkP, -⟩ := className_of_methodNamed hnamed
  have hinitP : kP.init = .initialized := Cond.initialized_spec (findClass_of_methodNamed hnamed) hkP hinit
  obtain ⟨vm₁, X₁, hstep₁⟩ := X.invokestatic hexec hown hlink hnamed hmethM hstatic hkP hinitP hy (g := g) hg (argsL := argsL) (rest := rest) (hlen _ hsigM) hstack hdg
  rcases hK m meth c ⟨T.setVm vm₁, locs, cells, slots⟩ { g with stack := rest } (.invokestatic index) mk argsL.toArray X₁ hg hsize hdg hW (X₁.named hnamed) (hpre vm₁ X₁.warmed) with ⟨v, B, X', hpost, hsteps⟩ | ⟨q, B, X', hpost, hsteps⟩
  · exact Or.inl ⟨v, vm₁, B, X₁.warmed, X', hpost, fun target h => hstep₁ _ fun acts => by rw [doInvoke_state]; exact hsteps.trans h⟩
  · exact Or.inr ⟨q, vm₁, B, X₁.warmed, X', hpost, hstep₁ _ fun acts => by rw [doInvoke_state]; exact hsteps⟩
end Calls
theorem vx_cls {s : State} {T : State} {vm₁ : Vm} {E : String} {k : ClassId} (hW : s.WarmedH vm₁) (h : (T.setVm vm₁).vm.findClass E = some k) : s.vm.findClass E = some k := by
  have h1 : vm₁.findClass E = some k := h
  rw [hW.alike.findClass] at h1
  exact h1
/-- the method's frame g, with q thrown over it -/
def vx_W (p : Program) (l : Launch) (e : Env) (R : Room) (s : State) (m : MethodId) (args : Array Value) (below : List Frame) (meth : Method) (c : Code) (H : Heap) (locs : List Loc) (cells slots : Nat) (Q : State → Prop) (g : JFrame) (q : Addr) : Prop :=
  ∀ T : State, T.heap = H → Stand p l e R s m args below meth c T locs cells slots → ∃ t, Steps p.tables e below ((T.setTop g).pushFrame (.throwing q)) t ∧ Q t
def vx_Run (p : Program) (l : Launch) (e : Env) (R : Room) (s : State) (m : MethodId) (args : Array Value) (below : List Frame) (meth : Method) (c : Code) (H : Heap) (locs : List Loc) (cells slots mc ms : Nat) (g : JFrame) (rest : List Value) (Qa : State → Outcome → State → Prop) (XC : String → State → State → Prop) (free : Addr → Prop) : Prop :=
  ∀ T : State, T.heap = H → Stand p l e R s m args below meth c T locs cells slots →
    (∃ (v : Option Value) (st₀ t T' : State) (L : List Loc), st₀.heap = H ∧ Stand p l e R s m args below meth c T' (locs ++ L) (cells + mc) (slots + ms) ∧ (∀ q ∈ L, free q.base) ∧ T'.heap = t.heap ∧ T'.vm = t.vm ∧ Qa st₀ (.returned v) t ∧
      Goes p e below T g T' { g with pc := g.pc + 3, stack := v.toList ++ rest }) ∨
    (∃ (q : Addr) (st₀ t T' : State) (L : List Loc) (E : String) (ce : Cell), st₀.heap = H ∧ Stand p l e R s m args below meth c T' (locs ++ L) (cells + mc) (slots + ms) ∧ (∀ z ∈ L, free z.base) ∧ T'.heap = t.heap ∧ T'.vm = t.vm ∧ XC E st₀ t ∧ t.heap[q]? = some ce ∧ ce.vm = .none ∧ s.vm.findClass E = some ce.cls ∧
      Steps p.tables e below (T.setTop g) ((T'.setTop { g with stack := rest }).pushFrame (.throwing q)))
def vx_X {S : Type} (px : S → Prop) (B : String → S → State → Prop) (A : Nat → Prop) : String → State → State → Prop := fun E st t => ∃ u : S, px u ∧ B E u t ∧ va_F A st t
section Runs
variable {p : Program} {l : Launch} {e : Env} {R : Room} {s : State} {m : MethodId} {args : Array Value} {below : List Frame} {meth : Method} {c : Code} {H : Heap} {locs : List Loc} {cells slots : Nat}
variable {y : MethodName} {bytes cc : ByteArray} {maxL nL mc ms n index : Nat} {ret : Option FieldType} {ws : List Cond} {rm : Room} {Pc : Array Value → State → Prop} {Qc : Array Value → State → Outcome → State → Prop} {XC : String → State → State → Prop} {free : Addr → Prop} {Ts : List Cond} {own C : String} {b : Addr} {As rest : List Value} {g : JFrame}
theorem vx_callBack (cb : CallB R s args own index y bytes maxL ret ws rm mc ms n) (hM : vx_Met l y ws rm Pc Qc XC mc ms free) (hbl : FrameBlind Pc) : vx_Back l R p e below s args y 3 8 (PreOf R mc ms Pc) (PostOf Qc mc ms free) (vx_Post XC mc ms free) := by
  obtain ⟨hrc, hrs, hfr, hlo, hws, hcw, -, hini, -⟩ := cb
  exact vx_back (bytes := bytes) (maxL := maxL) (ret := ret) hM hbl hrc hrs hfr hlo hws hcw (fun a' U hW => word_at hW (Or.inl (by first | rfl | simp [Cond.onTables, Cond.keeps, Cond.steady])) hini)
theorem vx_runV (S : CallFix p m c cc nL s args Ts own) (hM : vx_Met l y ws rm Pc Qc XC mc ms free) (cw : CallW R s args own C index y bytes maxL ret ws rm mc ms n) (hp : PreV s H C b Pc As)
    (hg : g.method = m) (hn : As.length = n) (hsize : g.locals.size = nL) (hstack : g.stack = As.reverse ++ .ref b :: rest) (hW : 2 * g.monitorRoom + (rest.map fun v => v.category).sum ≤ 8) (hdg : decode cc g.pc = .ok (.invokevirtual index, 3)) (hf : cells + mc ≤ R.cells ∧ slots + ms ≤ R.slots) :
    vx_Run p l e R s m args below meth c H locs cells slots mc ms g rest (Qc (Value.ref b :: As).toArray) XC free := by
  have hK : vx_Back l R p e below s args y 3 8 (PreOf R mc ms Pc) (PostOf Qc mc ms free) (vx_Post XC mc ms free) := vx_callBack cw.1 hM hp.1
  obtain ⟨⟨-, -, -, -, -, -, hcode, -, hy, hlen, hl⟩, hin, hse⟩ := cw
  obtain ⟨hx, hb, hml, ho, -⟩ := S
  obtain ⟨-, ⟨cellB, hcB, hoB, hclB⟩, hPc⟩ := hp
  intro T hT X
  rcases vx_callV X hx (C := C) (bytes := bytes) (maxL := maxL) (ret := ret) ho hl hin hse hcode hy hK (by rw [hT]; exact hcB) hoB hclB hg (hsize.trans hml.symm) (argsL := As) (rest := rest) (fun sig h => hn.trans (hlen sig h)) hstack hW (by rw [hb]; exact hdg)
    (fun vm₁ hW₁ => ⟨hf.1, hf.2, hPc (T.setVm vm₁) hT hW₁⟩) with ⟨v, vm₁, ⟨U', l2, c2, s2⟩, hW₁, X', ⟨g', mk, t, L, e1, e2, hq, h1, hL, h2, h3⟩, st⟩ | ⟨q, vm₁, ⟨U', l2, c2, s2⟩, hW₁, X', ⟨g', mk, t, L, E, ce, e1, e2, hq, hce, hcv, hcl, h1, hL, h2, h3⟩, st⟩
  · dsimp only [Pt.U, Pt.locs, Pt.cells, Pt.slots] at X' e1 e2 h1 h2 h3 st
    subst h1; subst h2; subst h3
    exact Or.inl ⟨v, (T.setVm vm₁).calling g' mk (Value.ref b :: As).toArray, t, U', L, hT, X', hL, e1, e2, hq, st⟩
  · dsimp only [Pt.U, Pt.locs, Pt.cells, Pt.slots] at X' e1 e2 h1 h2 h3 st hcl
    subst h1; subst h2; subst h3
    exact Or.inr ⟨q, (T.setVm vm₁).calling g' mk (Value.ref b :: As).toArray, t, U', L, E, ce, hT, X', hL, e1, e2, hq, hce, hcv, vx_cls hW₁ hcl, st⟩
theorem vx_runS (S : CallFix p m c cc nL s args Ts own) (hM : vx_Met l y ws rm Pc Qc XC mc ms free) (cw : CallB R s args own index y bytes maxL ret ws rm mc ms n ∧ (Cond.static y).before args s = true) (hp : PreS s H Pc As)
    (hg : g.method = m) (hn : As.length = n) (hsize : g.locals.size = nL) (hstack : g.stack = As.reverse ++ rest) (hW : 2 * g.monitorRoom + (rest.map fun v => v.category).sum ≤ 8) (hdg : decode cc g.pc = .ok (.invokestatic index, 3)) (hf : cells + mc ≤ R.cells ∧ slots + ms ≤ R.slots) :
    vx_Run p l e R s m args below meth c H locs cells slots mc ms g rest (Qc As.toArray) XC free := by
  have hK : vx_Back l R p e below s args y 3 8 (PreOf R mc ms Pc) (PostOf Qc mc ms free) (vx_Post XC mc ms free) := vx_callBack cw.1 hM hp.1
  obtain ⟨⟨-, -, -, -, -, -, hcode, hini, hy, hlen, hl⟩, hstt⟩ := cw
  obtain ⟨hx, hb, hml, ho, -⟩ := S
  intro T hT X
  rcases vx_callS X hx (bytes := bytes) (maxL := maxL) (ret := ret) ho hl hstt hini hcode hy hK hg (hsize.trans hml.symm) (argsL := As) (rest := rest) (fun sig h => hn.trans (hlen sig h)) hstack hW (by rw [hb]; exact hdg)
    (fun vm₁ hW₁ => ⟨hf.1, hf.2, hp.2 (T.setVm vm₁) hT hW₁⟩) with ⟨v, vm₁, ⟨U', l2, c2, s2⟩, hW₁, X', ⟨g', mk, t, L, e1, e2, hq, h1, hL, h2, h3⟩, st⟩ | ⟨q, vm₁, ⟨U', l2, c2, s2⟩, hW₁, X', ⟨g', mk, t, L, E, ce, e1, e2, hq, hce, hcv, hcl, h1, hL, h2, h3⟩, st⟩
  · dsimp only [Pt.U, Pt.locs, Pt.cells, Pt.slots] at X' e1 e2 h1 h2 h3 st
    subst h1; subst h2; subst h3
    exact Or.inl ⟨v, (T.setVm vm₁).calling g' mk As.toArray, t, U', L, hT, X', hL, e1, e2, hq, st⟩
  · dsimp only [Pt.U, Pt.locs, Pt.cells, Pt.slots] at X' e1 e2 h1 h2 h3 st hcl
    subst h1; subst h2; subst h3
    exact Or.inr ⟨q, (T.setVm vm₁).calling g' mk As.toArray, t, U', L, E, ce, hT, X', hL, e1, e2, hq, hce, hcv, vx_cls hW₁ hcl, st⟩
end Runs
section Rows
variable {p : Program} {l : Launch} {e : Env} {R : Room} {s : State} {m : MethodId} {args : Array Value} {below : List Frame} {meth : Method} {c : Code} {H : Heap} {locs : List Loc} {cells slots : Nat} {Q : State → Prop}
variable {mc ms : Nat} {free : Addr → Prop} {A0 A1 : Nat → Prop} {H0 : Heap} {a : Array Value} {pc : Nat} {ls : Array Slot} {st0 rest : List Value}
theorem vx_keep {st₀ t T' : State} {L : List Loc} (h0 : st₀.heap = H) (e1 : T'.heap = t.heap) (hS : va_S A0 H0 H locs) (hA : ∀ q, q < H.size → A1 q → A0 q) (hf : ∀ q, free q → A0 q) (hL : ∀ q ∈ L, free q.base) (hF : va_F A1 st₀ t) :
    H.size ≤ T'.heap.size ∧ (∀ q : Nat, q < H.size → ¬ A1 q → T'.heap[q]? = H[q]?) ∧ va_S A0 H0 T'.heap (locs ++ L) := by
  obtain ⟨hz, hk⟩ := hF
  rw [h0] at hz hk
  exact ⟨by rw [e1]; exact hz, fun q h1 h2 => by rw [e1]; exact hk q h1 h2,
    ⟨Nat.le_trans hS.1 (by rw [e1]; exact hz), fun q h1 h2 => by rw [e1, hk q (Nat.lt_of_lt_of_le h1 hS.1) (fun z => h2 (hA q (Nat.lt_of_lt_of_le h1 hS.1) z))]; exact hS.2.1 q h1 h2, fun q hq => by
      rcases List.mem_append.mp hq with h | h
      · exact hS.2.2 q h
      · exact hf _ (hL q h)⟩⟩
theorem vx_calli {S SX : Type} {post : Int32 → S → Prop} {px : SX → Prop} {B : S → State → Prop} {BX : String → SX → State → Prop} {AX : Nat → Prop} (hr : vx_Run p l e R s m args below meth c H locs cells slots mc ms (F0 m pc ls st0) rest (va_Qi post B A1 a) (vx_X px BX AX) free) (hS : va_S A0 H0 H locs) (hA : ∀ q, q < H.size → A1 q → A0 q) (hf : ∀ q, free q → A0 q) (hAX : ∀ q, q < H.size → AX q → A0 q)
    (kx : ∀ (E : String) (ce : Cell) (q9 : Addr) (u : SX) (t : State) (H1 : Heap) (locs1 : List Loc), t.heap = H1 → s.vm.Alike t.vm → px u → BX E u t → H.size ≤ H1.size → (∀ q : Nat, q < H.size → ¬ AX q → H1[q]? = H[q]?) → va_S A0 H0 H1 locs1 → H1[q9]? = some ce → ce.vm = .none → s.vm.findClass E = some ce.cls → vx_W p l e R s m args below meth c H1 locs1 (cells + mc) (slots + ms) Q (F0 m pc ls rest) q9)
    (kk : ∀ (r : Int32) (u : S) (t : State) (H1 : Heap) (locs1 : List Loc), t.heap = H1 → s.vm.Alike t.vm → post r u → B u t → H.size ≤ H1.size → (∀ q : Nat, q < H.size → ¬ A1 q → H1[q]? = H[q]?) → va_S A0 H0 H1 locs1 → W p l e R s m args below meth c H1 locs1 (cells + mc) (slots + ms) Q (F0 m (pc + 3) ls (.int r :: rest))) : W p l e R s m args below meth c H locs cells slots Q (F0 m pc ls st0) := by
  intro T hT X
  rcases hr T hT X with ⟨v, st₀, t, T', L, h0, X', hL, e1, e2, ⟨⟨r, u, hv, hp, hb⟩, hF⟩, st⟩ | ⟨q, st₀, t, T', L, E, ce, h0, X', hL, e1, e2, ⟨u, hp, hb, hF⟩, hce, hcv, hcl, st⟩
  · cases hv
    obtain ⟨k1, k2, k3⟩ := vx_keep h0 e1 hS hA hf hL hF
    obtain ⟨t2, a1, b1⟩ := kk r u t T'.heap (locs ++ L) e1.symm (by rw [← e2]; exact X'.warmed.alike) hp hb k1 k2 k3 T' rfl X'
    exact ⟨t2, st t2 a1, b1⟩
  · obtain ⟨k1, k2, k3⟩ := vx_keep h0 e1 hS hAX hf hL hF
    obtain ⟨t2, a1, b1⟩ := kx E ce q u t T'.heap (locs ++ L) e1.symm (by rw [← e2]; exact X'.warmed.alike) hp hb k1 k2 k3 (by rw [e1]; exact hce) hcv hcl T' rfl X'
    exact ⟨t2, st.trans a1, b1⟩
theorem vx_calll {S SX : Type} {post : Int64 → S → Prop} {px : SX → Prop} {B : S → State → Prop} {BX : String → SX → State → Prop} {AX : Nat → Prop} (hr : vx_Run p l e R s m args below meth c H locs cells slots mc ms (F0 m pc ls st0) rest (va_Ql post B A1 a) (vx_X px BX AX) free) (hS : va_S A0 H0 H locs) (hA : ∀ q, q < H.size → A1 q → A0 q) (hf : ∀ q, free q → A0 q) (hAX : ∀ q, q < H.size → AX q → A0 q)
    (kx : ∀ (E : String) (ce : Cell) (q9 : Addr) (u : SX) (t : State) (H1 : Heap) (locs1 : List Loc), t.heap = H1 → s.vm.Alike t.vm → px u → BX E u t → H.size ≤ H1.size → (∀ q : Nat, q < H.size → ¬ AX q → H1[q]? = H[q]?) → va_S A0 H0 H1 locs1 → H1[q9]? = some ce → ce.vm = .none → s.vm.findClass E = some ce.cls → vx_W p l e R s m args below meth c H1 locs1 (cells + mc) (slots + ms) Q (F0 m pc ls rest) q9)
    (kk : ∀ (r : Int64) (u : S) (t : State) (H1 : Heap) (locs1 : List Loc), t.heap = H1 → s.vm.Alike t.vm → post r u → B u t → H.size ≤ H1.size → (∀ q : Nat, q < H.size → ¬ A1 q → H1[q]? = H[q]?) → va_S A0 H0 H1 locs1 → W p l e R s m args below meth c H1 locs1 (cells + mc) (slots + ms) Q (F0 m (pc + 3) ls (.long r :: rest))) : W p l e R s m args below meth c H locs cells slots Q (F0 m pc ls st0) := by
  intro T hT X
  rcases hr T hT X with ⟨v, st₀, t, T', L, h0, X', hL, e1, e2, ⟨⟨r, u, hv, hp, hb⟩, hF⟩, st⟩ | ⟨q, st₀, t, T', L, E, ce, h0, X', hL, e1, e2, ⟨u, hp, hb, hF⟩, hce, hcv, hcl, st⟩
  · cases hv
    obtain ⟨k1, k2, k3⟩ := vx_keep h0 e1 hS hA hf hL hF
    obtain ⟨t2, a1, b1⟩ := kk r u t T'.heap (locs ++ L) e1.symm (by rw [← e2]; exact X'.warmed.alike) hp hb k1 k2 k3 T' rfl X'
    exact ⟨t2, st t2 a1, b1⟩
  · obtain ⟨k1, k2, k3⟩ := vx_keep h0 e1 hS hAX hf hL hF
    obtain ⟨t2, a1, b1⟩ := kx E ce q u t T'.heap (locs ++ L) e1.symm (by rw [← e2]; exact X'.warmed.alike) hp hb k1 k2 k3 (by rw [e1]; exact hce) hcv hcl T' rfl X'
    exact ⟨t2, st.trans a1, b1⟩
theorem vx_callf {S SX : Type} {post : UInt32 → S → Prop} {px : SX → Prop} {B : S → State → Prop} {BX : String → SX → State → Prop} {AX : Nat → Prop} (hr : vx_Run p l e R s m args below meth c H locs cells slots mc ms (F0 m pc ls st0) rest (va_Qf post B A1 a) (vx_X px BX AX) free) (hS : va_S A0 H0 H locs) (hA : ∀ q, q < H.size → A1 q → A0 q) (hf : ∀ q, free q → A0 q) (hAX : ∀ q, q < H.size → AX q → A0 q)
    (kx : ∀ (E : String) (ce : Cell) (q9 : Addr) (u : SX) (t : State) (H1 : Heap) (locs1 : List Loc), t.heap = H1 → s.vm.Alike t.vm → px u → BX E u t → H.size ≤ H1.size → (∀ q : Nat, q < H.size → ¬ AX q → H1[q]? = H[q]?) → va_S A0 H0 H1 locs1 → H1[q9]? = some ce → ce.vm = .none → s.vm.findClass E = some ce.cls → vx_W p l e R s m args below meth c H1 locs1 (cells + mc) (slots + ms) Q (F0 m pc ls rest) q9)
    (kk : ∀ (r : UInt32) (u : S) (t : State) (H1 : Heap) (locs1 : List Loc), t.heap = H1 → s.vm.Alike t.vm → post r u → B u t → H.size ≤ H1.size → (∀ q : Nat, q < H.size → ¬ A1 q → H1[q]? = H[q]?) → va_S A0 H0 H1 locs1 → W p l e R s m args below meth c H1 locs1 (cells + mc) (slots + ms) Q (F0 m (pc + 3) ls (.float r :: rest))) : W p l e R s m args below meth c H locs cells slots Q (F0 m pc ls st0) := by
  intro T hT X
  rcases hr T hT X with ⟨v, st₀, t, T', L, h0, X', hL, e1, e2, ⟨⟨r, u, hv, hp, hb⟩, hF⟩, st⟩ | ⟨q, st₀, t, T', L, E, ce, h0, X', hL, e1, e2, ⟨u, hp, hb, hF⟩, hce, hcv, hcl, st⟩
  · cases hv
    obtain ⟨k1, k2, k3⟩ := vx_keep h0 e1 hS hA hf hL hF
    obtain ⟨t2, a1, b1⟩ := kk r u t T'.heap (locs ++ L) e1.symm (by rw [← e2]; exact X'.warmed.alike) hp hb k1 k2 k3 T' rfl X'
    exact ⟨t2, st t2 a1, b1⟩
  · obtain ⟨k1, k2, k3⟩ := vx_keep h0 e1 hS hAX hf hL hF
    obtain ⟨t2, a1, b1⟩ := kx E ce q u t T'.heap (locs ++ L) e1.symm (by rw [← e2]; exact X'.warmed.alike) hp hb k1 k2 k3 (by rw [e1]; exact hce) hcv hcl T' rfl X'
    exact ⟨t2, st.trans a1, b1⟩
theorem vx_calld {S SX : Type} {post : UInt64 → S → Prop} {px : SX → Prop} {B : S → State → Prop} {BX : String → SX → State → Prop} {AX : Nat → Prop} (hr : vx_Run p l e R s m args below meth c H locs cells slots mc ms (F0 m pc ls st0) rest (va_Qd post B A1 a) (vx_X px BX AX) free) (hS : va_S A0 H0 H locs) (hA : ∀ q, q < H.size → A1 q → A0 q) (hf : ∀ q, free q → A0 q) (hAX : ∀ q, q < H.size → AX q → A0 q)
    (kx : ∀ (E : String) (ce : Cell) (q9 : Addr) (u : SX) (t : State) (H1 : Heap) (locs1 : List Loc), t.heap = H1 → s.vm.Alike t.vm → px u → BX E u t → H.size ≤ H1.size → (∀ q : Nat, q < H.size → ¬ AX q → H1[q]? = H[q]?) → va_S A0 H0 H1 locs1 → H1[q9]? = some ce → ce.vm = .none → s.vm.findClass E = some ce.cls → vx_W p l e R s m args below meth c H1 locs1 (cells + mc) (slots + ms) Q (F0 m pc ls rest) q9)
    (kk : ∀ (r : UInt64) (u : S) (t : State) (H1 : Heap) (locs1 : List Loc), t.heap = H1 → s.vm.Alike t.vm → post r u → B u t → H.size ≤ H1.size → (∀ q : Nat, q < H.size → ¬ A1 q → H1[q]? = H[q]?) → va_S A0 H0 H1 locs1 → W p l e R s m args below meth c H1 locs1 (cells + mc) (slots + ms) Q (F0 m (pc + 3) ls (.double r :: rest))) : W p l e R s m args below meth c H locs cells slots Q (F0 m pc ls st0) := by
  intro T hT X
  rcases hr T hT X with ⟨v, st₀, t, T', L, h0, X', hL, e1, e2, ⟨⟨r, u, hv, hp, hb⟩, hF⟩, st⟩ | ⟨q, st₀, t, T', L, E, ce, h0, X', hL, e1, e2, ⟨u, hp, hb, hF⟩, hce, hcv, hcl, st⟩
  · cases hv
    obtain ⟨k1, k2, k3⟩ := vx_keep h0 e1 hS hA hf hL hF
    obtain ⟨t2, a1, b1⟩ := kk r u t T'.heap (locs ++ L) e1.symm (by rw [← e2]; exact X'.warmed.alike) hp hb k1 k2 k3 T' rfl X'
    exact ⟨t2, st t2 a1, b1⟩
  · obtain ⟨k1, k2, k3⟩ := vx_keep h0 e1 hS hAX hf hL hF
    obtain ⟨t2, a1, b1⟩ := kx E ce q u t T'.heap (locs ++ L) e1.symm (by rw [← e2]; exact X'.warmed.alike) hp hb k1 k2 k3 (by rw [e1]; exact hce) hcv hcl T' rfl X'
    exact ⟨t2, st.trans a1, b1⟩
theorem vx_callv {S SX : Type} {post : S → Prop} {px : SX → Prop} {B : S → State → Prop} {BX : String → SX → State → Prop} {AX : Nat → Prop} (hr : vx_Run p l e R s m args below meth c H locs cells slots mc ms (F0 m pc ls st0) rest (va_Qv post B A1 a) (vx_X px BX AX) free) (hS : va_S A0 H0 H locs) (hA : ∀ q, q < H.size → A1 q → A0 q) (hf : ∀ q, free q → A0 q) (hAX : ∀ q, q < H.size → AX q → A0 q)
    (kx : ∀ (E : String) (ce : Cell) (q9 : Addr) (u : SX) (t : State) (H1 : Heap) (locs1 : List Loc), t.heap = H1 → s.vm.Alike t.vm → px u → BX E u t → H.size ≤ H1.size → (∀ q : Nat, q < H.size → ¬ AX q → H1[q]? = H[q]?) → va_S A0 H0 H1 locs1 → H1[q9]? = some ce → ce.vm = .none → s.vm.findClass E = some ce.cls → vx_W p l e R s m args below meth c H1 locs1 (cells + mc) (slots + ms) Q (F0 m pc ls rest) q9)
    (kk : ∀ (u : S) (t : State) (H1 : Heap) (locs1 : List Loc), t.heap = H1 → s.vm.Alike t.vm → post u → B u t → H.size ≤ H1.size → (∀ q : Nat, q < H.size → ¬ A1 q → H1[q]? = H[q]?) → va_S A0 H0 H1 locs1 → W p l e R s m args below meth c H1 locs1 (cells + mc) (slots + ms) Q (F0 m (pc + 3) ls (rest))) : W p l e R s m args below meth c H locs cells slots Q (F0 m pc ls st0) := by
  intro T hT X
  rcases hr T hT X with ⟨v, st₀, t, T', L, h0, X', hL, e1, e2, ⟨⟨u, hv, hp, hb⟩, hF⟩, st⟩ | ⟨q, st₀, t, T', L, E, ce, h0, X', hL, e1, e2, ⟨u, hp, hb, hF⟩, hce, hcv, hcl, st⟩
  · cases hv
    obtain ⟨k1, k2, k3⟩ := vx_keep h0 e1 hS hA hf hL hF
    obtain ⟨t2, a1, b1⟩ := kk u t T'.heap (locs ++ L) e1.symm (by rw [← e2]; exact X'.warmed.alike) hp hb k1 k2 k3 T' rfl X'
    exact ⟨t2, st t2 a1, b1⟩
  · obtain ⟨k1, k2, k3⟩ := vx_keep h0 e1 hS hAX hf hL hF
    obtain ⟨t2, a1, b1⟩ := kx E ce q u t T'.heap (locs ++ L) e1.symm (by rw [← e2]; exact X'.warmed.alike) hp hb k1 k2 k3 (by rw [e1]; exact hce) hcv hcl T' rfl X'
    exact ⟨t2, st.trans a1, b1⟩
/-- caught by the row x of this method's table; the rows ahead don't take it -/
theorem vx_catch {own name : String} {E : String} {ce : Cell} {q : Addr} (hown : s.vm.findClass own = some m.cls) (pre : List ExceptionTableEntry) (x : ExceptionTableEntry) (suf : List ExceptionTableEntry) (hsplit : c.exceptionTable.toList = pre ++ x :: suf)
    (hpass : ∀ z ∈ pre, covers z pc = false ∨ (z.catchType ≠ 0 ∧ ∃ nm : String, (Cond.classLink own z.catchType nm).before args s = true ∧ va_Nc E nm s)) (hx : covers x pc = true) (h0 : x.catchType ≠ 0)
    (hlink : (Cond.classLink own x.catchType name).before args s = true) (hcast : (Cond.castable E name).before args s = true) (hcell : H[q]? = some ce) (hv : ce.vm = .none) (hcl : s.vm.findClass E = some ce.cls)
    (kk : W p l e R s m args below meth c H locs cells slots Q (F0 m x.handlerPc ls [.ref q])) : vx_W p l e R s m args below meth c H locs cells slots Q (F0 m pc ls rest) q := by
  intro T hT X
  have hpl : e.platform.magicAccessors = ({} : Platform).magicAccessors := by rw [X.admits.platform]
  obtain ⟨c3, c4, hc3, hc4, hasg⟩ := Cond.castable_spec hcast
  cases Option.some.inj (hc3.symm.trans hcl)
  obtain ⟨c5, hc5, hcl5⟩ := Cond.classLink_spec hown hlink e.platform hpl
  cases Option.some.inj (hc4.symm.trans hc5)
  obtain ⟨vm', X', st⟩ := X.thenCaughtThrough q (g := F0 m pc ls rest) rfl (Steps.refl _) (by rw [hT]; exact hcell) (by rw [hv]; rfl) (by obtain ⟨k9, h9, -⟩ := Vm.findClass_spec hcl; exact ⟨k9, h9⟩) pre x suf hsplit
    (fun z hz => by
      rcases hpass z hz with h | ⟨hz0, nm, hl1, hn1⟩
      · exact Or.inl h
      · obtain ⟨c6, hc6, hcl6⟩ := Cond.classLink_spec hown hl1 e.platform hpl
        obtain ⟨a8, b8, h1, h2, h3⟩ := hn1
        cases Option.some.inj (h1.symm.trans hcl)
        cases Option.some.inj (h2.symm.trans hc6)
        exact Or.inr ⟨hz0, _, hcl6, h3⟩) hx (Or.inr ⟨h0, c4, hcl5, hasg⟩)
  obtain ⟨t, a1, b1⟩ := kk (T.setVm vm') hT X'
  exact ⟨t, st.trans a1, b1⟩
end Rows
section Ends
variable {p : Program} {l : Launch} {e : Env} {R : Room} {s : State} {m : MethodId} {args : Array Value} {below : List Frame} {meth : Method} {c : Code} {H : Heap} {locs : List Loc} {cells slots : Nat} {Q : State → Prop}
variable {mc ms : Nat} {free : Addr → Prop} {A0 A1 : Nat → Prop} {H0 : Heap} {a : Array Value} {ls : Array Slot} {st0 rest : List Value}
variable {Qc : Array Value → State → Outcome → State → Prop} {XC : String → State → State → Prop}
/-- what a body that may throw owes at its end -/
def vx_MQ (below : List Frame) (Qc : Array Value → State → Outcome → State → Prop) (XC : String → State → State → Prop) (a : Array Value) (s : State) (mc ms : Nat) (free : Addr → Prop) : State → Prop := fun t =>
  ∃ o, t.status = .running ∧ Ended t below o ∧ vx_Q Qc XC mc ms free a s o t
theorem vx_ret {g : JFrame} {mc ms : Nat} (k : W p l e R s m args below meth c H locs cells slots (MQ below Qc args s mc ms free) g) : W p l e R s m args below meth c H locs cells slots (vx_MQ below Qc XC args s mc ms free) g := by
  intro T hT X
  obtain ⟨t, a1, o, b1, b2, b3, b4⟩ := k T hT X
  exact ⟨t, a1, o, b1, b2, Or.inl ⟨b3, b4⟩⟩
/-- not caught here: it goes on to the caller -/
theorem vx_widen {g : JFrame} {q : Addr} {k n : Nat} (h1 : cells ≤ k) (h2 : slots ≤ n) (kk : vx_W p l e R s m args below meth c H locs k n Q g q) : vx_W p l e R s m args below meth c H locs cells slots Q g q := fun T hT X => kk T hT (stand_widen X h1 h2)
theorem vx_out {pc : Nat} {E : String} {ce : Cell} {q : Addr} {mc ms : Nat} (hout : ∀ x ∈ c.exceptionTable.toList, covers x pc = false) (hlocks : meth.locks = false) (hcell : H[q]? = some ce) (hv : ce.vm = .none) (hcl : s.vm.findClass E = some ce.cls)
    (hx : ∀ t : State, t.heap = H → s.vm.Alike t.vm → XC E s t) (hf : ∀ z ∈ locs, free z.base) (hc : cells ≤ mc) (hs : slots ≤ ms) :
    vx_W p l e R s m args below meth c H locs cells slots (vx_MQ below Qc XC args s mc ms free) (F0 m pc ls rest) q := by
  intro T hT X
  obtain ⟨st1, hrun, hend, hW, hsm⟩ := X.leaveThrown q (g := F0 m pc ls rest) rfl rfl rfl hout hlocks
  have hcell9 : (T.setFrames (.throwing q :: below)).heap[q]? = some ce := by
    show T.heap[q]? = some ce
    rw [hT]; exact hcell
  exact ⟨_, st1, .threw q, hrun, hend, Or.inr ⟨q, rfl, E, ce, locs, hx _ hT hW.alike, hcell9, hv, hcl, hW, hsm.mono hc hs, hf⟩⟩
theorem vx_frame {U : State} {k n : Nat} (h : s.sameButNew ({ U with vm := s.vm } : State) locs k n) : s.heap.size ≤ U.heap.size ∧ ∀ q : Nat, q < s.heap.size → (∀ z ∈ locs, z.base ≠ q) → U.heap[q]? = s.heap[q]? := by
  obtain ⟨-, h2, -, -, -, h6⟩ := h
  refine ⟨h2, fun q hq hz => ?_⟩
  obtain ⟨c9, e1, e2, e3, e4⟩ := h6 q _ (Array.getElem?_eq_getElem hq)
  have hs : c9.slots = (s.heap[q]).slots := Array.ext_getElem? fun i => e4 i fun hm => hz _ hm rfl
  have h9 : c9 = s.heap[q] := by
    rw [hs] at e2
    exact e2
  have e5 : U.heap[q]? = some c9 := e1
  rw [e5, h9, Array.getElem?_eq_getElem hq]
/-- the words of a throw but the four that speak of the heap -/
def vx_no (w : Cond) : Bool := decide (w ≠ .isRef (.static Bundle.tN "UNASSIGNED_STACK" Bundle.steD)) && decide (w ≠ .isRef (.static Bundle.tN "SUPPRESSED_SENTINEL" Bundle.listD)) && decide (w ≠ .laysStatic Bundle.tN "UNASSIGNED_STACK" Bundle.steD) && decide (w ≠ .laysStatic Bundle.tN "SUPPRESSED_SENTINEL" Bundle.listD)
def vx_at0 (own : String) (ic : Nat) (X : String) (names : List String) : List Cond := (Bundle.ownAtoms0 own ic X names).filter vx_no
def vx_atS (own : String) (ic : Nat) (X : String) (names : List String) : List Cond := (Bundle.ownAtoms own ic X names).filter vx_no
/-- a word that the tables alone decide, or a good one -/
def vx_ot (w : Cond) : Bool := w.onTables || goodWord w
theorem vx_ot_at {args a' : Array Value} {s U : State} {w : Cond} (hW : s.WarmedH U.vm) (hvm : s.vm = U.vm) (hg : vx_ot w = true) (h : w.before args s = true) : w.before a' U = true := by
  simp only [vx_ot, Bool.or_eq_true] at hg
  rcases hg with hg | hg
  · exact va_tabs hg hvm h
  · exact word_at hW (good_of_word hg) h
/-- a list's words: the good ones out of the method's own list, the others by premises of their own -/
theorem vx_hat {args : Array Value} {s : State} {L B : List Cond} (h1 : ∀ w ∈ L.filter goodWord, w.before args s = true) (h2 : ∀ w ∈ L.filter (fun w => !goodWord w), w ∈ B) (h3 : ∀ w ∈ B, w.before args s = true) : ∀ w ∈ L, w.before args s = true := by
  intro w hw
  by_cases g : goodWord w = true
  · exact h1 w (List.mem_filter.mpr ⟨hw, g⟩)
  · refine h3 w (h2 w (List.mem_filter.mpr ⟨hw, ?_⟩))
    show (!goodWord w) = true
    cases hgw : goodWord w
    · rfl
    · exact absurd hgw g
theorem vx_c {args : Array Value} {s : State} {w : Cond} {B : List Cond} (h : w.before args s = true) (t : ∀ w ∈ B, w.before args s = true) : ∀ w' ∈ w :: B, w'.before args s = true := fun w' h' => (List.mem_cons.mp h').elim (fun e => by rw [e]; exact h) (t w')
theorem vx_n {args : Array Value} {s : State} : ∀ w ∈ ([] : List Cond), w.before args s = true := fun _ h => nomatch h
theorem vx_own {args : Array Value} {s : State} {L : List Cond} (h1 : ∀ w ∈ L.filter vx_no, w.before args s = true)
    (hU : (Cond.isRef (.static Bundle.tN "UNASSIGNED_STACK" Bundle.steD)).before args s = true) (hN : (Cond.isRef (.static Bundle.tN "SUPPRESSED_SENTINEL" Bundle.listD)).before args s = true)
    (lU : (Cond.laysStatic Bundle.tN "UNASSIGNED_STACK" Bundle.steD).before args s = true) (lN : (Cond.laysStatic Bundle.tN "SUPPRESSED_SENTINEL" Bundle.listD).before args s = true) : ∀ w ∈ L, w.before args s = true := by
  intro w hw
  by_cases e1 : w = .isRef (.static Bundle.tN "UNASSIGNED_STACK" Bundle.steD)
  · rw [e1]; exact hU
  · by_cases e2 : w = .isRef (.static Bundle.tN "SUPPRESSED_SENTINEL" Bundle.listD)
    · rw [e2]; exact hN
    · by_cases e3 : w = .laysStatic Bundle.tN "UNASSIGNED_STACK" Bundle.steD
      · rw [e3]; exact lU
      · by_cases e4 : w = .laysStatic Bundle.tN "SUPPRESSED_SENTINEL" Bundle.listD
        · rw [e4]; exact lN
        · exact h1 w (List.mem_filter.mpr ⟨hw, by unfold vx_no; rw [decide_eq_true e1, decide_eq_true e2, decide_eq_true e3, decide_eq_true e4]; rfl⟩)
/-- where a static field lies, its class's statics cell in H -/
def vx_L (C n d : String) (A : Nat → Prop) (U : State) (H : Heap) : Prop := ∃ (c : ClassId) (k : Class) (i : Nat) (f : Field) (a : Nat) (cell : Cell), U.vm.findClass C = some c ∧ U.fieldFound? C n d = some (c, k, i, f) ∧ f.isStatic = true ∧ k.statics = some a ∧ H[a]? = some cell ∧ cell.vm.isStatics = true ∧ cell.cls = c ∧ f.slot < cell.slots.size ∧ k.staticTypes[f.slot]? = some f.type ∧ ¬ A a
theorem vx_L.moved {C n d : String} {A : Nat → Prop} {u U : State} {H : Heap} (hvm : u.vm.Alike U.vm) (h : vx_L C n d A u H) : vx_L C n d A U H := by
  obtain ⟨c, k, i, f, a, cell, h1, h2, h3, h4, h5, h6, h7, h8, h9, h10⟩ := h
  obtain ⟨k', hi', he⟩ := State.fieldFound?_setVm hvm h2
  exact ⟨c, k', i, f, a, cell, by rw [hvm.findClass]; exact h1, hi', h3, by rw [he]; exact h4, h5, h6, h7, h8, by rw [he]; exact h9, h10⟩
theorem vx_L.kept {C n d : String} {A : Nat → Prop} {U : State} {H H1 : Heap} (h : vx_L C n d A U H) (hq : ∀ a : Nat, a < H.size → ¬ A a → H1[a]? = H[a]?) : vx_L C n d A U H1 := by
  obtain ⟨c, k, i, f, a, cell, h1, h2, h3, h4, h5, h6, h7, h8, h9, h10⟩ := h
  exact ⟨c, k, i, f, a, cell, h1, h2, h3, h4, by rw [hq a (Array.getElem?_eq_some_iff.mp h5).1 h10]; exact h5, h6, h7, h8, h9, h10⟩
theorem vx_L.narrow {C n d : String} {A B : Nat → Prop} {U : State} {H : Heap} (h : vx_L C n d A U H) (hAB : ∀ q, B q → A q) : vx_L C n d B U H := by
  obtain ⟨c, k, i, f, a, cell, h1, h2, h3, h4, h5, h6, h7, h8, h9, h10⟩ := h
  exact ⟨c, k, i, f, a, cell, h1, h2, h3, h4, h5, h6, h7, h8, h9, fun z => h10 (hAB _ z)⟩
theorem vx_L.word {C n d : String} {A : Nat → Prop} {s : State} {args : Array Value} (h : vx_L C n d A s s.heap) : (Cond.laysStatic C n d).before args s = true := by
  obtain ⟨c, k, i, f, a, cell, h1, h2, h3, h4, h5, h6, h7, h8, h9, -⟩ := h
  show (Cond.laysStatic C n d).holds args s none s [] = true
  exact Cond.laysStatic_of h1 h2 h3 h4 h5 h6 h7 h8 h9
/-- .. and what it holds: null or some reference -/
def vx_Zq (C n d : String) (A : Nat → Prop) (U : State) (H : Heap) : Prop := va_Zq C n d A U H ∧ vx_L C n d A U H
theorem vx_Zq.moved {C n d : String} {A : Nat → Prop} {u U : State} {H : Heap} (hvm : u.vm.Alike U.vm) (h : vx_Zq C n d A u H) : vx_Zq C n d A U H := ⟨va_Zq.moved hvm h.1, vx_L.moved hvm h.2⟩
theorem vx_Zq.kept {C n d : String} {A : Nat → Prop} {U : State} {H H1 : Heap} (h : vx_Zq C n d A U H) (hq : ∀ a : Nat, a < H.size → ¬ A a → H1[a]? = H[a]?) : vx_Zq C n d A U H1 := ⟨va_Zq.kept h.1 hq, vx_L.kept h.2 hq⟩
theorem vx_Zq.narrow {C n d : String} {A B : Nat → Prop} {U : State} {H : Heap} (h : vx_Zq C n d A U H) (hAB : ∀ q, B q → A q) : vx_Zq C n d B U H := ⟨va_Zq.narrow h.1 hAB, vx_L.narrow h.2 hAB⟩
theorem vx_Zqof {args : Array Value} {s : State} {C n d : String} {A : Nat → Prop} (hl : (Cond.laysStatic C n d).before args s = true) (hini : (Cond.initialized C).before args s = true) (h : (Cond.isRef (.static C n d)).before args s = true) (hA : ∀ a : Nat, a < s.heap.size → ¬ A a) : vx_Zq C n d A s s.heap := by
  refine ⟨va_Zqof hl hini h hA, ?_⟩
  obtain ⟨c, k, i, f, a, cell, h1, h2, h3, h4, h5, h6, h7, h8, h9⟩ := Cond.laysStatic_spec hl
  exact ⟨c, k, i, f, a, cell, h1, h2, h3, h4, h5, h6, h7, h8, h9, hA a (Array.getElem?_eq_some_iff.mp h5).1⟩
theorem vx_isRef {C n d : String} {v : Value} {A : Nat → Prop} {s : State} {args : Array Value} (h : va_Z C n d v A s s.heap) (hv : v.isRef = true) : (Cond.isRef (.static C n d)).before args s = true := by
  obtain ⟨cf, kf, fi, f, a, cell, h1, h2, h3, h4, h5, h6, h7, -⟩ := h
  have he : (Term.static C n d).eval args s none [] s = some v := by
    simp [Term.eval, State.fieldNamed?, h1, h2, h4, h5, h6, h7]
  simp only [Cond.before, Cond.holds, Cond.value, he]
  cases v <;> simp_all [Value.isRef]
theorem vx_isRefq {C n d : String} {A : Nat → Prop} {s : State} {args : Array Value} (h : va_Zq C n d A s s.heap) : (Cond.isRef (.static C n d)).before args s = true := by
  rcases h with h | ⟨t, h⟩
  · exact vx_isRef h rfl
  · exact vx_isRef h rfl
/-- the same frame, seen from here: as if the method were called anew in this heap -/
theorem vx_rebase {T : State} (X : Stand p l e R s m args below meth c T locs cells slots) {R' : Room} (hf : R'.frames ≤ R.frames) (hl : R'.locals ≤ R.locals) (hc : cells + R'.cells ≤ R.cells) (hs : slots + R'.slots ≤ R.slots) :
    Stand p l e R' ((T.setVm s.vm).setFrames (.invoking m args :: below)) m args below meth c T [] 0 0 := by
  have htop : (T.setVm s.vm).topJava?.isSome := X.here.top
  have hF : ((T.setVm s.vm).setFrames (.invoking m args :: below)).frames = .invoking m args :: below := State.frames_setFrames _ (State.cur_lt_of_top htop)
  obtain ⟨g₀, hg0⟩ := Option.isSome_iff_exists.mp htop
  obtain ⟨r, hr⟩ := State.topJava?_eq_some.mp hg0
  have hl9 : e.platform.stackLimits (T.setVm s.vm).me = e.platform.stackLimits s.me := X.limits
  have hb9 : (T.setVm s.vm).me.stackBytes = s.me.stackBytes := X.bytes
  refine ⟨X.admits, X.cas, X.clock, hF, ?_, X.hears, X.method, X.code, X.here, X.tail, X.warmed, ?_, ?_, ?_⟩
  · have h := X.room
    have hU : ((T.setVm s.vm).setFrames (.invoking m args :: below)).localsInUse = s.localsInUse := by
      rw [State.localsInUse_invoking hF (meth := meth) (c := c) X.method X.code, State.localsInUse_invoking X.frames X.method X.code]
    simp only [State.hasRoom, Bool.and_eq_true, decide_eq_true_eq] at h ⊢
    obtain ⟨⟨⟨⟨h1, h2, h3, h4, h5, h6⟩, h7⟩, h8⟩, h9⟩ := h
    rw [X.frames, List.length_cons] at h2 h3
    have q1 := X.heapSize
    have q2 := X.used
    simp only [hF, hU, List.length_cons, State.stackLimits_setFrames, State.stackBytes_setFrames, hl9, hb9]
    refine ⟨⟨⟨⟨by omega, by omega, by omega, by omega, by omega, h6⟩, ?_⟩, ?_⟩, X.book⟩
    · show T.heap.size + R'.cells ≤ e.platform.maxCells
      omega
    · show T.slotsUsed + R'.slots ≤ e.platform.maxSlots
      omega
  · rw [State.stackLimits_setFrames]; rfl
  · rw [State.stackBytes_setFrames]; rfl
  · refine ⟨?_, Nat.le_refl _, Nat.le_refl _, ?_, ?_, fun a c9 h9 => ⟨c9, h9, rfl, rfl, fun _ _ => rfl⟩⟩
    · obtain ⟨t, ht, -⟩ := State.frames_cons hr
      show T.setVm s.vm = { ((T.setVm s.vm).setFrames (.invoking m args :: below)).setFrames (T.setVm s.vm).frames with heap := T.heap, slotsUsed := T.slotsUsed }
      rw [State.setFrames_setFrames, State.setFrames_self ht]
      rfl
    · show T.slotsUsed = T.slotsUsed + ((T.heap.toList.drop T.heap.size).map (·.slots.size)).sum
      rw [List.drop_eq_nil_of_le (Nat.le_of_eq Array.length_toList)]
      rfl
    · show ((T.heap.toList.drop T.heap.size).map (·.slots.size)).sum ≤ 0
      rw [List.drop_eq_nil_of_le (Nat.le_of_eq Array.length_toList)]
      exact Nat.le_refl _
/-- 'throw new E()': new; dup; invokespecial; athrow -/
theorem vx_throw0 {cc : ByteArray} {pc : Nat} (hexec : p.tables.exec = Jvm.exec) (hb : c.code = cc) (hl : l.stackTraces = false) {own cls : String} {names : List String} {ik ic mc ms : Nat} {A : Nat → Prop}
    (hown : s.vm.findClass own = some m.cls) (hcls : Bundle.fit cls = true) (hnames : ∀ n ∈ names, Bundle.fit n = true)
    (hk : (Cond.classLink own ik cls).before args s = true) (hini : (Cond.initialized cls).before args s = true) (hat : ∀ w ∈ vx_at0 own ic cls names, w.before args s = true)
    (hgood : ∀ w ∈ Cond.classLink own ik cls :: Cond.initialized cls :: vx_at0 own ic cls names, vx_ot w = true)
    (hU : vx_Zq Bundle.tN "UNASSIGNED_STACK" Bundle.steD A s s.heap) (hN : vx_Zq Bundle.tN "SUPPRESSED_SENTINEL" Bundle.listD A s s.heap) (hS : va_S A s.heap H locs) (hsize : ls.size = c.maxLocals)
    (d0 : decode cc pc = .ok (.new ik, 3)) (d3 : decode cc (pc + 3) = .ok (.dup, 1)) (d4 : decode cc (pc + 4) = .ok (.invokespecial ic, 3)) (d7 : decode cc (pc + 7) = .ok (.athrow, 1))
    (hout : ∀ x ∈ c.exceptionTable.toList, covers x (pc + 7) = false)
    (hRframes : names.length + 3 < R.frames) (hRlocals : (rest.map fun v => v.category).sum + (13 * (names.length + 1) + 42) ≤ R.locals) (hRcells : cells + 1 ≤ R.cells) (hRslots : slots + 6 ≤ R.slots) (hlocks : meth.locks = false)
    (hx : ∀ t : State, s.vm.Alike t.vm → H.size ≤ t.heap.size → (∀ q : Nat, q < H.size → t.heap[q]? = H[q]?) → XC cls s t)
    (hf : ∀ z ∈ locs, free z.base) (hc : cells + 1 ≤ mc) (hs : slots + 6 ≤ ms) :
    W p l e R s m args below meth c H locs cells slots (vx_MQ below Qc XC args s mc ms free) (F0 m pc ls rest) := by
  intro T hT X
  have htr : e.platform.stackTraces = false := (show e.platform.stackTraces = l.stackTraces by rw [X.admits.platform]).trans hl
  have Y := vx_rebase X (R' := { frames := R.frames, locals := R.locals, cells := 1, slots := 6 }) (Nat.le_refl _) (Nat.le_refl _) hRcells hRslots
  obtain ⟨s', hA⟩ : ∃ z, z = (T.setVm s.vm).setFrames (.invoking m args :: below) := ⟨_, rfl⟩
  rw [← hA] at Y
  have hvm : s'.vm = s.vm := by rw [hA]; rfl
  have hhp : s'.heap = H := by rw [hA]; exact hT
  have hW0 : s.WarmedH s'.vm := by rw [hvm]; exact State.WarmedH.refl s
  have hat' : ∀ w ∈ vx_at0 own ic cls names, w.before args s' = true := fun w hw => vx_ot_at hW0 hvm.symm (hgood w (List.mem_cons_of_mem _ (List.mem_cons_of_mem _ hw))) (hat w hw)
  have hk' : (Cond.classLink own ik cls).before args s' = true := vx_ot_at hW0 hvm.symm (hgood _ List.mem_cons_self) hk
  have hini' : (Cond.initialized cls).before args s' = true := vx_ot_at hW0 hvm.symm (hgood _ (List.mem_cons_of_mem _ List.mem_cons_self)) hini
  have hU' : vx_Zq Bundle.tN "UNASSIGNED_STACK" Bundle.steD A s' s'.heap := by rw [hhp]; exact vx_Zq.moved hW0.alike (hU.kept hS.2.1)
  have hN' : vx_Zq Bundle.tN "SUPPRESSED_SENTINEL" Bundle.listD A s' s'.heap := by rw [hhp]; exact vx_Zq.moved hW0.alike (hN.kept hS.2.1)
  have h : ∀ w ∈ Bundle.ownAtoms0 own ic cls names, w.before args s' = true := vx_own hat' (vx_isRefq hU'.1) (vx_isRefq hN'.1) hU'.2.word hN'.2.word
  have hown' : s'.vm.findClass own = some m.cls := by rw [hvm]; exact hown
  have hins : (Cond.instantiable cls 6).before args s' = true := h _ (by simp [Bundle.ownAtoms0])
  obtain ⟨vm₁, cX, kX, hfX, hkX, -, -, X₁, st1⟩ := Y.newCold hexec (own := own) (C := cls) (index := ik) (n := 6) hown' hk' hins hini'
    (g := F0 m pc ls rest) rfl (by rw [hb]; exact d0) (Nat.le_refl _) (Nat.le_refl _)
  generalize hT1 : (T.setVm vm₁).pushCell { cls := cX, slots := kX.instanceTypes.map defaultValue, vm := .none } = T1 at X₁ st1
  have hcat : (Value.ref T.heap.size).category = 1 := rfl
  have hcellA : T1.heap[T.heap.size]? = some (freshCell cX kX) := by rw [← hT1]; exact State.heap_pushCell_size _ _
  have d3' : decode c.code (pc + 3) = .ok (.dup, 1) := by rw [hb]; exact d3
  obtain ⟨U, hsteps, hrun, hend, hW, hsame, ce, hce, hO⟩ := X₁.ctorThrow0 hexec htr (own := own) (cls := cls) (names := names) (ic := ic) hown' hcls hnames h (fun x hx => nomatch hx) hfX hkX hcellA (by rw [hhp, hT]; exact Nat.le_refl _)
    (g := { method := m, pc := pc + 4, locals := ls, stack := .ref T.heap.size :: .ref T.heap.size :: rest, locked := none }) rfl hsize rfl rfl (rest := rest) rfl
    (by rw [hb]; exact d4) (by rw [hb]; exact d7) hout hRframes (by simp only [List.map_cons, List.sum_cons, hcat]; omega) hlocks
  obtain ⟨f1, f2⟩ := vx_frame hsame
  rw [hhp] at f1 f2
  have hWs : s.WarmedH U.vm := State.WarmedH.trans hW0 hW
  have hcl : s.vm.findClass cls = some ce.cls := by
    have h9 := hO.cls
    rw [hvm] at h9
    exact h9
  have hall : s.sameButNew ({ U with vm := s.vm } : State) locs mc ms := by
    subst hA
    obtain ⟨e1, e2⟩ := hsame
    rw [State.setFrames_setFrames] at e1
    have h2 : (T.setVm s.vm).sameButNew ({ U with vm := s.vm } : State) [] (0 + 1) (0 + 6) := ⟨e1, e2⟩
    have h3 := X.same.trans h2
    rw [List.append_nil] at h3
    exact h3.mono hc hs
  refine ⟨U, ?_, .threw T.heap.size, hrun, hend, Or.inr ⟨T.heap.size, rfl, cls, ce, locs, hx U hWs.alike f1 (fun q hq => f2 q hq (fun z hz => nomatch hz)), hce, hO.vm, hcl, hWs, hall, hf⟩⟩
  refine st1 _ ?_
  show Steps p.tables e below (T1.setTop { method := m, pc := pc + 3, locals := ls, stack := .ref T.heap.size :: rest, locked := none }) _
  jvm_step X₁.here [X₁.here.top, hexec, d3', Value.category]
  exact hsteps
/-- 'throw new E("text")': new; dup; ldc; invokespecial; athrow -/
theorem vx_throwS {cc : ByteArray} {pc : Nat} (hexec : p.tables.exec = Jvm.exec) (hb : c.code = cc) (hl : l.stackTraces = false) {own cls text : String} {names : List String} {ik is ic mc ms sa : Nat} {A : Nat → Prop}
    (hown : s.vm.findClass own = some m.cls) (hcls : Bundle.fit cls = true) (hnames : ∀ n ∈ names, Bundle.fit n = true)
    (hk : (Cond.classLink own ik cls).before args s = true) (hini : (Cond.initialized cls).before args s = true) (hstr : vk_R own is text sa s) (hat : ∀ w ∈ vx_atS own ic cls names, w.before args s = true)
    (hgood : ∀ w ∈ Cond.classLink own ik cls :: Cond.initialized cls :: vx_atS own ic cls names, vx_ot w = true)
    (hU : vx_Zq Bundle.tN "UNASSIGNED_STACK" Bundle.steD A s s.heap) (hN : vx_Zq Bundle.tN "SUPPRESSED_SENTINEL" Bundle.listD A s s.heap) (hS : va_S A s.heap H locs) (hsize : ls.size = c.maxLocals)
    (d0 : decode cc pc = .ok (.new ik, 3)) (d3 : decode cc (pc + 3) = .ok (.dup, 1)) (d4 : decode cc (pc + 4) = .ok (.ldc is, 2)) (d6 : decode cc (pc + 6) = .ok (.invokespecial ic, 3)) (d9 : decode cc (pc + 9) = .ok (.athrow, 1))
    (hout : ∀ x ∈ c.exceptionTable.toList, covers x (pc + 9) = false)
    (hRframes : names.length + 3 < R.frames) (hRlocals : (rest.map fun v => v.category).sum + (13 * (names.length + 1) + 43) ≤ R.locals) (hRcells : cells + 1 ≤ R.cells) (hRslots : slots + 6 ≤ R.slots) (hlocks : meth.locks = false)
    (hx : ∀ t : State, s.vm.Alike t.vm → H.size ≤ t.heap.size → (∀ q : Nat, q < H.size → t.heap[q]? = H[q]?) → XC cls s t)
    (hf : ∀ z ∈ locs, free z.base) (hc : cells + 1 ≤ mc) (hs : slots + 6 ≤ ms) :
    W p l e R s m args below meth c H locs cells slots (vx_MQ below Qc XC args s mc ms free) (F0 m pc ls rest) := by
  intro T hT X
  have htr : e.platform.stackTraces = false := (show e.platform.stackTraces = l.stackTraces by rw [X.admits.platform]).trans hl
  have Y := vx_rebase X (R' := { frames := R.frames, locals := R.locals, cells := 1, slots := 6 }) (Nat.le_refl _) (Nat.le_refl _) hRcells hRslots
  obtain ⟨s', hA⟩ : ∃ z, z = (T.setVm s.vm).setFrames (.invoking m args :: below) := ⟨_, rfl⟩
  rw [← hA] at Y
  have hvm : s'.vm = s.vm := by rw [hA]; rfl
  have hhp : s'.heap = H := by rw [hA]; exact hT
  have hW0 : s.WarmedH s'.vm := by rw [hvm]; exact State.WarmedH.refl s
  have hat' : ∀ w ∈ vx_atS own ic cls names, w.before args s' = true := fun w hw => vx_ot_at hW0 hvm.symm (hgood w (List.mem_cons_of_mem _ (List.mem_cons_of_mem _ hw))) (hat w hw)
  have hk' : (Cond.classLink own ik cls).before args s' = true := vx_ot_at hW0 hvm.symm (hgood _ List.mem_cons_self) hk
  have hini' : (Cond.initialized cls).before args s' = true := vx_ot_at hW0 hvm.symm (hgood _ (List.mem_cons_of_mem _ List.mem_cons_self)) hini
  have hU' : vx_Zq Bundle.tN "UNASSIGNED_STACK" Bundle.steD A s' s'.heap := by rw [hhp]; exact vx_Zq.moved hW0.alike (hU.kept hS.2.1)
  have hN' : vx_Zq Bundle.tN "SUPPRESSED_SENTINEL" Bundle.listD A s' s'.heap := by rw [hhp]; exact vx_Zq.moved hW0.alike (hN.kept hS.2.1)
  have h : ∀ w ∈ Bundle.ownAtoms own ic cls names, w.before args s' = true := vx_own hat' (vx_isRefq hU'.1) (vx_isRefq hN'.1) hU'.2.word hN'.2.word
  have hown' : s'.vm.findClass own = some m.cls := by rw [hvm]; exact hown
  have hins : (Cond.instantiable cls 6).before args s' = true := h _ (by simp [Bundle.ownAtoms])
  obtain ⟨vm₁, cX, kX, hfX, hkX, -, -, X₁, st1⟩ := Y.newCold hexec (own := own) (C := cls) (index := ik) (n := 6) hown' hk' hins hini'
    (g := F0 m pc ls rest) rfl (by rw [hb]; exact d0) (Nat.le_refl _) (Nat.le_refl _)
  generalize hT1 : (T.setVm vm₁).pushCell { cls := cX, slots := kX.instanceTypes.map defaultValue, vm := .none } = T1 at X₁ st1
  have hcat : (Value.ref T.heap.size).category = 1 := rfl
  have hcellA : T1.heap[T.heap.size]? = some (freshCell cX kX) := by rw [← hT1]; exact State.heap_pushCell_size _ _
  have d3' : decode c.code (pc + 3) = .ok (.dup, 1) := by rw [hb]; exact d3
  have d4' : decode c.code (pc + 4) = .ok (.ldc is, 2) := by rw [hb]; exact d4
  have hstr' : vk_R own is text sa s' := vk_R.warm hW0 hstr
  obtain ⟨U, hsteps, hrun, hend, hW, hsame, ce, hce, hO⟩ := X₁.ctorThrowS hexec htr (own := own) (cls := cls) (names := names) (ic := ic) hown' hcls hnames h (fun x hx => nomatch hx) hfX hkX hcellA (by rw [hhp, hT]; exact Nat.le_refl _) (msg := .ref sa) rfl
    (g := { method := m, pc := pc + 6, locals := ls, stack := .ref sa :: .ref T.heap.size :: .ref T.heap.size :: rest, locked := none }) rfl hsize rfl rfl (rest := rest) rfl
    (by rw [hb]; exact d6) (by rw [hb]; exact d9) hout hRframes (by simp only [List.map_cons, List.sum_cons, hcat]; omega) hlocks
  obtain ⟨f1, f2⟩ := vx_frame hsame
  rw [hhp] at f1 f2
  have hWs : s.WarmedH U.vm := State.WarmedH.trans hW0 hW
  have hcl : s.vm.findClass cls = some ce.cls := by
    have h9 := hO.cls
    rw [hvm] at h9
    exact h9
  have hall : s.sameButNew ({ U with vm := s.vm } : State) locs mc ms := by
    subst hA
    obtain ⟨e1, e2⟩ := hsame
    rw [State.setFrames_setFrames] at e1
    have h2 : (T.setVm s.vm).sameButNew ({ U with vm := s.vm } : State) [] (0 + 1) (0 + 6) := ⟨e1, e2⟩
    have h3 := X.same.trans h2
    rw [List.append_nil] at h3
    exact h3.mono hc hs
  refine ⟨U, ?_, .threw T.heap.size, hrun, hend, Or.inr ⟨T.heap.size, rfl, cls, ce, locs, hx U hWs.alike f1 (fun q hq => f2 q hq (fun z hz => nomatch hz)), hce, hO.vm, hcl, hWs, hall, hf⟩⟩
  refine st1 _ ?_
  show Steps p.tables e below (T1.setTop { method := m, pc := pc + 3, locals := ls, stack := .ref T.heap.size :: rest, locked := none }) _
  jvm_step X₁.here [X₁.here.top, hexec, d3', Value.category]
  exact X₁.ldcString hexec (own := own) (text := text) (index := is) (a := sa) hown' hstr'.1 hstr'.2
    (g := { method := m, pc := pc + 4, locals := ls, stack := .ref T.heap.size :: .ref T.heap.size :: rest, locked := none }) rfl d4' _ hsteps
/-- 'throw new E("text")', the text by a wide index -/
theorem vx_throwSW {cc : ByteArray} {pc : Nat} (hexec : p.tables.exec = Jvm.exec) (hb : c.code = cc) (hl : l.stackTraces = false) {own cls text : String} {names : List String} {ik is ic mc ms sa : Nat} {A : Nat → Prop}
    (hown : s.vm.findClass own = some m.cls) (hcls : Bundle.fit cls = true) (hnames : ∀ n ∈ names, Bundle.fit n = true)
    (hk : (Cond.classLink own ik cls).before args s = true) (hini : (Cond.initialized cls).before args s = true) (hstr : vk_R own is text sa s) (hat : ∀ w ∈ vx_atS own ic cls names, w.before args s = true)
    (hgood : ∀ w ∈ Cond.classLink own ik cls :: Cond.initialized cls :: vx_atS own ic cls names, vx_ot w = true)
    (hU : vx_Zq Bundle.tN "UNASSIGNED_STACK" Bundle.steD A s s.heap) (hN : vx_Zq Bundle.tN "SUPPRESSED_SENTINEL" Bundle.listD A s s.heap) (hS : va_S A s.heap H locs) (hsize : ls.size = c.maxLocals)
    (d0 : decode cc pc = .ok (.new ik, 3)) (d3 : decode cc (pc + 3) = .ok (.dup, 1)) (d4 : decode cc (pc + 4) = .ok (.ldc_w is, 3)) (d7 : decode cc (pc + 7) = .ok (.invokespecial ic, 3)) (d10 : decode cc (pc + 10) = .ok (.athrow, 1))
    (hout : ∀ x ∈ c.exceptionTable.toList, covers x (pc + 10) = false)
    (hRframes : names.length + 3 < R.frames) (hRlocals : (rest.map fun v => v.category).sum + (13 * (names.length + 1) + 43) ≤ R.locals) (hRcells : cells + 1 ≤ R.cells) (hRslots : slots + 6 ≤ R.slots) (hlocks : meth.locks = false)
    (hx : ∀ t : State, s.vm.Alike t.vm → H.size ≤ t.heap.size → (∀ q : Nat, q < H.size → t.heap[q]? = H[q]?) → XC cls s t)
    (hf : ∀ z ∈ locs, free z.base) (hc : cells + 1 ≤ mc) (hs : slots + 6 ≤ ms) :
    W p l e R s m args below meth c H locs cells slots (vx_MQ below Qc XC args s mc ms free) (F0 m pc ls rest) := by
  intro T hT X
  have htr : e.platform.stackTraces = false := (show e.platform.stackTraces = l.stackTraces by rw [X.admits.platform]).trans hl
  have Y := vx_rebase X (R' := { frames := R.frames, locals := R.locals, cells := 1, slots := 6 }) (Nat.le_refl _) (Nat.le_refl _) hRcells hRslots
  obtain ⟨s', hA⟩ : ∃ z, z = (T.setVm s.vm).setFrames (.invoking m args :: below) := ⟨_, rfl⟩
  rw [← hA] at Y
  have hvm : s'.vm = s.vm := by rw [hA]; rfl
  have hhp : s'.heap = H := by rw [hA]; exact hT
  have hW0 : s.WarmedH s'.vm := by rw [hvm]; exact State.WarmedH.refl s
  have hat' : ∀ w ∈ vx_atS own ic cls names, w.before args s' = true := fun w hw => vx_ot_at hW0 hvm.symm (hgood w (List.mem_cons_of_mem _ (List.mem_cons_of_mem _ hw))) (hat w hw)
  have hk' : (Cond.classLink own ik cls).before args s' = true := vx_ot_at hW0 hvm.symm (hgood _ List.mem_cons_self) hk
  have hini' : (Cond.initialized cls).before args s' = true := vx_ot_at hW0 hvm.symm (hgood _ (List.mem_cons_of_mem _ List.mem_cons_self)) hini
  have hU' : vx_Zq Bundle.tN "UNASSIGNED_STACK" Bundle.steD A s' s'.heap := by rw [hhp]; exact vx_Zq.moved hW0.alike (hU.kept hS.2.1)
  have hN' : vx_Zq Bundle.tN "SUPPRESSED_SENTINEL" Bundle.listD A s' s'.heap := by rw [hhp]; exact vx_Zq.moved hW0.alike (hN.kept hS.2.1)
  have h : ∀ w ∈ Bundle.ownAtoms own ic cls names, w.before args s' = true := vx_own hat' (vx_isRefq hU'.1) (vx_isRefq hN'.1) hU'.2.word hN'.2.word
  have hown' : s'.vm.findClass own = some m.cls := by rw [hvm]; exact hown
  have hins : (Cond.instantiable cls 6).before args s' = true := h _ (by simp [Bundle.ownAtoms])
  obtain ⟨vm₁, cX, kX, hfX, hkX, -, -, X₁, st1⟩ := Y.newCold hexec (own := own) (C := cls) (index := ik) (n := 6) hown' hk' hins hini'
    (g := F0 m pc ls rest) rfl (by rw [hb]; exact d0) (Nat.le_refl _) (Nat.le_refl _)
  generalize hT1 : (T.setVm vm₁).pushCell { cls := cX, slots := kX.instanceTypes.map defaultValue, vm := .none } = T1 at X₁ st1
  have hcat : (Value.ref T.heap.size).category = 1 := rfl
  have hcellA : T1.heap[T.heap.size]? = some (freshCell cX kX) := by rw [← hT1]; exact State.heap_pushCell_size _ _
  have d3' : decode c.code (pc + 3) = .ok (.dup, 1) := by rw [hb]; exact d3
  have d4' : decode c.code (pc + 4) = .ok (.ldc_w is, 3) := by rw [hb]; exact d4
  have hstr' : vk_R own is text sa s' := vk_R.warm hW0 hstr
  obtain ⟨U, hsteps, hrun, hend, hW, hsame, ce, hce, hO⟩ := X₁.ctorThrowS hexec htr (own := own) (cls := cls) (names := names) (ic := ic) hown' hcls hnames h (fun x hx => nomatch hx) hfX hkX hcellA (by rw [hhp, hT]; exact Nat.le_refl _) (msg := .ref sa) rfl
    (g := { method := m, pc := pc + 7, locals := ls, stack := .ref sa :: .ref T.heap.size :: .ref T.heap.size :: rest, locked := none }) rfl hsize rfl rfl (rest := rest) rfl
    (by rw [hb]; exact d7) (by rw [hb]; exact d10) hout hRframes (by simp only [List.map_cons, List.sum_cons, hcat]; omega) hlocks
  obtain ⟨f1, f2⟩ := vx_frame hsame
  rw [hhp] at f1 f2
  have hWs : s.WarmedH U.vm := State.WarmedH.trans hW0 hW
  have hcl : s.vm.findClass cls = some ce.cls := by
    have h9 := hO.cls
    rw [hvm] at h9
    exact h9
  have hall : s.sameButNew ({ U with vm := s.vm } : State) locs mc ms := by
    subst hA
    obtain ⟨e1, e2⟩ := hsame
    rw [State.setFrames_setFrames] at e1
    have h2 : (T.setVm s.vm).sameButNew ({ U with vm := s.vm } : State) [] (0 + 1) (0 + 6) := ⟨e1, e2⟩
    have h3 := X.same.trans h2
    rw [List.append_nil] at h3
    exact h3.mono hc hs
  refine ⟨U, ?_, .threw T.heap.size, hrun, hend, Or.inr ⟨T.heap.size, rfl, cls, ce, locs, hx U hWs.alike f1 (fun q hq => f2 q hq (fun z hz => nomatch hz)), hce, hO.vm, hcl, hWs, hall, hf⟩⟩
  refine st1 _ ?_
  show Steps p.tables e below (T1.setTop { method := m, pc := pc + 3, locals := ls, stack := .ref T.heap.size :: rest, locked := none }) _
  jvm_step X₁.here [X₁.here.top, hexec, d3', Value.category]
  exact X₁.ldcStringW hexec (own := own) (text := text) (index := is) (a := sa) hown' hstr'.1 hstr'.2
    (g := { method := m, pc := pc + 4, locals := ls, stack := .ref T.heap.size :: .ref T.heap.size :: rest, locked := none }) rfl d4' _ hsteps
end Ends
section Bodies
variable {l : Launch}
theorem vx_ofW {y : MethodName} {ws ws' : List Cond} {rm : Room} {Pc : Array Value → State → Prop} {Qc : Array Value → State → Outcome → State → Prop} {XC : String → State → State → Prop} {mc ms : Nat} {free : Addr → Prop} {cc : ByteArray} {maxL : Nat} {ret : Option FieldType}
    (hy : plainName y.cls = true) (hw : ws = Cond.code y cc maxL ret :: ws')
    (body : ∀ p e s m args below meth c s₁, BodyLoose p l y (headSpec ws rm) cc maxL ret e s m args below meth c s₁ → c.maxLocals = maxL → (∀ x ∈ c.exceptionTable.toList, False) → Pc args s →
      W p l e (headSpec ws rm).room s m args below meth c s.heap [] 0 0 (vx_MQ below Qc XC args s mc ms free) (entryFrame m args maxL)) : vx_Met l y ws rm Pc Qc XC mc ms free := by
  refine MetFree.of_bodyS (code := cc) (maxLocals := maxL) (ret := ret) hy ?_ ?_
  · intro args s m h hn
    obtain ⟨meth, c, h1, h2, h3, h4, h5, h6, -, -⟩ := Cond.code_spec hn (atoms_spec (ws := ws) h _ (by rw [hw]; exact List.mem_cons_self))
    exact ⟨meth, c, h1, h2, h3, h4, h5, h6⟩
  · intro p e s m args below meth c s₁ B hml hP _
    have hh0 : s₁.heap = s.heap := by rw [B.state]; rfl
    have ht : ∀ x ∈ c.exceptionTable.toList, False := by
      obtain ⟨meth9, c9, h1, h2, -, -, -, -, h7, -⟩ := Cond.code_spec B.named (atoms_spec (ws := ws) B.pre _ (by rw [hw]; exact List.mem_cons_self))
      cases Option.some.inj (h1.symm.trans B.method)
      cases Option.some.inj (h2.symm.trans (Stand.of_body B).code)
      intro x hx
      rw [Array.isEmpty_iff.mp h7] at hx
      cases hx
    obtain ⟨t, a1, o, b1, b2, b3⟩ := body p e s m args below meth c s₁ B hml ht hP s₁ hh0 (Stand.of_body B)
    exact ⟨t, o, a1, b1, b2, b3⟩
/-- the table of a body with handlers -/
theorem vx_table {p : Program} {x y : MethodName} {S : Spec} {cc bytes : ByteArray} {maxL maxL' : Nat} {ret ret' : Option FieldType} {e : Env} {s s₁ : State} {m : MethodId} {args : Array Value} {below : List Frame} {meth : Method} {c : Code} {hh : List (Nat × Nat × Nat × Nat)}
    (B : BodyLoose p l y S cc maxL ret e s m args below meth c s₁) (h : (Cond.codeWith y bytes maxL' ret' hh).before args s = true) : c.exceptionTable.toList = tableOf hh := by
  obtain ⟨m9, meth9, c9, hn9, h1, h2, -, -, h6, -⟩ := Cond.codeWith_spec h
  cases Option.some.inj (hn9.symm.trans B.named)
  cases Option.some.inj (h1.symm.trans B.method)
  cases Option.some.inj (h2.symm.trans (Stand.of_body B).code)
  rw [← h6, table_eq]
end Bodies
end VXA
/-! ===== END ===== -/
/-! ===== BEGIN a static call of a method with an exception table ===== -/
section VXS
variable {p : Program} {l : Launch} {e : Env} {R : Room} {s : State} {m : MethodId} {args : Array Value} {below : List Frame} {meth : Method} {c : Code} {T : State} {H : Heap} {locs : List Loc} {cells slots : Nat}
abbrev vx_CSW (R : Room) (s : State) (args : Array Value) (own : String) (index : Nat) (y : MethodName) (bytes : ByteArray) (maxL : Nat) (ret : Option FieldType) (hh : List (Nat × Nat × Nat × Nat)) (ws : List Cond) (rm : Room) (mc ms n : Nat) : Prop :=
  (rm.cells = mc ∧ rm.slots = ms ∧ rm.frames + 1 ≤ R.frames ∧ 8 + (maxL + 11) + rm.locals ≤ R.locals ∧ (∀ w ∈ ws, ∀ (a' : Array Value) (U : State), s.WarmedH U.vm → w.before a' U = true) ∧ Cond.codeWith y bytes maxL ret hh ∈ ws) ∧
  (Cond.codeWith y bytes maxL ret hh).before args s = true ∧ (Cond.initialized y.cls).before args s = true ∧ (y.cls ≠ "java/lang/invoke/MethodHandle" ∧ y.cls ≠ "java/lang/invoke/VarHandle") ∧
  (∀ sig, parseMethodDescriptor y.desc = some sig → n = sig.parameters.length) ∧ (Cond.methodLink own index y).before args s = true ∧ (Cond.static y).before args s = true
theorem vx_cwSW {own : String} {index maxL mc ms : Nat} {y : MethodName} {bytes : ByteArray} {ret : Option FieldType} {hh : List (Nat × Nat × Nat × Nat)} {Ts ws ws' : List Cond} {rm : Room} (n : Nat) (ht : ∀ w ∈ Ts, w.before args s = true) (hT : GoodIn Ts (va_wsS own index y ws)) (hw : ws = Cond.codeWith y bytes maxL ret hh :: ws') (hrc : rm.cells = mc) (hrs : rm.slots = ms)
    (hd : y.cls ≠ "java/lang/invoke/MethodHandle" ∧ y.cls ≠ "java/lang/invoke/VarHandle" ∧ (parseMethodDescriptor y.desc).map (fun d => d.parameters.length) = some n) (hR : rm.frames + 1 ≤ R.frames ∧ 8 + (maxL + 11) + rm.locals ≤ R.locals) :
    vx_CSW R s args own index y bytes maxL ret hh ws rm mc ms n := by
  have ok : ∀ w ∈ va_wsS own index y ws, w.before args s = true := fun w h => ht w (hT w h).1
  have hG : GoodIn Ts ws := fun w h => hT w (by unfold va_wsS; exact List.mem_append_right _ h)
  have hc : Cond.codeWith y bytes maxL ret hh ∈ ws := by rw [hw]; exact List.mem_cons_self
  refine ⟨⟨hrc, hrs, hR.1, hR.2, pay_in ht hG, hc⟩, ht _ (hG _ hc).1, ok _ (by simp [va_wsS]), ⟨hd.1, hd.2.1⟩, fun sig h => ?_, ok _ (by simp [va_wsS]), ok _ (by simp [va_wsS])⟩
  have h2 := hd.2.2
  rw [h] at h2
  exact (Option.some.inj h2).symm
theorem vx_callSW (X : Stand p l e R s m args below meth c T locs cells slots) (hexec : p.tables.exec = Jvm.exec) {own : String} {index : Nat} {y : MethodName} {bytes : ByteArray} {maxL : Nat} {ret : Option FieldType} {hh : List (Nat × Nat × Nat × Nat)}
    (hown : s.vm.findClass own = some m.cls) (hlink : (Cond.methodLink own index y).before args s = true) (hstat : (Cond.static y).before args s = true) (hinit : (Cond.initialized y.cls).before args s = true)
    (hcode : (Cond.codeWith y bytes maxL ret hh).before args s = true) (hy : y.cls ≠ "java/lang/invoke/MethodHandle" ∧ y.cls ≠ "java/lang/invoke/VarHandle")
    {W9 : Nat} {Pre : Pt → Array Value → Prop} {Post : Pt → Array Value → Option Value → Pt → Prop} (hK : Back l R p e below s args y 3 W9 Pre Post)
    {g : JFrame} (hg : g.method = m) (hsize : g.locals.size = c.maxLocals) {argsL rest : List Value} (hlen : ∀ sig, parseMethodDescriptor y.desc = some sig → argsL.length = sig.parameters.length)
    (hstack : g.stack = argsL.reverse ++ rest) (hW : 2 * g.monitorRoom + (rest.map fun v => v.category).sum ≤ W9) (hdg : decode c.code g.pc = .ok (.invokestatic index, 3))
    (hpre : ∀ vm₁, s.WarmedH vm₁ → Pre ⟨T.setVm vm₁, locs, cells, slots⟩ argsL.toArray) :
    ∃ (v : Option Value) (vm₁ : Vm) (B : Pt), s.WarmedH vm₁ ∧ Stand p l e R s m args below meth c B.U B.locs B.cells B.slots ∧ Post ⟨T.setVm vm₁, locs, cells, slots⟩ argsL.toArray v B ∧
      ∀ target, Steps p.tables e below (B.U.setTop { g with pc := g.pc + 3, stack := v.toList ++ rest }) target → Steps p.tables e below (T.setTop g) target := by
  obtain ⟨mk, methM, cM, hnamed, hmethM, -, -, -, -, -, -, hsigM⟩ := Cond.codeWith_spec hcode
  have hstatic : methM.isStatic = true := Cond.static_spec hnamed hmethM hstat
  obtain ⟨kP, hkP, -⟩ := className_of_methodNamed hnamed
  have hinitP : kP.init = .initialized := Cond.initialized_spec (findClass_of_methodNamed hnamed) hkP hinit
  obtain ⟨vm₁, X₁, hstep₁⟩ := X.invokestatic hexec hown hlink hnamed hmethM hstatic hkP hinitP hy (g := g) hg (argsL := argsL) (rest := rest) (hlen _ hsigM) hstack hdg
  obtain ⟨v, B, X', hpost, hsteps⟩ := hK m meth c ⟨T.setVm vm₁, locs, cells, slots⟩ { g with stack := rest } (.invokestatic index) mk argsL.toArray X₁ hg hsize hdg hW (X₁.named hnamed) (hpre vm₁ X₁.warmed)
  exact ⟨v, vm₁, B, X₁.warmed, X', hpost, fun target h => hstep₁ _ fun acts => by rw [doInvoke_state]; exact hsteps.trans h⟩
theorem vx_runSW {y : MethodName} {bytes cc : ByteArray} {maxL nL mc ms n index : Nat} {ret : Option FieldType} {hh : List (Nat × Nat × Nat × Nat)} {ws : List Cond} {rm : Room} {Pc : Array Value → State → Prop} {Qc : Array Value → State → Outcome → State → Prop} {free : Addr → Prop} {Ts : List Cond} {own : String} {As rest : List Value} {g : JFrame}
    (S : CallFix p m c cc nL s args Ts own) (hM : Met l y ws rm Pc Qc mc ms free) (cw : vx_CSW R s args own index y bytes maxL ret hh ws rm mc ms n) (hp : PreS s H Pc As)
    (hg : g.method = m) (hn : As.length = n) (hsize : g.locals.size = nL) (hstack : g.stack = As.reverse ++ rest) (hW : 2 * g.monitorRoom + (rest.map fun v => v.category).sum ≤ 8) (hdg : decode cc g.pc = .ok (.invokestatic index, 3)) (hf : cells + mc ≤ R.cells ∧ slots + ms ≤ R.slots) :
    va_Run p l e R s m args below meth c H locs cells slots mc ms g rest (Qc As.toArray) (free) := by
  obtain ⟨⟨hrc, hrs, hfr, hlo, hws, hcw⟩, hcode, hini, hy, hlen, hl, hstt⟩ := cw
  have hK : Back l R p e below s args y 3 8 (PreOf R mc ms Pc) (PostOf Qc mc ms free) := va_backW (hh := hh) (bytes := bytes) (maxL := maxL) (ret := ret) hM hp.1 hrc hrs hfr hlo hws hcw (fun a' U hW => word_at hW (Or.inl (by first | rfl | simp [Cond.onTables, Cond.keeps, Cond.steady])) hini)
  obtain ⟨hx, hb, hml, ho, -⟩ := S
  intro T hT X
  obtain ⟨v, vm₁, ⟨U', l2, c2, s2⟩, hW₁, X', ⟨g', mk, t, L, e1, e2, hq, h1, hL, h2, h3⟩, st⟩ := vx_callSW X hx (hh := hh) (bytes := bytes) (maxL := maxL) (ret := ret) ho hl hstt hini hcode hy hK hg (hsize.trans hml.symm) (argsL := As) (rest := rest) (fun sig h => hn.trans (hlen sig h)) hstack hW (by rw [hb]; exact hdg)
    (fun vm₁ hW₁ => ⟨hf.1, hf.2, hp.2 (T.setVm vm₁) hT hW₁⟩)
  dsimp only [Pt.U, Pt.locs, Pt.cells, Pt.slots] at X' e1 e2 h1 h2 h3 st
  subst h1; subst h2; subst h3
  exact ⟨v, (T.setVm vm₁).calling g' mk As.toArray, t, U', L, hT, X', hL, e1, e2, hq, st⟩
/-- not caught here, past rows that name other classes: it goes on to the caller -/
theorem vx_outP {p : Program} {l : Launch} {e : Env} {R : Room} {s : State} {m : MethodId} {args : Array Value} {below : List Frame} {meth : Method} {c : Code} {H : Heap} {locs : List Loc} {cells slots : Nat} {free : Addr → Prop} {ls : Array Slot} {rest : List Value} {Qc : Array Value → State → Outcome → State → Prop} {XC : String → State → State → Prop}
    {pc : Nat} {own E : String} {ce : Cell} {q : Addr} {mc ms : Nat} (hown : s.vm.findClass own = some m.cls) (hlocks : meth.locks = false)
    (hpass : ∀ z ∈ c.exceptionTable.toList, covers z pc = false ∨ (z.catchType ≠ 0 ∧ ∃ nm : String, (Cond.classLink own z.catchType nm).before args s = true ∧ va_Nc E nm s)) (hcell : H[q]? = some ce) (hv : ce.vm = .none) (hcl : s.vm.findClass E = some ce.cls)
    (hx : ∀ t : State, t.heap = H → s.vm.Alike t.vm → XC E s t) (hf : ∀ z ∈ locs, free z.base) (hc : cells ≤ mc) (hs : slots ≤ ms) :
    vx_W p l e R s m args below meth c H locs cells slots (vx_MQ below Qc XC args s mc ms free) (F0 m pc ls rest) q := by
  intro T hT X
  have hpl : e.platform.magicAccessors = ({} : Platform).magicAccessors := by rw [X.admits.platform]
  obtain ⟨vm', hW', X', st⟩ := X.outThrough hlocks q (g := F0 m pc ls rest) rfl rfl rfl (cell := ce) (by rw [hT]; exact hcell) (by rw [hv]; rfl)
    (by obtain ⟨k9, h9, -⟩ := Vm.findClass_spec hcl; exact ⟨k9, h9⟩) (fun z hz => by
      rcases hpass z hz with h | ⟨hz0, nm, hl1, hn1⟩
      · exact Or.inl h
      · obtain ⟨c6, hc6, hcl6⟩ := Cond.classLink_spec hown hl1 e.platform hpl
        obtain ⟨a8, b8, h1, h2, h3⟩ := hn1
        cases Option.some.inj (h1.symm.trans hcl)
        cases Option.some.inj (h2.symm.trans hc6)
        exact Or.inr ⟨hz0, _, hcl6, h3⟩)
  obtain ⟨g₀, hfr⟩ := X'.frames_eq
  have hcell9 : ((T.setVm vm').setFrames (.throwing q :: below)).heap[q]? = some ce := by
    show T.heap[q]? = some ce
    rw [hT]; exact hcell
  have hend : Ended ((T.setVm vm').setFrames (.throwing q :: below)) below (.threw q) := State.frames_setFrames _ (State.cur_lt_of_frames hfr)
  refine ⟨(T.setVm vm').setFrames (.throwing q :: below), ?_, .threw q, X'.here.running, hend, Or.inr ⟨q, rfl, E, ce, locs, hx _ hT (X'.ends _).1.alike, hcell9, hv, hcl, (X'.ends _).1, (X'.ends _).2.mono hc hs, hf⟩⟩
  rw [X.pushThrowing_eq]
  exact st
/-- a thing of a world lies in the heap -/
theorem vx_lt {D : va_G} {cl : List vw_C} {ws : va_W} {H1 : Heap} (h : va_P D cl ws H1) {k : Nat} {q : Nat × va_E} (hk : ws[k]? = some q) : q.1 < H1.size := (h k q hk).lt
end VXS
/-! ===== END ===== -/
/-! ===== BEGIN methods with a table of their own: called by a name, returning or throwing ===== -/
section VXH
/-! vx_backW, vx_callVX, vx_callSX, vx_callVW, vx_runVW, vx_runVX, vx_runSX, vx_ofWH follow the same proofs as their sisters above (Free/Laws.lean, Shelf42/LK1.lean); vx_outP calls Shelf42/NT130.lean (outThrough). -/
section
variable {l : Launch} {R : Room} {p : Program} {e : Env} {below : List Frame} {s : State} {sargs : Array Value} {y : MethodName} {len W9 : Nat}
theorem vx_backW {ws : List Cond} {rm : Room} {Pc : Array Value → State → Prop} {Qc : Array Value → State → Outcome → State → Prop} {XC : String → State → State → Prop} {mc ms : Nat} {free : Addr → Prop} {bytes : ByteArray} {maxL : Nat} {ret : Option FieldType} {hh : List (Nat × Nat × Nat × Nat)}
    (hM : vx_Met l y ws rm Pc Qc XC mc ms free) (hblind : FrameBlind Pc) (hrc : rm.cells = mc) (hrs : rm.slots = ms)
    (hframes : rm.frames + 1 ≤ R.frames) (hlocals : W9 + (maxL + 11) + rm.locals ≤ R.locals)
    (hws : ∀ w ∈ ws, ∀ a' U, s.WarmedH U.vm → w.before a' U = true) (hcode : Cond.codeWith y bytes maxL ret hh ∈ ws) (hinit : ∀ a' U, s.WarmedH U.vm → (Cond.initialized y.cls).before a' U = true) :
    vx_Back l R p e below s sargs y len W9 (PreOf R mc ms Pc) (PostOf Qc mc ms free) (vx_Post XC mc ms free) := by
  intro m meth c A g ig mk a X hg hsize hdg hW hn hp
  have h1 : (headSpec ws rm).pre.before a A.U = true := atoms_intro fun w hw => hws w hw _ _ X.warmed
  have h2 : (Cond.codeWith y bytes maxL ret hh).before a A.U = true := hws _ hcode _ _ X.warmed
  have h3 : (Cond.initialized y.cls).before a A.U = true := hinit _ _ X.warmed
  have h4 : A.cells + (headSpec ws rm).room.cells ≤ R.cells := by rw [show (headSpec ws rm).room.cells = mc from hrc]; exact hp.1
  have h5 : A.slots + (headSpec ws rm).room.slots ≤ R.slots := by rw [show (headSpec ws rm).room.slots = ms from hrs]; exact hp.2.1
  have hPc : Pc a (A.U.calling g mk a) := hblind _ _ _ _ hp.2.2
  obtain ⟨U, Ls, c0, s0⟩ := A
  dsimp only [Pt.U, Pt.locs, Pt.cells, Pt.slots] at h1 h2 h3 h4 h5 X hn hPc ⊢
  obtain ⟨m9, methY, cY, hn9, hmY, hcY, -, hlY, -⟩ := Cond.codeWith_spec h2
  cases Option.some.inj (hn9.symm.trans hn)
  obtain ⟨kY, hkY, -⟩ := className_of_methodNamed hn
  have hinitY : kY.init = .initialized := Cond.initialized_spec (findClass_of_methodNamed hn) hkY h3
  have h : At U g.method c below := by rw [hg]; exact X.here
  have hlocals9 : W9 + (maxL + 11) + (headSpec ws rm).room.locals ≤ R.locals := hlocals
  have happ : (headSpec ws rm).appliesLoose y e.platform (U.calling g mk a) = true :=
    Spec.appliesLoose_calling (g := g) h hdg hn hkY hinitY
      (X.room_calling (g := g) (R' := (headSpec ws rm).room) hsize hmY hcY hframes (by rw [hlY]; omega) h4 h5) h1
  obtain ⟨mid, hmid⟩ := h.above
  have hfr : (U.setTop g).frames = (.java g :: mid) ++ below := by rw [State.frames_setTop' g h.top, hmid]; rfl
  obtain ⟨o, s₂, hsteps, -, hend, hq⟩ := Steps.callFree hM p X.admits X.cas X.clock (acts := []) hfr happ hPc trivial
  have hq' : vx_Q Qc XC mc ms free a (U.calling g mk a) o s₂ := hq
  rw [State.frames_setTop' g h.top] at hend
  obtain ⟨g₀, hg0⟩ := Option.isSome_iff_exists.mp h.top
  obtain ⟨r, hr⟩ := State.topJava?_eq_some.mp hg0
  have hr' : (({ U with heap := s₂.heap, slotsUsed := s₂.slotsUsed } : State).setVm s₂.vm).frames = .java g₀ :: r := hr
  rcases hq' with ⟨hqc, L, hfe, hL⟩ | ⟨q, rfl, E, ce, L, hx, hce, hcv, hcl, hW₂, hsm, hL⟩
  · obtain ⟨⟨v, rfl⟩, hW₂, e2, q2, q3, q4, q5, q6⟩ := id hfe
    have e3 : s₂ = ({ (U.calling g mk a).setFrames s₂.frames with heap := s₂.heap, slotsUsed := s₂.slotsUsed } : State).setVm s₂.vm := by
      have : s₂ = ({ s₂ with vm := (U.calling g mk a).vm } : State).setVm s₂.vm := rfl
      rw [e2] at this
      exact this
    obtain ⟨c₂, i₂, len₂, hc₂, hd₂, hf₂⟩ := hend
    have hW' : U.WarmedH s₂.vm := hW₂
    have hcc : c₂ = c := by
      have h1 : s₂.code? g.method = U.code? g.method := by
        rw [State.code?_eq, State.code?_eq, hW'.alike.method?]
      exact Option.some.inj (hc₂.symm.trans (h1.trans h.code))
    subst hcc
    have hlen : len₂ = len := by rw [hdg] at hd₂; cases hd₂; rfl
    subst hlen
    have hs₂ : s₂ = (({ U with heap := s₂.heap, slotsUsed := s₂.slotsUsed } : State).setVm s₂.vm).setTop { g with pc := g.pc + len₂, stack := v.toList ++ g.stack } := by
      refine e3.trans ?_
      rw [hf₂, State.calling_eq h.top, State.setFrames_setFrames, State.setTop_of_frames _ hr', hr]
      rfl
    have hsame : U.sameButNew ({ U with heap := s₂.heap, slotsUsed := s₂.slotsUsed } : State) L mc ms := by
      refine ⟨?_, q2, q3, q4, q5, q6⟩
      obtain ⟨t, ht, -⟩ := State.frames_cons hr
      show ({ U with heap := s₂.heap, slotsUsed := s₂.slotsUsed } : State) = { U.setFrames U.frames with heap := s₂.heap, slotsUsed := s₂.slotsUsed }
      rw [State.setFrames_self ht]
    subst hg
    refine Or.inl ⟨v, ⟨(({ U with heap := s₂.heap, slotsUsed := s₂.slotsUsed } : State).setVm s₂.vm), Ls ++ L, c0 + mc, s0 + ms⟩,
      ⟨X.admits, X.cas, X.clock, X.frames, X.room, X.hears, X.method, X.code, (X.here.setHeapUsed s₂.heap s₂.slotsUsed).setVm hW'.alike, X.tail, State.WarmedH.trans X.warmed hW', X.limits, X.bytes, X.same.trans (hsame.setVm s.vm)⟩,
      ⟨g, mk, s₂, L, rfl, rfl, hqc, rfl, hL, rfl, rfl⟩, ?_⟩
    show Steps p.tables e below _ ((({ U with heap := s₂.heap, slotsUsed := s₂.slotsUsed } : State).setVm s₂.vm).setTop { g with pc := g.pc + len₂, stack := v.toList ++ g.stack })
    rw [← hs₂]
    exact hsteps
  · obtain ⟨e2, q2, q3, q4, q5, q6⟩ := id hsm
    have e3 : s₂ = ({ (U.calling g mk a).setFrames s₂.frames with heap := s₂.heap, slotsUsed := s₂.slotsUsed } : State).setVm s₂.vm := by
      have : s₂ = ({ s₂ with vm := (U.calling g mk a).vm } : State).setVm s₂.vm := rfl
      rw [e2] at this
      exact this
    have hf₂ : s₂.frames = .throwing q :: .java g :: U.frames.tail := hend
    have hW' : U.WarmedH s₂.vm := hW₂
    have hs₂ : s₂ = ((({ U with heap := s₂.heap, slotsUsed := s₂.slotsUsed } : State).setVm s₂.vm).setTop g).pushFrame (.throwing q) := by
      refine e3.trans ?_
      rw [hf₂, State.calling_eq h.top, State.setFrames_setFrames, State.pushFrame, State.frames_setTop _ hr', State.setTop_of_frames _ hr', State.setFrames_setFrames, hr]
      rfl
    have hsame : U.sameButNew ({ U with heap := s₂.heap, slotsUsed := s₂.slotsUsed } : State) L mc ms := by
      refine ⟨?_, q2, q3, q4, q5, q6⟩
      obtain ⟨t, ht, -⟩ := State.frames_cons hr
      show ({ U with heap := s₂.heap, slotsUsed := s₂.slotsUsed } : State) = { U.setFrames U.frames with heap := s₂.heap, slotsUsed := s₂.slotsUsed }
      rw [State.setFrames_self ht]
    subst hg
    refine Or.inr ⟨q, ⟨(({ U with heap := s₂.heap, slotsUsed := s₂.slotsUsed } : State).setVm s₂.vm), Ls ++ L, c0 + mc, s0 + ms⟩,
      ⟨X.admits, X.cas, X.clock, X.frames, X.room, X.hears, X.method, X.code, (X.here.setHeapUsed s₂.heap s₂.slotsUsed).setVm hW'.alike, X.tail, State.WarmedH.trans X.warmed hW', X.limits, X.bytes, X.same.trans (hsame.setVm s.vm)⟩,
      ⟨g, mk, s₂, L, E, ce, rfl, rfl, hx, hce, hcv, hcl, rfl, hL, rfl, rfl⟩, ?_⟩
    show Steps p.tables e below _ (((({ U with heap := s₂.heap, slotsUsed := s₂.slotsUsed } : State).setVm s₂.vm).setTop g).pushFrame (.throwing q))
    rw [← hs₂]
    exact hsteps
end
variable {p : Program} {l : Launch} {e : Env} {R : Room} {s : State} {m : MethodId} {args : Array Value} {below : List Frame} {meth : Method} {c : Code} {T : State} {H : Heap} {locs : List Loc} {cells slots : Nat}
theorem vx_callVX (X : Stand p l e R s m args below meth c T locs cells slots) (hexec : p.tables.exec = Jvm.exec) {own C : String} {index : Nat} {y : MethodName} {bytes : ByteArray} {maxL : Nat} {ret : Option FieldType} {hh : List (Nat × Nat × Nat × Nat)}
    (hown : s.vm.findClass own = some m.cls) (hlink : (Cond.methodLink own index y).before args s = true) (hinst : (Cond.instanceMethod y).before args s = true) (hsel : (Cond.selects C y y).before args s = true)
    (hcode : (Cond.codeWith y bytes maxL ret hh).before args s = true) (hy : y.cls ≠ "java/lang/invoke/MethodHandle" ∧ y.cls ≠ "java/lang/invoke/VarHandle")
    {W9 : Nat} {Pre : Pt → Array Value → Prop} {Post : Pt → Array Value → Option Value → Pt → Prop} {PostX : Pt → Array Value → Addr → Pt → Prop} (hK : vx_Back l R p e below s args y 3 W9 Pre Post PostX)
    {b : Addr} {cellB : Cell} (hcell : T.heap[b]? = some cellB) (hobj : cellB.vm.isStatics = false) (hcls : s.vm.findClass C = some cellB.cls)
    {g : JFrame} (hg : g.method = m) (hsize : g.locals.size = c.maxLocals) {argsL rest : List Value} (hlen : ∀ sig, parseMethodDescriptor y.desc = some sig → argsL.length = sig.parameters.length)
    (hstack : g.stack = argsL.reverse ++ .ref b :: rest) (hW : 2 * g.monitorRoom + (rest.map fun v => v.category).sum ≤ W9) (hdg : decode c.code g.pc = .ok (.invokevirtual index, 3))
    (hpre : ∀ vm₁, s.WarmedH vm₁ → Pre ⟨T.setVm vm₁, locs, cells, slots⟩ (Value.ref b :: argsL).toArray) :
    (∃ (v : Option Value) (vm₁ : Vm) (B : Pt), s.WarmedH vm₁ ∧ Stand p l e R s m args below meth c B.U B.locs B.cells B.slots ∧ Post ⟨T.setVm vm₁, locs, cells, slots⟩ (Value.ref b :: argsL).toArray v B ∧
      ∀ target, Steps p.tables e below (B.U.setTop { g with pc := g.pc + 3, stack := v.toList ++ rest }) target → Steps p.tables e below (T.setTop g) target) ∨
    (∃ (q : Addr) (vm₁ : Vm) (B : Pt), s.WarmedH vm₁ ∧ Stand p l e R s m args below meth c B.U B.locs B.cells B.slots ∧ PostX ⟨T.setVm vm₁, locs, cells, slots⟩ (Value.ref b :: argsL).toArray q B ∧
      Steps p.tables e below (T.setTop g) ((B.U.setTop { g with stack := rest }).pushFrame (.throwing q))) := by
  obtain ⟨mk, methM, hnamed, hmethM, hstM, habM⟩ := Cond.instanceMethod_spec hinst
  obtain ⟨m8, methM', cM, hn8, hmethM', -, -, -, -, -, -, hsigM⟩ := Cond.codeWith_spec hcode
  cases Option.some.inj (hn8.symm.trans hnamed)
  cases hmethM.symm.trans hmethM'
  obtain ⟨c2, r2, m2, q1, q2, q3, q4, kP, hkP, hkPi⟩ := Cond.selects_spec hsel
  cases hcls.symm.trans q1
  cases (State.methodFound?_of_named hnamed hy).symm.trans q2
  cases hnamed.symm.trans q3
  have hselP : selectMethod e.platform s.vm cellB.cls mk = .method mk := by rw [Launch.admits_selectMethod X.admits]; exact q4
  obtain ⟨vm₁, X₁, hstep₁⟩ := X.invokevirtual hexec hown hlink hnamed hmethM hstM hkP hkPi hy (a := b) (cell := cellB) hcell
    (fun z h => by rw [h] at hobj; cases hobj) hselP hmethM habM hkP hkPi (g := g) hg (argsL := argsL) (rest := rest) (hlen _ hsigM) hstack hdg
  rcases hK m meth c ⟨T.setVm vm₁, locs, cells, slots⟩ { g with stack := rest } (.invokevirtual index) mk (Value.ref b :: argsL).toArray X₁ hg hsize hdg hW (X₁.named hnamed) (hpre vm₁ X₁.warmed) with ⟨v, B, X', hpost, hsteps⟩ | ⟨q, B, X', hpost, hsteps⟩
  · exact Or.inl ⟨v, vm₁, B, X₁.warmed, X', hpost, fun target h => hstep₁ _ fun acts => by rw [doInvoke_state]; exact hsteps.trans h⟩
  · exact Or.inr ⟨q, vm₁, B, X₁.warmed, X', hpost, hstep₁ _ fun acts => by rw [doInvoke_state]; exact hsteps⟩
theorem vx_callSX (X : Stand p l e R s m args below meth c T locs cells slots) (hexec : p.tables.exec = Jvm.exec) {own : String} {index : Nat} {y : MethodName} {bytes : ByteArray} {maxL : Nat} {ret : Option FieldType} {hh : List (Nat × Nat × Nat × Nat)}
    (hown : s.vm.findClass own = some m.cls) (hlink : (Cond.methodLink own index y).before args s = true) (hstat : (Cond.static y).before args s = true) (hinit : (Cond.initialized y.cls).before args s = true)
    (hcode : (Cond.codeWith y bytes maxL ret hh).before args s = true) (hy : y.cls ≠ "java/lang/invoke/MethodHandle" ∧ y.cls ≠ "java/lang/invoke/VarHandle")
    {W9 : Nat} {Pre : Pt → Array Value → Prop} {Post : Pt → Array Value → Option Value → Pt → Prop} {PostX : Pt → Array Value → Addr → Pt → Prop} (hK : vx_Back l R p e below s args y 3 W9 Pre Post PostX)
    {g : JFrame} (hg : g.method = m) (hsize : g.locals.size = c.maxLocals) {argsL rest : List Value} (hlen : ∀ sig, parseMethodDescriptor y.desc = some sig → argsL.length = sig.parameters.length)
    (hstack : g.stack = argsL.reverse ++ rest) (hW : 2 * g.monitorRoom + (rest.map fun v => v.category).sum ≤ W9) (hdg : decode c.code g.pc = .ok (.invokestatic index, 3))
    (hpre : ∀ vm₁, s.WarmedH vm₁ → Pre ⟨T.setVm vm₁, locs, cells, slots⟩ argsL.toArray) :
    (∃ (v : Option Value) (vm₁ : Vm) (B : Pt), s.WarmedH vm₁ ∧ Stand p l e R s m args below meth c B.U B.locs B.cells B.slots ∧ Post ⟨T.setVm vm₁, locs, cells, slots⟩ argsL.toArray v B ∧
      ∀ target, Steps p.tables e below (B.U.setTop { g with pc := g.pc + 3, stack := v.toList ++ rest }) target → Steps p.tables e below (T.setTop g) target) ∨
    (∃ (q : Addr) (vm₁ : Vm) (B : Pt), s.WarmedH vm₁ ∧ Stand p l e R s m args below meth c B.U B.locs B.cells B.slots ∧ PostX ⟨T.setVm vm₁, locs, cells, slots⟩ argsL.toArray q B ∧
      Steps p.tables e below (T.setTop g) ((B.U.setTop { g with stack := rest }).pushFrame (.throwing q))) := by
  obtain ⟨mk, methM, cM, hnamed, hmethM, -, -, -, -, -, -, hsigM⟩ := Cond.codeWith_spec hcode
  have hstatic : methM.isStatic = true := Cond.static_spec hnamed hmethM hstat
  obtain ⟨kP, hkP, -⟩ := className_of_methodNamed hnamed
  have hinitP : kP.init = .initialized := Cond.initialized_spec (findClass_of_methodNamed hnamed) hkP hinit
  obtain ⟨vm₁, X₁, hstep₁⟩ := X.invokestatic hexec hown hlink hnamed hmethM hstatic hkP hinitP hy (g := g) hg (argsL := argsL) (rest := rest) (hlen _ hsigM) hstack hdg
  rcases hK m meth c ⟨T.setVm vm₁, locs, cells, slots⟩ { g with stack := rest } (.invokestatic index) mk argsL.toArray X₁ hg hsize hdg hW (X₁.named hnamed) (hpre vm₁ X₁.warmed) with ⟨v, B, X', hpost, hsteps⟩ | ⟨q, B, X', hpost, hsteps⟩
  · exact Or.inl ⟨v, vm₁, B, X₁.warmed, X', hpost, fun target h => hstep₁ _ fun acts => by rw [doInvoke_state]; exact hsteps.trans h⟩
  · exact Or.inr ⟨q, vm₁, B, X₁.warmed, X', hpost, hstep₁ _ fun acts => by rw [doInvoke_state]; exact hsteps⟩
theorem vx_callVW (X : Stand p l e R s m args below meth c T locs cells slots) (hexec : p.tables.exec = Jvm.exec) {own C : String} {index : Nat} {y : MethodName} {bytes : ByteArray} {maxL : Nat} {ret : Option FieldType} {hh : List (Nat × Nat × Nat × Nat)}
    (hown : s.vm.findClass own = some m.cls) (hlink : (Cond.methodLink own index y).before args s = true) (hinst : (Cond.instanceMethod y).before args s = true) (hsel : (Cond.selects C y y).before args s = true)
    (hcode : (Cond.codeWith y bytes maxL ret hh).before args s = true) (hy : y.cls ≠ "java/lang/invoke/MethodHandle" ∧ y.cls ≠ "java/lang/invoke/VarHandle")
    {W9 : Nat} {Pre : Pt → Array Value → Prop} {Post : Pt → Array Value → Option Value → Pt → Prop} (hK : Back l R p e below s args y 3 W9 Pre Post)
    {b : Addr} {cellB : Cell} (hcell : T.heap[b]? = some cellB) (hobj : cellB.vm.isStatics = false) (hcls : s.vm.findClass C = some cellB.cls)
    {g : JFrame} (hg : g.method = m) (hsize : g.locals.size = c.maxLocals) {argsL rest : List Value} (hlen : ∀ sig, parseMethodDescriptor y.desc = some sig → argsL.length = sig.parameters.length)
    (hstack : g.stack = argsL.reverse ++ .ref b :: rest) (hW : 2 * g.monitorRoom + (rest.map fun v => v.category).sum ≤ W9) (hdg : decode c.code g.pc = .ok (.invokevirtual index, 3))
    (hpre : ∀ vm₁, s.WarmedH vm₁ → Pre ⟨T.setVm vm₁, locs, cells, slots⟩ (Value.ref b :: argsL).toArray) :
    ∃ (v : Option Value) (vm₁ : Vm) (B : Pt), s.WarmedH vm₁ ∧ Stand p l e R s m args below meth c B.U B.locs B.cells B.slots ∧ Post ⟨T.setVm vm₁, locs, cells, slots⟩ (Value.ref b :: argsL).toArray v B ∧
      ∀ target, Steps p.tables e below (B.U.setTop { g with pc := g.pc + 3, stack := v.toList ++ rest }) target → Steps p.tables e below (T.setTop g) target := by
  obtain ⟨mk, methM, hnamed, hmethM, hstM, habM⟩ := Cond.instanceMethod_spec hinst
  obtain ⟨m8, methM', cM, hn8, hmethM', -, -, -, -, -, -, hsigM⟩ := Cond.codeWith_spec hcode
  cases Option.some.inj (hn8.symm.trans hnamed)
  cases hmethM.symm.trans hmethM'
  obtain ⟨c2, r2, m2, q1, q2, q3, q4, kP, hkP, hkPi⟩ := Cond.selects_spec hsel
  cases hcls.symm.trans q1
  cases (State.methodFound?_of_named hnamed hy).symm.trans q2
  cases hnamed.symm.trans q3
  have hselP : selectMethod e.platform s.vm cellB.cls mk = .method mk := by rw [Launch.admits_selectMethod X.admits]; exact q4
  obtain ⟨vm₁, X₁, hstep₁⟩ := X.invokevirtual hexec hown hlink hnamed hmethM hstM hkP hkPi hy (a := b) (cell := cellB) hcell
    (fun z h => by rw [h] at hobj; cases hobj) hselP hmethM habM hkP hkPi (g := g) hg (argsL := argsL) (rest := rest) (hlen _ hsigM) hstack hdg
  obtain ⟨v, B, X', hpost, hsteps⟩ := hK m meth c ⟨T.setVm vm₁, locs, cells, slots⟩ { g with stack := rest } (.invokevirtual index) mk (Value.ref b :: argsL).toArray X₁ hg hsize hdg hW (X₁.named hnamed) (hpre vm₁ X₁.warmed)
  exact ⟨v, vm₁, B, X₁.warmed, X', hpost, fun target h => hstep₁ _ fun acts => by rw [doInvoke_state]; exact hsteps.trans h⟩
abbrev vx_CVW (R : Room) (s : State) (args : Array Value) (own C : String) (index : Nat) (y : MethodName) (bytes : ByteArray) (maxL : Nat) (ret : Option FieldType) (hh : List (Nat × Nat × Nat × Nat)) (ws : List Cond) (rm : Room) (mc ms n : Nat) : Prop :=
  (rm.cells = mc ∧ rm.slots = ms ∧ rm.frames + 1 ≤ R.frames ∧ 8 + (maxL + 11) + rm.locals ≤ R.locals ∧ (∀ w ∈ ws, ∀ (a' : Array Value) (U : State), s.WarmedH U.vm → w.before a' U = true) ∧ Cond.codeWith y bytes maxL ret hh ∈ ws) ∧
  (Cond.codeWith y bytes maxL ret hh).before args s = true ∧ (Cond.initialized y.cls).before args s = true ∧ (y.cls ≠ "java/lang/invoke/MethodHandle" ∧ y.cls ≠ "java/lang/invoke/VarHandle") ∧
  (∀ sig, parseMethodDescriptor y.desc = some sig → n = sig.parameters.length) ∧ (Cond.methodLink own index y).before args s = true ∧ (Cond.instanceMethod y).before args s = true ∧ (Cond.selects C y y).before args s = true
theorem vx_cwVW {own C : String} {index maxL mc ms : Nat} {y : MethodName} {bytes : ByteArray} {ret : Option FieldType} {hh : List (Nat × Nat × Nat × Nat)} {Ts ws ws' : List Cond} {rm : Room} (n : Nat) (ht : ∀ w ∈ Ts, w.before args s = true) (hT : GoodIn Ts (wsV own index C y ws)) (hw : ws = Cond.codeWith y bytes maxL ret hh :: ws') (hrc : rm.cells = mc) (hrs : rm.slots = ms)
    (hd : y.cls = C ∧ y.cls ≠ "java/lang/invoke/MethodHandle" ∧ y.cls ≠ "java/lang/invoke/VarHandle" ∧ (parseMethodDescriptor y.desc).map (fun d => d.parameters.length) = some n) (hR : rm.frames + 1 ≤ R.frames ∧ 8 + (maxL + 11) + rm.locals ≤ R.locals) :
    vx_CVW R s args own C index y bytes maxL ret hh ws rm mc ms n := by
  obtain ⟨hC, hd⟩ := hd
  subst hC
  have ok : ∀ w ∈ wsV own index y.cls y ws, w.before args s = true := fun w h => ht w (hT w h).1
  have hG : GoodIn Ts ws := fun w h => hT w (by unfold wsV; exact List.mem_append_right _ h)
  have hc : Cond.codeWith y bytes maxL ret hh ∈ ws := by rw [hw]; exact List.mem_cons_self
  refine ⟨⟨hrc, hrs, hR.1, hR.2, pay_in ht hG, hc⟩, ht _ (hG _ hc).1, ok _ (by simp [wsV]), ⟨hd.1, hd.2.1⟩, fun sig h => ?_, ok _ (by simp [wsV]), ok _ (by simp [wsV]), ok _ (by simp [wsV])⟩
  have h2 := hd.2.2
  rw [h] at h2
  exact (Option.some.inj h2).symm
theorem vx_runVW {y : MethodName} {bytes cc : ByteArray} {maxL nL mc ms n index : Nat} {ret : Option FieldType} {hh : List (Nat × Nat × Nat × Nat)} {ws : List Cond} {rm : Room} {Pc : Array Value → State → Prop} {Qc : Array Value → State → Outcome → State → Prop} {free : Addr → Prop} {Ts : List Cond} {own C : String} {b : Addr} {As rest : List Value} {g : JFrame}
    (S : CallFix p m c cc nL s args Ts own) (hM : Met l y ws rm Pc Qc mc ms free) (cw : vx_CVW R s args own C index y bytes maxL ret hh ws rm mc ms n) (hp : PreV s H C b Pc As)
    (hg : g.method = m) (hn : As.length = n) (hsize : g.locals.size = nL) (hstack : g.stack = As.reverse ++ .ref b :: rest) (hW : 2 * g.monitorRoom + (rest.map fun v => v.category).sum ≤ 8) (hdg : decode cc g.pc = .ok (.invokevirtual index, 3)) (hf : cells + mc ≤ R.cells ∧ slots + ms ≤ R.slots) :
    va_Run p l e R s m args below meth c H locs cells slots mc ms g rest (Qc (Value.ref b :: As).toArray) free := by
  obtain ⟨⟨hrc, hrs, hfr, hlo, hws, hcw⟩, hcode, hini, hy, hlen, hl, hin, hse⟩ := cw
  have hK : Back l R p e below s args y 3 8 (PreOf R mc ms Pc) (PostOf Qc mc ms free) := va_backW (hh := hh) (bytes := bytes) (maxL := maxL) (ret := ret) hM hp.1 hrc hrs hfr hlo hws hcw (fun a' U hW => word_at hW (Or.inl (by first | rfl | simp [Cond.onTables, Cond.keeps, Cond.steady])) hini)
  obtain ⟨hx, hb, hml, ho, -⟩ := S
  obtain ⟨-, ⟨cellB, hcB, hoB, hclB⟩, hPc⟩ := hp
  intro T hT X
  obtain ⟨v, vm₁, ⟨U', l2, c2, s2⟩, hW₁, X', ⟨g', mk, t, L, e1, e2, hq, h1, hL, h2, h3⟩, st⟩ := vx_callVW X hx (C := C) (hh := hh) (bytes := bytes) (maxL := maxL) (ret := ret) ho hl hin hse hcode hy hK (by rw [hT]; exact hcB) hoB hclB hg (hsize.trans hml.symm) (argsL := As) (rest := rest) (fun sig h => hn.trans (hlen sig h)) hstack hW (by rw [hb]; exact hdg)
    (fun vm₁ hW₁ => ⟨hf.1, hf.2, hPc (T.setVm vm₁) hT hW₁⟩)
  dsimp only [Pt.U, Pt.locs, Pt.cells, Pt.slots] at X' e1 e2 h1 h2 h3 st
  subst h1; subst h2; subst h3
  exact ⟨v, (T.setVm vm₁).calling g' mk (Value.ref b :: As).toArray, t, U', L, hT, X', hL, e1, e2, hq, st⟩
section
variable {y : MethodName} {bytes cc : ByteArray} {maxL nL mc ms n index : Nat} {ret : Option FieldType} {ws : List Cond} {rm : Room} {Pc : Array Value → State → Prop} {Qc : Array Value → State → Outcome → State → Prop} {XC : String → State → State → Prop} {free : Addr → Prop} {Ts : List Cond} {own C : String} {b : Addr} {As rest : List Value} {g : JFrame}
theorem vx_runVX {hh : List (Nat × Nat × Nat × Nat)} (S : CallFix p m c cc nL s args Ts own) (hM : vx_Met l y ws rm Pc Qc XC mc ms free) (cw : vx_CVW R s args own C index y bytes maxL ret hh ws rm mc ms n) (hp : PreV s H C b Pc As)
    (hg : g.method = m) (hn : As.length = n) (hsize : g.locals.size = nL) (hstack : g.stack = As.reverse ++ .ref b :: rest) (hW : 2 * g.monitorRoom + (rest.map fun v => v.category).sum ≤ 8) (hdg : decode cc g.pc = .ok (.invokevirtual index, 3)) (hf : cells + mc ≤ R.cells ∧ slots + ms ≤ R.slots) :
    vx_Run p l e R s m args below meth c H locs cells slots mc ms g rest (Qc (Value.ref b :: As).toArray) XC free := by
  obtain ⟨⟨hrc, hrs, hfr, hlo, hws, hcw⟩, hcode, hini, hy, hlen, hl, hin, hse⟩ := cw
  have hK : vx_Back l R p e below s args y 3 8 (PreOf R mc ms Pc) (PostOf Qc mc ms free) (vx_Post XC mc ms free) := vx_backW (hh := hh) (bytes := bytes) (maxL := maxL) (ret := ret) hM hp.1 hrc hrs hfr hlo hws hcw (fun a' U hW => word_at hW (Or.inl (by first | rfl | simp [Cond.onTables, Cond.keeps, Cond.steady])) hini)
  obtain ⟨hx, hb, hml, ho, -⟩ := S
  obtain ⟨-, ⟨cellB, hcB, hoB, hclB⟩, hPc⟩ := hp
  intro T hT X
  rcases vx_callVX X hx (C := C) (hh := hh) (bytes := bytes) (maxL := maxL) (ret := ret) ho hl hin hse hcode hy hK (by rw [hT]; exact hcB) hoB hclB hg (hsize.trans hml.symm) (argsL := As) (rest := rest) (fun sig h => hn.trans (hlen sig h)) hstack hW (by rw [hb]; exact hdg)
    (fun vm₁ hW₁ => ⟨hf.1, hf.2, hPc (T.setVm vm₁) hT hW₁⟩) with ⟨v, vm₁, ⟨U', l2, c2, s2⟩, hW₁, X', ⟨g', mk, t, L, e1, e2, hq, h1, hL, h2, h3⟩, st⟩ | ⟨q, vm₁, ⟨U', l2, c2, s2⟩, hW₁, X', ⟨g', mk, t, L, E, ce, e1, e2, hq, hce, hcv, hcl, h1, hL, h2, h3⟩, st⟩
  · dsimp only [Pt.U, Pt.locs, Pt.cells, Pt.slots] at X' e1 e2 h1 h2 h3 st
    subst h1; subst h2; subst h3
    exact Or.inl ⟨v, (T.setVm vm₁).calling g' mk (Value.ref b :: As).toArray, t, U', L, hT, X', hL, e1, e2, hq, st⟩
  · dsimp only [Pt.U, Pt.locs, Pt.cells, Pt.slots] at X' e1 e2 h1 h2 h3 st hcl
    subst h1; subst h2; subst h3
    exact Or.inr ⟨q, (T.setVm vm₁).calling g' mk (Value.ref b :: As).toArray, t, U', L, E, ce, hT, X', hL, e1, e2, hq, hce, hcv, vx_cls hW₁ hcl, st⟩
theorem vx_runSX {hh : List (Nat × Nat × Nat × Nat)} (S : CallFix p m c cc nL s args Ts own) (hM : vx_Met l y ws rm Pc Qc XC mc ms free) (cw : vx_CSW R s args own index y bytes maxL ret hh ws rm mc ms n) (hp : PreS s H Pc As)
    (hg : g.method = m) (hn : As.length = n) (hsize : g.locals.size = nL) (hstack : g.stack = As.reverse ++ rest) (hW : 2 * g.monitorRoom + (rest.map fun v => v.category).sum ≤ 8) (hdg : decode cc g.pc = .ok (.invokestatic index, 3)) (hf : cells + mc ≤ R.cells ∧ slots + ms ≤ R.slots) :
    vx_Run p l e R s m args below meth c H locs cells slots mc ms g rest (Qc As.toArray) XC free := by
  obtain ⟨⟨hrc, hrs, hfr, hlo, hws, hcw⟩, hcode, hini, hy, hlen, hl, hstt⟩ := cw
  have hK : vx_Back l R p e below s args y 3 8 (PreOf R mc ms Pc) (PostOf Qc mc ms free) (vx_Post XC mc ms free) := vx_backW (hh := hh) (bytes := bytes) (maxL := maxL) (ret := ret) hM hp.1 hrc hrs hfr hlo hws hcw (fun a' U hW => word_at hW (Or.inl (by first | rfl | simp [Cond.onTables, Cond.keeps, Cond.steady])) hini)
  obtain ⟨hx, hb, hml, ho, -⟩ := S
  intro T hT X
  rcases vx_callSX X hx (hh := hh) (bytes := bytes) (maxL := maxL) (ret := ret) ho hl hstt hini hcode hy hK hg (hsize.trans hml.symm) (argsL := As) (rest := rest) (fun sig h => hn.trans (hlen sig h)) hstack hW (by rw [hb]; exact hdg)
    (fun vm₁ hW₁ => ⟨hf.1, hf.2, hp.2 (T.setVm vm₁) hT hW₁⟩) with ⟨v, vm₁, ⟨U', l2, c2, s2⟩, hW₁, X', ⟨g', mk, t, L, e1, e2, hq, h1, hL, h2, h3⟩, st⟩ | ⟨q, vm₁, ⟨U', l2, c2, s2⟩, hW₁, X', ⟨g', mk, t, L, E, ce, e1, e2, hq, hce, hcv, hcl, h1, hL, h2, h3⟩, st⟩
  · dsimp only [Pt.U, Pt.locs, Pt.cells, Pt.slots] at X' e1 e2 h1 h2 h3 st
    subst h1; subst h2; subst h3
    exact Or.inl ⟨v, (T.setVm vm₁).calling g' mk As.toArray, t, U', L, hT, X', hL, e1, e2, hq, st⟩
  · dsimp only [Pt.U, Pt.locs, Pt.cells, Pt.slots] at X' e1 e2 h1 h2 h3 st hcl
    subst h1; subst h2; subst h3
    exact Or.inr ⟨q, (T.setVm vm₁).calling g' mk As.toArray, t, U', L, E, ce, hT, X', hL, e1, e2, hq, hce, hcv, vx_cls hW₁ hcl, st⟩
end
end VXH
theorem vx_ofWH {l : Launch} {y : MethodName} {ws ws' : List Cond} {rm : Room} {Pc : Array Value → State → Prop} {Qc : Array Value → State → Outcome → State → Prop} {XC : String → State → State → Prop} {mc ms : Nat} {free : Addr → Prop} {cc : ByteArray} {maxL : Nat} {ret : Option FieldType} {hh : List (Nat × Nat × Nat × Nat)}
    (hy : plainName y.cls = true) (hw : ws = Cond.codeWith y cc maxL ret hh :: ws')
    (body : ∀ p e s m args below meth c s₁, BodyLoose p l y (headSpec ws rm) cc maxL ret e s m args below meth c s₁ → c.maxLocals = maxL → Pc args s →
      W p l e (headSpec ws rm).room s m args below meth c s.heap [] 0 0 (vx_MQ below Qc XC args s mc ms free) (entryFrame m args maxL)) : vx_Met l y ws rm Pc Qc XC mc ms free := by
  refine MetFree.of_bodyS (code := cc) (maxLocals := maxL) (ret := ret) hy ?_ ?_
  · intro args s m h hn
    obtain ⟨m9, meth, c, hn9, h1, h2, h3, h4, -, h5, h6, -⟩ := Cond.codeWith_spec (atoms_spec (ws := ws) h _ (by rw [hw]; exact List.mem_cons_self))
    cases hn.symm.trans hn9
    exact ⟨meth, c, h1, h2, h3, h4, h5, h6⟩
  · intro p e s m args below meth c s₁ B hml hP _
    have hh0 : s₁.heap = s.heap := by rw [B.state]; rfl
    obtain ⟨t, a1, o, b1, b2, b3⟩ := body p e s m args below meth c s₁ B hml hP s₁ hh0 (Stand.of_body B)
    exact ⟨t, o, a1, b1, b2, b3⟩
/-! ===== END ===== -/

/-! ===== BEGIN printed: names, fields, word lists, decode rows ===== -/
end
section
def RX0 : String := "SpanPainter$AutoPlanner"
def TX0 : u_T := fun k => match k with
  | _ => ("SpanPainter$AutoPlanner", "candidates", "LSpanPainter$Ranking;", true)
def tyX0 : Nat → FieldType := fun k => match k with
  | _ => .object "SpanPainter$Ranking"
abbrev wsX00 : List Cond := u_ws RX0 TX0 1
theorem nmX0 : ∀ a, a < 1 → ∀ b, b < 1 → a ≠ b → (TX0 a).2.1 ≠ (TX0 b).2.1 := by decide +kernel
theorem tyX0_ok : ∀ k, k < 1 → parseFieldDescriptor (TX0 k).2.2.1 = some (tyX0 k) := by decide +kernel
abbrev cX0_init : ByteArray := prog_2_method_1_code
def yX0_init : MethodName := ⟨RX0, "<init>", "()V"⟩
def RX1 : String := "SpanPainter$Bridge"
def TX1 : u_T := fun k => match k with
  | 0 => ("SpanPainter$Bridge", "years", "I", false)
  | 1 => ("SpanPainter$Bridge", "shut", "I", false)
  | 2 => ("SpanPainter$Bridge", "guard", "I", false)
  | 3 => ("SpanPainter$Bridge", "laneCount", "I", false)
  | 4 => ("SpanPainter$Bridge", "spanCount", "I", false)
  | 5 => ("SpanPainter$Bridge", "gangCount", "I", false)
  | 6 => ("SpanPainter$Bridge", "traffic", "[I", true)
  | 7 => ("SpanPainter$Bridge", "laneOf", "[I", true)
  | 8 => ("SpanPainter$Bridge", "area", "[I", true)
  | 9 => ("SpanPainter$Bridge", "rust", "[I", true)
  | 10 => ("SpanPainter$Bridge", "rate", "[I", true)
  | 11 => ("SpanPainter$Bridge", "limit", "[I", true)
  | 12 => ("SpanPainter$Bridge", "speed", "[I", true)
  | 13 => ("SpanPainter$Bridge", "wage", "[I", true)
  | 14 => ("SpanPainter$Bridge", "days", "[I", true)
  | _ => ("SpanPainter$Bridge", "closed", "[I", true)
def tyX1 : Nat → FieldType := fun k => match k with
  | 0 => .int
  | 1 => .int
  | 2 => .int
  | 3 => .int
  | 4 => .int
  | 5 => .int
  | 6 => .array .int
  | 7 => .array .int
  | 8 => .array .int
  | 9 => .array .int
  | 10 => .array .int
  | 11 => .array .int
  | 12 => .array .int
  | 13 => .array .int
  | 14 => .array .int
  | _ => .array .int
abbrev wsX10 : List Cond := u_ws RX1 TX1 16
theorem nmX1 : ∀ a, a < 16 → ∀ b, b < 16 → a ≠ b → (TX1 a).2.1 ≠ (TX1 b).2.1 := by decide +kernel
theorem tyX1_ok : ∀ k, k < 16 → parseFieldDescriptor (TX1 k).2.2.1 = some (tyX1 k) := by decide +kernel
abbrev cX1_init : ByteArray := prog_3_method_1_code
def yX1_init : MethodName := ⟨RX1, "<init>", "()V"⟩
abbrev cX1_reset : ByteArray := prog_3_method_2_code
def yX1_reset : MethodName := ⟨RX1, "reset", "()V"⟩
abbrev cX1_saveTo : ByteArray := prog_3_method_4_code
def yX1_saveTo : MethodName := ⟨RX1, "saveTo", "([I)V"⟩
abbrev cX1_restoreFrom : ByteArray := prog_3_method_5_code
def yX1_restoreFrom : MethodName := ⟨RX1, "restoreFrom", "([I)V"⟩
abbrev cX1_addLane : ByteArray := prog_3_method_6_code
def yX1_addLane : MethodName := ⟨RX1, "addLane", "(I)V"⟩
abbrev cX1_addSpan : ByteArray := prog_3_method_7_code
def yX1_addSpan : MethodName := ⟨RX1, "addSpan", "(IIIII)V"⟩
abbrev cX1_addGang : ByteArray := prog_3_method_8_code
def yX1_addGang : MethodName := ⟨RX1, "addGang", "(II)V"⟩
abbrev cX1_isClosed : ByteArray := prog_3_method_9_code
def yX1_isClosed : MethodName := ⟨RX1, "isClosed", "(II)Z"⟩
abbrev cX1_gangCapacity : ByteArray := prog_3_method_10_code
def yX1_gangCapacity : MethodName := ⟨RX1, "gangCapacity", "(II)I"⟩
def RX2 : String := "SpanPainter$History"
def TX2 : u_T := fun k => match k with
  | 0 => ("SpanPainter$History", "rows", "[[I", true)
  | 1 => ("SpanPainter$History", "newest", "I", false)
  | _ => ("SpanPainter$History", "size", "I", false)
def tyX2 : Nat → FieldType := fun k => match k with
  | 0 => .array (.array .int)
  | 1 => .int
  | _ => .int
abbrev wsX20 : List Cond := u_ws RX2 TX2 3
theorem nmX2 : ∀ a, a < 3 → ∀ b, b < 3 → a ≠ b → (TX2 a).2.1 ≠ (TX2 b).2.1 := by decide +kernel
theorem tyX2_ok : ∀ k, k < 3 → parseFieldDescriptor (TX2 k).2.2.1 = some (tyX2 k) := by decide +kernel
abbrev cX2_init : ByteArray := prog_4_method_1_code
def yX2_init : MethodName := ⟨RX2, "<init>", "()V"⟩
abbrev cX2_clear : ByteArray := prog_4_method_2_code
def yX2_clear : MethodName := ⟨RX2, "clear", "()V"⟩
abbrev cX2_size : ByteArray := prog_4_method_3_code
def yX2_size : MethodName := ⟨RX2, "size", "()I"⟩
abbrev cX2_isEmpty : ByteArray := prog_4_method_4_code
def yX2_isEmpty : MethodName := ⟨RX2, "isEmpty", "()Z"⟩
abbrev cX2_keep : ByteArray := prog_4_method_5_code
def yX2_keep : MethodName := ⟨RX2, "keep", "(LSpanPainter$Bridge;LSpanPainter$Plan;)V"⟩
abbrev cX2_takeBack : ByteArray := prog_4_method_6_code
def yX2_takeBack : MethodName := ⟨RX2, "takeBack", "(LSpanPainter$Bridge;LSpanPainter$Plan;)V"⟩
def RX3 : String := "SpanPainter$Names"
def TX3 : u_T := fun k => match k with
  | 0 => ("SpanPainter$Names", "words", "[J", true)
  | 1 => ("SpanPainter$Names", "sorts", "[I", true)
  | 2 => ("SpanPainter$Names", "numbers", "[I", true)
  | _ => ("SpanPainter$Names", "size", "I", false)
def tyX3 : Nat → FieldType := fun k => match k with
  | 0 => .array .long
  | 1 => .array .int
  | 2 => .array .int
  | _ => .int
abbrev wsX30 : List Cond := u_ws RX3 TX3 4
theorem nmX3 : ∀ a, a < 4 → ∀ b, b < 4 → a ≠ b → (TX3 a).2.1 ≠ (TX3 b).2.1 := by decide +kernel
theorem tyX3_ok : ∀ k, k < 4 → parseFieldDescriptor (TX3 k).2.2.1 = some (tyX3 k) := by decide +kernel
abbrev cX3_init : ByteArray := prog_5_method_1_code
def yX3_init : MethodName := ⟨RX3, "<init>", "()V"⟩
abbrev cX3_clear : ByteArray := prog_5_method_2_code
def yX3_clear : MethodName := ⟨RX3, "clear", "()V"⟩
abbrev cX3_add : ByteArray := prog_5_method_3_code
def yX3_add : MethodName := ⟨RX3, "add", "(JII)V"⟩
abbrev cX3_isDeclared : ByteArray := prog_5_method_4_code
def yX3_isDeclared : MethodName := ⟨RX3, "isDeclared", "(J)Z"⟩
abbrev cX3_numberOf : ByteArray := prog_5_method_5_code
def yX3_numberOf : MethodName := ⟨RX3, "numberOf", "(JI)I"⟩
def RX4 : String := "SpanPainter$Output"
def TX4 : u_T := fun k => match k with
  | 0 => ("SpanPainter$Output", "bytes", "[B", true)
  | _ => ("SpanPainter$Output", "size", "I", false)
def tyX4 : Nat → FieldType := fun k => match k with
  | 0 => .array .byte
  | _ => .int
abbrev wsX40 : List Cond := u_ws RX4 TX4 2
theorem nmX4 : ∀ a, a < 2 → ∀ b, b < 2 → a ≠ b → (TX4 a).2.1 ≠ (TX4 b).2.1 := by decide +kernel
theorem tyX4_ok : ∀ k, k < 2 → parseFieldDescriptor (TX4 k).2.2.1 = some (tyX4 k) := by decide +kernel
abbrev cX4_init : ByteArray := prog_6_method_1_code
def yX4_init : MethodName := ⟨RX4, "<init>", "()V"⟩
def RX5 : String := "SpanPainter$Parser"
def TX5 : u_T := fun k => match k with
  | 0 => ("SpanPainter$Parser", "tokens", "LSpanPainter$Tokens;", true)
  | 1 => ("SpanPainter$Parser", "names", "LSpanPainter$Names;", true)
  | 2 => ("SpanPainter$Parser", "bridge", "LSpanPainter$Bridge;", false)
  | 3 => ("SpanPainter$Parser", "plan", "LSpanPainter$Plan;", false)
  | 4 => ("SpanPainter$Parser", "failure", "I", false)
  | _ => ("SpanPainter$Parser", "failedAt", "I", false)
def tyX5 : Nat → FieldType := fun k => match k with
  | 0 => .object "SpanPainter$Tokens"
  | 1 => .object "SpanPainter$Names"
  | 2 => .object "SpanPainter$Bridge"
  | 3 => .object "SpanPainter$Plan"
  | 4 => .int
  | _ => .int
abbrev wsX50 : List Cond := u_ws RX5 TX5 6
theorem nmX5 : ∀ a, a < 6 → ∀ b, b < 6 → a ≠ b → (TX5 a).2.1 ≠ (TX5 b).2.1 := by decide +kernel
theorem tyX5_ok : ∀ k, k < 6 → parseFieldDescriptor (TX5 k).2.2.1 = some (tyX5 k) := by decide +kernel
abbrev cX5_init : ByteArray := prog_7_method_1_code
def yX5_init : MethodName := ⟨RX5, "<init>", "(LSpanPainter$Text;LSpanPainter$Bridge;LSpanPainter$Plan;)V"⟩
abbrev cX5_failureKind : ByteArray := prog_7_method_2_code
def yX5_failureKind : MethodName := ⟨RX5, "failureKind", "()I"⟩
abbrev cX5_failurePosition : ByteArray := prog_7_method_3_code
def yX5_failurePosition : MethodName := ⟨RX5, "failurePosition", "()I"⟩
abbrev cX5_read : ByteArray := prog_7_method_4_code
def yX5_read : MethodName := ⟨RX5, "read", "(ILSpanPainter$Bridge;LSpanPainter$Plan;)Z"⟩
abbrev cX5_fail : ByteArray := prog_7_method_5_code
def yX5_fail : MethodName := ⟨RX5, "fail", "(I)Z"⟩
abbrev cX5_readStatement : ByteArray := prog_7_method_6_code
def yX5_readStatement : MethodName := ⟨RX5, "readStatement", "(Z)Z"⟩
abbrev cX5_readBridge : ByteArray := prog_7_method_7_code
def yX5_readBridge : MethodName := ⟨RX5, "readBridge", "()Z"⟩
abbrev cX5_readLane : ByteArray := prog_7_method_8_code
def yX5_readLane : MethodName := ⟨RX5, "readLane", "()Z"⟩
abbrev cX5_readSpan : ByteArray := prog_7_method_9_code
def yX5_readSpan : MethodName := ⟨RX5, "readSpan", "()Z"⟩
abbrev cX5_readGang : ByteArray := prog_7_method_10_code
def yX5_readGang : MethodName := ⟨RX5, "readGang", "()Z"⟩
abbrev cX5_readWeather : ByteArray := prog_7_method_11_code
def yX5_readWeather : MethodName := ⟨RX5, "readWeather", "()Z"⟩
abbrev cX5_readClosed : ByteArray := prog_7_method_12_code
def yX5_readClosed : MethodName := ⟨RX5, "readClosed", "()Z"⟩
abbrev cX5_readPainting : ByteArray := prog_7_method_13_code
def yX5_readPainting : MethodName := ⟨RX5, "readPainting", "()Z"⟩
abbrev cX5_semicolon : ByteArray := prog_7_method_14_code
def yX5_semicolon : MethodName := ⟨RX5, "semicolon", "()Z"⟩
abbrev cX5_number : ByteArray := prog_7_method_15_code
def yX5_number : MethodName := ⟨RX5, "number", "(II)I"⟩
abbrev cX5_newName : ByteArray := prog_7_method_16_code
def yX5_newName : MethodName := ⟨RX5, "newName", "()J"⟩
abbrev cX5_knownName : ByteArray := prog_7_method_17_code
def yX5_knownName : MethodName := ⟨RX5, "knownName", "(I)I"⟩
abbrev cX5_laneOrNone : ByteArray := prog_7_method_18_code
def yX5_laneOrNone : MethodName := ⟨RX5, "laneOrNone", "()I"⟩
abbrev cX5_thisName : ByteArray := prog_7_method_19_code
def yX5_thisName : MethodName := ⟨RX5, "thisName", "(I)I"⟩
abbrev cX5_failOnToken : ByteArray := prog_7_method_20_code
def yX5_failOnToken : MethodName := ⟨RX5, "failOnToken", "()Z"⟩
abbrev cX5_isReserved : ByteArray := prog_7_method_21_code
def yX5_isReserved : MethodName := ⟨RX5, "isReserved", "(J)Z"⟩
def RX6 : String := "SpanPainter$Plan"
def TX6 : u_T := fun k => match k with
  | 0 => ("SpanPainter$Plan", "bridge", "LSpanPainter$Bridge;", false)
  | 1 => ("SpanPainter$Plan", "gangs", "[I", true)
  | 2 => ("SpanPainter$Plan", "rusts", "[I", true)
  | _ => ("SpanPainter$Plan", "guards", "[I", true)
def tyX6 : Nat → FieldType := fun k => match k with
  | 0 => .object "SpanPainter$Bridge"
  | 1 => .array .int
  | 2 => .array .int
  | _ => .array .int
abbrev wsX60 : List Cond := u_ws RX6 TX6 4
theorem nmX6 : ∀ a, a < 4 → ∀ b, b < 4 → a ≠ b → (TX6 a).2.1 ≠ (TX6 b).2.1 := by decide +kernel
theorem tyX6_ok : ∀ k, k < 4 → parseFieldDescriptor (TX6 k).2.2.1 = some (tyX6 k) := by decide +kernel
abbrev cX6_init : ByteArray := prog_8_method_1_code
def yX6_init : MethodName := ⟨RX6, "<init>", "(LSpanPainter$Bridge;)V"⟩
abbrev cX6_start : ByteArray := prog_8_method_2_code
def yX6_start : MethodName := ⟨RX6, "start", "(LSpanPainter$Bridge;)V"⟩
abbrev cX6_put : ByteArray := prog_8_method_3_code
def yX6_put : MethodName := ⟨RX6, "put", "(III)V"⟩
abbrev cX6_painter : ByteArray := prog_8_method_4_code
def yX6_painter : MethodName := ⟨RX6, "painter", "(II)I"⟩
abbrev cX6_isPainted : ByteArray := prog_8_method_5_code
def yX6_isPainted : MethodName := ⟨RX6, "isPainted", "(II)Z"⟩
abbrev cX6_countPaintings : ByteArray := prog_8_method_7_code
def yX6_countPaintings : MethodName := ⟨RX6, "countPaintings", "()I"⟩
abbrev cX6_saveTo : ByteArray := prog_8_method_8_code
def yX6_saveTo : MethodName := ⟨RX6, "saveTo", "([I)V"⟩
abbrev cX6_restoreFrom : ByteArray := prog_8_method_9_code
def yX6_restoreFrom : MethodName := ⟨RX6, "restoreFrom", "([I)V"⟩
abbrev cX6_followAll : ByteArray := prog_8_method_10_code
def yX6_followAll : MethodName := ⟨RX6, "followAll", "()V"⟩
abbrev cX6_follow : ByteArray := prog_8_method_11_code
def yX6_follow : MethodName := ⟨RX6, "follow", "(I)V"⟩
abbrev cX6_rustAtStart : ByteArray := prog_8_method_12_code
def yX6_rustAtStart : MethodName := ⟨RX6, "rustAtStart", "(II)I"⟩
abbrev cX6_rustAtEnd : ByteArray := prog_8_method_13_code
def yX6_rustAtEnd : MethodName := ⟨RX6, "rustAtEnd", "(II)I"⟩
abbrev cX6_guardAtStart : ByteArray := prog_8_method_14_code
def yX6_guardAtStart : MethodName := ⟨RX6, "guardAtStart", "(II)I"⟩
abbrev cX6_isPast : ByteArray := prog_8_method_15_code
def yX6_isPast : MethodName := ⟨RX6, "isPast", "(II)Z"⟩
abbrev cX6_firstPast : ByteArray := prog_8_method_16_code
def yX6_firstPast : MethodName := ⟨RX6, "firstPast", "(I)I"⟩
abbrev cX6_countPast : ByteArray := prog_8_method_17_code
def yX6_countPast : MethodName := ⟨RX6, "countPast", "()I"⟩
abbrev cX6_spanEffort : ByteArray := prog_8_method_18_code
def yX6_spanEffort : MethodName := ⟨RX6, "spanEffort", "(II)I"⟩
abbrev cX6_gangLoad : ByteArray := prog_8_method_19_code
def yX6_gangLoad : MethodName := ⟨RX6, "gangLoad", "(II)I"⟩
abbrev cX6_shutLanes : ByteArray := prog_8_method_24_code
def yX6_shutLanes : MethodName := ⟨RX6, "shutLanes", "(I)I"⟩
abbrev cX6_reasonAgainst : ByteArray := prog_8_method_29_code
def yX6_reasonAgainst : MethodName := ⟨RX6, "reasonAgainst", "(III)I"⟩
def RX7 : String := "SpanPainter$Ranking"
def TX7 : u_T := fun k => match k with
  | 0 => ("SpanPainter$Ranking", "keys", "[I", true)
  | _ => ("SpanPainter$Ranking", "size", "I", false)
def tyX7 : Nat → FieldType := fun k => match k with
  | 0 => .array .int
  | _ => .int
abbrev wsX70 : List Cond := u_ws RX7 TX7 2
theorem nmX7 : ∀ a, a < 2 → ∀ b, b < 2 → a ≠ b → (TX7 a).2.1 ≠ (TX7 b).2.1 := by decide +kernel
theorem tyX7_ok : ∀ k, k < 2 → parseFieldDescriptor (TX7 k).2.2.1 = some (tyX7 k) := by decide +kernel
abbrev cX7_init : ByteArray := prog_9_method_1_code
def yX7_init : MethodName := ⟨RX7, "<init>", "()V"⟩
def RX8 : String := "SpanPainter$SafeSearch"
def TX8 : u_T := fun k => match k with
  | 0 => ("SpanPainter$SafeSearch", "endangered", "LSpanPainter$Ranking;", true)
  | _ => ("SpanPainter$SafeSearch", "tries", "I", false)
def tyX8 : Nat → FieldType := fun k => match k with
  | 0 => .object "SpanPainter$Ranking"
  | _ => .int
abbrev wsX80 : List Cond := u_ws RX8 TX8 2
theorem nmX8 : ∀ a, a < 2 → ∀ b, b < 2 → a ≠ b → (TX8 a).2.1 ≠ (TX8 b).2.1 := by decide +kernel
theorem tyX8_ok : ∀ k, k < 2 → parseFieldDescriptor (TX8 k).2.2.1 = some (tyX8 k) := by decide +kernel
abbrev cX8_init : ByteArray := prog_10_method_1_code
def yX8_init : MethodName := ⟨RX8, "<init>", "()V"⟩
def RX9 : String := "SpanPainter$Text"
def TX9 : u_T := fun k => match k with
  | 0 => ("SpanPainter$Text", "bytes", "[B", true)
  | _ => ("SpanPainter$Text", "size", "I", false)
def tyX9 : Nat → FieldType := fun k => match k with
  | 0 => .array .byte
  | _ => .int
abbrev wsX90 : List Cond := u_ws RX9 TX9 2
theorem nmX9 : ∀ a, a < 2 → ∀ b, b < 2 → a ≠ b → (TX9 a).2.1 ≠ (TX9 b).2.1 := by decide +kernel
theorem tyX9_ok : ∀ k, k < 2 → parseFieldDescriptor (TX9 k).2.2.1 = some (tyX9 k) := by decide +kernel
abbrev cX9_init : ByteArray := prog_11_method_1_code
def yX9_init : MethodName := ⟨RX9, "<init>", "()V"⟩
abbrev cX9_clear : ByteArray := prog_11_method_2_code
def yX9_clear : MethodName := ⟨RX9, "clear", "()V"⟩
abbrev cX9_size : ByteArray := prog_11_method_3_code
def yX9_size : MethodName := ⟨RX9, "size", "()I"⟩
abbrev cX9_hasRoomFor : ByteArray := prog_11_method_4_code
def yX9_hasRoomFor : MethodName := ⟨RX9, "hasRoomFor", "(I)Z"⟩
abbrev cX9_append : ByteArray := prog_11_method_5_code
def yX9_append : MethodName := ⟨RX9, "append", "(I)V"⟩
def RX10 : String := "SpanPainter$Tokens"
def TX10 : u_T := fun k => match k with
  | 0 => ("SpanPainter$Tokens", "text", "LSpanPainter$Text;", true)
  | 1 => ("SpanPainter$Tokens", "length", "I", false)
  | 2 => ("SpanPainter$Tokens", "start", "I", false)
  | 3 => ("SpanPainter$Tokens", "end", "I", false)
  | 4 => ("SpanPainter$Tokens", "kind", "I", false)
  | 5 => ("SpanPainter$Tokens", "number", "I", false)
  | _ => ("SpanPainter$Tokens", "word", "J", false)
def tyX10 : Nat → FieldType := fun k => match k with
  | 0 => .object "SpanPainter$Text"
  | 1 => .int
  | 2 => .int
  | 3 => .int
  | 4 => .int
  | 5 => .int
  | _ => .long
abbrev wsX100 : List Cond := u_ws RX10 TX10 7
theorem nmX10 : ∀ a, a < 7 → ∀ b, b < 7 → a ≠ b → (TX10 a).2.1 ≠ (TX10 b).2.1 := by decide +kernel
theorem tyX10_ok : ∀ k, k < 7 → parseFieldDescriptor (TX10 k).2.2.1 = some (tyX10 k) := by decide +kernel
abbrev cX10_init : ByteArray := prog_12_method_1_code
def yX10_init : MethodName := ⟨RX10, "<init>", "(LSpanPainter$Text;)V"⟩
abbrev cX10_begin : ByteArray := prog_12_method_2_code
def yX10_begin : MethodName := ⟨RX10, "begin", "(I)V"⟩
abbrev cX10_next : ByteArray := prog_12_method_3_code
def yX10_next : MethodName := ⟨RX10, "next", "()V"⟩
abbrev cX10_takeLetters : ByteArray := prog_12_method_4_code
def yX10_takeLetters : MethodName := ⟨RX10, "takeLetters", "()V"⟩
abbrev cX10_takeDigits : ByteArray := prog_12_method_5_code
def yX10_takeDigits : MethodName := ⟨RX10, "takeDigits", "()V"⟩
def RX11 : String := "SpanPainter"
def TX11 : u_T := fun k => match k with
  | 0 => ("SpanPainter", "text", "LSpanPainter$Text;", true)
  | 1 => ("SpanPainter", "parser", "LSpanPainter$Parser;", true)
  | 2 => ("SpanPainter", "planner", "LSpanPainter$AutoPlanner;", true)
  | 3 => ("SpanPainter", "search", "LSpanPainter$SafeSearch;", true)
  | 4 => ("SpanPainter", "ranking", "LSpanPainter$Ranking;", true)
  | 5 => ("SpanPainter", "history", "LSpanPainter$History;", true)
  | 6 => ("SpanPainter", "output", "LSpanPainter$Output;", true)
  | 7 => ("SpanPainter", "bridge", "LSpanPainter$Bridge;", false)
  | 8 => ("SpanPainter", "plan", "LSpanPainter$Plan;", false)
  | 9 => ("SpanPainter", "spare", "LSpanPainter$Bridge;", false)
  | 10 => ("SpanPainter", "draft", "LSpanPainter$Plan;", false)
  | 11 => ("SpanPainter", "badKind", "I", false)
  | _ => ("SpanPainter", "badPosition", "I", false)
def tyX11 : Nat → FieldType := fun k => match k with
  | 0 => .object "SpanPainter$Text"
  | 1 => .object "SpanPainter$Parser"
  | 2 => .object "SpanPainter$AutoPlanner"
  | 3 => .object "SpanPainter$SafeSearch"
  | 4 => .object "SpanPainter$Ranking"
  | 5 => .object "SpanPainter$History"
  | 6 => .object "SpanPainter$Output"
  | 7 => .object "SpanPainter$Bridge"
  | 8 => .object "SpanPainter$Plan"
  | 9 => .object "SpanPainter$Bridge"
  | 10 => .object "SpanPainter$Plan"
  | 11 => .int
  | _ => .int
abbrev wsX110 : List Cond := u_ws RX11 TX11 13
theorem nmX11 : ∀ a, a < 13 → ∀ b, b < 13 → a ≠ b → (TX11 a).2.1 ≠ (TX11 b).2.1 := by decide +kernel
theorem tyX11_ok : ∀ k, k < 13 → parseFieldDescriptor (TX11 k).2.2.1 = some (tyX11 k) := by decide +kernel
abbrev cX11_init : ByteArray := prog_1_method_1_code
def yX11_init : MethodName := ⟨RX11, "<init>", "()V"⟩
abbrev cX11_feed : ByteArray := prog_1_method_2_code
def yX11_feed : MethodName := ⟨RX11, "feed", "(IIIII)I"⟩
abbrev cX11_load : ByteArray := prog_1_method_3_code
def yX11_load : MethodName := ⟨RX11, "load", "(I)I"⟩
abbrev cX11_errorKind : ByteArray := prog_1_method_4_code
def yX11_errorKind : MethodName := ⟨RX11, "errorKind", "()I"⟩
abbrev cX11_rustBefore : ByteArray := prog_1_method_6_code
def yX11_rustBefore : MethodName := ⟨RX11, "rustBefore", "(II)I"⟩
abbrev cX11_rustAfter : ByteArray := prog_1_method_7_code
def yX11_rustAfter : MethodName := ⟨RX11, "rustAfter", "(II)I"⟩
abbrev cX11_guardLeft : ByteArray := prog_1_method_8_code
def yX11_guardLeft : MethodName := ⟨RX11, "guardLeft", "(II)I"⟩
abbrev cX11_pastYear : ByteArray := prog_1_method_9_code
def yX11_pastYear : MethodName := ⟨RX11, "pastYear", "(I)I"⟩
abbrev cX11_effort : ByteArray := prog_1_method_19_code
def yX11_effort : MethodName := ⟨RX11, "effort", "(II)I"⟩
abbrev cX11_capacity : ByteArray := prog_1_method_20_code
def yX11_capacity : MethodName := ⟨RX11, "capacity", "(II)I"⟩
abbrev cX11_loadOf : ByteArray := prog_1_method_21_code
def yX11_loadOf : MethodName := ⟨RX11, "loadOf", "(II)I"⟩
abbrev cX11_paintings : ByteArray := prog_1_method_25_code
def yX11_paintings : MethodName := ⟨RX11, "paintings", "()I"⟩
abbrev cX11_refusal : ByteArray := prog_1_method_36_code
def yX11_refusal : MethodName := ⟨RX11, "refusal", "(III)I"⟩
abbrev cX11_paint : ByteArray := prog_1_method_43_code
def yX11_paint : MethodName := ⟨RX11, "paint", "(III)I"⟩
abbrev cX11_undo : ByteArray := prog_1_method_54_code
def yX11_undo : MethodName := ⟨RX11, "undo", "()I"⟩
abbrev cX11_checkYear : ByteArray := prog_1_method_66_code
def yX11_checkYear : MethodName := ⟨RX11, "checkYear", "(I)V"⟩
abbrev cX11_checkSpan : ByteArray := prog_1_method_67_code
def yX11_checkSpan : MethodName := ⟨RX11, "checkSpan", "(I)V"⟩
abbrev cX11_checkGang : ByteArray := prog_1_method_69_code
def yX11_checkGang : MethodName := ⟨RX11, "checkGang", "(I)V"⟩
abbrev cX11_remember : ByteArray := prog_1_method_71_code
def yX11_remember : MethodName := ⟨RX11, "remember", "()V"⟩
abbrev cX11_takeDraft : ByteArray := prog_1_method_72_code
def yX11_takeDraft : MethodName := ⟨RX11, "takeDraft", "()V"⟩
def RX12 : String := "SpanPainterModel"
def TX12 : u_T := fun k => match k with
  | _ => ("", "", "", false)
def tyX12 : Nat → FieldType := fun k => match k with
  | _ => .int
abbrev wsX120 : List Cond := u_ws RX12 TX12 0
theorem nmX12 : ∀ a, a < 0 → ∀ b, b < 0 → a ≠ b → (TX12 a).2.1 ≠ (TX12 b).2.1 := by decide +kernel
theorem tyX12_ok : ∀ k, k < 0 → parseFieldDescriptor (TX12 k).2.2.1 = some (tyX12 k) := by decide +kernel
def RJx145de : String := "java/io/Serializable"
def TJx145de : u_T := fun k => match k with
  | _ => ("", "", "", false)
def tyJx145de : Nat → FieldType := fun k => match k with
  | _ => .int
abbrev wsJx145de0 : List Cond := u_ws RJx145de TJx145de 0
theorem nmJx145de : ∀ a, a < 0 → ∀ b, b < 0 → a ≠ b → (TJx145de a).2.1 ≠ (TJx145de b).2.1 := by decide +kernel
theorem tyJx145de_ok : ∀ k, k < 0 → parseFieldDescriptor (TJx145de k).2.2.1 = some (tyJx145de k) := by decide +kernel
def RJ5 : String := "java/lang/AbstractStringBuilder"
def TJ5 : u_T := fun k => match k with
  | _ => ("", "", "", false)
def tyJ5 : Nat → FieldType := fun k => match k with
  | _ => .int
abbrev wsJ50 : List Cond := u_ws RJ5 TJ5 0
theorem nmJ5 : ∀ a, a < 0 → ∀ b, b < 0 → a ≠ b → (TJ5 a).2.1 ≠ (TJ5 b).2.1 := by decide +kernel
theorem tyJ5_ok : ∀ k, k < 0 → parseFieldDescriptor (TJ5 k).2.2.1 = some (tyJ5 k) := by decide +kernel
abbrev cJ5_init_d00df : ByteArray := prog_15_method_2_code
def yJ5_init_d00df : MethodName := ⟨RJ5, "<init>", "(I)V"⟩
abbrev cJ5_length_8abf5 : ByteArray := prog_15_method_6_code
def yJ5_length_8abf5 : MethodName := ⟨RJ5, "length", "()I"⟩
abbrev cJ5_ensureCapacityInternal_d00df : ByteArray := prog_15_method_9_code
def yJ5_ensureCapacityInternal_d00df : MethodName := ⟨RJ5, "ensureCapacityInternal", "(I)V"⟩
abbrev cJ5_newCapacity_0f7a4 : ByteArray := prog_15_method_10_code
def yJ5_newCapacity_0f7a4 : MethodName := ⟨RJ5, "newCapacity", "(I)I"⟩
abbrev cJ5_inflate_da8c8 : ByteArray := prog_15_method_11_code
def yJ5_inflate_da8c8 : MethodName := ⟨RJ5, "inflate", "()V"⟩
abbrev cJ5_append_cf1ce : ByteArray := prog_15_method_22_code
def yJ5_append_cf1ce : MethodName := ⟨RJ5, "append", "(Ljava/lang/String;)Ljava/lang/AbstractStringBuilder;"⟩
abbrev cJ5_appendNull_278bc : ByteArray := prog_15_method_26_code
def yJ5_appendNull_278bc : MethodName := ⟨RJ5, "appendNull", "()Ljava/lang/AbstractStringBuilder;"⟩
abbrev cJ5_append_3fe6f : ByteArray := prog_15_method_31_code
def yJ5_append_3fe6f : MethodName := ⟨RJ5, "append", "(C)Ljava/lang/AbstractStringBuilder;"⟩
abbrev cJ5_append_c97b9 : ByteArray := prog_15_method_32_code
def yJ5_append_c97b9 : MethodName := ⟨RJ5, "append", "(I)Ljava/lang/AbstractStringBuilder;"⟩
abbrev cJ5_getValue_6d5f1 : ByteArray := prog_15_method_64_code
def yJ5_getValue_6d5f1 : MethodName := ⟨RJ5, "getValue", "()[B"⟩
abbrev cJ5_isLatin1_aae02 : ByteArray := prog_15_method_68_code
def yJ5_isLatin1_aae02 : MethodName := ⟨RJ5, "isLatin1", "()Z"⟩
abbrev cJ5_inflateIfNeededFor_a7421 : ByteArray := prog_15_method_71_code
def yJ5_inflateIfNeededFor_a7421 : MethodName := ⟨RJ5, "inflateIfNeededFor", "(Ljava/lang/String;)V"⟩
abbrev cJ5_putStringAt_47b60 : ByteArray := prog_15_method_73_code
def yJ5_putStringAt_47b60 : MethodName := ⟨RJ5, "putStringAt", "(ILjava/lang/String;)V"⟩
def RJx2cfe8 : String := "java/lang/Appendable"
def TJx2cfe8 : u_T := fun k => match k with
  | _ => ("", "", "", false)
def tyJx2cfe8 : Nat → FieldType := fun k => match k with
  | _ => .int
abbrev wsJx2cfe80 : List Cond := u_ws RJx2cfe8 TJx2cfe8 0
theorem nmJx2cfe8 : ∀ a, a < 0 → ∀ b, b < 0 → a ≠ b → (TJx2cfe8 a).2.1 ≠ (TJx2cfe8 b).2.1 := by decide +kernel
theorem tyJx2cfe8_ok : ∀ k, k < 0 → parseFieldDescriptor (TJx2cfe8 k).2.2.1 = some (tyJx2cfe8 k) := by decide +kernel
def RJx9f9b0 : String := "java/lang/CharSequence"
def TJx9f9b0 : u_T := fun k => match k with
  | _ => ("", "", "", false)
def tyJx9f9b0 : Nat → FieldType := fun k => match k with
  | _ => .int
abbrev wsJx9f9b00 : List Cond := u_ws RJx9f9b0 TJx9f9b0 0
theorem nmJx9f9b0 : ∀ a, a < 0 → ∀ b, b < 0 → a ≠ b → (TJx9f9b0 a).2.1 ≠ (TJx9f9b0 b).2.1 := by decide +kernel
theorem tyJx9f9b0_ok : ∀ k, k < 0 → parseFieldDescriptor (TJx9f9b0 k).2.2.1 = some (tyJx9f9b0 k) := by decide +kernel
def RJx8e188 : String := "java/lang/Cloneable"
def TJx8e188 : u_T := fun k => match k with
  | _ => ("", "", "", false)
def tyJx8e188 : Nat → FieldType := fun k => match k with
  | _ => .int
abbrev wsJx8e1880 : List Cond := u_ws RJx8e188 TJx8e188 0
theorem nmJx8e188 : ∀ a, a < 0 → ∀ b, b < 0 → a ≠ b → (TJx8e188 a).2.1 ≠ (TJx8e188 b).2.1 := by decide +kernel
theorem tyJx8e188_ok : ∀ k, k < 0 → parseFieldDescriptor (TJx8e188 k).2.2.1 = some (tyJx8e188 k) := by decide +kernel
def RJxb160c : String := "java/lang/Comparable"
def TJxb160c : u_T := fun k => match k with
  | _ => ("", "", "", false)
def tyJxb160c : Nat → FieldType := fun k => match k with
  | _ => .int
abbrev wsJxb160c0 : List Cond := u_ws RJxb160c TJxb160c 0
theorem nmJxb160c : ∀ a, a < 0 → ∀ b, b < 0 → a ≠ b → (TJxb160c a).2.1 ≠ (TJxb160c b).2.1 := by decide +kernel
theorem tyJxb160c_ok : ∀ k, k < 0 → parseFieldDescriptor (TJxb160c k).2.2.1 = some (tyJxb160c k) := by decide +kernel
def RJ6 : String := "java/lang/Integer"
def TJ6 : u_T := fun k => match k with
  | _ => ("", "", "", false)
def tyJ6 : Nat → FieldType := fun k => match k with
  | _ => .int
abbrev wsJ60 : List Cond := u_ws RJ6 TJ6 0
theorem nmJ6 : ∀ a, a < 0 → ∀ b, b < 0 → a ≠ b → (TJ6 a).2.1 ≠ (TJ6 b).2.1 := by decide +kernel
theorem tyJ6_ok : ∀ k, k < 0 → parseFieldDescriptor (TJ6 k).2.2.1 = some (tyJ6 k) := by decide +kernel
abbrev cJ6_getChars_ba4f3 : ByteArray := prog_20_method_12_code
def yJ6_getChars_ba4f3 : MethodName := ⟨RJ6, "getChars", "(II[B)I"⟩
abbrev cJ6_stringSize_0f7a4 : ByteArray := prog_20_method_13_code
def yJ6_stringSize_0f7a4 : MethodName := ⟨RJ6, "stringSize", "(I)I"⟩
abbrev cJ6_bitCount_0f7a4 : ByteArray := prog_20_method_49_code
def yJ6_bitCount_0f7a4 : MethodName := ⟨RJ6, "bitCount", "(I)I"⟩
def RJ9 : String := "java/lang/Math"
def TJ9 : u_T := fun k => match k with
  | _ => ("", "", "", false)
def tyJ9 : Nat → FieldType := fun k => match k with
  | _ => .int
abbrev wsJ90 : List Cond := u_ws RJ9 TJ9 0
theorem nmJ9 : ∀ a, a < 0 → ∀ b, b < 0 → a ≠ b → (TJ9 a).2.1 ≠ (TJ9 b).2.1 := by decide +kernel
theorem tyJ9_ok : ∀ k, k < 0 → parseFieldDescriptor (TJ9 k).2.2.1 = some (tyJ9 k) := by decide +kernel
abbrev cJ9_max_7cf53 : ByteArray := prog_21_method_65_code
def yJ9_max_7cf53 : MethodName := ⟨RJ9, "max", "(II)I"⟩
abbrev cJ9_min_7cf53 : ByteArray := prog_21_method_69_code
def yJ9_min_7cf53 : MethodName := ⟨RJ9, "min", "(II)I"⟩
def RJxd2413 : String := "java/lang/Number"
def TJxd2413 : u_T := fun k => match k with
  | _ => ("", "", "", false)
def tyJxd2413 : Nat → FieldType := fun k => match k with
  | _ => .int
abbrev wsJxd24130 : List Cond := u_ws RJxd2413 TJxd2413 0
theorem nmJxd2413 : ∀ a, a < 0 → ∀ b, b < 0 → a ≠ b → (TJxd2413 a).2.1 ≠ (TJxd2413 b).2.1 := by decide +kernel
theorem tyJxd2413_ok : ∀ k, k < 0 → parseFieldDescriptor (TJxd2413 k).2.2.1 = some (tyJxd2413 k) := by decide +kernel
def RJ0 : String := "java/lang/String"
def TJ0 : u_T := fun k => match k with
  | 0 => ("java/lang/String", "value", "[B", true)
  | 1 => ("java/lang/String", "coder", "B", true)
  | 2 => ("java/lang/String", "hash", "I", false)
  | _ => ("java/lang/String", "hashIsZero", "Z", false)
def tyJ0 : Nat → FieldType := fun k => match k with
  | 0 => .array .byte
  | 1 => .byte
  | 2 => .int
  | _ => .boolean
abbrev wsJ00 : List Cond := u_ws RJ0 TJ0 4
theorem nmJ0 : ∀ a, a < 4 → ∀ b, b < 4 → a ≠ b → (TJ0 a).2.1 ≠ (TJ0 b).2.1 := by decide +kernel
theorem tyJ0_ok : ∀ k, k < 4 → parseFieldDescriptor (TJ0 k).2.2.1 = some (tyJ0 k) := by decide +kernel
abbrev cJ0_init_81219 : ByteArray := prog_24_method_53_code
def yJ0_init_81219 : MethodName := ⟨RJ0, "<init>", "(Ljava/lang/StringBuilder;)V"⟩
abbrev cJ0_length_8abf5 : ByteArray := prog_24_method_54_code
def yJ0_length_8abf5 : MethodName := ⟨RJ0, "length", "()I"⟩
abbrev cJ0_charAt_5068e : ByteArray := prog_24_method_56_code
def yJ0_charAt_5068e : MethodName := ⟨RJ0, "charAt", "(I)C"⟩
abbrev cJ0_getBytes_840e7 : ByteArray := prog_24_method_147_code
def yJ0_getBytes_840e7 : MethodName := ⟨RJ0, "getBytes", "([BIB)V"⟩
abbrev cJ0_init_db425 : ByteArray := prog_24_method_150_code
def yJ0_init_db425 : MethodName := ⟨RJ0, "<init>", "(Ljava/lang/AbstractStringBuilder;Ljava/lang/Void;)V"⟩
abbrev cJ0_coder_7d493 : ByteArray := prog_24_method_152_code
def yJ0_coder_7d493 : MethodName := ⟨RJ0, "coder", "()B"⟩
abbrev cJ0_isLatin1_aae02 : ByteArray := prog_24_method_154_code
def yJ0_isLatin1_aae02 : MethodName := ⟨RJ0, "isLatin1", "()Z"⟩
abbrev cJ0_checkIndex_df160 : ByteArray := prog_24_method_155_code
def yJ0_checkIndex_df160 : MethodName := ⟨RJ0, "checkIndex", "(II)V"⟩
abbrev cJ0_checkBoundsOffCount_cabcc : ByteArray := prog_24_method_157_code
def yJ0_checkBoundsOffCount_cabcc : MethodName := ⟨RJ0, "checkBoundsOffCount", "(III)I"⟩
abbrev cJ0_checkBoundsBeginEnd_23922 : ByteArray := prog_24_method_158_code
def yJ0_checkBoundsBeginEnd_23922 : MethodName := ⟨RJ0, "checkBoundsBeginEnd", "(III)V"⟩
def RJ4 : String := "java/lang/StringBuilder"
def TJ4 : u_T := fun k => match k with
  | 0 => ("java/lang/AbstractStringBuilder", "value", "[B", false)
  | 1 => ("java/lang/AbstractStringBuilder", "coder", "B", false)
  | 2 => ("java/lang/AbstractStringBuilder", "maybeLatin1", "Z", false)
  | _ => ("java/lang/AbstractStringBuilder", "count", "I", false)
def tyJ4 : Nat → FieldType := fun k => match k with
  | 0 => .array .byte
  | 1 => .byte
  | 2 => .boolean
  | _ => .int
abbrev wsJ40 : List Cond := u_ws RJ4 TJ4 4
theorem nmJ4 : ∀ a, a < 4 → ∀ b, b < 4 → a ≠ b → (TJ4 a).2.1 ≠ (TJ4 b).2.1 := by decide +kernel
theorem tyJ4_ok : ∀ k, k < 4 → parseFieldDescriptor (TJ4 k).2.2.1 = some (tyJ4 k) := by decide +kernel
abbrev cJ4_init_da8c8 : ByteArray := prog_25_method_1_code
def yJ4_init_da8c8 : MethodName := ⟨RJ4, "<init>", "()V"⟩
abbrev cJ4_append_15ec4 : ByteArray := prog_25_method_7_code
def yJ4_append_15ec4 : MethodName := ⟨RJ4, "append", "(Ljava/lang/String;)Ljava/lang/StringBuilder;"⟩
abbrev cJ4_append_cf468 : ByteArray := prog_25_method_14_code
def yJ4_append_cf468 : MethodName := ⟨RJ4, "append", "(C)Ljava/lang/StringBuilder;"⟩
abbrev cJ4_append_bf812 : ByteArray := prog_25_method_15_code
def yJ4_append_bf812 : MethodName := ⟨RJ4, "append", "(I)Ljava/lang/StringBuilder;"⟩
abbrev cJ4_toString_0e30d : ByteArray := prog_25_method_42_code
def yJ4_toString_0e30d : MethodName := ⟨RJ4, "toString", "()Ljava/lang/String;"⟩
abbrev cJ4_length_8abf5 : ByteArray := prog_25_method_93_code
def yJ4_length_8abf5 : MethodName := ⟨RJ4, "length", "()I"⟩
def RJ1 : String := "java/lang/StringLatin1"
def TJ1 : u_T := fun k => match k with
  | _ => ("", "", "", false)
def tyJ1 : Nat → FieldType := fun k => match k with
  | _ => .int
abbrev wsJ10 : List Cond := u_ws RJ1 TJ1 0
theorem nmJ1 : ∀ a, a < 0 → ∀ b, b < 0 → a ≠ b → (TJ1 a).2.1 ≠ (TJ1 b).2.1 := by decide +kernel
theorem tyJ1_ok : ∀ k, k < 0 → parseFieldDescriptor (TJ1 k).2.2.1 = some (tyJ1 k) := by decide +kernel
abbrev cJ1_charAt_3b067 : ByteArray := prog_26_method_2_code
def yJ1_charAt_3b067 : MethodName := ⟨RJ1, "charAt", "([BI)C"⟩
abbrev cJ1_canEncode_fc78d : ByteArray := prog_26_method_3_code
def yJ1_canEncode_fc78d : MethodName := ⟨RJ1, "canEncode", "(C)Z"⟩
abbrev cJ1_inflate_0e8fd : ByteArray := prog_26_method_50_code
def yJ1_inflate_0e8fd : MethodName := ⟨RJ1, "inflate", "([BI[BII)V"⟩
def RJ2 : String := "java/lang/StringUTF16"
def TJ2 : u_T := fun k => match k with
  | _ => ("", "", "", false)
def tyJ2 : Nat → FieldType := fun k => match k with
  | _ => .int
abbrev wsJ20 : List Cond := u_ws RJ2 TJ2 0
theorem nmJ2 : ∀ a, a < 0 → ∀ b, b < 0 → a ≠ b → (TJ2 a).2.1 ≠ (TJ2 b).2.1 := by decide +kernel
theorem tyJ2_ok : ∀ k, k < 0 → parseFieldDescriptor (TJ2 k).2.2.1 = some (tyJ2 k) := by decide +kernel
abbrev cJ2_newBytesFor_77867 : ByteArray := prog_27_method_2_code
def yJ2_newBytesFor_77867 : MethodName := ⟨RJ2, "newBytesFor", "(I)[B"⟩
abbrev cJ2_newBytesLength_0f7a4 : ByteArray := prog_27_method_3_code
def yJ2_newBytesLength_0f7a4 : MethodName := ⟨RJ2, "newBytesLength", "(I)I"⟩
abbrev cJ2_putChar_b72d1 : ByteArray := prog_27_method_4_code
def yJ2_putChar_b72d1 : MethodName := ⟨RJ2, "putChar", "([BII)V"⟩
abbrev cJ2_getChar_3b067 : ByteArray := prog_27_method_5_code
def yJ2_getChar_3b067 : MethodName := ⟨RJ2, "getChar", "([BI)C"⟩
abbrev cJ2_length_9d52b : ByteArray := prog_27_method_6_code
def yJ2_length_9d52b : MethodName := ⟨RJ2, "length", "([B)I"⟩
abbrev cJ2_coderFromArrayLen_85cad : ByteArray := prog_27_method_15_code
def yJ2_coderFromArrayLen_85cad : MethodName := ⟨RJ2, "coderFromArrayLen", "([BI)B"⟩
abbrev cJ2_compress_39247 : ByteArray := prog_27_method_17_code
def yJ2_compress_39247 : MethodName := ⟨RJ2, "compress", "([BII)[B"⟩
abbrev cJ2_compress_5af95 : ByteArray := prog_27_method_22_code
def yJ2_compress_5af95 : MethodName := ⟨RJ2, "compress", "([BI[BII)I"⟩
abbrev cJ2_putCharSB_b72d1 : ByteArray := prog_27_method_71_code
def yJ2_putCharSB_b72d1 : MethodName := ⟨RJ2, "putCharSB", "([BII)V"⟩
abbrev cJ2_getChars_46870 : ByteArray := prog_27_method_77_code
def yJ2_getChars_46870 : MethodName := ⟨RJ2, "getChars", "(III[B)I"⟩
abbrev cJ2_putCharsAt_cd4e5 : ByteArray := prog_27_method_81_code
def yJ2_putCharsAt_cd4e5 : MethodName := ⟨RJ2, "putCharsAt", "([BICCCC)I"⟩
abbrev cJ2_charAt_3b067 : ByteArray := prog_27_method_83_code
def yJ2_charAt_3b067 : MethodName := ⟨RJ2, "charAt", "([BI)C"⟩
abbrev cJ2_inflate_0e8fd : ByteArray := prog_27_method_86_code
def yJ2_inflate_0e8fd : MethodName := ⟨RJ2, "inflate", "([BI[BII)V"⟩
abbrev cJ2_getChars_ba4f3 : ByteArray := prog_27_method_89_code
def yJ2_getChars_ba4f3 : MethodName := ⟨RJ2, "getChars", "(II[B)I"⟩
abbrev cJ2_checkIndex_2214a : ByteArray := prog_27_method_91_code
def yJ2_checkIndex_2214a : MethodName := ⟨RJ2, "checkIndex", "(I[B)V"⟩
abbrev cJ2_checkBoundsBeginEnd_d044e : ByteArray := prog_27_method_93_code
def yJ2_checkBoundsBeginEnd_d044e : MethodName := ⟨RJ2, "checkBoundsBeginEnd", "(II[B)V"⟩
abbrev cJ2_checkBoundsOffCount_d044e : ByteArray := prog_27_method_94_code
def yJ2_checkBoundsOffCount_d044e : MethodName := ⟨RJ2, "checkBoundsOffCount", "(II[B)V"⟩
def RJ10 : String := "java/lang/System"
def TJ10 : u_T := fun k => match k with
  | _ => ("", "", "", false)
def tyJ10 : Nat → FieldType := fun k => match k with
  | _ => .int
abbrev wsJ100 : List Cond := u_ws RJ10 TJ10 0
theorem nmJ10 : ∀ a, a < 0 → ∀ b, b < 0 → a ≠ b → (TJ10 a).2.1 ≠ (TJ10 b).2.1 := by decide +kernel
theorem tyJ10_ok : ∀ k, k < 0 → parseFieldDescriptor (TJ10 k).2.2.1 = some (tyJ10 k) := by decide +kernel
def RJxfd54e : String := "java/lang/constant/Constable"
def TJxfd54e : u_T := fun k => match k with
  | _ => ("", "", "", false)
def tyJxfd54e : Nat → FieldType := fun k => match k with
  | _ => .int
abbrev wsJxfd54e0 : List Cond := u_ws RJxfd54e TJxfd54e 0
theorem nmJxfd54e : ∀ a, a < 0 → ∀ b, b < 0 → a ≠ b → (TJxfd54e a).2.1 ≠ (TJxfd54e b).2.1 := by decide +kernel
theorem tyJxfd54e_ok : ∀ k, k < 0 → parseFieldDescriptor (TJxfd54e k).2.2.1 = some (tyJxfd54e k) := by decide +kernel
def RJx3cf43 : String := "java/lang/constant/ConstantDesc"
def TJx3cf43 : u_T := fun k => match k with
  | _ => ("", "", "", false)
def tyJx3cf43 : Nat → FieldType := fun k => match k with
  | _ => .int
abbrev wsJx3cf430 : List Cond := u_ws RJx3cf43 TJx3cf43 0
theorem nmJx3cf43 : ∀ a, a < 0 → ∀ b, b < 0 → a ≠ b → (TJx3cf43 a).2.1 ≠ (TJx3cf43 b).2.1 := by decide +kernel
theorem tyJx3cf43_ok : ∀ k, k < 0 → parseFieldDescriptor (TJx3cf43 k).2.2.1 = some (tyJx3cf43 k) := by decide +kernel
def RJ7 : String := "java/util/Arrays"
def TJ7 : u_T := fun k => match k with
  | _ => ("", "", "", false)
def tyJ7 : Nat → FieldType := fun k => match k with
  | _ => .int
abbrev wsJ70 : List Cond := u_ws RJ7 TJ7 0
theorem nmJ7 : ∀ a, a < 0 → ∀ b, b < 0 → a ≠ b → (TJ7 a).2.1 ≠ (TJ7 b).2.1 := by decide +kernel
theorem tyJ7_ok : ∀ k, k < 0 → parseFieldDescriptor (TJ7 k).2.2.1 = some (tyJ7 k) := by decide +kernel
abbrev cJ7_fill_53178 : ByteArray := prog_30_method_103_code
def yJ7_fill_53178 : MethodName := ⟨RJ7, "fill", "([II)V"⟩
abbrev cJ7_copyOf_9075b : ByteArray := prog_30_method_121_code
def yJ7_copyOf_9075b : MethodName := ⟨RJ7, "copyOf", "([BI)[B"⟩
abbrev cJ7_checkLength_df160 : ByteArray := prog_30_method_131_code
def yJ7_checkLength_df160 : MethodName := ⟨RJ7, "checkLength", "(II)V"⟩
abbrev cJ7_copyOfRange_39247 : ByteArray := prog_30_method_132_code
def yJ7_copyOfRange_39247 : MethodName := ⟨RJ7, "copyOfRange", "([BII)[B"⟩
abbrev cJ7_copyOfRangeByte_39247 : ByteArray := prog_30_method_133_code
def yJ7_copyOfRangeByte_39247 : MethodName := ⟨RJ7, "copyOfRangeByte", "([BII)[B"⟩
def RJ8 : String := "jdk/internal/util/ArraysSupport"
def TJ8 : u_T := fun k => match k with
  | _ => ("", "", "", false)
def tyJ8 : Nat → FieldType := fun k => match k with
  | _ => .int
abbrev wsJ80 : List Cond := u_ws RJ8 TJ8 0
theorem nmJ8 : ∀ a, a < 0 → ∀ b, b < 0 → a ≠ b → (TJ8 a).2.1 ≠ (TJ8 b).2.1 := by decide +kernel
theorem tyJ8_ok : ∀ k, k < 0 → parseFieldDescriptor (TJ8 k).2.2.1 = some (tyJ8 k) := by decide +kernel
abbrev cJ8_newLength_cabcc : ByteArray := prog_31_method_27_code
def yJ8_newLength_cabcc : MethodName := ⟨RJ8, "newLength", "(III)I"⟩
abbrev cJ8_hugeLength_7cf53 : ByteArray := prog_31_method_28_code
def yJ8_hugeLength_7cf53 : MethodName := ⟨RJ8, "hugeLength", "(II)I"⟩
def RJ3 : String := "jdk/internal/util/Preconditions"
def TJ3 : u_T := fun k => match k with
  | _ => ("", "", "", false)
def tyJ3 : Nat → FieldType := fun k => match k with
  | _ => .int
abbrev wsJ30 : List Cond := u_ws RJ3 TJ3 0
theorem nmJ3 : ∀ a, a < 0 → ∀ b, b < 0 → a ≠ b → (TJ3 a).2.1 ≠ (TJ3 b).2.1 := by decide +kernel
theorem tyJ3_ok : ∀ k, k < 0 → parseFieldDescriptor (TJ3 k).2.2.1 = some (tyJ3 k) := by decide +kernel
abbrev cJ3_checkIndex_8e157 : ByteArray := prog_32_method_11_code
def yJ3_checkIndex_8e157 : MethodName := ⟨RJ3, "checkIndex", "(IILjava/util/function/BiFunction;)I"⟩
abbrev cJ3_checkFromToIndex_8c36e : ByteArray := prog_32_method_12_code
def yJ3_checkFromToIndex_8c36e : MethodName := ⟨RJ3, "checkFromToIndex", "(IIILjava/util/function/BiFunction;)I"⟩
abbrev cJ3_checkFromIndexSize_8c36e : ByteArray := prog_32_method_13_code
def yJ3_checkFromIndexSize_8c36e : MethodName := ⟨RJ3, "checkFromIndexSize", "(IIILjava/util/function/BiFunction;)I"⟩
def RL : String := "SpanPainterLaw"
def TL : u_T := fun k => match k with
  | 0 => ("SpanPainterLaw", "choices", "[I", false)
  | 1 => ("SpanPainterLaw", "at", "I", false)
  | 2 => ("SpanPainterLaw", "years", "I", false)
  | 3 => ("SpanPainterLaw", "shut", "I", false)
  | 4 => ("SpanPainterLaw", "guard", "I", false)
  | 5 => ("SpanPainterLaw", "lanes", "I", false)
  | 6 => ("SpanPainterLaw", "spans", "I", false)
  | 7 => ("SpanPainterLaw", "gangs", "I", false)
  | 8 => ("SpanPainterLaw", "lane", "[I", true)
  | 9 => ("SpanPainterLaw", "area", "[I", true)
  | 10 => ("SpanPainterLaw", "rust", "[I", true)
  | 11 => ("SpanPainterLaw", "rate", "[I", true)
  | 12 => ("SpanPainterLaw", "limit", "[I", true)
  | 13 => ("SpanPainterLaw", "speed", "[I", true)
  | 14 => ("SpanPainterLaw", "wage", "[I", true)
  | 15 => ("SpanPainterLaw", "days", "[I", true)
  | 16 => ("SpanPainterLaw", "by", "[[I", true)
  | _ => ("SpanPainterLaw", "left", "I", false)
def tyL : Nat → FieldType := fun k => match k with
  | 0 => .array .int
  | 1 => .int
  | 2 => .int
  | 3 => .int
  | 4 => .int
  | 5 => .int
  | 6 => .int
  | 7 => .int
  | 8 => .array .int
  | 9 => .array .int
  | 10 => .array .int
  | 11 => .array .int
  | 12 => .array .int
  | 13 => .array .int
  | 14 => .array .int
  | 15 => .array .int
  | 16 => .array (.array .int)
  | _ => .int
abbrev wsL0 : List Cond := u_ws RL TL 18
theorem nmL : ∀ a, a < 18 → ∀ b, b < 18 → a ≠ b → (TL a).2.1 ≠ (TL b).2.1 := by decide +kernel
theorem tyL_ok : ∀ k, k < 18 → parseFieldDescriptor (TL k).2.2.1 = some (tyL k) := by decide +kernel
abbrev cL_init : ByteArray := method_1_code
def yL_init : MethodName := ⟨RL, "<init>", "()V"⟩
abbrev cL_among : ByteArray := method_2_code
def yL_among : MethodName := ⟨RL, "among", "(II)I"⟩
abbrev cL_cell : ByteArray := method_3_code
def yL_cell : MethodName := ⟨RL, "cell", "([II)I"⟩
abbrev cL_four : ByteArray := method_4_code
def yL_four : MethodName := ⟨RL, "four", "(Ljava/lang/String;I)I"⟩
abbrev cL_load : ByteArray := method_5_code
def yL_load : MethodName := ⟨RL, "load", "(LSpanPainter;Ljava/lang/String;)I"⟩
abbrev cL_chosen : ByteArray := method_6_code
def yL_chosen : MethodName := ⟨RL, "chosen", "(I)I"⟩
abbrev cL_bridge : ByteArray := method_7_code
def yL_bridge : MethodName := ⟨RL, "bridge", "()Ljava/lang/String;"⟩
abbrev cL_span : ByteArray := method_8_code
def yL_span : MethodName := ⟨RL, "span", "(I)Ljava/lang/String;"⟩
abbrev cL_law : ByteArray := code
def yL_law : MethodName := ⟨RL, "law", "([I)Z"⟩
abbrev cL_isRefused : ByteArray := method_10_code
def yL_isRefused : MethodName := ⟨RL, "isRefused", "(LSpanPainter;I)Z"⟩
abbrev cL_end : ByteArray := method_11_code
def yL_end : MethodName := ⟨RL, "end", "(II)I"⟩
abbrev cL_begin : ByteArray := method_12_code
def yL_begin : MethodName := ⟨RL, "begin", "(II)I"⟩
abbrev cL_effort : ByteArray := method_13_code
def yL_effort : MethodName := ⟨RL, "effort", "(II)I"⟩
abbrev cL_load_ : ByteArray := method_14_code
def yL_load_ : MethodName := ⟨RL, "load", "(II)I"⟩
abbrev cL_refused : ByteArray := method_15_code
def yL_refused : MethodName := ⟨RL, "refused", "(III)I"⟩
abbrev cL_isSame : ByteArray := method_16_code
def yL_isSame : MethodName := ⟨RL, "isSame", "(LSpanPainter;)Z"⟩
def wsL_law0_r1 : List Cond := [Cond.classLink RL 8 RL, Cond.instantiable RL 18, Cond.initialized RL, Cond.fieldLink RL 7 "SpanPainterLaw" "choices" "[I", Cond.classLink RL 57 RX11, Cond.instantiable RX11 13, Cond.initialized RX11, Cond.fieldLink RL 93 "SpanPainterLaw" "spans" "I", Cond.fieldLink RL 39 "SpanPainterLaw" "by" "[[I", Cond.fieldLink RL 81 "SpanPainterLaw" "years" "I", Cond.fieldLink RL 96 "SpanPainterLaw" "gangs" "I", Cond.constant RL 175 (-1000004), Cond.methodLink RL 138 yL_init, Cond.instanceMethod yL_init, Cond.code yL_init cL_init 1 none, Cond.methodLink RL 1 objectInit, Cond.instanceMethod objectInit, Cond.code objectInit ⟨#[0xb1]⟩ 1 none, Cond.arrayClass .int, Cond.fieldLink RL 13 "SpanPainterLaw" "lane" "[I", Cond.fieldLink RL 16 "SpanPainterLaw" "area" "[I", Cond.fieldLink RL 19 "SpanPainterLaw" "rust" "[I", Cond.fieldLink RL 22 "SpanPainterLaw" "rate" "[I", Cond.fieldLink RL 25 "SpanPainterLaw" "limit" "[I"]
def wsL_law0_r2 : List Cond := [Cond.fieldLink RL 28 "SpanPainterLaw" "speed" "[I", Cond.fieldLink RL 31 "SpanPainterLaw" "wage" "[I", Cond.fieldLink RL 34 "SpanPainterLaw" "days" "[I", Cond.classLink RL 37 "[[I", Cond.methodLink RL 139 yX11_init, Cond.instanceMethod yX11_init, Cond.code yX11_init cX11_init 5 none, Cond.methodLink RX11 3 objectInit, Cond.classLink RX11 9 RX0, Cond.instantiable RX0 1, Cond.initialized RX0, Cond.fieldLink RX11 12 "SpanPainter" "planner" "LSpanPainter$AutoPlanner;", Cond.classLink RX11 16 RX8, Cond.instantiable RX8 2, Cond.initialized RX8, Cond.fieldLink RX11 19 "SpanPainter" "search" "LSpanPainter$SafeSearch;", Cond.classLink RX11 23 RX7, Cond.instantiable RX7 2, Cond.initialized RX7, Cond.fieldLink RX11 26 "SpanPainter" "ranking" "LSpanPainter$Ranking;", Cond.classLink RX11 30 RX2, Cond.instantiable RX2 3, Cond.initialized RX2, Cond.fieldLink RX11 33 "SpanPainter" "history" "LSpanPainter$History;"]
def wsL_law0_r3 : List Cond := [Cond.classLink RX11 37 RX4, Cond.instantiable RX4 2, Cond.initialized RX4, Cond.fieldLink RX11 40 "SpanPainter" "output" "LSpanPainter$Output;", Cond.fieldLink RX11 44 "SpanPainter" "badKind" "I", Cond.constant RX11 48 (-1000004), Cond.fieldLink RX11 49 "SpanPainter" "badPosition" "I", Cond.classLink RX11 52 RX9, Cond.instantiable RX9 2, Cond.initialized RX9, Cond.classLink RX11 55 RX1, Cond.instantiable RX1 16, Cond.initialized RX1, Cond.classLink RX11 58 RX6, Cond.instantiable RX6 4, Cond.initialized RX6, Cond.fieldLink RX11 63 "SpanPainter" "text" "LSpanPainter$Text;", Cond.fieldLink RX11 67 "SpanPainter" "bridge" "LSpanPainter$Bridge;", Cond.fieldLink RX11 71 "SpanPainter" "plan" "LSpanPainter$Plan;", Cond.fieldLink RX11 75 "SpanPainter" "spare" "LSpanPainter$Bridge;", Cond.fieldLink RX11 78 "SpanPainter" "draft" "LSpanPainter$Plan;", Cond.classLink RX11 81 RX5, Cond.instantiable RX5 6, Cond.initialized RX5]
def wsL_law0_r4 : List Cond := [Cond.fieldLink RX11 86 "SpanPainter" "parser" "LSpanPainter$Parser;", Cond.instanceMethod yX0_init, Cond.code yX0_init cX0_init 1 none, Cond.methodLink RX0 3 objectInit, Cond.classLink RX0 9 RX7, Cond.fieldLink RX0 12 "SpanPainter$AutoPlanner" "candidates" "LSpanPainter$Ranking;", Cond.instanceMethod yX7_init, Cond.code yX7_init cX7_init 1 none, Cond.methodLink RX7 3 objectInit, Cond.fieldLink RX7 9 "SpanPainter$Ranking" "keys" "[I", Cond.instanceMethod yX8_init, Cond.code yX8_init cX8_init 1 none, Cond.methodLink RX8 3 objectInit, Cond.classLink RX8 9 RX7, Cond.fieldLink RX8 12 "SpanPainter$SafeSearch" "endangered" "LSpanPainter$Ranking;", Cond.instanceMethod yX2_init, Cond.code yX2_init cX2_init 1 none, Cond.methodLink RX2 1 objectInit, Cond.classLink RX2 13 "[[I", Cond.fieldLink RX2 15 "SpanPainter$History" "rows" "[[I", Cond.fieldLink RX2 18 "SpanPainter$History" "newest" "I", Cond.instanceMethod yX4_init, Cond.code yX4_init cX4_init 1 none, Cond.methodLink RX4 1 objectInit]
def wsL_law0_r5 : List Cond := [Cond.arrayClass .byte, Cond.fieldLink RX4 11 "SpanPainter$Output" "bytes" "[B", Cond.instanceMethod yX9_init, Cond.code yX9_init cX9_init 1 none, Cond.methodLink RX9 3 objectInit, Cond.fieldLink RX9 9 "SpanPainter$Text" "bytes" "[B", Cond.methodLink RX11 57 yX1_init, Cond.instanceMethod yX1_init, Cond.code yX1_init cX1_init 1 none, Cond.methodLink RX1 5 objectInit, Cond.fieldLink RX1 11 "SpanPainter$Bridge" "traffic" "[I", Cond.fieldLink RX1 15 "SpanPainter$Bridge" "laneOf" "[I", Cond.fieldLink RX1 18 "SpanPainter$Bridge" "area" "[I", Cond.fieldLink RX1 21 "SpanPainter$Bridge" "rust" "[I", Cond.fieldLink RX1 24 "SpanPainter$Bridge" "rate" "[I", Cond.fieldLink RX1 27 "SpanPainter$Bridge" "limit" "[I", Cond.fieldLink RX1 30 "SpanPainter$Bridge" "speed" "[I", Cond.fieldLink RX1 33 "SpanPainter$Bridge" "wage" "[I", Cond.fieldLink RX1 36 "SpanPainter$Bridge" "days" "[I", Cond.fieldLink RX1 39 "SpanPainter$Bridge" "closed" "[I", Cond.methodLink RX1 42 yX1_reset, Cond.instanceMethod yX1_reset, Cond.selects RX1 yX1_reset yX1_reset, Cond.code yX1_reset cX1_reset 1 none]
def wsL_law0_r6 : List Cond := [Cond.fieldLink RX1 45 "SpanPainter$Bridge" "years" "I", Cond.fieldLink RX1 49 "SpanPainter$Bridge" "shut" "I", Cond.fieldLink RX1 52 "SpanPainter$Bridge" "guard" "I", Cond.fieldLink RX1 55 "SpanPainter$Bridge" "laneCount" "I", Cond.fieldLink RX1 58 "SpanPainter$Bridge" "spanCount" "I", Cond.fieldLink RX1 61 "SpanPainter$Bridge" "gangCount" "I", Cond.methodLink RX1 64 yJ7_fill_53178, Cond.static yJ7_fill_53178, Cond.initialized RJ7, Cond.code yJ7_fill_53178 cJ7_fill_53178 4 none, Cond.methodLink RX11 60 yX6_init, Cond.instanceMethod yX6_init, Cond.code yX6_init cX6_init 2 none, Cond.methodLink RX6 3 objectInit, Cond.fieldLink RX6 11 "SpanPainter$Plan" "gangs" "[I", Cond.fieldLink RX6 15 "SpanPainter$Plan" "rusts" "[I", Cond.fieldLink RX6 18 "SpanPainter$Plan" "guards" "[I", Cond.fieldLink RX6 21 "SpanPainter$Plan" "bridge" "LSpanPainter$Bridge;", Cond.methodLink RX6 25 yJ7_fill_53178, Cond.methodLink RX11 83 yX5_init, Cond.instanceMethod yX5_init, Cond.code yX5_init cX5_init 4 none, Cond.methodLink RX5 3 objectInit, Cond.classLink RX5 9 RX3]
def wsL_law0_r7 : List Cond := [Cond.instantiable RX3 4, Cond.initialized RX3, Cond.fieldLink RX5 12 "SpanPainter$Parser" "names" "LSpanPainter$Names;", Cond.constant RX5 18 (-1000004), Cond.fieldLink RX5 19 "SpanPainter$Parser" "failedAt" "I", Cond.classLink RX5 23 RX10, Cond.instantiable RX10 7, Cond.initialized RX10, Cond.fieldLink RX5 28 "SpanPainter$Parser" "tokens" "LSpanPainter$Tokens;", Cond.fieldLink RX5 32 "SpanPainter$Parser" "bridge" "LSpanPainter$Bridge;", Cond.fieldLink RX5 36 "SpanPainter$Parser" "plan" "LSpanPainter$Plan;", Cond.instanceMethod yX3_init, Cond.code yX3_init cX3_init 1 none, Cond.methodLink RX3 3 objectInit, Cond.arrayClass .long, Cond.fieldLink RX3 11 "SpanPainter$Names" "words" "[J", Cond.fieldLink RX3 15 "SpanPainter$Names" "sorts" "[I", Cond.fieldLink RX3 19 "SpanPainter$Names" "numbers" "[I", Cond.methodLink RX5 25 yX10_init, Cond.instanceMethod yX10_init, Cond.code yX10_init cX10_init 2 none, Cond.methodLink RX10 1 objectInit, Cond.fieldLink RX10 7 "SpanPainter$Tokens" "text" "LSpanPainter$Text;", Cond.methodLink RL 140 yL_bridge]
def wsL_law0_r8 : List Cond := [Cond.instanceMethod yL_bridge, Cond.selects RL yL_bridge yL_bridge, Cond.code yL_bridge cL_bridge 3 (some (.object "java/lang/String")), Cond.fieldLink RL 84 "SpanPainterLaw" "shut" "I", Cond.fieldLink RL 87 "SpanPainterLaw" "guard" "I", Cond.fieldLink RL 90 "SpanPainterLaw" "lanes" "I", Cond.classLink RL 99 RJ4, Cond.instantiable RJ4 4, Cond.initialized RJ4, Cond.methodLink RL 78 yL_chosen, Cond.instanceMethod yL_chosen, Cond.selects RL yL_chosen yL_chosen, Cond.code yL_chosen cL_chosen 3 (some .int), Cond.fieldLink RL 66 "SpanPainterLaw" "at" "I", Cond.methodLink RL 70 yL_cell, Cond.static yL_cell, Cond.code yL_cell cL_cell 2 (some .int), Cond.methodLink RL 74 yL_among, Cond.static yL_among, Cond.code yL_among cL_among 3 (some .int), Cond.methodLink RL 101 yJ4_init_da8c8, Cond.instanceMethod yJ4_init_da8c8, Cond.code yJ4_init_da8c8 cJ4_init_da8c8 1 none, Cond.methodLink RJ4 1 yJ5_init_d00df]
def wsL_law0_r9 : List Cond := [Cond.instanceMethod yJ5_init_d00df, Cond.initialized RJ5, Cond.code yJ5_init_d00df cJ5_init_d00df 2 none, Cond.methodLink RJ5 3 objectInit, Cond.fieldLink RJ5 18 "java/lang/String" "COMPACT_STRINGS" "Z", Cond.fieldLink RJ5 15 "java/lang/AbstractStringBuilder" "value" "[B", Cond.fieldLink RJ5 22 "java/lang/AbstractStringBuilder" "coder" "B", Cond.methodLink RJ5 26 yJ2_newBytesFor_77867, Cond.static yJ2_newBytesFor_77867, Cond.initialized RJ2, Cond.code yJ2_newBytesFor_77867 cJ2_newBytesFor_77867 1 (some (.array .byte)), Cond.methodLink RJ2 11 yJ2_newBytesLength_0f7a4, Cond.static yJ2_newBytesLength_0f7a4, Cond.code yJ2_newBytesLength_0f7a4 cJ2_newBytesLength_0f7a4 1 (some .int), Cond.constant RJ2 20 (1073741823), Cond.methodLink RL 104 yJ4_append_15ec4, Cond.instanceMethod yJ4_append_15ec4, Cond.selects RJ4 yJ4_append_15ec4 yJ4_append_15ec4, Cond.code yJ4_append_15ec4 cJ4_append_15ec4 2 (some (.object "java/lang/StringBuilder")), Cond.methodLink RJ4 29 yJ5_append_cf1ce, Cond.sameMethod "java/lang/AbstractStringBuilder" "java/lang/AbstractStringBuilder" "append" "(Ljava/lang/String;)Ljava/lang/AbstractStringBuilder;", Cond.superclass RJ4 RJ5, Cond.instanceMethod yJ5_append_cf1ce, Cond.code yJ5_append_cf1ce cJ5_append_cf1ce 3 (some (.object "java/lang/AbstractStringBuilder"))]
def wsL_law0_r10 : List Cond := [Cond.fieldLink RJ5 79 "java/lang/AbstractStringBuilder" "count" "I", Cond.methodLink RJ5 204 ⟨"java/lang/AbstractStringBuilder", "appendNull", "()Ljava/lang/AbstractStringBuilder;"⟩, Cond.sameMethod "java/lang/AbstractStringBuilder" "java/lang/AbstractStringBuilder" "appendNull" "()Ljava/lang/AbstractStringBuilder;", Cond.selects RJ4 ⟨"java/lang/AbstractStringBuilder", "appendNull", "()Ljava/lang/AbstractStringBuilder;"⟩ yJ5_appendNull_278bc, Cond.instanceMethod yJ5_appendNull_278bc, Cond.code yJ5_appendNull_278bc cJ5_appendNull_278bc 3 (some (.object "java/lang/AbstractStringBuilder")), Cond.methodLink RJ5 100 ⟨"java/lang/AbstractStringBuilder", "ensureCapacityInternal", "(I)V"⟩, Cond.sameMethod "java/lang/AbstractStringBuilder" "java/lang/AbstractStringBuilder" "ensureCapacityInternal" "(I)V", Cond.selects RJ4 ⟨"java/lang/AbstractStringBuilder", "ensureCapacityInternal", "(I)V"⟩ yJ5_ensureCapacityInternal_d00df, Cond.instanceMethod yJ5_ensureCapacityInternal_d00df, Cond.code yJ5_ensureCapacityInternal_d00df cJ5_ensureCapacityInternal_d00df 3 none, Cond.methodLink RJ5 104 ⟨"java/lang/AbstractStringBuilder", "newCapacity", "(I)I"⟩, Cond.sameMethod "java/lang/AbstractStringBuilder" "java/lang/AbstractStringBuilder" "newCapacity" "(I)I", Cond.selects RJ4 ⟨"java/lang/AbstractStringBuilder", "newCapacity", "(I)I"⟩ yJ5_newCapacity_0f7a4, Cond.instanceMethod yJ5_newCapacity_0f7a4, Cond.code yJ5_newCapacity_0f7a4 cJ5_newCapacity_0f7a4 6 (some .int), Cond.constant RJ5 39 (2147483647), Cond.methodLink RJ5 114 yJ8_newLength_cabcc, Cond.static yJ8_newLength_cabcc, Cond.initialized RJ8, Cond.code yJ8_newLength_cabcc cJ8_newLength_cabcc 4 (some .int), Cond.methodLink RJ8 194 Lib.Math.max.name, Cond.static Lib.Math.max.name, Cond.initialized "java/lang/Math"]
def wsL_law0_r11 : List Cond := [Cond.code Lib.Math.max.name Lib.Math.max.code 2 (some .int), Cond.constant RJ8 200 (2147483639), Cond.methodLink RJ8 201 yJ8_hugeLength_7cf53, Cond.static yJ8_hugeLength_7cf53, Cond.code yJ8_hugeLength_7cf53 cJ8_hugeLength_7cf53 3 (some .int), Cond.methodLink RJ5 108 yJ7_copyOf_9075b, Cond.static yJ7_copyOf_9075b, Cond.code yJ7_copyOf_9075b cJ7_copyOf_9075b 3 (some (.array .byte)), Cond.methodLink RJ7 310 ⟨"[B", "clone", "()Ljava/lang/Object;"⟩, Cond.sameMethod "[B" "java/lang/Object" "clone" "()Ljava/lang/Object;", Cond.native ⟨"java/lang/Object", "clone", "()Ljava/lang/Object;"⟩, Cond.instanceMethod ⟨"java/lang/Object", "clone", "()Ljava/lang/Object;"⟩, Cond.selects "[B" ⟨"[B", "clone", "()Ljava/lang/Object;"⟩ ⟨"java/lang/Object", "clone", "()Ljava/lang/Object;"⟩, Cond.classLink RJ7 311 "[B", Cond.methodLink RJ7 304 Lib.Math.min.name, Cond.static Lib.Math.min.name, Cond.code Lib.Math.min.name Lib.Math.min.code 2 (some .int), Cond.methodLink RJ7 150 arraycopyName, Cond.native arraycopyName, Cond.static arraycopyName, Cond.initialized "java/lang/System", Cond.methodLink RJ5 83 ⟨"java/lang/AbstractStringBuilder", "isLatin1", "()Z"⟩, Cond.sameMethod "java/lang/AbstractStringBuilder" "java/lang/AbstractStringBuilder" "isLatin1" "()Z", Cond.selects RJ4 ⟨"java/lang/AbstractStringBuilder", "isLatin1", "()Z"⟩ yJ5_isLatin1_aae02]
def wsL_law0_r12 : List Cond := [Cond.instanceMethod yJ5_isLatin1_aae02, Cond.code yJ5_isLatin1_aae02 cJ5_isLatin1_aae02 1 (some .boolean), Cond.methodLink RJ5 226 yJ2_putCharsAt_cd4e5, Cond.static yJ2_putCharsAt_cd4e5, Cond.code yJ2_putCharsAt_cd4e5 cJ2_putCharsAt_cd4e5 7 (some .int), Cond.fieldLink RJ2 44 "java/lang/StringUTF16" "$assertionsDisabled" "Z", Cond.methodLink RJ2 96 yJ2_checkBoundsBeginEnd_d044e, Cond.static yJ2_checkBoundsBeginEnd_d044e, Cond.code yJ2_checkBoundsBeginEnd_d044e cJ2_checkBoundsBeginEnd_d044e 3 none, Cond.methodLink RJ2 48 yJ2_length_9d52b, Cond.static yJ2_length_9d52b, Cond.code yJ2_length_9d52b cJ2_length_9d52b 1 (some .int), Cond.methodLink RJ2 241 yJ0_checkBoundsBeginEnd_23922, Cond.static yJ0_checkBoundsBeginEnd_23922, Cond.initialized RJ0, Cond.code yJ0_checkBoundsBeginEnd_23922 cJ0_checkBoundsBeginEnd_23922 3 none, Cond.fieldLink RJ0 1053 "jdk/internal/util/Preconditions" "SIOOBE_FORMATTER" "Ljava/util/function/BiFunction;", Cond.methodLink RJ0 1062 yJ3_checkFromToIndex_8c36e, Cond.static yJ3_checkFromToIndex_8c36e, Cond.initialized RJ3, Cond.code yJ3_checkFromToIndex_8c36e cJ3_checkFromToIndex_8c36e 4 (some .int), Cond.methodLink RJ2 111 yJ2_putChar_b72d1, Cond.static yJ2_putChar_b72d1, Cond.code yJ2_putChar_b72d1 cJ2_putChar_b72d1 3 none]
def wsL_law0_r13 : List Cond := [Cond.fieldLink RJ2 59 "java/lang/StringUTF16" "HI_BYTE_SHIFT" "I", Cond.fieldLink RJ2 63 "java/lang/StringUTF16" "LO_BYTE_SHIFT" "I", Cond.methodLink RJ5 32 yJ0_length_8abf5, Cond.instanceMethod yJ0_length_8abf5, Cond.selects RJ0 yJ0_length_8abf5 yJ0_length_8abf5, Cond.code yJ0_length_8abf5 cJ0_length_8abf5 1 (some .int), Cond.fieldLink RJ0 9 "java/lang/String" "value" "[B", Cond.methodLink RJ0 335 yJ0_coder_7d493, Cond.instanceMethod yJ0_coder_7d493, Cond.selects RJ0 yJ0_coder_7d493 yJ0_coder_7d493, Cond.code yJ0_coder_7d493 cJ0_coder_7d493 1 (some .byte), Cond.fieldLink RJ0 38 "java/lang/String" "COMPACT_STRINGS" "Z", Cond.fieldLink RJ0 15 "java/lang/String" "coder" "B", Cond.methodLink RJ5 208 ⟨"java/lang/AbstractStringBuilder", "putStringAt", "(ILjava/lang/String;)V"⟩, Cond.sameMethod "java/lang/AbstractStringBuilder" "java/lang/AbstractStringBuilder" "putStringAt" "(ILjava/lang/String;)V", Cond.selects RJ4 ⟨"java/lang/AbstractStringBuilder", "putStringAt", "(ILjava/lang/String;)V"⟩ yJ5_putStringAt_47b60, Cond.instanceMethod yJ5_putStringAt_47b60, Cond.code yJ5_putStringAt_47b60 cJ5_putStringAt_47b60 3 none, Cond.methodLink RJ5 397 ⟨"java/lang/AbstractStringBuilder", "inflateIfNeededFor", "(Ljava/lang/String;)V"⟩, Cond.sameMethod "java/lang/AbstractStringBuilder" "java/lang/AbstractStringBuilder" "inflateIfNeededFor" "(Ljava/lang/String;)V", Cond.selects RJ4 ⟨"java/lang/AbstractStringBuilder", "inflateIfNeededFor", "(Ljava/lang/String;)V"⟩ yJ5_inflateIfNeededFor_a7421, Cond.instanceMethod yJ5_inflateIfNeededFor_a7421, Cond.code yJ5_inflateIfNeededFor_a7421 cJ5_inflateIfNeededFor_a7421 2 none, Cond.methodLink RJ5 40 yJ0_coder_7d493]
def wsL_law0_r14 : List Cond := [Cond.methodLink RJ5 195 ⟨"java/lang/AbstractStringBuilder", "inflate", "()V"⟩, Cond.sameMethod "java/lang/AbstractStringBuilder" "java/lang/AbstractStringBuilder" "inflate" "()V", Cond.selects RJ4 ⟨"java/lang/AbstractStringBuilder", "inflate", "()V"⟩ yJ5_inflate_da8c8, Cond.instanceMethod yJ5_inflate_da8c8, Cond.code yJ5_inflate_da8c8 cJ5_inflate_da8c8 2 none, Cond.methodLink RJ5 125 yJ1_inflate_0e8fd, Cond.static yJ1_inflate_0e8fd, Cond.initialized RJ1, Cond.code yJ1_inflate_0e8fd cJ1_inflate_0e8fd 5 none, Cond.methodLink RJ1 240 yJ2_inflate_0e8fd, Cond.static yJ2_inflate_0e8fd, Cond.code yJ2_inflate_0e8fd cJ2_inflate_0e8fd 6 none, Cond.methodLink RJ2 173 yJ2_checkBoundsOffCount_d044e, Cond.static yJ2_checkBoundsOffCount_d044e, Cond.code yJ2_checkBoundsOffCount_d044e cJ2_checkBoundsOffCount_d044e 3 none, Cond.methodLink RJ2 419 yJ0_checkBoundsOffCount_cabcc, Cond.static yJ0_checkBoundsOffCount_cabcc, Cond.code yJ0_checkBoundsOffCount_cabcc cJ0_checkBoundsOffCount_cabcc 3 (some .int), Cond.methodLink RJ0 1065 yJ3_checkFromIndexSize_8c36e, Cond.static yJ3_checkFromIndexSize_8c36e, Cond.code yJ3_checkFromIndexSize_8c36e cJ3_checkFromIndexSize_8c36e 4 (some .int), Cond.methodLink RJ5 399 yJ0_getBytes_840e7, Cond.instanceMethod yJ0_getBytes_840e7, Cond.selects RJ0 yJ0_getBytes_840e7 yJ0_getBytes_840e7]
def wsL_law0_r15 : List Cond := [Cond.code yJ0_getBytes_840e7 cJ0_getBytes_840e7 4 none, Cond.methodLink RJ0 212 arraycopyName, Cond.methodLink RJ0 106 yJ1_inflate_0e8fd, Cond.methodLink RL 108 yJ4_append_bf812, Cond.instanceMethod yJ4_append_bf812, Cond.selects RJ4 yJ4_append_bf812 yJ4_append_bf812, Cond.code yJ4_append_bf812 cJ4_append_bf812 2 (some (.object "java/lang/StringBuilder")), Cond.methodLink RJ4 53 yJ5_append_c97b9, Cond.sameMethod "java/lang/AbstractStringBuilder" "java/lang/AbstractStringBuilder" "append" "(I)Ljava/lang/AbstractStringBuilder;", Cond.instanceMethod yJ5_append_c97b9, Cond.code yJ5_append_c97b9 cJ5_append_c97b9 4 (some (.object "java/lang/AbstractStringBuilder")), Cond.methodLink RJ5 245 yJ6_stringSize_0f7a4, Cond.static yJ6_stringSize_0f7a4, Cond.initialized RJ6, Cond.code yJ6_stringSize_0f7a4 cJ6_stringSize_0f7a4 4 (some .int), Cond.methodLink RJ5 248 yJ6_getChars_ba4f3, Cond.static yJ6_getChars_ba4f3, Cond.code yJ6_getChars_ba4f3 cJ6_getChars_ba4f3 7 (some .int), Cond.fieldLink RJ6 83 "java/lang/Integer" "DigitOnes" "[B", Cond.fieldLink RJ6 87 "java/lang/Integer" "DigitTens" "[B", Cond.methodLink RJ5 251 yJ2_getChars_46870, Cond.static yJ2_getChars_46870, Cond.code yJ2_getChars_46870 cJ2_getChars_46870 5 (some .int), Cond.methodLink RJ2 393 yJ2_getChars_ba4f3]
def wsL_law0_r16 : List Cond := [Cond.static yJ2_getChars_ba4f3, Cond.code yJ2_getChars_ba4f3 cJ2_getChars_ba4f3 7 (some .int), Cond.fieldLink RJ2 403 "java/lang/Integer" "DigitOnes" "[B", Cond.fieldLink RJ2 407 "java/lang/Integer" "DigitTens" "[B", Cond.methodLink RL 115 yJ4_toString_0e30d, Cond.instanceMethod yJ4_toString_0e30d, Cond.selects RJ4 yJ4_toString_0e30d yJ4_toString_0e30d, Cond.code yJ4_toString_0e30d cJ4_toString_0e30d 1 (some (.object "java/lang/String")), Cond.classLink RJ4 18 RJ0, Cond.instantiable RJ0 4, Cond.methodLink RJ4 137 yJ0_init_81219, Cond.instanceMethod yJ0_init_81219, Cond.code yJ0_init_81219 cJ0_init_81219 2 none, Cond.methodLink RJ0 489 yJ0_init_db425, Cond.instanceMethod yJ0_init_db425, Cond.code yJ0_init_db425 cJ0_init_db425 5 none, Cond.methodLink RJ0 1 objectInit, Cond.fieldLink RJ0 1048 "java/lang/AbstractStringBuilder" "maybeLatin1" "Z", Cond.methodLink RJ0 552 ⟨"java/lang/AbstractStringBuilder", "getValue", "()[B"⟩, Cond.sameMethod "java/lang/AbstractStringBuilder" "java/lang/AbstractStringBuilder" "getValue" "()[B", Cond.selects RJ4 ⟨"java/lang/AbstractStringBuilder", "getValue", "()[B"⟩ yJ5_getValue_6d5f1, Cond.instanceMethod yJ5_getValue_6d5f1, Cond.code yJ5_getValue_6d5f1 cJ5_getValue_6d5f1 1 (some (.array .byte)), Cond.methodLink RJ0 549 ⟨"java/lang/AbstractStringBuilder", "length", "()I"⟩]
def wsL_law0_r17 : List Cond := [Cond.sameMethod "java/lang/AbstractStringBuilder" "java/lang/AbstractStringBuilder" "length" "()I", Cond.instanceMethod ⟨"java/lang/AbstractStringBuilder", "length", "()I"⟩, Cond.selects RJ4 ⟨"java/lang/AbstractStringBuilder", "length", "()I"⟩ yJ4_length_8abf5, Cond.instanceMethod yJ4_length_8abf5, Cond.code yJ4_length_8abf5 cJ4_length_8abf5 1 (some .int), Cond.methodLink RJ4 343 yJ5_length_8abf5, Cond.instanceMethod yJ5_length_8abf5, Cond.code yJ5_length_8abf5 cJ5_length_8abf5 1 (some .int), Cond.methodLink RJ0 1047 ⟨"java/lang/AbstractStringBuilder", "isLatin1", "()Z"⟩, Cond.methodLink RJ0 54 yJ7_copyOfRange_39247, Cond.static yJ7_copyOfRange_39247, Cond.code yJ7_copyOfRange_39247 cJ7_copyOfRange_39247 3 (some (.array .byte)), Cond.methodLink RJ7 339 yJ7_copyOfRangeByte_39247, Cond.static yJ7_copyOfRangeByte_39247, Cond.code yJ7_copyOfRangeByte_39247 cJ7_copyOfRangeByte_39247 5 (some (.array .byte)), Cond.methodLink RJ7 343 yJ7_checkLength_df160, Cond.static yJ7_checkLength_df160, Cond.code yJ7_checkLength_df160 cJ7_checkLength_df160 2 none, Cond.methodLink RJ0 1051 yJ2_compress_39247, Cond.static yJ2_compress_39247, Cond.code yJ2_compress_39247 cJ2_compress_39247 6 (some (.array .byte)), Cond.methodLink RJ2 123 yJ2_compress_5af95, Cond.static yJ2_compress_5af95, Cond.code yJ2_compress_5af95 cJ2_compress_5af95 7 (some .int)]
def wsL_law0_r18 : List Cond := [Cond.methodLink RJ2 71 yJ2_getChar_3b067, Cond.static yJ2_getChar_3b067, Cond.code yJ2_getChar_3b067 cJ2_getChar_3b067 2 (some .char), Cond.methodLink RJ2 126 yJ7_copyOfRange_39247, Cond.methodLink RJ0 47 yJ2_coderFromArrayLen_85cad, Cond.static yJ2_coderFromArrayLen_85cad, Cond.code yJ2_coderFromArrayLen_85cad cJ2_coderFromArrayLen_85cad 2 (some .byte), Cond.methodLink RL 121 yJ4_append_cf468, Cond.instanceMethod yJ4_append_cf468, Cond.selects RJ4 yJ4_append_cf468 yJ4_append_cf468, Cond.code yJ4_append_cf468 cJ4_append_cf468 2 (some (.object "java/lang/StringBuilder")), Cond.methodLink RJ4 50 yJ5_append_3fe6f, Cond.sameMethod "java/lang/AbstractStringBuilder" "java/lang/AbstractStringBuilder" "append" "(C)Ljava/lang/AbstractStringBuilder;", Cond.instanceMethod yJ5_append_3fe6f, Cond.code yJ5_append_3fe6f cJ5_append_3fe6f 2 (some (.object "java/lang/AbstractStringBuilder")), Cond.methodLink RJ5 191 yJ1_canEncode_fc78d, Cond.static yJ1_canEncode_fc78d, Cond.code yJ1_canEncode_fc78d cJ1_canEncode_fc78d 1 (some .boolean), Cond.methodLink RJ5 197 yJ2_putCharSB_b72d1, Cond.static yJ2_putCharSB_b72d1, Cond.code yJ2_putCharSB_b72d1 cJ2_putCharSB_b72d1 3 none, Cond.methodLink RJ2 67 yJ2_checkIndex_2214a, Cond.static yJ2_checkIndex_2214a, Cond.code yJ2_checkIndex_2214a cJ2_checkIndex_2214a 2 none]
def wsL_law0_r19 : List Cond := [Cond.methodLink RJ2 414 yJ0_checkIndex_df160, Cond.static yJ0_checkIndex_df160, Cond.code yJ0_checkIndex_df160 cJ0_checkIndex_df160 2 none, Cond.methodLink RJ0 1059 yJ3_checkIndex_8e157, Cond.static yJ3_checkIndex_8e157, Cond.code yJ3_checkIndex_8e157 cJ3_checkIndex_8e157 3 (some .int), Cond.methodLink RL 124 yL_span, Cond.instanceMethod yL_span, Cond.selects RL yL_span yL_span, Cond.code yL_span cL_span 2 (some (.object "java/lang/String")), Cond.methodLink RL 143 yL_load, Cond.static yL_load, Cond.code yL_load cL_load 3 (some .int), Cond.methodLink RL 42 yJ0_length_8abf5, Cond.methodLink RL 52 yL_four, Cond.static yL_four, Cond.code yL_four cL_four 4 (some .int), Cond.methodLink RL 48 yJ0_charAt_5068e, Cond.instanceMethod yJ0_charAt_5068e, Cond.selects RJ0 yJ0_charAt_5068e yJ0_charAt_5068e, Cond.code yJ0_charAt_5068e cJ0_charAt_5068e 2 (some .char), Cond.methodLink RJ0 492 yJ0_isLatin1_aae02, Cond.instanceMethod yJ0_isLatin1_aae02, Cond.selects RJ0 yJ0_isLatin1_aae02 yJ0_isLatin1_aae02]
def wsL_law0_r20 : List Cond := [Cond.code yJ0_isLatin1_aae02 cJ0_isLatin1_aae02 1 (some .boolean), Cond.methodLink RJ0 495 yJ1_charAt_3b067, Cond.static yJ1_charAt_3b067, Cond.code yJ1_charAt_3b067 cJ1_charAt_3b067 2 (some .char), Cond.methodLink RJ1 9 yJ0_checkIndex_df160, Cond.methodLink RJ0 498 yJ2_charAt_3b067, Cond.static yJ2_charAt_3b067, Cond.code yJ2_charAt_3b067 cJ2_charAt_3b067 2 (some .char), Cond.methodLink RL 56 yX11_feed, Cond.instanceMethod yX11_feed, Cond.selects RX11 yX11_feed yX11_feed, Cond.code yX11_feed cX11_feed 6 (some .int), Cond.constant RX11 94 (-1000005), Cond.methodLink RX11 90 yX9_hasRoomFor, Cond.instanceMethod yX9_hasRoomFor, Cond.selects RX9 yX9_hasRoomFor yX9_hasRoomFor, Cond.code yX9_hasRoomFor cX9_hasRoomFor 2 (some .boolean), Cond.fieldLink RX9 15 "SpanPainter$Text" "size" "I", Cond.methodLink RX11 95 yX9_append, Cond.instanceMethod yX9_append, Cond.selects RX9 yX9_append yX9_append, Cond.code yX9_append cX9_append 3 none, Cond.methodLink RX11 99 yX9_size, Cond.instanceMethod yX9_size]
def wsL_law0_r21 : List Cond := [Cond.selects RX9 yX9_size yX9_size, Cond.code yX9_size cX9_size 1 (some .int), Cond.methodLink RL 62 yX11_load, Cond.instanceMethod yX11_load, Cond.selects RX11 yX11_load yX11_load, Cond.code yX11_load cX11_load 4 (some .int), Cond.classLink RX11 103 "java/lang/IllegalArgumentException", Cond.initialized "java/lang/IllegalArgumentException", Cond.constant RX11 123 (-1000006), Cond.methodLink RX11 110 yX5_read, Cond.instanceMethod yX5_read, Cond.selects RX5 yX5_read yX5_read, Cond.code yX5_read cX5_read 6 (some .boolean), Cond.fieldLink RX5 40 "SpanPainter$Parser" "failure" "I", Cond.methodLink RX5 43 yX1_reset, Cond.methodLink RX5 48 yX6_start, Cond.instanceMethod yX6_start, Cond.selects RX6 yX6_start yX6_start, Cond.code yX6_start cX6_start 2 none, Cond.methodLink RX6 31 yX6_followAll, Cond.instanceMethod yX6_followAll, Cond.selects RX6 yX6_followAll yX6_followAll, Cond.code yX6_followAll cX6_followAll 2 none, Cond.methodLink RX6 34 yX6_follow]
def wsL_law0_r22 : List Cond := [Cond.instanceMethod yX6_follow, Cond.selects RX6 yX6_follow yX6_follow, Cond.code yX6_follow cX6_follow 6 none, Cond.methodLink RX6 66 Lib.Math.min.name, Cond.methodLink RX6 56 yX6_isPainted, Cond.instanceMethod yX6_isPainted, Cond.selects RX6 yX6_isPainted yX6_isPainted, Cond.code yX6_isPainted cX6_isPainted 3 (some .boolean), Cond.methodLink RX5 54 yX3_clear, Cond.instanceMethod yX3_clear, Cond.selects RX3 yX3_clear yX3_clear, Cond.code yX3_clear cX3_clear 1 none, Cond.fieldLink RX3 22 "SpanPainter$Names" "size" "I", Cond.methodLink RX5 57 yX10_begin, Cond.instanceMethod yX10_begin, Cond.selects RX10 yX10_begin yX10_begin, Cond.code yX10_begin cX10_begin 2 none, Cond.methodLink RX10 19 Lib.Math.min.name, Cond.fieldLink RX10 25 "SpanPainter$Tokens" "length" "I", Cond.fieldLink RX10 28 "SpanPainter$Tokens" "start" "I", Cond.fieldLink RX10 31 "SpanPainter$Tokens" "end" "I", Cond.fieldLink RX10 34 "SpanPainter$Tokens" "kind" "I", Cond.methodLink RX5 61 yX10_next, Cond.instanceMethod yX10_next]
def wsL_law0_r23 : List Cond := [Cond.selects RX10 yX10_next yX10_next, Cond.code yX10_next cX10_next 1 none, Cond.methodLink RX10 41 yX10_takeLetters, Cond.instanceMethod yX10_takeLetters, Cond.selects RX10 yX10_takeLetters yX10_takeLetters, Cond.code yX10_takeLetters cX10_takeLetters 1 none, Cond.fieldLink RX10 47 "SpanPainter$Tokens" "word" "J", Cond.methodLink RX10 44 yX10_takeDigits, Cond.instanceMethod yX10_takeDigits, Cond.selects RX10 yX10_takeDigits yX10_takeDigits, Cond.code yX10_takeDigits cX10_takeDigits 1 none, Cond.fieldLink RX10 51 "SpanPainter$Tokens" "number" "I", Cond.methodLink RX5 67 yX5_readStatement, Cond.instanceMethod yX5_readStatement, Cond.selects RX5 yX5_readStatement yX5_readStatement, Cond.code yX5_readStatement cX5_readStatement 4 (some .boolean), Cond.constantLong RX5 84 (108243533981541), Cond.constantLong RX5 93 (1818324581), Cond.constantLong RX5 101 (1936744814), Cond.constantLong RX5 109 (1734438503), Cond.constantLong RX5 117 (33606991467799922), Cond.constantLong RX5 122 (109317377451364), Cond.constantLong RX5 127 (482670636660), Cond.methodLink RX5 76 yX5_failOnToken]
def wsL_law0_r24 : List Cond := [Cond.instanceMethod yX5_failOnToken, Cond.selects RX5 yX5_failOnToken yX5_failOnToken, Cond.code yX5_failOnToken cX5_failOnToken 1 (some .boolean), Cond.methodLink RX5 86 yX5_readBridge, Cond.instanceMethod yX5_readBridge, Cond.selects RX5 yX5_readBridge yX5_readBridge, Cond.code yX5_readBridge cX5_readBridge 4 (some .boolean), Cond.methodLink RX5 132 yX5_number, Cond.instanceMethod yX5_number, Cond.selects RX5 yX5_number yX5_number, Cond.code yX5_number cX5_number 3 (some .int), Cond.methodLink RX5 89 yX5_fail, Cond.instanceMethod yX5_fail, Cond.selects RX5 yX5_fail yX5_fail, Cond.code yX5_fail cX5_fail 2 (some .boolean), Cond.methodLink RX5 136 yX5_semicolon, Cond.instanceMethod yX5_semicolon, Cond.selects RX5 yX5_semicolon yX5_semicolon, Cond.code yX5_semicolon cX5_semicolon 1 (some .boolean), Cond.methodLink RX5 98 yX5_readLane, Cond.instanceMethod yX5_readLane, Cond.selects RX5 yX5_readLane yX5_readLane, Cond.code yX5_readLane cX5_readLane 4 (some .boolean), Cond.constantLong RX5 152 (-2)]
def wsL_law0_r25 : List Cond := [Cond.methodLink RX5 148 yX5_newName, Cond.instanceMethod yX5_newName, Cond.selects RX5 yX5_newName yX5_newName, Cond.code yX5_newName cX5_newName 1 (some .long), Cond.methodLink RX5 194 yX5_isReserved, Cond.static yX5_isReserved, Cond.code yX5_isReserved cX5_isReserved 2 (some .boolean), Cond.constantLong RX5 204 (1852796517), Cond.methodLink RX5 198 yX3_isDeclared, Cond.instanceMethod yX3_isDeclared, Cond.selects RX3 yX3_isDeclared yX3_isDeclared, Cond.code yX3_isDeclared cX3_isDeclared 4 (some .boolean), Cond.methodLink RX5 154 yX3_add, Cond.instanceMethod yX3_add, Cond.selects RX3 yX3_add yX3_add, Cond.code yX3_add cX3_add 5 none, Cond.methodLink RX5 158 yX1_addLane, Cond.instanceMethod yX1_addLane, Cond.selects RX1 yX1_addLane yX1_addLane, Cond.code yX1_addLane cX1_addLane 2 none, Cond.methodLink RX5 106 yX5_readSpan, Cond.instanceMethod yX5_readSpan, Cond.selects RX5 yX5_readSpan yX5_readSpan, Cond.code yX5_readSpan cX5_readSpan 8 (some .boolean)]
def wsL_law0_r26 : List Cond := [Cond.methodLink RX5 161 yX5_laneOrNone, Cond.instanceMethod yX5_laneOrNone, Cond.selects RX5 yX5_laneOrNone yX5_laneOrNone, Cond.code yX5_laneOrNone cX5_laneOrNone 1 (some .int), Cond.methodLink RX5 201 yX5_thisName, Cond.instanceMethod yX5_thisName, Cond.selects RX5 yX5_thisName yX5_thisName, Cond.code yX5_thisName cX5_thisName 3 (some .int), Cond.methodLink RX5 206 yX3_numberOf, Cond.instanceMethod yX3_numberOf, Cond.selects RX3 yX3_numberOf yX3_numberOf, Cond.code yX3_numberOf cX3_numberOf 5 (some .int), Cond.methodLink RX5 165 yX1_addSpan, Cond.instanceMethod yX1_addSpan, Cond.selects RX1 yX1_addSpan yX1_addSpan, Cond.code yX1_addSpan cX1_addSpan 6 none, Cond.methodLink RX5 114 yX5_readGang, Cond.instanceMethod yX5_readGang, Cond.selects RX5 yX5_readGang yX5_readGang, Cond.code yX5_readGang cX5_readGang 5 (some .boolean), Cond.methodLink RX5 169 yX1_addGang, Cond.instanceMethod yX1_addGang, Cond.selects RX1 yX1_addGang yX1_addGang, Cond.code yX1_addGang cX1_addGang 3 none]
def wsL_law0_r27 : List Cond := [Cond.methodLink RX5 119 yX5_readWeather, Cond.instanceMethod yX5_readWeather, Cond.selects RX5 yX5_readWeather yX5_readWeather, Cond.code yX5_readWeather cX5_readWeather 3 (some .boolean), Cond.methodLink RX5 124 yX5_readClosed, Cond.instanceMethod yX5_readClosed, Cond.selects RX5 yX5_readClosed yX5_readClosed, Cond.code yX5_readClosed cX5_readClosed 3 (some .boolean), Cond.methodLink RX5 177 yX5_knownName, Cond.instanceMethod yX5_knownName, Cond.selects RX5 yX5_knownName yX5_knownName, Cond.code yX5_knownName cX5_knownName 2 (some .int), Cond.methodLink RX5 129 yX5_readPainting, Cond.instanceMethod yX5_readPainting, Cond.selects RX5 yX5_readPainting yX5_readPainting, Cond.code yX5_readPainting cX5_readPainting 4 (some .boolean), Cond.methodLink RX5 184 yX6_isPainted, Cond.methodLink RX5 188 yX6_put, Cond.instanceMethod yX6_put, Cond.selects RX6 yX6_put yX6_put, Cond.code yX6_put cX6_put 4 none, Cond.methodLink RX5 71 yX6_followAll, Cond.methodLink RX11 114 yX5_failureKind, Cond.instanceMethod yX5_failureKind]
def wsL_law0_r28 : List Cond := [Cond.selects RX5 yX5_failureKind yX5_failureKind, Cond.code yX5_failureKind cX5_failureKind 1 (some .int), Cond.methodLink RX11 117 yX5_failurePosition, Cond.instanceMethod yX5_failurePosition, Cond.selects RX5 yX5_failurePosition yX5_failurePosition, Cond.code yX5_failurePosition cX5_failurePosition 1 (some .int), Cond.methodLink RX11 120 yX9_clear, Cond.instanceMethod yX9_clear, Cond.selects RX9 yX9_clear yX9_clear, Cond.code yX9_clear cX9_clear 1 none, Cond.methodLink RX11 124 yX11_takeDraft, Cond.instanceMethod yX11_takeDraft, Cond.selects RX11 yX11_takeDraft yX11_takeDraft, Cond.code yX11_takeDraft cX11_takeDraft 2 none, Cond.methodLink RX11 127 yX2_clear, Cond.instanceMethod yX2_clear, Cond.selects RX2 yX2_clear yX2_clear, Cond.code yX2_clear cX2_clear 1 none, Cond.fieldLink RX2 22 "SpanPainter$History" "size" "I", Cond.methodLink RL 146 yX11_errorKind, Cond.instanceMethod yX11_errorKind, Cond.selects RX11 yX11_errorKind yX11_errorKind, Cond.code yX11_errorKind cX11_errorKind 1 (some .int), Cond.methodLink RL 149 yX11_paintings]
def wsL_law0_r29 : List Cond := [Cond.instanceMethod yX11_paintings, Cond.selects RX11 yX11_paintings yX11_paintings, Cond.code yX11_paintings cX11_paintings 1 (some .int), Cond.methodLink RX11 208 yX6_countPaintings, Cond.instanceMethod yX6_countPaintings, Cond.selects RX6 yX6_countPaintings yX6_countPaintings, Cond.code yX6_countPaintings cX6_countPaintings 3 (some .int), Cond.methodLink RL 152 yJ7_fill_53178, Cond.methodLink RL 158 yL_refused, Cond.instanceMethod yL_refused, Cond.selects RL yL_refused yL_refused, Cond.code yL_refused cL_refused 7 (some .int), Cond.arrayClass .boolean, Cond.methodLink RL 202 yL_load_, Cond.instanceMethod yL_load_, Cond.selects RL yL_load_ yL_load_, Cond.code yL_load_ cL_load_ 5 (some .int), Cond.methodLink RL 199 yL_effort, Cond.instanceMethod yL_effort, Cond.selects RL yL_effort yL_effort, Cond.code yL_effort cL_effort 3 (some .int), Cond.methodLink RL 196 yL_begin, Cond.instanceMethod yL_begin, Cond.selects RL yL_begin yL_begin]
def wsL_law0_r30 : List Cond := [Cond.code yL_begin cL_begin 3 (some .int), Cond.fieldLink RL 185 "SpanPainterLaw" "left" "I", Cond.methodLink RL 193 yL_end, Cond.instanceMethod yL_end, Cond.selects RL yL_end yL_end, Cond.code yL_end cL_end 5 (some .int), Cond.methodLink RL 188 Lib.Math.min.name, Cond.methodLink RL 162 yX11_refusal, Cond.instanceMethod yX11_refusal, Cond.selects RX11 yX11_refusal yX11_refusal, Cond.code yX11_refusal cX11_refusal 4 (some .int), Cond.methodLink RX11 134 yX11_checkYear, Cond.instanceMethod yX11_checkYear, Cond.selects RX11 yX11_checkYear yX11_checkYear, Cond.code yX11_checkYear cX11_checkYear 2 none, Cond.classLink RX11 162 "java/lang/IndexOutOfBoundsException", Cond.initialized "java/lang/IndexOutOfBoundsException", Cond.methodLink RX11 131 yX11_checkSpan, Cond.instanceMethod yX11_checkSpan, Cond.selects RX11 yX11_checkSpan yX11_checkSpan, Cond.code yX11_checkSpan cX11_checkSpan 2 none, Cond.methodLink RX11 190 yX11_checkGang, Cond.instanceMethod yX11_checkGang, Cond.selects RX11 yX11_checkGang yX11_checkGang]
def wsL_law0_r31 : List Cond := [Cond.code yX11_checkGang cX11_checkGang 2 none, Cond.methodLink RX11 243 yX6_reasonAgainst, Cond.instanceMethod yX6_reasonAgainst, Cond.selects RX6 yX6_reasonAgainst yX6_reasonAgainst, Cond.code yX6_reasonAgainst cX6_reasonAgainst 6 (some .int), Cond.methodLink RX6 128 yX1_isClosed, Cond.instanceMethod yX1_isClosed, Cond.selects RX1 yX1_isClosed yX1_isClosed, Cond.code yX1_isClosed cX1_isClosed 3 (some .boolean), Cond.methodLink RX6 131 yX6_shutLanes, Cond.instanceMethod yX6_shutLanes, Cond.selects RX6 yX6_shutLanes yX6_shutLanes, Cond.code yX6_shutLanes cX6_shutLanes 4 (some .int), Cond.methodLink RX6 134 yJ6_bitCount_0f7a4, Cond.static yJ6_bitCount_0f7a4, Cond.code yJ6_bitCount_0f7a4 cJ6_bitCount_0f7a4 1 (some .int), Cond.constant RJ6 265 (1431655765), Cond.constant RJ6 266 (858993459), Cond.constant RJ6 267 (252645135), Cond.methodLink RX6 116 yX6_gangLoad, Cond.instanceMethod yX6_gangLoad, Cond.selects RX6 yX6_gangLoad yX6_gangLoad, Cond.code yX6_gangLoad cX6_gangLoad 5 (some .int), Cond.methodLink RX6 86 yX6_painter]
def wsL_law0_r32 : List Cond := [Cond.instanceMethod yX6_painter, Cond.selects RX6 yX6_painter yX6_painter, Cond.code yX6_painter cX6_painter 3 (some .int), Cond.methodLink RX6 89 yX6_spanEffort, Cond.instanceMethod yX6_spanEffort, Cond.selects RX6 yX6_spanEffort yX6_spanEffort, Cond.code yX6_spanEffort cX6_spanEffort 3 (some .int), Cond.methodLink RX6 119 yX1_gangCapacity, Cond.instanceMethod yX1_gangCapacity, Cond.selects RX1 yX1_gangCapacity yX1_gangCapacity, Cond.code yX1_gangCapacity cX1_gangCapacity 3 (some .int), Cond.methodLink RL 165 yX11_paint, Cond.instanceMethod yX11_paint, Cond.selects RX11 yX11_paint yX11_paint, Cond.code yX11_paint cX11_paint 4 (some .int), Cond.constant RX11 253 (-1000007), Cond.methodLink RX11 254 yX11_remember, Cond.instanceMethod yX11_remember, Cond.selects RX11 yX11_remember yX11_remember, Cond.code yX11_remember cX11_remember 1 none, Cond.methodLink RX11 345 yX2_keep, Cond.instanceMethod yX2_keep, Cond.selects RX2 yX2_keep yX2_keep, Cond.code yX2_keep cX2_keep 3 none]
def wsL_law0_r33 : List Cond := [Cond.methodLink RX2 30 Lib.Math.min.name, Cond.methodLink RX2 25 yX1_saveTo, Cond.instanceMethod yX1_saveTo, Cond.selects RX1 yX1_saveTo yX1_saveTo, Cond.code yX1_saveTo cX1_saveTo 2 none, Cond.methodLink RX1 70 arraycopyName, Cond.methodLink RX2 29 yX6_saveTo, Cond.instanceMethod yX6_saveTo, Cond.selects RX6 yX6_saveTo yX6_saveTo, Cond.code yX6_saveTo cX6_saveTo 2 none, Cond.methodLink RX6 40 arraycopyName, Cond.methodLink RX11 257 yX6_put, Cond.methodLink RX11 151 yX6_countPast, Cond.instanceMethod yX6_countPast, Cond.selects RX6 yX6_countPast yX6_countPast, Cond.code yX6_countPast cX6_countPast 3 (some .int), Cond.constant RX6 78 (-1000004), Cond.methodLink RX6 79 yX6_firstPast, Cond.instanceMethod yX6_firstPast, Cond.selects RX6 yX6_firstPast yX6_firstPast, Cond.code yX6_firstPast cX6_firstPast 3 (some .int), Cond.methodLink RX6 75 yX6_isPast, Cond.instanceMethod yX6_isPast, Cond.selects RX6 yX6_isPast yX6_isPast]
def wsL_law0_r34 : List Cond := [Cond.code yX6_isPast cX6_isPast 3 (some .boolean), Cond.methodLink RL 168 yL_isSame, Cond.instanceMethod yL_isSame, Cond.selects RL yL_isSame yL_isSame, Cond.code yL_isSame cL_isSame 5 (some .boolean), Cond.methodLink RL 204 yX11_rustAfter, Cond.instanceMethod yX11_rustAfter, Cond.selects RX11 yX11_rustAfter yX11_rustAfter, Cond.code yX11_rustAfter cX11_rustAfter 3 (some .int), Cond.methodLink RX11 141 yX6_rustAtEnd, Cond.instanceMethod yX6_rustAtEnd, Cond.selects RX6 yX6_rustAtEnd yX6_rustAtEnd, Cond.code yX6_rustAtEnd cX6_rustAtEnd 3 (some .int), Cond.methodLink RL 207 yX11_rustBefore, Cond.instanceMethod yX11_rustBefore, Cond.selects RX11 yX11_rustBefore yX11_rustBefore, Cond.code yX11_rustBefore cX11_rustBefore 3 (some .int), Cond.methodLink RX11 137 yX6_rustAtStart, Cond.instanceMethod yX6_rustAtStart, Cond.selects RX6 yX6_rustAtStart yX6_rustAtStart, Cond.code yX6_rustAtStart cX6_rustAtStart 3 (some .int), Cond.methodLink RL 210 yX11_guardLeft, Cond.instanceMethod yX11_guardLeft, Cond.selects RX11 yX11_guardLeft yX11_guardLeft]
def wsL_law0_r35 : List Cond := [Cond.code yX11_guardLeft cX11_guardLeft 3 (some .int), Cond.methodLink RX11 144 yX6_guardAtStart, Cond.instanceMethod yX6_guardAtStart, Cond.selects RX6 yX6_guardAtStart yX6_guardAtStart, Cond.code yX6_guardAtStart cX6_guardAtStart 3 (some .int), Cond.methodLink RL 213 yX11_effort, Cond.instanceMethod yX11_effort, Cond.selects RX11 yX11_effort yX11_effort, Cond.code yX11_effort cX11_effort 3 (some .int), Cond.methodLink RX11 187 yX6_spanEffort, Cond.methodLink RL 180 yX11_pastYear, Cond.instanceMethod yX11_pastYear, Cond.selects RX11 yX11_pastYear yX11_pastYear, Cond.code yX11_pastYear cX11_pastYear 2 (some .int), Cond.methodLink RX11 147 yX6_firstPast, Cond.methodLink RL 214 yX11_loadOf, Cond.instanceMethod yX11_loadOf, Cond.selects RX11 yX11_loadOf yX11_loadOf, Cond.code yX11_loadOf cX11_loadOf 3 (some .int), Cond.methodLink RX11 196 yX6_gangLoad, Cond.methodLink RL 217 yX11_capacity, Cond.instanceMethod yX11_capacity, Cond.selects RX11 yX11_capacity yX11_capacity, Cond.code yX11_capacity cX11_capacity 3 (some .int)]
def wsL_law0_r36 : List Cond := [Cond.methodLink RX11 193 yX1_gangCapacity, Cond.methodLink RL 172 yX11_undo, Cond.instanceMethod yX11_undo, Cond.selects RX11 yX11_undo yX11_undo, Cond.code yX11_undo cX11_undo 1 (some .int), Cond.methodLink RX11 291 yX2_isEmpty, Cond.instanceMethod yX2_isEmpty, Cond.selects RX2 yX2_isEmpty yX2_isEmpty, Cond.code yX2_isEmpty cX2_isEmpty 1 (some .boolean), Cond.methodLink RX11 295 yX2_takeBack, Cond.instanceMethod yX2_takeBack, Cond.selects RX2 yX2_takeBack yX2_takeBack, Cond.code yX2_takeBack cX2_takeBack 3 none, Cond.methodLink RX2 36 yX1_restoreFrom, Cond.instanceMethod yX1_restoreFrom, Cond.selects RX1 yX1_restoreFrom yX1_restoreFrom, Cond.code yX1_restoreFrom cX1_restoreFrom 2 none, Cond.methodLink RX2 39 yX6_restoreFrom, Cond.instanceMethod yX6_restoreFrom, Cond.selects RX6 yX6_restoreFrom yX6_restoreFrom, Cond.code yX6_restoreFrom cX6_restoreFrom 2 none, Cond.methodLink RX11 299 yX2_size, Cond.instanceMethod yX2_size, Cond.selects RX2 yX2_size yX2_size]
def wsL_law0_r37 : List Cond := [Cond.code yX2_size cX2_size 1 (some .int), Cond.methodLink RL 176 yL_isRefused, Cond.static yL_isRefused, Cond.codeWith yL_isRefused cL_isRefused 3 (some .boolean) [(0, 14, 15, 183)], Cond.classLink RL 183 "java/lang/IndexOutOfBoundsException"]
def wsL_law0 : List Cond := (wsL_law0_r1 ++ (wsL_law0_r2 ++ (wsL_law0_r3 ++ (wsL_law0_r4 ++ (wsL_law0_r5 ++ (wsL_law0_r6 ++ (wsL_law0_r7 ++ (wsL_law0_r8 ++ (wsL_law0_r9 ++ (wsL_law0_r10 ++ (wsL_law0_r11 ++ (wsL_law0_r12 ++ (wsL_law0_r13 ++ (wsL_law0_r14 ++ (wsL_law0_r15 ++ (wsL_law0_r16 ++ (wsL_law0_r17 ++ (wsL_law0_r18 ++ (wsL_law0_r19 ++ (wsL_law0_r20 ++ (wsL_law0_r21 ++ (wsL_law0_r22 ++ (wsL_law0_r23 ++ (wsL_law0_r24 ++ (wsL_law0_r25 ++ (wsL_law0_r26 ++ (wsL_law0_r27 ++ (wsL_law0_r28 ++ (wsL_law0_r29 ++ (wsL_law0_r30 ++ (wsL_law0_r31 ++ (wsL_law0_r32 ++ (wsL_law0_r33 ++ (wsL_law0_r34 ++ (wsL_law0_r35 ++ (wsL_law0_r36 ++ wsL_law0_r37)))))))))))))))))))))))))))))))))))) ++ wsL0 ++ wsX110 ++ wsX00 ++ wsX80 ++ wsX70 ++ wsX20 ++ wsX40 ++ wsX90 ++ wsX10 ++ wsX60 ++ wsX50 ++ wsX30 ++ wsX100 ++ wsJ40 ++ wsJ00 ++ ([] : List Cond)
def wsL_law : List Cond := wsL_law0 ++ (vx_atS RX11 107 "java/lang/IllegalArgumentException" ["java/lang/RuntimeException", "java/lang/Exception"]).filter goodWord ++ (vx_atS RX11 166 "java/lang/IndexOutOfBoundsException" ["java/lang/RuntimeException", "java/lang/Exception"]).filter goodWord
theorem inlX0 : ∀ w ∈ wsX00, w ∈ wsL_law := fun _ h => List.mem_append_left _ (List.mem_append_left _ (List.mem_append_left _ (List.mem_append_left _ (List.mem_append_left _ (List.mem_append_left _ (List.mem_append_left _ (List.mem_append_left _ (List.mem_append_left _ (List.mem_append_left _ (List.mem_append_left _ (List.mem_append_left _ (List.mem_append_left _ (List.mem_append_left _ (List.mem_append_left _ (List.mem_append_right _ h)))))))))))))))
theorem inlX1 : ∀ w ∈ wsX10, w ∈ wsL_law := fun _ h => List.mem_append_left _ (List.mem_append_left _ (List.mem_append_left _ (List.mem_append_left _ (List.mem_append_left _ (List.mem_append_left _ (List.mem_append_left _ (List.mem_append_left _ (List.mem_append_left _ (List.mem_append_right _ h)))))))))
theorem inlX2 : ∀ w ∈ wsX20, w ∈ wsL_law := fun _ h => List.mem_append_left _ (List.mem_append_left _ (List.mem_append_left _ (List.mem_append_left _ (List.mem_append_left _ (List.mem_append_left _ (List.mem_append_left _ (List.mem_append_left _ (List.mem_append_left _ (List.mem_append_left _ (List.mem_append_left _ (List.mem_append_left _ (List.mem_append_right _ h))))))))))))
theorem inlX3 : ∀ w ∈ wsX30, w ∈ wsL_law := fun _ h => List.mem_append_left _ (List.mem_append_left _ (List.mem_append_left _ (List.mem_append_left _ (List.mem_append_left _ (List.mem_append_left _ (List.mem_append_right _ h))))))
theorem inlX4 : ∀ w ∈ wsX40, w ∈ wsL_law := fun _ h => List.mem_append_left _ (List.mem_append_left _ (List.mem_append_left _ (List.mem_append_left _ (List.mem_append_left _ (List.mem_append_left _ (List.mem_append_left _ (List.mem_append_left _ (List.mem_append_left _ (List.mem_append_left _ (List.mem_append_left _ (List.mem_append_right _ h)))))))))))
theorem inlX5 : ∀ w ∈ wsX50, w ∈ wsL_law := fun _ h => List.mem_append_left _ (List.mem_append_left _ (List.mem_append_left _ (List.mem_append_left _ (List.mem_append_left _ (List.mem_append_left _ (List.mem_append_left _ (List.mem_append_right _ h)))))))
theorem inlX6 : ∀ w ∈ wsX60, w ∈ wsL_law := fun _ h => List.mem_append_left _ (List.mem_append_left _ (List.mem_append_left _ (List.mem_append_left _ (List.mem_append_left _ (List.mem_append_left _ (List.mem_append_left _ (List.mem_append_left _ (List.mem_append_right _ h))))))))
theorem inlX7 : ∀ w ∈ wsX70, w ∈ wsL_law := fun _ h => List.mem_append_left _ (List.mem_append_left _ (List.mem_append_left _ (List.mem_append_left _ (List.mem_append_left _ (List.mem_append_left _ (List.mem_append_left _ (List.mem_append_left _ (List.mem_append_left _ (List.mem_append_left _ (List.mem_append_left _ (List.mem_append_left _ (List.mem_append_left _ (List.mem_append_right _ h)))))))))))))
theorem inlX8 : ∀ w ∈ wsX80, w ∈ wsL_law := fun _ h => List.mem_append_left _ (List.mem_append_left _ (List.mem_append_left _ (List.mem_append_left _ (List.mem_append_left _ (List.mem_append_left _ (List.mem_append_left _ (List.mem_append_left _ (List.mem_append_left _ (List.mem_append_left _ (List.mem_append_left _ (List.mem_append_left _ (List.mem_append_left _ (List.mem_append_left _ (List.mem_append_right _ h))))))))))))))
theorem inlX9 : ∀ w ∈ wsX90, w ∈ wsL_law := fun _ h => List.mem_append_left _ (List.mem_append_left _ (List.mem_append_left _ (List.mem_append_left _ (List.mem_append_left _ (List.mem_append_left _ (List.mem_append_left _ (List.mem_append_left _ (List.mem_append_left _ (List.mem_append_left _ (List.mem_append_right _ h))))))))))
theorem inlX10 : ∀ w ∈ wsX100, w ∈ wsL_law := fun _ h => List.mem_append_left _ (List.mem_append_left _ (List.mem_append_left _ (List.mem_append_left _ (List.mem_append_left _ (List.mem_append_right _ h)))))
theorem inlX11 : ∀ w ∈ wsX110, w ∈ wsL_law := fun _ h => List.mem_append_left _ (List.mem_append_left _ (List.mem_append_left _ (List.mem_append_left _ (List.mem_append_left _ (List.mem_append_left _ (List.mem_append_left _ (List.mem_append_left _ (List.mem_append_left _ (List.mem_append_left _ (List.mem_append_left _ (List.mem_append_left _ (List.mem_append_left _ (List.mem_append_left _ (List.mem_append_left _ (List.mem_append_left _ (List.mem_append_right _ h))))))))))))))))
theorem inlJ0 : ∀ w ∈ wsJ00, w ∈ wsL_law := fun _ h => List.mem_append_left _ (List.mem_append_left _ (List.mem_append_left _ (List.mem_append_right _ h)))
theorem inlJ4 : ∀ w ∈ wsJ40, w ∈ wsL_law := fun _ h => List.mem_append_left _ (List.mem_append_left _ (List.mem_append_left _ (List.mem_append_left _ (List.mem_append_right _ h))))
theorem inlL : ∀ w ∈ wsL0, w ∈ wsL_law := fun _ h => List.mem_append_left _ (List.mem_append_left _ (List.mem_append_left _ (List.mem_append_left _ (List.mem_append_left _ (List.mem_append_left _ (List.mem_append_left _ (List.mem_append_left _ (List.mem_append_left _ (List.mem_append_left _ (List.mem_append_left _ (List.mem_append_left _ (List.mem_append_left _ (List.mem_append_left _ (List.mem_append_left _ (List.mem_append_left _ (List.mem_append_left _ (List.mem_append_right _ h)))))))))))))))))
abbrev vwCl : List vw_C := [(RX0, TX0, 1), (RX1, TX1, 16), (RX2, TX2, 3), (RX3, TX3, 4), (RX4, TX4, 2), (RX5, TX5, 6), (RX6, TX6, 4), (RX7, TX7, 2), (RX8, TX8, 2), (RX9, TX9, 2), (RX10, TX10, 7), (RX11, TX11, 13), (RL, TL, 18), (RJ0, TJ0, 4), (RJ4, TJ4, 4)]
end
section
set_option maxRecDepth 100000 in
theorem D_X0_init : ∀ q ∈ ([(0, .aload_n 0, 1), (1, .invokespecial 3, 3), (4, .aload_n 0, 1), (5, .new 9, 3), (8, .dup, 1), (9, .invokespecial 11, 3), (12, .putfield 12, 3), (15, .return_, 1)] : List (Nat × Instr × Nat)), decode cX0_init q.1 = .ok (q.2.1, q.2.2) := by decide +kernel
set_option maxRecDepth 100000 in
theorem D_X1_init : ∀ q ∈ ([(0, .aload_n 0, 1), (1, .invokespecial 5, 3), (4, .aload_n 0, 1), (5, .iconst 4, 1), (6, .newarray .int, 2), (8, .putfield 11, 3), (11, .aload_n 0, 1), (12, .bipush 12, 2), (14, .newarray .int, 2), (16, .putfield 15, 3), (19, .aload_n 0, 1), (20, .bipush 12, 2), (22, .newarray .int, 2), (24, .putfield 18, 3), (27, .aload_n 0, 1), (28, .bipush 12, 2), (30, .newarray .int, 2), (32, .putfield 21, 3), (35, .aload_n 0, 1), (36, .bipush 12, 2), (38, .newarray .int, 2), (40, .putfield 24, 3), (43, .aload_n 0, 1), (44, .bipush 12, 2), (46, .newarray .int, 2), (48, .putfield 27, 3), (51, .aload_n 0, 1), (52, .iconst 5, 1), (53, .newarray .int, 2), (55, .putfield 30, 3), (58, .aload_n 0, 1), (59, .iconst 5, 1), (60, .newarray .int, 2), (62, .putfield 33, 3), (65, .aload_n 0, 1), (66, .bipush 12, 2), (68, .newarray .int, 2), (70, .putfield 36, 3), (73, .aload_n 0, 1), (74, .bipush 12, 2), (76, .newarray .int, 2), (78, .putfield 39, 3), (81, .aload_n 0, 1), (82, .invokevirtual 42, 3), (85, .return_, 1)] : List (Nat × Instr × Nat)), decode cX1_init q.1 = .ok (q.2.1, q.2.2) := by decide +kernel
set_option maxRecDepth 100000 in
theorem D_X1_reset : ∀ q ∈ ([(0, .aload_n 0, 1), (1, .bipush 8, 2), (3, .putfield 45, 3), (6, .aload_n 0, 1), (7, .iconst 2, 1), (8, .putfield 49, 3), (11, .aload_n 0, 1), (12, .iconst 3, 1), (13, .putfield 52, 3), (16, .aload_n 0, 1), (17, .iconst 0, 1), (18, .putfield 55, 3), (21, .aload_n 0, 1), (22, .iconst 0, 1), (23, .putfield 58, 3), (26, .aload_n 0, 1), (27, .iconst 0, 1), (28, .putfield 61, 3), (31, .aload_n 0, 1), (32, .getfield 36, 3), (35, .bipush 100, 2), (37, .invokestatic 64, 3), (40, .aload_n 0, 1), (41, .getfield 39, 3), (44, .iconst 0, 1), (45, .invokestatic 64, 3), (48, .return_, 1)] : List (Nat × Instr × Nat)), decode cX1_reset q.1 = .ok (q.2.1, q.2.2) := by decide +kernel
set_option maxRecDepth 100000 in
theorem D_X1_saveTo : ∀ q ∈ ([(0, .aload_n 0, 1), (1, .getfield 36, 3), (4, .iconst 0, 1), (5, .aload_n 1, 1), (6, .iconst 0, 1), (7, .bipush 12, 2), (9, .invokestatic 70, 3), (12, .aload_n 0, 1), (13, .getfield 39, 3), (16, .iconst 0, 1), (17, .aload_n 1, 1), (18, .bipush 12, 2), (20, .bipush 12, 2), (22, .invokestatic 70, 3), (25, .aload_n 0, 1), (26, .getfield 24, 3), (29, .iconst 0, 1), (30, .aload_n 1, 1), (31, .bipush 24, 2), (33, .bipush 12, 2), (35, .invokestatic 70, 3), (38, .aload_n 0, 1), (39, .getfield 30, 3), (42, .iconst 0, 1), (43, .aload_n 1, 1), (44, .bipush 36, 2), (46, .iconst 5, 1), (47, .invokestatic 70, 3), (50, .aload_n 1, 1), (51, .bipush 41, 2), (53, .aload_n 0, 1), (54, .getfield 49, 3), (57, .iastore, 1), (58, .return_, 1)] : List (Nat × Instr × Nat)), decode cX1_saveTo q.1 = .ok (q.2.1, q.2.2) := by decide +kernel
set_option maxRecDepth 100000 in
theorem D_X1_restoreFrom : ∀ q ∈ ([(0, .aload_n 1, 1), (1, .iconst 0, 1), (2, .aload_n 0, 1), (3, .getfield 36, 3), (6, .iconst 0, 1), (7, .bipush 12, 2), (9, .invokestatic 70, 3), (12, .aload_n 1, 1), (13, .bipush 12, 2), (15, .aload_n 0, 1), (16, .getfield 39, 3), (19, .iconst 0, 1), (20, .bipush 12, 2), (22, .invokestatic 70, 3), (25, .aload_n 1, 1), (26, .bipush 24, 2), (28, .aload_n 0, 1), (29, .getfield 24, 3), (32, .iconst 0, 1), (33, .bipush 12, 2), (35, .invokestatic 70, 3), (38, .aload_n 1, 1), (39, .bipush 36, 2), (41, .aload_n 0, 1), (42, .getfield 30, 3), (45, .iconst 0, 1), (46, .iconst 5, 1), (47, .invokestatic 70, 3), (50, .aload_n 0, 1), (51, .aload_n 1, 1), (52, .bipush 41, 2), (54, .iaload, 1), (55, .putfield 49, 3), (58, .return_, 1)] : List (Nat × Instr × Nat)), decode cX1_restoreFrom q.1 = .ok (q.2.1, q.2.2) := by decide +kernel
set_option maxRecDepth 100000 in
theorem D_X1_addLane : ∀ q ∈ ([(0, .aload_n 0, 1), (1, .getfield 11, 3), (4, .aload_n 0, 1), (5, .getfield 55, 3), (8, .iload_n 1, 1), (9, .iastore, 1), (10, .aload_n 0, 1), (11, .dup, 1), (12, .getfield 55, 3), (15, .iconst 1, 1), (16, .iadd, 1), (17, .putfield 55, 3), (20, .return_, 1)] : List (Nat × Instr × Nat)), decode cX1_addLane q.1 = .ok (q.2.1, q.2.2) := by decide +kernel
set_option maxRecDepth 100000 in
theorem D_X1_addSpan : ∀ q ∈ ([(0, .aload_n 0, 1), (1, .getfield 15, 3), (4, .aload_n 0, 1), (5, .getfield 58, 3), (8, .iload_n 1, 1), (9, .iastore, 1), (10, .aload_n 0, 1), (11, .getfield 18, 3), (14, .aload_n 0, 1), (15, .getfield 58, 3), (18, .iload_n 2, 1), (19, .iastore, 1), (20, .aload_n 0, 1), (21, .getfield 21, 3), (24, .aload_n 0, 1), (25, .getfield 58, 3), (28, .iload_n 3, 1), (29, .iastore, 1), (30, .aload_n 0, 1), (31, .getfield 24, 3), (34, .aload_n 0, 1), (35, .getfield 58, 3), (38, .iload 4, 2), (40, .iastore, 1), (41, .aload_n 0, 1), (42, .getfield 27, 3), (45, .aload_n 0, 1), (46, .getfield 58, 3), (49, .iload 5, 2), (51, .iastore, 1), (52, .aload_n 0, 1), (53, .dup, 1), (54, .getfield 58, 3), (57, .iconst 1, 1), (58, .iadd, 1), (59, .putfield 58, 3), (62, .return_, 1)] : List (Nat × Instr × Nat)), decode cX1_addSpan q.1 = .ok (q.2.1, q.2.2) := by decide +kernel
set_option maxRecDepth 100000 in
theorem D_X1_addGang : ∀ q ∈ ([(0, .aload_n 0, 1), (1, .getfield 30, 3), (4, .aload_n 0, 1), (5, .getfield 61, 3), (8, .iload_n 1, 1), (9, .iastore, 1), (10, .aload_n 0, 1), (11, .getfield 33, 3), (14, .aload_n 0, 1), (15, .getfield 61, 3), (18, .iload_n 2, 1), (19, .iastore, 1), (20, .aload_n 0, 1), (21, .dup, 1), (22, .getfield 61, 3), (25, .iconst 1, 1), (26, .iadd, 1), (27, .putfield 61, 3), (30, .return_, 1)] : List (Nat × Instr × Nat)), decode cX1_addGang q.1 = .ok (q.2.1, q.2.2) := by decide +kernel
set_option maxRecDepth 100000 in
theorem D_X1_isClosed : ∀ q ∈ ([(0, .aload_n 0, 1), (1, .getfield 39, 3), (4, .iload_n 2, 1), (5, .iaload, 1), (6, .iload_n 1, 1), (7, .ishr, 1), (8, .iconst 1, 1), (9, .iand, 1), (10, .ifCond .eq 7, 3), (13, .iconst 1, 1), (14, .goto 4, 3), (17, .iconst 0, 1), (18, .ireturn, 1)] : List (Nat × Instr × Nat)), decode cX1_isClosed q.1 = .ok (q.2.1, q.2.2) := by decide +kernel
set_option maxRecDepth 100000 in
theorem D_X1_gangCapacity : ∀ q ∈ ([(0, .aload_n 0, 1), (1, .getfield 30, 3), (4, .iload_n 1, 1), (5, .iaload, 1), (6, .aload_n 0, 1), (7, .getfield 36, 3), (10, .iload_n 2, 1), (11, .iaload, 1), (12, .imul, 1), (13, .ireturn, 1)] : List (Nat × Instr × Nat)), decode cX1_gangCapacity q.1 = .ok (q.2.1, q.2.2) := by decide +kernel
set_option maxRecDepth 100000 in
theorem D_X2_init : ∀ q ∈ ([(0, .aload_n 0, 1), (1, .invokespecial 1, 3), (4, .aload_n 0, 1), (5, .bipush 16, 2), (7, .sipush 186, 3), (10, .multianewarray 13 2, 4), (14, .putfield 15, 3), (17, .aload_n 0, 1), (18, .bipush 15, 2), (20, .putfield 18, 3), (23, .return_, 1)] : List (Nat × Instr × Nat)), decode cX2_init q.1 = .ok (q.2.1, q.2.2) := by decide +kernel
set_option maxRecDepth 100000 in
theorem D_X2_clear : ∀ q ∈ ([(0, .aload_n 0, 1), (1, .iconst 0, 1), (2, .putfield 22, 3), (5, .return_, 1)] : List (Nat × Instr × Nat)), decode cX2_clear q.1 = .ok (q.2.1, q.2.2) := by decide +kernel
set_option maxRecDepth 100000 in
theorem D_X2_size : ∀ q ∈ ([(0, .aload_n 0, 1), (1, .getfield 22, 3), (4, .ireturn, 1)] : List (Nat × Instr × Nat)), decode cX2_size q.1 = .ok (q.2.1, q.2.2) := by decide +kernel
set_option maxRecDepth 100000 in
theorem D_X2_isEmpty : ∀ q ∈ ([(0, .aload_n 0, 1), (1, .getfield 22, 3), (4, .ifCond .ne 7, 3), (7, .iconst 1, 1), (8, .goto 4, 3), (11, .iconst 0, 1), (12, .ireturn, 1)] : List (Nat × Instr × Nat)), decode cX2_isEmpty q.1 = .ok (q.2.1, q.2.2) := by decide +kernel
set_option maxRecDepth 100000 in
theorem D_X2_keep : ∀ q ∈ ([(0, .aload_n 0, 1), (1, .aload_n 0, 1), (2, .getfield 18, 3), (5, .iconst 1, 1), (6, .iadd, 1), (7, .bipush 16, 2), (9, .if_icmp .ge 12, 3), (12, .aload_n 0, 1), (13, .getfield 18, 3), (16, .iconst 1, 1), (17, .iadd, 1), (18, .goto 4, 3), (21, .iconst 0, 1), (22, .putfield 18, 3), (25, .aload_n 1, 1), (26, .aload_n 0, 1), (27, .getfield 15, 3), (30, .aload_n 0, 1), (31, .getfield 18, 3), (34, .aaload, 1), (35, .invokevirtual 25, 3), (38, .aload_n 2, 1), (39, .aload_n 0, 1), (40, .getfield 15, 3), (43, .aload_n 0, 1), (44, .getfield 18, 3), (47, .aaload, 1), (48, .invokevirtual 29, 3), (51, .aload_n 0, 1), (52, .bipush 16, 2), (54, .aload_n 0, 1), (55, .getfield 22, 3), (58, .iconst 1, 1), (59, .iadd, 1), (60, .invokestatic 30, 3), (63, .putfield 22, 3), (66, .return_, 1)] : List (Nat × Instr × Nat)), decode cX2_keep q.1 = .ok (q.2.1, q.2.2) := by decide +kernel
set_option maxRecDepth 100000 in
theorem D_X2_takeBack : ∀ q ∈ ([(0, .aload_n 1, 1), (1, .aload_n 0, 1), (2, .getfield 15, 3), (5, .aload_n 0, 1), (6, .getfield 18, 3), (9, .aaload, 1), (10, .invokevirtual 36, 3), (13, .aload_n 2, 1), (14, .aload_n 0, 1), (15, .getfield 15, 3), (18, .aload_n 0, 1), (19, .getfield 18, 3), (22, .aaload, 1), (23, .invokevirtual 39, 3), (26, .aload_n 0, 1), (27, .aload_n 0, 1), (28, .getfield 18, 3), (31, .ifCond .le 12, 3), (34, .aload_n 0, 1), (35, .getfield 18, 3), (38, .iconst 1, 1), (39, .isub, 1), (40, .goto 5, 3), (43, .bipush 15, 2), (45, .putfield 18, 3), (48, .aload_n 0, 1), (49, .dup, 1), (50, .getfield 22, 3), (53, .iconst 1, 1), (54, .isub, 1), (55, .putfield 22, 3), (58, .return_, 1)] : List (Nat × Instr × Nat)), decode cX2_takeBack q.1 = .ok (q.2.1, q.2.2) := by decide +kernel
set_option maxRecDepth 100000 in
theorem D_X3_init : ∀ q ∈ ([(0, .aload_n 0, 1), (1, .invokespecial 3, 3), (4, .aload_n 0, 1), (5, .bipush 21, 2), (7, .newarray .long, 2), (9, .putfield 11, 3), (12, .aload_n 0, 1), (13, .bipush 21, 2), (15, .newarray .int, 2), (17, .putfield 15, 3), (20, .aload_n 0, 1), (21, .bipush 21, 2), (23, .newarray .int, 2), (25, .putfield 19, 3), (28, .return_, 1)] : List (Nat × Instr × Nat)), decode cX3_init q.1 = .ok (q.2.1, q.2.2) := by decide +kernel
set_option maxRecDepth 100000 in
theorem D_X3_clear : ∀ q ∈ ([(0, .aload_n 0, 1), (1, .iconst 0, 1), (2, .putfield 22, 3), (5, .return_, 1)] : List (Nat × Instr × Nat)), decode cX3_clear q.1 = .ok (q.2.1, q.2.2) := by decide +kernel
set_option maxRecDepth 100000 in
theorem D_X3_add : ∀ q ∈ ([(0, .aload_n 0, 1), (1, .getfield 22, 3), (4, .bipush 21, 2), (6, .if_icmp .ge 44, 3), (9, .aload_n 0, 1), (10, .getfield 11, 3), (13, .aload_n 0, 1), (14, .getfield 22, 3), (17, .lload_n 1, 1), (18, .lastore, 1), (19, .aload_n 0, 1), (20, .getfield 15, 3), (23, .aload_n 0, 1), (24, .getfield 22, 3), (27, .iload_n 3, 1), (28, .iastore, 1), (29, .aload_n 0, 1), (30, .getfield 19, 3), (33, .aload_n 0, 1), (34, .getfield 22, 3), (37, .iload 4, 2), (39, .iastore, 1), (40, .aload_n 0, 1), (41, .dup, 1), (42, .getfield 22, 3), (45, .iconst 1, 1), (46, .iadd, 1), (47, .putfield 22, 3), (50, .return_, 1)] : List (Nat × Instr × Nat)), decode cX3_add q.1 = .ok (q.2.1, q.2.2) := by decide +kernel
set_option maxRecDepth 100000 in
theorem D_X3_isDeclared : ∀ q ∈ ([(0, .iconst 0, 1), (1, .istore_n 3, 1), (2, .iload_n 3, 1), (3, .aload_n 0, 1), (4, .getfield 22, 3), (7, .if_icmp .ge 22, 3), (10, .aload_n 0, 1), (11, .getfield 11, 3), (14, .iload_n 3, 1), (15, .laload, 1), (16, .lload_n 1, 1), (17, .lcmp, 1), (18, .ifCond .ne 5, 3), (21, .iconst 1, 1), (22, .ireturn, 1), (23, .iinc 3 1, 3), (26, .goto (-24), 3), (29, .iconst 0, 1), (30, .ireturn, 1)] : List (Nat × Instr × Nat)), decode cX3_isDeclared q.1 = .ok (q.2.1, q.2.2) := by decide +kernel
set_option maxRecDepth 100000 in
theorem D_X3_numberOf : ∀ q ∈ ([(0, .iconst 0, 1), (1, .istore 4, 2), (3, .iload 4, 2), (5, .aload_n 0, 1), (6, .getfield 22, 3), (9, .if_icmp .ge 40, 3), (12, .aload_n 0, 1), (13, .getfield 11, 3), (16, .iload 4, 2), (18, .laload, 1), (19, .lload_n 1, 1), (20, .lcmp, 1), (21, .ifCond .ne 22, 3), (24, .aload_n 0, 1), (25, .getfield 15, 3), (28, .iload 4, 2), (30, .iaload, 1), (31, .iload_n 3, 1), (32, .if_icmp .ne 11, 3), (35, .aload_n 0, 1), (36, .getfield 19, 3), (39, .iload 4, 2), (41, .iaload, 1), (42, .ireturn, 1), (43, .iinc 4 1, 3), (46, .goto (-43), 3), (49, .iconst (-1), 1), (50, .ireturn, 1)] : List (Nat × Instr × Nat)), decode cX3_numberOf q.1 = .ok (q.2.1, q.2.2) := by decide +kernel
set_option maxRecDepth 100000 in
theorem D_X4_init : ∀ q ∈ ([(0, .aload_n 0, 1), (1, .invokespecial 1, 3), (4, .aload_n 0, 1), (5, .sipush 1152, 3), (8, .newarray .byte, 2), (10, .putfield 11, 3), (13, .return_, 1)] : List (Nat × Instr × Nat)), decode cX4_init q.1 = .ok (q.2.1, q.2.2) := by decide +kernel
set_option maxRecDepth 100000 in
theorem D_X5_init : ∀ q ∈ ([(0, .aload_n 0, 1), (1, .invokespecial 3, 3), (4, .aload_n 0, 1), (5, .new 9, 3), (8, .dup, 1), (9, .invokespecial 11, 3), (12, .putfield 12, 3), (15, .aload_n 0, 1), (16, .ldc 18, 2), (18, .putfield 19, 3), (21, .aload_n 0, 1), (22, .new 23, 3), (25, .dup, 1), (26, .aload_n 1, 1), (27, .invokespecial 25, 3), (30, .putfield 28, 3), (33, .aload_n 0, 1), (34, .aload_n 2, 1), (35, .putfield 32, 3), (38, .aload_n 0, 1), (39, .aload_n 3, 1), (40, .putfield 36, 3), (43, .return_, 1)] : List (Nat × Instr × Nat)), decode cX5_init q.1 = .ok (q.2.1, q.2.2) := by decide +kernel
set_option maxRecDepth 100000 in
theorem D_X5_failureKind : ∀ q ∈ ([(0, .aload_n 0, 1), (1, .getfield 40, 3), (4, .ireturn, 1)] : List (Nat × Instr × Nat)), decode cX5_failureKind q.1 = .ok (q.2.1, q.2.2) := by decide +kernel
set_option maxRecDepth 100000 in
theorem D_X5_failurePosition : ∀ q ∈ ([(0, .aload_n 0, 1), (1, .getfield 19, 3), (4, .ireturn, 1)] : List (Nat × Instr × Nat)), decode cX5_failurePosition q.1 = .ok (q.2.1, q.2.2) := by decide +kernel
set_option maxRecDepth 100000 in
theorem D_X5_read : ∀ q ∈ ([(0, .aload_n 0, 1), (1, .aload_n 2, 1), (2, .putfield 32, 3), (5, .aload_n 0, 1), (6, .aload_n 3, 1), (7, .putfield 36, 3), (10, .aload_n 0, 1), (11, .iconst 0, 1), (12, .putfield 40, 3), (15, .aload_n 0, 1), (16, .ldc 18, 2), (18, .putfield 19, 3), (21, .aload_n 0, 1), (22, .getfield 32, 3), (25, .invokevirtual 43, 3), (28, .aload_n 0, 1), (29, .getfield 36, 3), (32, .aload_n 0, 1), (33, .getfield 32, 3), (36, .invokevirtual 48, 3), (39, .aload_n 0, 1), (40, .getfield 12, 3), (43, .invokevirtual 54, 3), (46, .aload_n 0, 1), (47, .getfield 28, 3), (50, .iload_n 1, 1), (51, .invokevirtual 57, 3), (54, .iconst 1, 1), (55, .istore 4, 2), (57, .iconst 0, 1), (58, .istore 5, 2), (60, .iload 4, 2), (62, .ifCond .eq 51, 3), (65, .iload 5, 2), (67, .iload_n 1, 1), (68, .if_icmp .gt 45, 3), (71, .aload_n 0, 1), (72, .getfield 28, 3), (75, .invokevirtual 61, 3), (78, .aload_n 0, 1), (79, .getfield 28, 3), (82, .getfield 64, 3), (85, .ifCond .ne 6, 3), (88, .goto 25, 3), (91, .aload_n 0, 1), (92, .iload 5, 2), (94, .ifCond .ne 7, 3), (97, .iconst 1, 1), (98, .goto 4, 3), (101, .iconst 0, 1), (102, .invokevirtual 67, 3), (105, .istore 4, 2), (107, .iinc 5 1, 3), (110, .goto (-50), 3), (113, .aload_n 0, 1), (114, .getfield 36, 3), (117, .invokevirtual 71, 3), (120, .iload 4, 2), (122, .ireturn, 1)] : List (Nat × Instr × Nat)), decode cX5_read q.1 = .ok (q.2.1, q.2.2) := by decide +kernel
set_option maxRecDepth 100000 in
theorem D_X5_fail : ∀ q ∈ ([(0, .aload_n 0, 1), (1, .iload_n 1, 1), (2, .putfield 40, 3), (5, .aload_n 0, 1), (6, .aload_n 0, 1), (7, .getfield 28, 3), (10, .getfield 74, 3), (13, .putfield 19, 3), (16, .iconst 0, 1), (17, .ireturn, 1)] : List (Nat × Instr × Nat)), decode cX5_fail q.1 = .ok (q.2.1, q.2.2) := by decide +kernel
set_option maxRecDepth 100000 in
theorem D_X5_readStatement : ∀ q ∈ ([(0, .aload_n 0, 1), (1, .getfield 28, 3), (4, .getfield 64, 3), (7, .iconst 1, 1), (8, .if_icmp .eq 8, 3), (11, .aload_n 0, 1), (12, .invokevirtual 76, 3), (15, .ireturn, 1), (16, .aload_n 0, 1), (17, .getfield 28, 3), (20, .getfield 80, 3), (23, .lstore_n 2, 1), (24, .lload_n 2, 1), (25, .ldc2_w 84, 3), (28, .lcmp, 1), (29, .ifCond .ne 20, 3), (32, .iload_n 1, 1), (33, .ifCond .eq 10, 3), (36, .aload_n 0, 1), (37, .invokevirtual 86, 3), (40, .goto 8, 3), (43, .aload_n 0, 1), (44, .iconst 5, 1), (45, .invokevirtual 89, 3), (48, .ireturn, 1), (49, .lload_n 2, 1), (50, .ldc2_w 93, 3), (53, .lcmp, 1), (54, .ifCond .ne 27, 3), (57, .aload_n 0, 1), (58, .getfield 32, 3), (61, .getfield 95, 3), (64, .iconst 4, 1), (65, .if_icmp .ge 10, 3), (68, .aload_n 0, 1), (69, .invokevirtual 98, 3), (72, .goto 8, 3), (75, .aload_n 0, 1), (76, .iconst 5, 1), (77, .invokevirtual 89, 3), (80, .ireturn, 1), (81, .lload_n 2, 1), (82, .ldc2_w 101, 3), (85, .lcmp, 1), (86, .ifCond .ne 28, 3), (89, .aload_n 0, 1), (90, .getfield 32, 3), (93, .getfield 103, 3), (96, .bipush 12, 2), (98, .if_icmp .ge 10, 3), (101, .aload_n 0, 1), (102, .invokevirtual 106, 3), (105, .goto 8, 3), (108, .aload_n 0, 1), (109, .iconst 5, 1), (110, .invokevirtual 89, 3), (113, .ireturn, 1), (114, .lload_n 2, 1), (115, .ldc2_w 109, 3), (118, .lcmp, 1), (119, .ifCond .ne 27, 3), (122, .aload_n 0, 1), (123, .getfield 32, 3), (126, .getfield 111, 3), (129, .iconst 5, 1), (130, .if_icmp .ge 10, 3), (133, .aload_n 0, 1), (134, .invokevirtual 114, 3), (137, .goto 8, 3), (140, .aload_n 0, 1), (141, .iconst 5, 1), (142, .invokevirtual 89, 3), (145, .ireturn, 1), (146, .lload_n 2, 1), (147, .ldc2_w 117, 3), (150, .lcmp, 1), (151, .ifCond .ne 8, 3), (154, .aload_n 0, 1), (155, .invokevirtual 119, 3), (158, .ireturn, 1), (159, .lload_n 2, 1), (160, .ldc2_w 122, 3), (163, .lcmp, 1), (164, .ifCond .ne 8, 3), (167, .aload_n 0, 1), (168, .invokevirtual 124, 3), (171, .ireturn, 1), (172, .lload_n 2, 1), (173, .ldc2_w 127, 3), (176, .lcmp, 1), (177, .ifCond .ne 10, 3), (180, .aload_n 0, 1), (181, .invokevirtual 129, 3), (184, .goto 8, 3), (187, .aload_n 0, 1), (188, .iconst 2, 1), (189, .invokevirtual 89, 3), (192, .ireturn, 1)] : List (Nat × Instr × Nat)), decode cX5_readStatement q.1 = .ok (q.2.1, q.2.2) := by decide +kernel
set_option maxRecDepth 100000 in
theorem D_X5_readBridge : ∀ q ∈ ([(0, .aload_n 0, 1), (1, .iconst 1, 1), (2, .bipush 12, 2), (4, .invokevirtual 132, 3), (7, .istore_n 1, 1), (8, .iload_n 1, 1), (9, .bipush (-2), 2), (11, .if_icmp .ne 8, 3), (14, .bipush (-2), 2), (16, .goto 9, 3), (19, .aload_n 0, 1), (20, .iconst 1, 1), (21, .iconst 4, 1), (22, .invokevirtual 132, 3), (25, .istore_n 2, 1), (26, .iload_n 2, 1), (27, .bipush (-2), 2), (29, .if_icmp .ne 8, 3), (32, .bipush (-2), 2), (34, .goto 10, 3), (37, .aload_n 0, 1), (38, .iconst 0, 1), (39, .bipush 10, 2), (41, .invokevirtual 132, 3), (44, .istore_n 3, 1), (45, .iload_n 3, 1), (46, .bipush (-2), 2), (48, .if_icmp .eq 10, 3), (51, .aload_n 0, 1), (52, .invokevirtual 136, 3), (55, .ifCond .ne 5, 3), (58, .iconst 0, 1), (59, .ireturn, 1), (60, .aload_n 0, 1), (61, .getfield 32, 3), (64, .iload_n 1, 1), (65, .putfield 139, 3), (68, .aload_n 0, 1), (69, .getfield 32, 3), (72, .iload_n 2, 1), (73, .putfield 142, 3), (76, .aload_n 0, 1), (77, .getfield 32, 3), (80, .iload_n 3, 1), (81, .putfield 145, 3), (84, .iconst 1, 1), (85, .ireturn, 1)] : List (Nat × Instr × Nat)), decode cX5_readBridge q.1 = .ok (q.2.1, q.2.2) := by decide +kernel
set_option maxRecDepth 100000 in
theorem D_X5_readLane : ∀ q ∈ ([(0, .aload_n 0, 1), (1, .invokevirtual 148, 3), (4, .lstore_n 1, 1), (5, .lload_n 1, 1), (6, .ldc2_w 152, 3), (9, .lcmp, 1), (10, .ifCond .ne 8, 3), (13, .bipush (-2), 2), (15, .goto 11, 3), (18, .aload_n 0, 1), (19, .iconst 0, 1), (20, .sipush 999, 3), (23, .invokevirtual 132, 3), (26, .istore_n 3, 1), (27, .iload_n 3, 1), (28, .bipush (-2), 2), (30, .if_icmp .eq 10, 3), (33, .aload_n 0, 1), (34, .invokevirtual 136, 3), (37, .ifCond .ne 5, 3), (40, .iconst 0, 1), (41, .ireturn, 1), (42, .aload_n 0, 1), (43, .getfield 12, 3), (46, .lload_n 1, 1), (47, .iconst 1, 1), (48, .aload_n 0, 1), (49, .getfield 32, 3), (52, .getfield 95, 3), (55, .invokevirtual 154, 3), (58, .aload_n 0, 1), (59, .getfield 32, 3), (62, .iload_n 3, 1), (63, .invokevirtual 158, 3), (66, .iconst 1, 1), (67, .ireturn, 1)] : List (Nat × Instr × Nat)), decode cX5_readLane q.1 = .ok (q.2.1, q.2.2) := by decide +kernel
set_option maxRecDepth 100000 in
theorem D_X5_readSpan : ∀ q ∈ ([(0, .aload_n 0, 1), (1, .invokevirtual 148, 3), (4, .lstore_n 1, 1), (5, .lload_n 1, 1), (6, .ldc2_w 152, 3), (9, .lcmp, 1), (10, .ifCond .ne 8, 3), (13, .bipush (-2), 2), (15, .goto 7, 3), (18, .aload_n 0, 1), (19, .invokevirtual 161, 3), (22, .istore_n 3, 1), (23, .iload_n 3, 1), (24, .bipush (-2), 2), (26, .if_icmp .ne 8, 3), (29, .bipush (-2), 2), (31, .goto 10, 3), (34, .aload_n 0, 1), (35, .iconst 1, 1), (36, .bipush 99, 2), (38, .invokevirtual 132, 3), (41, .istore 4, 2), (43, .iload 4, 2), (45, .bipush (-2), 2), (47, .if_icmp .ne 8, 3), (50, .bipush (-2), 2), (52, .goto 10, 3), (55, .aload_n 0, 1), (56, .iconst 0, 1), (57, .bipush 100, 2), (59, .invokevirtual 132, 3), (62, .istore 5, 2), (64, .iload 5, 2), (66, .bipush (-2), 2), (68, .if_icmp .ne 8, 3), (71, .bipush (-2), 2), (73, .goto 10, 3), (76, .aload_n 0, 1), (77, .iconst 1, 1), (78, .bipush 50, 2), (80, .invokevirtual 132, 3), (83, .istore 6, 2), (85, .iload 6, 2), (87, .bipush (-2), 2), (89, .if_icmp .ne 8, 3), (92, .bipush (-2), 2), (94, .goto 10, 3), (97, .aload_n 0, 1), (98, .iconst 1, 1), (99, .bipush 100, 2), (101, .invokevirtual 132, 3), (104, .istore 7, 2), (106, .iload 7, 2), (108, .bipush (-2), 2), (110, .if_icmp .eq 10, 3), (113, .aload_n 0, 1), (114, .invokevirtual 136, 3), (117, .ifCond .ne 5, 3), (120, .iconst 0, 1), (121, .ireturn, 1), (122, .aload_n 0, 1), (123, .getfield 12, 3), (126, .lload_n 1, 1), (127, .iconst 2, 1), (128, .aload_n 0, 1), (129, .getfield 32, 3), (132, .getfield 103, 3), (135, .invokevirtual 154, 3), (138, .aload_n 0, 1), (139, .getfield 32, 3), (142, .iload_n 3, 1), (143, .iload 4, 2), (145, .iload 5, 2), (147, .iload 6, 2), (149, .iload 7, 2), (151, .invokevirtual 165, 3), (154, .iconst 1, 1), (155, .ireturn, 1)] : List (Nat × Instr × Nat)), decode cX5_readSpan q.1 = .ok (q.2.1, q.2.2) := by decide +kernel
set_option maxRecDepth 100000 in
theorem D_X5_readGang : ∀ q ∈ ([(0, .aload_n 0, 1), (1, .invokevirtual 148, 3), (4, .lstore_n 1, 1), (5, .lload_n 1, 1), (6, .ldc2_w 152, 3), (9, .lcmp, 1), (10, .ifCond .ne 8, 3), (13, .bipush (-2), 2), (15, .goto 10, 3), (18, .aload_n 0, 1), (19, .iconst 1, 1), (20, .bipush 50, 2), (22, .invokevirtual 132, 3), (25, .istore_n 3, 1), (26, .iload_n 3, 1), (27, .bipush (-2), 2), (29, .if_icmp .ne 8, 3), (32, .bipush (-2), 2), (34, .goto 10, 3), (37, .aload_n 0, 1), (38, .iconst 0, 1), (39, .bipush 99, 2), (41, .invokevirtual 132, 3), (44, .istore 4, 2), (46, .iload 4, 2), (48, .bipush (-2), 2), (50, .if_icmp .eq 10, 3), (53, .aload_n 0, 1), (54, .invokevirtual 136, 3), (57, .ifCond .ne 5, 3), (60, .iconst 0, 1), (61, .ireturn, 1), (62, .aload_n 0, 1), (63, .getfield 12, 3), (66, .lload_n 1, 1), (67, .iconst 3, 1), (68, .aload_n 0, 1), (69, .getfield 32, 3), (72, .getfield 111, 3), (75, .invokevirtual 154, 3), (78, .aload_n 0, 1), (79, .getfield 32, 3), (82, .iload_n 3, 1), (83, .iload 4, 2), (85, .invokevirtual 169, 3), (88, .iconst 1, 1), (89, .ireturn, 1)] : List (Nat × Instr × Nat)), decode cX5_readGang q.1 = .ok (q.2.1, q.2.2) := by decide +kernel
set_option maxRecDepth 100000 in
theorem D_X5_readWeather : ∀ q ∈ ([(0, .aload_n 0, 1), (1, .iconst 0, 1), (2, .aload_n 0, 1), (3, .getfield 32, 3), (6, .getfield 139, 3), (9, .iconst 1, 1), (10, .isub, 1), (11, .invokevirtual 132, 3), (14, .istore_n 1, 1), (15, .iload_n 1, 1), (16, .bipush (-2), 2), (18, .if_icmp .ne 8, 3), (21, .bipush (-2), 2), (23, .goto 11, 3), (26, .aload_n 0, 1), (27, .iconst 0, 1), (28, .sipush 200, 3), (31, .invokevirtual 132, 3), (34, .istore_n 2, 1), (35, .iload_n 2, 1), (36, .bipush (-2), 2), (38, .if_icmp .eq 10, 3), (41, .aload_n 0, 1), (42, .invokevirtual 136, 3), (45, .ifCond .ne 5, 3), (48, .iconst 0, 1), (49, .ireturn, 1), (50, .aload_n 0, 1), (51, .getfield 32, 3), (54, .getfield 173, 3), (57, .iload_n 1, 1), (58, .iload_n 2, 1), (59, .iastore, 1), (60, .iconst 1, 1), (61, .ireturn, 1)] : List (Nat × Instr × Nat)), decode cX5_readWeather q.1 = .ok (q.2.1, q.2.2) := by decide +kernel
set_option maxRecDepth 100000 in
theorem D_X5_readClosed : ∀ q ∈ ([(0, .aload_n 0, 1), (1, .iconst 1, 1), (2, .invokevirtual 177, 3), (5, .istore_n 1, 1), (6, .iload_n 1, 1), (7, .bipush (-2), 2), (9, .if_icmp .ne 8, 3), (12, .bipush (-2), 2), (14, .goto 17, 3), (17, .aload_n 0, 1), (18, .iconst 0, 1), (19, .aload_n 0, 1), (20, .getfield 32, 3), (23, .getfield 139, 3), (26, .iconst 1, 1), (27, .isub, 1), (28, .invokevirtual 132, 3), (31, .istore_n 2, 1), (32, .iload_n 2, 1), (33, .bipush (-2), 2), (35, .if_icmp .eq 10, 3), (38, .aload_n 0, 1), (39, .invokevirtual 136, 3), (42, .ifCond .ne 5, 3), (45, .iconst 0, 1), (46, .ireturn, 1), (47, .aload_n 0, 1), (48, .getfield 32, 3), (51, .getfield 181, 3), (54, .iload_n 2, 1), (55, .dup2, 1), (56, .iaload, 1), (57, .iconst 1, 1), (58, .iload_n 1, 1), (59, .ishl, 1), (60, .ior, 1), (61, .iastore, 1), (62, .iconst 1, 1), (63, .ireturn, 1)] : List (Nat × Instr × Nat)), decode cX5_readClosed q.1 = .ok (q.2.1, q.2.2) := by decide +kernel
set_option maxRecDepth 100000 in
theorem D_X5_readPainting : ∀ q ∈ ([(0, .aload_n 0, 1), (1, .iconst 0, 1), (2, .aload_n 0, 1), (3, .getfield 32, 3), (6, .getfield 139, 3), (9, .iconst 1, 1), (10, .isub, 1), (11, .invokevirtual 132, 3), (14, .istore_n 1, 1), (15, .iload_n 1, 1), (16, .bipush (-2), 2), (18, .if_icmp .ne 8, 3), (21, .bipush (-2), 2), (23, .goto 8, 3), (26, .aload_n 0, 1), (27, .iconst 2, 1), (28, .invokevirtual 177, 3), (31, .istore_n 2, 1), (32, .iload_n 2, 1), (33, .bipush (-2), 2), (35, .if_icmp .ne 5, 3), (38, .iconst 0, 1), (39, .ireturn, 1), (40, .aload_n 0, 1), (41, .getfield 36, 3), (44, .iload_n 1, 1), (45, .iload_n 2, 1), (46, .invokevirtual 184, 3), (49, .ifCond .eq 10, 3), (52, .aload_n 0, 1), (53, .bipush 6, 2), (55, .invokevirtual 89, 3), (58, .ireturn, 1), (59, .aload_n 0, 1), (60, .iconst 3, 1), (61, .invokevirtual 177, 3), (64, .istore_n 3, 1), (65, .iload_n 3, 1), (66, .bipush (-2), 2), (68, .if_icmp .eq 10, 3), (71, .aload_n 0, 1), (72, .invokevirtual 136, 3), (75, .ifCond .ne 5, 3), (78, .iconst 0, 1), (79, .ireturn, 1), (80, .aload_n 0, 1), (81, .getfield 36, 3), (84, .iload_n 1, 1), (85, .iload_n 2, 1), (86, .iload_n 3, 1), (87, .invokevirtual 188, 3), (90, .iconst 1, 1), (91, .ireturn, 1)] : List (Nat × Instr × Nat)), decode cX5_readPainting q.1 = .ok (q.2.1, q.2.2) := by decide +kernel
set_option maxRecDepth 100000 in
theorem D_X5_semicolon : ∀ q ∈ ([(0, .aload_n 0, 1), (1, .getfield 28, 3), (4, .invokevirtual 61, 3), (7, .aload_n 0, 1), (8, .getfield 28, 3), (11, .getfield 64, 3), (14, .iconst 3, 1), (15, .if_icmp .eq 10, 3), (18, .aload_n 0, 1), (19, .invokevirtual 76, 3), (22, .ifCond .eq 7, 3), (25, .iconst 1, 1), (26, .goto 4, 3), (29, .iconst 0, 1), (30, .ireturn, 1)] : List (Nat × Instr × Nat)), decode cX5_semicolon q.1 = .ok (q.2.1, q.2.2) := by decide +kernel
set_option maxRecDepth 100000 in
theorem D_X5_number : ∀ q ∈ ([(0, .aload_n 0, 1), (1, .getfield 28, 3), (4, .invokevirtual 61, 3), (7, .aload_n 0, 1), (8, .getfield 28, 3), (11, .getfield 64, 3), (14, .iconst 2, 1), (15, .if_icmp .eq 11, 3), (18, .aload_n 0, 1), (19, .invokevirtual 76, 3), (22, .pop, 1), (23, .bipush (-2), 2), (25, .ireturn, 1), (26, .aload_n 0, 1), (27, .getfield 28, 3), (30, .getfield 192, 3), (33, .iload_n 1, 1), (34, .if_icmp .lt 14, 3), (37, .aload_n 0, 1), (38, .getfield 28, 3), (41, .getfield 192, 3), (44, .iload_n 2, 1), (45, .if_icmp .le 12, 3), (48, .aload_n 0, 1), (49, .iconst 3, 1), (50, .invokevirtual 89, 3), (53, .pop, 1), (54, .bipush (-2), 2), (56, .ireturn, 1), (57, .aload_n 0, 1), (58, .getfield 28, 3), (61, .getfield 192, 3), (64, .ireturn, 1)] : List (Nat × Instr × Nat)), decode cX5_number q.1 = .ok (q.2.1, q.2.2) := by decide +kernel
set_option maxRecDepth 100000 in
theorem D_X5_newName : ∀ q ∈ ([(0, .aload_n 0, 1), (1, .getfield 28, 3), (4, .invokevirtual 61, 3), (7, .aload_n 0, 1), (8, .getfield 28, 3), (11, .getfield 64, 3), (14, .iconst 1, 1), (15, .if_icmp .ne 16, 3), (18, .aload_n 0, 1), (19, .getfield 28, 3), (22, .getfield 80, 3), (25, .invokestatic 194, 3), (28, .ifCond .eq 12, 3), (31, .aload_n 0, 1), (32, .invokevirtual 76, 3), (35, .pop, 1), (36, .ldc2_w 152, 3), (39, .lreturn, 1), (40, .aload_n 0, 1), (41, .getfield 12, 3), (44, .aload_n 0, 1), (45, .getfield 28, 3), (48, .getfield 80, 3), (51, .invokevirtual 198, 3), (54, .ifCond .eq 13, 3), (57, .aload_n 0, 1), (58, .iconst 4, 1), (59, .invokevirtual 89, 3), (62, .pop, 1), (63, .ldc2_w 152, 3), (66, .lreturn, 1), (67, .aload_n 0, 1), (68, .getfield 28, 3), (71, .getfield 80, 3), (74, .lreturn, 1)] : List (Nat × Instr × Nat)), decode cX5_newName q.1 = .ok (q.2.1, q.2.2) := by decide +kernel
set_option maxRecDepth 100000 in
theorem D_X5_knownName : ∀ q ∈ ([(0, .aload_n 0, 1), (1, .getfield 28, 3), (4, .invokevirtual 61, 3), (7, .aload_n 0, 1), (8, .iload_n 1, 1), (9, .invokevirtual 201, 3), (12, .ireturn, 1)] : List (Nat × Instr × Nat)), decode cX5_knownName q.1 = .ok (q.2.1, q.2.2) := by decide +kernel
set_option maxRecDepth 100000 in
theorem D_X5_laneOrNone : ∀ q ∈ ([(0, .aload_n 0, 1), (1, .getfield 28, 3), (4, .invokevirtual 61, 3), (7, .aload_n 0, 1), (8, .getfield 28, 3), (11, .getfield 64, 3), (14, .iconst 1, 1), (15, .if_icmp .ne 21, 3), (18, .aload_n 0, 1), (19, .getfield 28, 3), (22, .getfield 80, 3), (25, .ldc2_w 204, 3), (28, .lcmp, 1), (29, .ifCond .ne 7, 3), (32, .iconst (-1), 1), (33, .goto 8, 3), (36, .aload_n 0, 1), (37, .iconst 1, 1), (38, .invokevirtual 201, 3), (41, .ireturn, 1)] : List (Nat × Instr × Nat)), decode cX5_laneOrNone q.1 = .ok (q.2.1, q.2.2) := by decide +kernel
set_option maxRecDepth 100000 in
theorem D_X5_thisName : ∀ q ∈ ([(0, .aload_n 0, 1), (1, .getfield 28, 3), (4, .getfield 64, 3), (7, .iconst 1, 1), (8, .if_icmp .ne 16, 3), (11, .aload_n 0, 1), (12, .getfield 28, 3), (15, .getfield 80, 3), (18, .invokestatic 194, 3), (21, .ifCond .eq 11, 3), (24, .aload_n 0, 1), (25, .invokevirtual 76, 3), (28, .pop, 1), (29, .bipush (-2), 2), (31, .ireturn, 1), (32, .aload_n 0, 1), (33, .getfield 12, 3), (36, .aload_n 0, 1), (37, .getfield 28, 3), (40, .getfield 80, 3), (43, .iload_n 1, 1), (44, .invokevirtual 206, 3), (47, .istore_n 2, 1), (48, .iload_n 2, 1), (49, .iconst (-1), 1), (50, .if_icmp .ne 12, 3), (53, .aload_n 0, 1), (54, .iconst 4, 1), (55, .invokevirtual 89, 3), (58, .pop, 1), (59, .bipush (-2), 2), (61, .ireturn, 1), (62, .iload_n 2, 1), (63, .ireturn, 1)] : List (Nat × Instr × Nat)), decode cX5_thisName q.1 = .ok (q.2.1, q.2.2) := by decide +kernel
set_option maxRecDepth 100000 in
theorem D_X5_failOnToken : ∀ q ∈ ([(0, .aload_n 0, 1), (1, .aload_n 0, 1), (2, .getfield 28, 3), (5, .getfield 64, 3), (8, .iconst 4, 1), (9, .if_icmp .ne 7, 3), (12, .iconst 1, 1), (13, .goto 4, 3), (16, .iconst 2, 1), (17, .putfield 40, 3), (20, .aload_n 0, 1), (21, .aload_n 0, 1), (22, .getfield 28, 3), (25, .getfield 74, 3), (28, .putfield 19, 3), (31, .iconst 0, 1), (32, .ireturn, 1)] : List (Nat × Instr × Nat)), decode cX5_failOnToken q.1 = .ok (q.2.1, q.2.2) := by decide +kernel
set_option maxRecDepth 100000 in
theorem D_X5_isReserved : ∀ q ∈ ([(0, .lload_n 0, 1), (1, .ldc2_w 84, 3), (4, .lcmp, 1), (5, .ifCond .eq 59, 3), (8, .lload_n 0, 1), (9, .ldc2_w 93, 3), (12, .lcmp, 1), (13, .ifCond .eq 51, 3), (16, .lload_n 0, 1), (17, .ldc2_w 101, 3), (20, .lcmp, 1), (21, .ifCond .eq 43, 3), (24, .lload_n 0, 1), (25, .ldc2_w 109, 3), (28, .lcmp, 1), (29, .ifCond .eq 35, 3), (32, .lload_n 0, 1), (33, .ldc2_w 117, 3), (36, .lcmp, 1), (37, .ifCond .eq 27, 3), (40, .lload_n 0, 1), (41, .ldc2_w 122, 3), (44, .lcmp, 1), (45, .ifCond .eq 19, 3), (48, .lload_n 0, 1), (49, .ldc2_w 127, 3), (52, .lcmp, 1), (53, .ifCond .eq 11, 3), (56, .lload_n 0, 1), (57, .ldc2_w 204, 3), (60, .lcmp, 1), (61, .ifCond .ne 7, 3), (64, .iconst 1, 1), (65, .goto 4, 3), (68, .iconst 0, 1), (69, .ireturn, 1)] : List (Nat × Instr × Nat)), decode cX5_isReserved q.1 = .ok (q.2.1, q.2.2) := by decide +kernel
set_option maxRecDepth 100000 in
theorem D_X6_init : ∀ q ∈ ([(0, .aload_n 0, 1), (1, .invokespecial 3, 3), (4, .aload_n 0, 1), (5, .sipush 144, 3), (8, .newarray .int, 2), (10, .putfield 11, 3), (13, .aload_n 0, 1), (14, .sipush 156, 3), (17, .newarray .int, 2), (19, .putfield 15, 3), (22, .aload_n 0, 1), (23, .sipush 156, 3), (26, .newarray .int, 2), (28, .putfield 18, 3), (31, .aload_n 0, 1), (32, .aload_n 1, 1), (33, .putfield 21, 3), (36, .aload_n 0, 1), (37, .getfield 11, 3), (40, .iconst (-1), 1), (41, .invokestatic 25, 3), (44, .return_, 1)] : List (Nat × Instr × Nat)), decode cX6_init q.1 = .ok (q.2.1, q.2.2) := by decide +kernel
set_option maxRecDepth 100000 in
theorem D_X6_start : ∀ q ∈ ([(0, .aload_n 0, 1), (1, .aload_n 1, 1), (2, .putfield 21, 3), (5, .aload_n 0, 1), (6, .getfield 11, 3), (9, .iconst (-1), 1), (10, .invokestatic 25, 3), (13, .aload_n 0, 1), (14, .invokevirtual 31, 3), (17, .return_, 1)] : List (Nat × Instr × Nat)), decode cX6_start q.1 = .ok (q.2.1, q.2.2) := by decide +kernel
set_option maxRecDepth 100000 in
theorem D_X6_put : ∀ q ∈ ([(0, .aload_n 0, 1), (1, .getfield 11, 3), (4, .iload_n 1, 1), (5, .bipush 12, 2), (7, .imul, 1), (8, .iload_n 2, 1), (9, .iadd, 1), (10, .iload_n 3, 1), (11, .iastore, 1), (12, .aload_n 0, 1), (13, .iload_n 2, 1), (14, .invokevirtual 34, 3), (17, .return_, 1)] : List (Nat × Instr × Nat)), decode cX6_put q.1 = .ok (q.2.1, q.2.2) := by decide +kernel
set_option maxRecDepth 100000 in
theorem D_X6_painter : ∀ q ∈ ([(0, .aload_n 0, 1), (1, .getfield 11, 3), (4, .iload_n 1, 1), (5, .bipush 12, 2), (7, .imul, 1), (8, .iload_n 2, 1), (9, .iadd, 1), (10, .iaload, 1), (11, .ireturn, 1)] : List (Nat × Instr × Nat)), decode cX6_painter q.1 = .ok (q.2.1, q.2.2) := by decide +kernel
set_option maxRecDepth 100000 in
theorem D_X6_isPainted : ∀ q ∈ ([(0, .aload_n 0, 1), (1, .getfield 11, 3), (4, .iload_n 1, 1), (5, .bipush 12, 2), (7, .imul, 1), (8, .iload_n 2, 1), (9, .iadd, 1), (10, .iaload, 1), (11, .iconst (-1), 1), (12, .if_icmp .eq 7, 3), (15, .iconst 1, 1), (16, .goto 4, 3), (19, .iconst 0, 1), (20, .ireturn, 1)] : List (Nat × Instr × Nat)), decode cX6_isPainted q.1 = .ok (q.2.1, q.2.2) := by decide +kernel
set_option maxRecDepth 100000 in
theorem D_X6_countPaintings : ∀ q ∈ ([(0, .iconst 0, 1), (1, .istore_n 1, 1), (2, .iconst 0, 1), (3, .istore_n 2, 1), (4, .iload_n 2, 1), (5, .sipush 144, 3), (8, .if_icmp .ge 22, 3), (11, .aload_n 0, 1), (12, .getfield 11, 3), (15, .iload_n 2, 1), (16, .iaload, 1), (17, .iconst (-1), 1), (18, .if_icmp .eq 6, 3), (21, .iinc 1 1, 3), (24, .iinc 2 1, 3), (27, .goto (-23), 3), (30, .iload_n 1, 1), (31, .ireturn, 1)] : List (Nat × Instr × Nat)), decode cX6_countPaintings q.1 = .ok (q.2.1, q.2.2) := by decide +kernel
set_option maxRecDepth 100000 in
theorem D_X6_saveTo : ∀ q ∈ ([(0, .aload_n 0, 1), (1, .getfield 11, 3), (4, .iconst 0, 1), (5, .aload_n 1, 1), (6, .bipush 42, 2), (8, .sipush 144, 3), (11, .invokestatic 40, 3), (14, .return_, 1)] : List (Nat × Instr × Nat)), decode cX6_saveTo q.1 = .ok (q.2.1, q.2.2) := by decide +kernel
set_option maxRecDepth 100000 in
theorem D_X6_restoreFrom : ∀ q ∈ ([(0, .aload_n 1, 1), (1, .bipush 42, 2), (3, .aload_n 0, 1), (4, .getfield 11, 3), (7, .iconst 0, 1), (8, .sipush 144, 3), (11, .invokestatic 40, 3), (14, .aload_n 0, 1), (15, .invokevirtual 31, 3), (18, .return_, 1)] : List (Nat × Instr × Nat)), decode cX6_restoreFrom q.1 = .ok (q.2.1, q.2.2) := by decide +kernel
set_option maxRecDepth 100000 in
theorem D_X6_followAll : ∀ q ∈ ([(0, .iconst 0, 1), (1, .istore_n 1, 1), (2, .iload_n 1, 1), (3, .aload_n 0, 1), (4, .getfield 21, 3), (7, .getfield 46, 3), (10, .if_icmp .ge 14, 3), (13, .aload_n 0, 1), (14, .iload_n 1, 1), (15, .invokevirtual 34, 3), (18, .iinc 1 1, 3), (21, .goto (-19), 3), (24, .return_, 1)] : List (Nat × Instr × Nat)), decode cX6_followAll q.1 = .ok (q.2.1, q.2.2) := by decide +kernel
set_option maxRecDepth 100000 in
theorem D_X6_follow : ∀ q ∈ ([(0, .aload_n 0, 1), (1, .getfield 21, 3), (4, .getfield 50, 3), (7, .iload_n 1, 1), (8, .iaload, 1), (9, .istore_n 2, 1), (10, .iconst 0, 1), (11, .istore_n 3, 1), (12, .iload_n 1, 1), (13, .bipush 13, 2), (15, .imul, 1), (16, .istore 4, 2), (18, .iconst 0, 1), (19, .istore 5, 2), (21, .iload 5, 2), (23, .aload_n 0, 1), (24, .getfield 21, 3), (27, .getfield 53, 3), (30, .if_icmp .ge 78, 3), (33, .aload_n 0, 1), (34, .getfield 15, 3), (37, .iload 4, 2), (39, .iload_n 2, 1), (40, .iastore, 1), (41, .aload_n 0, 1), (42, .getfield 18, 3), (45, .iload 4, 2), (47, .iload_n 3, 1), (48, .iastore, 1), (49, .aload_n 0, 1), (50, .iload 5, 2), (52, .iload_n 1, 1), (53, .invokevirtual 56, 3), (56, .ifCond .eq 16, 3), (59, .iconst 0, 1), (60, .istore_n 2, 1), (61, .aload_n 0, 1), (62, .getfield 21, 3), (65, .getfield 60, 3), (68, .istore_n 3, 1), (69, .goto 30, 3), (72, .iload_n 3, 1), (73, .ifCond .le 9, 3), (76, .iinc 3 (-1), 3), (79, .goto 20, 3), (82, .bipush 100, 2), (84, .iload_n 2, 1), (85, .aload_n 0, 1), (86, .getfield 21, 3), (89, .getfield 63, 3), (92, .iload_n 1, 1), (93, .iaload, 1), (94, .iadd, 1), (95, .invokestatic 66, 3), (98, .istore_n 2, 1), (99, .iinc 4 1, 3), (102, .iinc 5 1, 3), (105, .goto (-84), 3), (108, .aload_n 0, 1), (109, .getfield 15, 3), (112, .iload 4, 2), (114, .iload_n 2, 1), (115, .iastore, 1), (116, .return_, 1)] : List (Nat × Instr × Nat)), decode cX6_follow q.1 = .ok (q.2.1, q.2.2) := by decide +kernel
set_option maxRecDepth 100000 in
theorem D_X6_rustAtStart : ∀ q ∈ ([(0, .aload_n 0, 1), (1, .getfield 15, 3), (4, .iload_n 1, 1), (5, .bipush 13, 2), (7, .imul, 1), (8, .iload_n 2, 1), (9, .iadd, 1), (10, .iaload, 1), (11, .ireturn, 1)] : List (Nat × Instr × Nat)), decode cX6_rustAtStart q.1 = .ok (q.2.1, q.2.2) := by decide +kernel
set_option maxRecDepth 100000 in
theorem D_X6_rustAtEnd : ∀ q ∈ ([(0, .aload_n 0, 1), (1, .getfield 15, 3), (4, .iload_n 1, 1), (5, .bipush 13, 2), (7, .imul, 1), (8, .iload_n 2, 1), (9, .iadd, 1), (10, .iconst 1, 1), (11, .iadd, 1), (12, .iaload, 1), (13, .ireturn, 1)] : List (Nat × Instr × Nat)), decode cX6_rustAtEnd q.1 = .ok (q.2.1, q.2.2) := by decide +kernel
set_option maxRecDepth 100000 in
theorem D_X6_guardAtStart : ∀ q ∈ ([(0, .aload_n 0, 1), (1, .getfield 18, 3), (4, .iload_n 1, 1), (5, .bipush 13, 2), (7, .imul, 1), (8, .iload_n 2, 1), (9, .iadd, 1), (10, .iaload, 1), (11, .ireturn, 1)] : List (Nat × Instr × Nat)), decode cX6_guardAtStart q.1 = .ok (q.2.1, q.2.2) := by decide +kernel
set_option maxRecDepth 100000 in
theorem D_X6_isPast : ∀ q ∈ ([(0, .aload_n 0, 1), (1, .getfield 15, 3), (4, .iload_n 1, 1), (5, .bipush 13, 2), (7, .imul, 1), (8, .iload_n 2, 1), (9, .iadd, 1), (10, .iconst 1, 1), (11, .iadd, 1), (12, .iaload, 1), (13, .aload_n 0, 1), (14, .getfield 21, 3), (17, .getfield 72, 3), (20, .iload_n 1, 1), (21, .iaload, 1), (22, .if_icmp .le 7, 3), (25, .iconst 1, 1), (26, .goto 4, 3), (29, .iconst 0, 1), (30, .ireturn, 1)] : List (Nat × Instr × Nat)), decode cX6_isPast q.1 = .ok (q.2.1, q.2.2) := by decide +kernel
set_option maxRecDepth 100000 in
theorem D_X6_firstPast : ∀ q ∈ ([(0, .iconst 0, 1), (1, .istore_n 2, 1), (2, .iload_n 2, 1), (3, .aload_n 0, 1), (4, .getfield 21, 3), (7, .getfield 53, 3), (10, .if_icmp .ge 20, 3), (13, .aload_n 0, 1), (14, .iload_n 1, 1), (15, .iload_n 2, 1), (16, .invokevirtual 75, 3), (19, .ifCond .eq 5, 3), (22, .iload_n 2, 1), (23, .ireturn, 1), (24, .iinc 2 1, 3), (27, .goto (-25), 3), (30, .ldc 78, 2), (32, .ireturn, 1)] : List (Nat × Instr × Nat)), decode cX6_firstPast q.1 = .ok (q.2.1, q.2.2) := by decide +kernel
set_option maxRecDepth 100000 in
theorem D_X6_countPast : ∀ q ∈ ([(0, .iconst 0, 1), (1, .istore_n 1, 1), (2, .iconst 0, 1), (3, .istore_n 2, 1), (4, .iload_n 2, 1), (5, .aload_n 0, 1), (6, .getfield 21, 3), (9, .getfield 46, 3), (12, .if_icmp .ge 22, 3), (15, .aload_n 0, 1), (16, .iload_n 2, 1), (17, .invokevirtual 79, 3), (20, .ldc 78, 2), (22, .if_icmp .eq 6, 3), (25, .iinc 1 1, 3), (28, .iinc 2 1, 3), (31, .goto (-27), 3), (34, .iload_n 1, 1), (35, .ireturn, 1)] : List (Nat × Instr × Nat)), decode cX6_countPast q.1 = .ok (q.2.1, q.2.2) := by decide +kernel
set_option maxRecDepth 100000 in
theorem D_X6_spanEffort : ∀ q ∈ ([(0, .aload_n 0, 1), (1, .getfield 21, 3), (4, .getfield 83, 3), (7, .iload_n 1, 1), (8, .iaload, 1), (9, .bipush 100, 2), (11, .aload_n 0, 1), (12, .getfield 15, 3), (15, .iload_n 1, 1), (16, .bipush 13, 2), (18, .imul, 1), (19, .iload_n 2, 1), (20, .iadd, 1), (21, .iaload, 1), (22, .iadd, 1), (23, .imul, 1), (24, .bipush 100, 2), (26, .idiv, 1), (27, .ireturn, 1)] : List (Nat × Instr × Nat)), decode cX6_spanEffort q.1 = .ok (q.2.1, q.2.2) := by decide +kernel
set_option maxRecDepth 100000 in
theorem D_X6_gangLoad : ∀ q ∈ ([(0, .iconst 0, 1), (1, .istore_n 3, 1), (2, .iconst 0, 1), (3, .istore 4, 2), (5, .iload 4, 2), (7, .aload_n 0, 1), (8, .getfield 21, 3), (11, .getfield 46, 3), (14, .if_icmp .ge 30, 3), (17, .aload_n 0, 1), (18, .iload_n 2, 1), (19, .iload 4, 2), (21, .invokevirtual 86, 3), (24, .iload_n 1, 1), (25, .if_icmp .ne 13, 3), (28, .iload_n 3, 1), (29, .aload_n 0, 1), (30, .iload 4, 2), (32, .iload_n 2, 1), (33, .invokevirtual 89, 3), (36, .iadd, 1), (37, .istore_n 3, 1), (38, .iinc 4 1, 3), (41, .goto (-36), 3), (44, .iload_n 3, 1), (45, .ireturn, 1)] : List (Nat × Instr × Nat)), decode cX6_gangLoad q.1 = .ok (q.2.1, q.2.2) := by decide +kernel
set_option maxRecDepth 100000 in
theorem D_X6_shutLanes : ∀ q ∈ ([(0, .iconst 0, 1), (1, .istore_n 2, 1), (2, .iconst 0, 1), (3, .istore_n 3, 1), (4, .iload_n 3, 1), (5, .aload_n 0, 1), (6, .getfield 21, 3), (9, .getfield 46, 3), (12, .if_icmp .ge 45, 3), (15, .aload_n 0, 1), (16, .iload_n 1, 1), (17, .iload_n 3, 1), (18, .invokevirtual 56, 3), (21, .ifCond .eq 30, 3), (24, .aload_n 0, 1), (25, .getfield 21, 3), (28, .getfield 95, 3), (31, .iload_n 3, 1), (32, .iaload, 1), (33, .iconst (-1), 1), (34, .if_icmp .eq 17, 3), (37, .iload_n 2, 1), (38, .iconst 1, 1), (39, .aload_n 0, 1), (40, .getfield 21, 3), (43, .getfield 95, 3), (46, .iload_n 3, 1), (47, .iaload, 1), (48, .ishl, 1), (49, .ior, 1), (50, .istore_n 2, 1), (51, .iinc 3 1, 3), (54, .goto (-50), 3), (57, .iload_n 2, 1), (58, .ireturn, 1)] : List (Nat × Instr × Nat)), decode cX6_shutLanes q.1 = .ok (q.2.1, q.2.2) := by decide +kernel
set_option maxRecDepth 100000 in
theorem D_X6_reasonAgainst : ∀ q ∈ ([(0, .aload_n 0, 1), (1, .iload_n 1, 1), (2, .iload_n 2, 1), (3, .invokevirtual 56, 3), (6, .ifCond .eq 5, 3), (9, .iconst 1, 1), (10, .ireturn, 1), (11, .aload_n 0, 1), (12, .getfield 21, 3), (15, .getfield 95, 3), (18, .iload_n 2, 1), (19, .iaload, 1), (20, .istore 4, 2), (22, .iload 4, 2), (24, .iconst (-1), 1), (25, .if_icmp .eq 43, 3), (28, .aload_n 0, 1), (29, .getfield 21, 3), (32, .iload 4, 2), (34, .iload_n 1, 1), (35, .invokevirtual 128, 3), (38, .ifCond .eq 5, 3), (41, .iconst 2, 1), (42, .ireturn, 1), (43, .aload_n 0, 1), (44, .iload_n 1, 1), (45, .invokevirtual 131, 3), (48, .iconst 1, 1), (49, .iload 4, 2), (51, .ishl, 1), (52, .ior, 1), (53, .invokestatic 134, 3), (56, .aload_n 0, 1), (57, .getfield 21, 3), (60, .getfield 139, 3), (63, .if_icmp .le 5, 3), (66, .iconst 3, 1), (67, .ireturn, 1), (68, .aload_n 0, 1), (69, .iload_n 3, 1), (70, .iload_n 1, 1), (71, .invokevirtual 116, 3), (74, .aload_n 0, 1), (75, .iload_n 2, 1), (76, .iload_n 1, 1), (77, .invokevirtual 89, 3), (80, .iadd, 1), (81, .istore 5, 2), (83, .iload 5, 2), (85, .aload_n 0, 1), (86, .getfield 21, 3), (89, .iload_n 3, 1), (90, .iload_n 1, 1), (91, .invokevirtual 119, 3), (94, .if_icmp .le 7, 3), (97, .iconst 4, 1), (98, .goto 4, 3), (101, .iconst 0, 1), (102, .ireturn, 1)] : List (Nat × Instr × Nat)), decode cX6_reasonAgainst q.1 = .ok (q.2.1, q.2.2) := by decide +kernel
set_option maxRecDepth 100000 in
theorem D_X7_init : ∀ q ∈ ([(0, .aload_n 0, 1), (1, .invokespecial 3, 3), (4, .aload_n 0, 1), (5, .bipush 12, 2), (7, .newarray .int, 2), (9, .putfield 9, 3), (12, .return_, 1)] : List (Nat × Instr × Nat)), decode cX7_init q.1 = .ok (q.2.1, q.2.2) := by decide +kernel
set_option maxRecDepth 100000 in
theorem D_X8_init : ∀ q ∈ ([(0, .aload_n 0, 1), (1, .invokespecial 3, 3), (4, .aload_n 0, 1), (5, .new 9, 3), (8, .dup, 1), (9, .invokespecial 11, 3), (12, .putfield 12, 3), (15, .return_, 1)] : List (Nat × Instr × Nat)), decode cX8_init q.1 = .ok (q.2.1, q.2.2) := by decide +kernel
set_option maxRecDepth 100000 in
theorem D_X9_init : ∀ q ∈ ([(0, .aload_n 0, 1), (1, .invokespecial 3, 3), (4, .aload_n 0, 1), (5, .sipush 900, 3), (8, .newarray .byte, 2), (10, .putfield 9, 3), (13, .return_, 1)] : List (Nat × Instr × Nat)), decode cX9_init q.1 = .ok (q.2.1, q.2.2) := by decide +kernel
set_option maxRecDepth 100000 in
theorem D_X9_clear : ∀ q ∈ ([(0, .aload_n 0, 1), (1, .iconst 0, 1), (2, .putfield 15, 3), (5, .return_, 1)] : List (Nat × Instr × Nat)), decode cX9_clear q.1 = .ok (q.2.1, q.2.2) := by decide +kernel
set_option maxRecDepth 100000 in
theorem D_X9_size : ∀ q ∈ ([(0, .aload_n 0, 1), (1, .getfield 15, 3), (4, .ireturn, 1)] : List (Nat × Instr × Nat)), decode cX9_size q.1 = .ok (q.2.1, q.2.2) := by decide +kernel
set_option maxRecDepth 100000 in
theorem D_X9_hasRoomFor : ∀ q ∈ ([(0, .aload_n 0, 1), (1, .getfield 15, 3), (4, .iload_n 1, 1), (5, .iadd, 1), (6, .sipush 900, 3), (9, .if_icmp .gt 7, 3), (12, .iconst 1, 1), (13, .goto 4, 3), (16, .iconst 0, 1), (17, .ireturn, 1)] : List (Nat × Instr × Nat)), decode cX9_hasRoomFor q.1 = .ok (q.2.1, q.2.2) := by decide +kernel
set_option maxRecDepth 100000 in
theorem D_X9_append : ∀ q ∈ ([(0, .bipush 24, 2), (2, .istore_n 2, 1), (3, .iload_n 2, 1), (4, .ifCond .lt 42, 3), (7, .aload_n 0, 1), (8, .getfield 15, 3), (11, .sipush 900, 3), (14, .if_icmp .ge 26, 3), (17, .aload_n 0, 1), (18, .getfield 9, 3), (21, .aload_n 0, 1), (22, .getfield 15, 3), (25, .iload_n 1, 1), (26, .iload_n 2, 1), (27, .ishr, 1), (28, .i2b, 1), (29, .bastore, 1), (30, .aload_n 0, 1), (31, .dup, 1), (32, .getfield 15, 3), (35, .iconst 1, 1), (36, .iadd, 1), (37, .putfield 15, 3), (40, .iinc 2 (-8), 3), (43, .goto (-40), 3), (46, .return_, 1)] : List (Nat × Instr × Nat)), decode cX9_append q.1 = .ok (q.2.1, q.2.2) := by decide +kernel
set_option maxRecDepth 100000 in
theorem D_X10_init : ∀ q ∈ ([(0, .aload_n 0, 1), (1, .invokespecial 1, 3), (4, .aload_n 0, 1), (5, .aload_n 1, 1), (6, .putfield 7, 3), (9, .return_, 1)] : List (Nat × Instr × Nat)), decode cX10_init q.1 = .ok (q.2.1, q.2.2) := by decide +kernel
set_option maxRecDepth 100000 in
theorem D_X10_begin : ∀ q ∈ ([(0, .aload_n 0, 1), (1, .iload_n 1, 1), (2, .aload_n 0, 1), (3, .getfield 7, 3), (6, .getfield 13, 3), (9, .invokestatic 19, 3), (12, .putfield 25, 3), (15, .aload_n 0, 1), (16, .iconst 0, 1), (17, .putfield 28, 3), (20, .aload_n 0, 1), (21, .iconst 0, 1), (22, .putfield 31, 3), (25, .aload_n 0, 1), (26, .iconst 0, 1), (27, .putfield 34, 3), (30, .return_, 1)] : List (Nat × Instr × Nat)), decode cX10_begin q.1 = .ok (q.2.1, q.2.2) := by decide +kernel
set_option maxRecDepth 100000 in
theorem D_X10_next : ∀ q ∈ ([(0, .aload_n 0, 1), (1, .getfield 31, 3), (4, .aload_n 0, 1), (5, .getfield 25, 3), (8, .if_icmp .ge 50, 3), (11, .aload_n 0, 1), (12, .getfield 7, 3), (15, .getfield 37, 3), (18, .aload_n 0, 1), (19, .getfield 31, 3), (22, .baload, 1), (23, .bipush 32, 2), (25, .if_icmp .eq 20, 3), (28, .aload_n 0, 1), (29, .getfield 7, 3), (32, .getfield 37, 3), (35, .aload_n 0, 1), (36, .getfield 31, 3), (39, .baload, 1), (40, .bipush 10, 2), (42, .if_icmp .ne 16, 3), (45, .aload_n 0, 1), (46, .dup, 1), (47, .getfield 31, 3), (50, .iconst 1, 1), (51, .iadd, 1), (52, .putfield 31, 3), (55, .goto (-55), 3), (58, .aload_n 0, 1), (59, .aload_n 0, 1), (60, .getfield 31, 3), (63, .putfield 28, 3), (66, .aload_n 0, 1), (67, .getfield 31, 3), (70, .aload_n 0, 1), (71, .getfield 25, 3), (74, .if_icmp .lt 9, 3), (77, .aload_n 0, 1), (78, .iconst 0, 1), (79, .putfield 34, 3), (82, .return_, 1), (83, .aload_n 0, 1), (84, .invokevirtual 41, 3), (87, .aload_n 0, 1), (88, .getfield 31, 3), (91, .aload_n 0, 1), (92, .getfield 28, 3), (95, .if_icmp .le 27, 3), (98, .aload_n 0, 1), (99, .aload_n 0, 1), (100, .getfield 31, 3), (103, .aload_n 0, 1), (104, .getfield 28, 3), (107, .isub, 1), (108, .bipush 8, 2), (110, .if_icmp .gt 7, 3), (113, .iconst 1, 1), (114, .goto 4, 3), (117, .iconst 4, 1), (118, .putfield 34, 3), (121, .return_, 1), (122, .aload_n 0, 1), (123, .invokevirtual 44, 3), (126, .aload_n 0, 1), (127, .getfield 31, 3), (130, .aload_n 0, 1), (131, .getfield 28, 3), (134, .if_icmp .le 26, 3), (137, .aload_n 0, 1), (138, .aload_n 0, 1), (139, .getfield 31, 3), (142, .aload_n 0, 1), (143, .getfield 28, 3), (146, .isub, 1), (147, .iconst 4, 1), (148, .if_icmp .gt 7, 3), (151, .iconst 2, 1), (152, .goto 4, 3), (155, .iconst 4, 1), (156, .putfield 34, 3), (159, .return_, 1), (160, .aload_n 0, 1), (161, .aload_n 0, 1), (162, .getfield 7, 3), (165, .getfield 37, 3), (168, .aload_n 0, 1), (169, .getfield 31, 3), (172, .baload, 1), (173, .bipush 59, 2), (175, .if_icmp .ne 7, 3), (178, .iconst 3, 1), (179, .goto 4, 3), (182, .iconst 4, 1), (183, .putfield 34, 3), (186, .aload_n 0, 1), (187, .dup, 1), (188, .getfield 31, 3), (191, .iconst 1, 1), (192, .iadd, 1), (193, .putfield 31, 3), (196, .return_, 1)] : List (Nat × Instr × Nat)), decode cX10_next q.1 = .ok (q.2.1, q.2.2) := by decide +kernel
set_option maxRecDepth 100000 in
theorem D_X10_takeLetters : ∀ q ∈ ([(0, .aload_n 0, 1), (1, .lconst 0, 1), (2, .putfield 47, 3), (5, .aload_n 0, 1), (6, .getfield 31, 3), (9, .aload_n 0, 1), (10, .getfield 25, 3), (13, .if_icmp .ge 75, 3), (16, .aload_n 0, 1), (17, .getfield 7, 3), (20, .getfield 37, 3), (23, .aload_n 0, 1), (24, .getfield 31, 3), (27, .baload, 1), (28, .bipush 97, 2), (30, .if_icmp .lt 58, 3), (33, .aload_n 0, 1), (34, .getfield 7, 3), (37, .getfield 37, 3), (40, .aload_n 0, 1), (41, .getfield 31, 3), (44, .baload, 1), (45, .bipush 122, 2), (47, .if_icmp .gt 41, 3), (50, .aload_n 0, 1), (51, .aload_n 0, 1), (52, .getfield 47, 3), (55, .bipush 8, 2), (57, .lshl, 1), (58, .aload_n 0, 1), (59, .getfield 7, 3), (62, .getfield 37, 3), (65, .aload_n 0, 1), (66, .getfield 31, 3), (69, .baload, 1), (70, .i2l, 1), (71, .lor, 1), (72, .putfield 47, 3), (75, .aload_n 0, 1), (76, .dup, 1), (77, .getfield 31, 3), (80, .iconst 1, 1), (81, .iadd, 1), (82, .putfield 31, 3), (85, .goto (-80), 3), (88, .return_, 1)] : List (Nat × Instr × Nat)), decode cX10_takeLetters q.1 = .ok (q.2.1, q.2.2) := by decide +kernel
set_option maxRecDepth 100000 in
theorem D_X10_takeDigits : ∀ q ∈ ([(0, .aload_n 0, 1), (1, .iconst 0, 1), (2, .putfield 51, 3), (5, .aload_n 0, 1), (6, .getfield 31, 3), (9, .aload_n 0, 1), (10, .getfield 25, 3), (13, .if_icmp .ge 77, 3), (16, .aload_n 0, 1), (17, .getfield 7, 3), (20, .getfield 37, 3), (23, .aload_n 0, 1), (24, .getfield 31, 3), (27, .baload, 1), (28, .bipush 48, 2), (30, .if_icmp .lt 60, 3), (33, .aload_n 0, 1), (34, .getfield 7, 3), (37, .getfield 37, 3), (40, .aload_n 0, 1), (41, .getfield 31, 3), (44, .baload, 1), (45, .bipush 57, 2), (47, .if_icmp .gt 43, 3), (50, .aload_n 0, 1), (51, .aload_n 0, 1), (52, .getfield 51, 3), (55, .bipush 10, 2), (57, .imul, 1), (58, .aload_n 0, 1), (59, .getfield 7, 3), (62, .getfield 37, 3), (65, .aload_n 0, 1), (66, .getfield 31, 3), (69, .baload, 1), (70, .iadd, 1), (71, .bipush 48, 2), (73, .isub, 1), (74, .putfield 51, 3), (77, .aload_n 0, 1), (78, .dup, 1), (79, .getfield 31, 3), (82, .iconst 1, 1), (83, .iadd, 1), (84, .putfield 31, 3), (87, .goto (-82), 3), (90, .return_, 1)] : List (Nat × Instr × Nat)), decode cX10_takeDigits q.1 = .ok (q.2.1, q.2.2) := by decide +kernel
set_option maxRecDepth 100000 in
theorem D_X11_init : ∀ q ∈ ([(0, .aload_n 0, 1), (1, .invokespecial 3, 3), (4, .aload_n 0, 1), (5, .new 9, 3), (8, .dup, 1), (9, .invokespecial 11, 3), (12, .putfield 12, 3), (15, .aload_n 0, 1), (16, .new 16, 3), (19, .dup, 1), (20, .invokespecial 18, 3), (23, .putfield 19, 3), (26, .aload_n 0, 1), (27, .new 23, 3), (30, .dup, 1), (31, .invokespecial 25, 3), (34, .putfield 26, 3), (37, .aload_n 0, 1), (38, .new 30, 3), (41, .dup, 1), (42, .invokespecial 32, 3), (45, .putfield 33, 3), (48, .aload_n 0, 1), (49, .new 37, 3), (52, .dup, 1), (53, .invokespecial 39, 3), (56, .putfield 40, 3), (59, .aload_n 0, 1), (60, .iconst 0, 1), (61, .putfield 44, 3), (64, .aload_n 0, 1), (65, .ldc 48, 2), (67, .putfield 49, 3), (70, .new 52, 3), (73, .dup, 1), (74, .invokespecial 54, 3), (77, .astore_n 1, 1), (78, .new 55, 3), (81, .dup, 1), (82, .invokespecial 57, 3), (85, .astore_n 2, 1), (86, .new 55, 3), (89, .dup, 1), (90, .invokespecial 57, 3), (93, .astore_n 3, 1), (94, .new 58, 3), (97, .dup, 1), (98, .aload_n 3, 1), (99, .invokespecial 60, 3), (102, .astore 4, 2), (104, .aload_n 0, 1), (105, .aload_n 1, 1), (106, .putfield 63, 3), (109, .aload_n 0, 1), (110, .aload_n 2, 1), (111, .putfield 67, 3), (114, .aload_n 0, 1), (115, .new 58, 3), (118, .dup, 1), (119, .aload_n 2, 1), (120, .invokespecial 60, 3), (123, .putfield 71, 3), (126, .aload_n 0, 1), (127, .aload_n 3, 1), (128, .putfield 75, 3), (131, .aload_n 0, 1), (132, .aload 4, 2), (134, .putfield 78, 3), (137, .aload_n 0, 1), (138, .new 81, 3), (141, .dup, 1), (142, .aload_n 1, 1), (143, .aload_n 3, 1), (144, .aload 4, 2), (146, .invokespecial 83, 3), (149, .putfield 86, 3), (152, .return_, 1)] : List (Nat × Instr × Nat)), decode cX11_init q.1 = .ok (q.2.1, q.2.2) := by decide +kernel
set_option maxRecDepth 100000 in
theorem D_X11_feed : ∀ q ∈ ([(0, .aload_n 0, 1), (1, .getfield 63, 3), (4, .bipush 20, 2), (6, .invokevirtual 90, 3), (9, .ifCond .ne 6, 3), (12, .ldc 94, 2), (14, .ireturn, 1), (15, .aload_n 0, 1), (16, .getfield 63, 3), (19, .iload_n 1, 1), (20, .invokevirtual 95, 3), (23, .aload_n 0, 1), (24, .getfield 63, 3), (27, .iload_n 2, 1), (28, .invokevirtual 95, 3), (31, .aload_n 0, 1), (32, .getfield 63, 3), (35, .iload_n 3, 1), (36, .invokevirtual 95, 3), (39, .aload_n 0, 1), (40, .getfield 63, 3), (43, .iload 4, 2), (45, .invokevirtual 95, 3), (48, .aload_n 0, 1), (49, .getfield 63, 3), (52, .iload 5, 2), (54, .invokevirtual 95, 3), (57, .aload_n 0, 1), (58, .getfield 63, 3), (61, .invokevirtual 99, 3), (64, .ireturn, 1)] : List (Nat × Instr × Nat)), decode cX11_feed q.1 = .ok (q.2.1, q.2.2) := by decide +kernel
set_option maxRecDepth 100000 in
theorem D_X11_load : ∀ q ∈ ([(0, .iload_n 1, 1), (1, .ifCond .lt 14, 3), (4, .iload_n 1, 1), (5, .aload_n 0, 1), (6, .getfield 63, 3), (9, .invokevirtual 99, 3), (12, .if_icmp .le 13, 3), (15, .new 103, 3), (18, .dup, 1), (19, .ldc 105, 2), (21, .invokespecial 107, 3), (24, .athrow, 1), (25, .aload_n 0, 1), (26, .getfield 86, 3), (29, .iload_n 1, 1), (30, .aload_n 0, 1), (31, .getfield 75, 3), (34, .aload_n 0, 1), (35, .getfield 78, 3), (38, .invokevirtual 110, 3), (41, .istore_n 2, 1), (42, .aload_n 0, 1), (43, .aload_n 0, 1), (44, .getfield 86, 3), (47, .invokevirtual 114, 3), (50, .putfield 44, 3), (53, .aload_n 0, 1), (54, .aload_n 0, 1), (55, .getfield 86, 3), (58, .invokevirtual 117, 3), (61, .putfield 49, 3), (64, .aload_n 0, 1), (65, .getfield 63, 3), (68, .invokevirtual 120, 3), (71, .iload_n 2, 1), (72, .ifCond .ne 6, 3), (75, .ldc 123, 2), (77, .ireturn, 1), (78, .aload_n 0, 1), (79, .invokevirtual 124, 3), (82, .aload_n 0, 1), (83, .getfield 67, 3), (86, .astore_n 3, 1), (87, .aload_n 0, 1), (88, .aload_n 0, 1), (89, .getfield 75, 3), (92, .putfield 67, 3), (95, .aload_n 0, 1), (96, .aload_n 3, 1), (97, .putfield 75, 3), (100, .aload_n 0, 1), (101, .getfield 33, 3), (104, .invokevirtual 127, 3), (107, .aload_n 0, 1), (108, .getfield 67, 3), (111, .getfield 128, 3), (114, .ireturn, 1)] : List (Nat × Instr × Nat)), decode cX11_load q.1 = .ok (q.2.1, q.2.2) := by decide +kernel
set_option maxRecDepth 100000 in
theorem D_X11_errorKind : ∀ q ∈ ([(0, .aload_n 0, 1), (1, .getfield 44, 3), (4, .ireturn, 1)] : List (Nat × Instr × Nat)), decode cX11_errorKind q.1 = .ok (q.2.1, q.2.2) := by decide +kernel
set_option maxRecDepth 100000 in
theorem D_X11_rustBefore : ∀ q ∈ ([(0, .aload_n 0, 1), (1, .iload_n 1, 1), (2, .invokevirtual 131, 3), (5, .aload_n 0, 1), (6, .iload_n 2, 1), (7, .invokevirtual 134, 3), (10, .aload_n 0, 1), (11, .getfield 71, 3), (14, .iload_n 1, 1), (15, .iload_n 2, 1), (16, .invokevirtual 137, 3), (19, .ireturn, 1)] : List (Nat × Instr × Nat)), decode cX11_rustBefore q.1 = .ok (q.2.1, q.2.2) := by decide +kernel
set_option maxRecDepth 100000 in
theorem D_X11_rustAfter : ∀ q ∈ ([(0, .aload_n 0, 1), (1, .iload_n 1, 1), (2, .invokevirtual 131, 3), (5, .aload_n 0, 1), (6, .iload_n 2, 1), (7, .invokevirtual 134, 3), (10, .aload_n 0, 1), (11, .getfield 71, 3), (14, .iload_n 1, 1), (15, .iload_n 2, 1), (16, .invokevirtual 141, 3), (19, .ireturn, 1)] : List (Nat × Instr × Nat)), decode cX11_rustAfter q.1 = .ok (q.2.1, q.2.2) := by decide +kernel
set_option maxRecDepth 100000 in
theorem D_X11_guardLeft : ∀ q ∈ ([(0, .aload_n 0, 1), (1, .iload_n 1, 1), (2, .invokevirtual 131, 3), (5, .aload_n 0, 1), (6, .iload_n 2, 1), (7, .invokevirtual 134, 3), (10, .aload_n 0, 1), (11, .getfield 71, 3), (14, .iload_n 1, 1), (15, .iload_n 2, 1), (16, .invokevirtual 144, 3), (19, .ireturn, 1)] : List (Nat × Instr × Nat)), decode cX11_guardLeft q.1 = .ok (q.2.1, q.2.2) := by decide +kernel
set_option maxRecDepth 100000 in
theorem D_X11_pastYear : ∀ q ∈ ([(0, .aload_n 0, 1), (1, .iload_n 1, 1), (2, .invokevirtual 131, 3), (5, .aload_n 0, 1), (6, .getfield 71, 3), (9, .iload_n 1, 1), (10, .invokevirtual 147, 3), (13, .ireturn, 1)] : List (Nat × Instr × Nat)), decode cX11_pastYear q.1 = .ok (q.2.1, q.2.2) := by decide +kernel
set_option maxRecDepth 100000 in
theorem D_X11_effort : ∀ q ∈ ([(0, .aload_n 0, 1), (1, .iload_n 1, 1), (2, .invokevirtual 131, 3), (5, .aload_n 0, 1), (6, .iload_n 2, 1), (7, .invokevirtual 134, 3), (10, .aload_n 0, 1), (11, .getfield 71, 3), (14, .iload_n 1, 1), (15, .iload_n 2, 1), (16, .invokevirtual 187, 3), (19, .ireturn, 1)] : List (Nat × Instr × Nat)), decode cX11_effort q.1 = .ok (q.2.1, q.2.2) := by decide +kernel
set_option maxRecDepth 100000 in
theorem D_X11_capacity : ∀ q ∈ ([(0, .aload_n 0, 1), (1, .iload_n 1, 1), (2, .invokevirtual 190, 3), (5, .aload_n 0, 1), (6, .iload_n 2, 1), (7, .invokevirtual 134, 3), (10, .aload_n 0, 1), (11, .getfield 67, 3), (14, .iload_n 1, 1), (15, .iload_n 2, 1), (16, .invokevirtual 193, 3), (19, .ireturn, 1)] : List (Nat × Instr × Nat)), decode cX11_capacity q.1 = .ok (q.2.1, q.2.2) := by decide +kernel
set_option maxRecDepth 100000 in
theorem D_X11_loadOf : ∀ q ∈ ([(0, .aload_n 0, 1), (1, .iload_n 1, 1), (2, .invokevirtual 190, 3), (5, .aload_n 0, 1), (6, .iload_n 2, 1), (7, .invokevirtual 134, 3), (10, .aload_n 0, 1), (11, .getfield 71, 3), (14, .iload_n 1, 1), (15, .iload_n 2, 1), (16, .invokevirtual 196, 3), (19, .ireturn, 1)] : List (Nat × Instr × Nat)), decode cX11_loadOf q.1 = .ok (q.2.1, q.2.2) := by decide +kernel
set_option maxRecDepth 100000 in
theorem D_X11_paintings : ∀ q ∈ ([(0, .aload_n 0, 1), (1, .getfield 71, 3), (4, .invokevirtual 208, 3), (7, .ireturn, 1)] : List (Nat × Instr × Nat)), decode cX11_paintings q.1 = .ok (q.2.1, q.2.2) := by decide +kernel
set_option maxRecDepth 100000 in
theorem D_X11_refusal : ∀ q ∈ ([(0, .aload_n 0, 1), (1, .iload_n 1, 1), (2, .invokevirtual 134, 3), (5, .aload_n 0, 1), (6, .iload_n 2, 1), (7, .invokevirtual 131, 3), (10, .aload_n 0, 1), (11, .iload_n 3, 1), (12, .invokevirtual 190, 3), (15, .aload_n 0, 1), (16, .getfield 71, 3), (19, .iload_n 1, 1), (20, .iload_n 2, 1), (21, .iload_n 3, 1), (22, .invokevirtual 243, 3), (25, .ireturn, 1)] : List (Nat × Instr × Nat)), decode cX11_refusal q.1 = .ok (q.2.1, q.2.2) := by decide +kernel
set_option maxRecDepth 100000 in
theorem D_X11_paint : ∀ q ∈ ([(0, .aload_n 0, 1), (1, .iload_n 1, 1), (2, .invokevirtual 134, 3), (5, .aload_n 0, 1), (6, .iload_n 2, 1), (7, .invokevirtual 131, 3), (10, .aload_n 0, 1), (11, .iload_n 3, 1), (12, .invokevirtual 190, 3), (15, .aload_n 0, 1), (16, .getfield 71, 3), (19, .iload_n 1, 1), (20, .iload_n 2, 1), (21, .iload_n 3, 1), (22, .invokevirtual 243, 3), (25, .ifCond .eq 6, 3), (28, .ldc 253, 2), (30, .ireturn, 1), (31, .aload_n 0, 1), (32, .invokevirtual 254, 3), (35, .aload_n 0, 1), (36, .getfield 71, 3), (39, .iload_n 1, 1), (40, .iload_n 2, 1), (41, .iload_n 3, 1), (42, .invokevirtual 257, 3), (45, .aload_n 0, 1), (46, .getfield 71, 3), (49, .invokevirtual 151, 3), (52, .ireturn, 1)] : List (Nat × Instr × Nat)), decode cX11_paint q.1 = .ok (q.2.1, q.2.2) := by decide +kernel
set_option maxRecDepth 100000 in
theorem D_X11_undo : ∀ q ∈ ([(0, .aload_n 0, 1), (1, .getfield 33, 3), (4, .invokevirtual 291, 3), (7, .ifCond .eq 6, 3), (10, .ldc 48, 2), (12, .ireturn, 1), (13, .aload_n 0, 1), (14, .getfield 33, 3), (17, .aload_n 0, 1), (18, .getfield 67, 3), (21, .aload_n 0, 1), (22, .getfield 71, 3), (25, .invokevirtual 295, 3), (28, .aload_n 0, 1), (29, .getfield 33, 3), (32, .invokevirtual 299, 3), (35, .ireturn, 1)] : List (Nat × Instr × Nat)), decode cX11_undo q.1 = .ok (q.2.1, q.2.2) := by decide +kernel
set_option maxRecDepth 100000 in
theorem D_X11_checkYear : ∀ q ∈ ([(0, .iload_n 1, 1), (1, .ifCond .lt 14, 3), (4, .iload_n 1, 1), (5, .aload_n 0, 1), (6, .getfield 67, 3), (9, .getfield 168, 3), (12, .if_icmp .lt 14, 3), (15, .new 162, 3), (18, .dup, 1), (19, .ldc_w 332, 3), (22, .invokespecial 166, 3), (25, .athrow, 1), (26, .return_, 1)] : List (Nat × Instr × Nat)), decode cX11_checkYear q.1 = .ok (q.2.1, q.2.2) := by decide +kernel
set_option maxRecDepth 100000 in
theorem D_X11_checkSpan : ∀ q ∈ ([(0, .iload_n 1, 1), (1, .ifCond .lt 14, 3), (4, .iload_n 1, 1), (5, .aload_n 0, 1), (6, .getfield 67, 3), (9, .getfield 128, 3), (12, .if_icmp .lt 14, 3), (15, .new 162, 3), (18, .dup, 1), (19, .ldc_w 334, 3), (22, .invokespecial 166, 3), (25, .athrow, 1), (26, .return_, 1)] : List (Nat × Instr × Nat)), decode cX11_checkSpan q.1 = .ok (q.2.1, q.2.2) := by decide +kernel
set_option maxRecDepth 100000 in
theorem D_X11_checkGang : ∀ q ∈ ([(0, .iload_n 1, 1), (1, .ifCond .lt 14, 3), (4, .iload_n 1, 1), (5, .aload_n 0, 1), (6, .getfield 67, 3), (9, .getfield 226, 3), (12, .if_icmp .lt 14, 3), (15, .new 162, 3), (18, .dup, 1), (19, .ldc_w 341, 3), (22, .invokespecial 166, 3), (25, .athrow, 1), (26, .return_, 1)] : List (Nat × Instr × Nat)), decode cX11_checkGang q.1 = .ok (q.2.1, q.2.2) := by decide +kernel
set_option maxRecDepth 100000 in
theorem D_X11_remember : ∀ q ∈ ([(0, .aload_n 0, 1), (1, .getfield 33, 3), (4, .aload_n 0, 1), (5, .getfield 67, 3), (8, .aload_n 0, 1), (9, .getfield 71, 3), (12, .invokevirtual 345, 3), (15, .return_, 1)] : List (Nat × Instr × Nat)), decode cX11_remember q.1 = .ok (q.2.1, q.2.2) := by decide +kernel
set_option maxRecDepth 100000 in
theorem D_X11_takeDraft : ∀ q ∈ ([(0, .aload_n 0, 1), (1, .getfield 71, 3), (4, .astore_n 1, 1), (5, .aload_n 0, 1), (6, .aload_n 0, 1), (7, .getfield 78, 3), (10, .putfield 71, 3), (13, .aload_n 0, 1), (14, .aload_n 1, 1), (15, .putfield 78, 3), (18, .return_, 1)] : List (Nat × Instr × Nat)), decode cX11_takeDraft q.1 = .ok (q.2.1, q.2.2) := by decide +kernel
set_option maxRecDepth 100000 in
theorem D_J5_init_d00df : ∀ q ∈ ([(0, .aload_n 0, 1), (1, .invokespecial 3, 3), (4, .getstatic 18, 3), (7, .ifCond .eq 18, 3), (10, .aload_n 0, 1), (11, .iload_n 1, 1), (12, .newarray .byte, 2), (14, .putfield 15, 3), (17, .aload_n 0, 1), (18, .iconst 0, 1), (19, .putfield 22, 3), (22, .goto 16, 3), (25, .aload_n 0, 1), (26, .iload_n 1, 1), (27, .invokestatic 26, 3), (30, .putfield 15, 3), (33, .aload_n 0, 1), (34, .iconst 1, 1), (35, .putfield 22, 3), (38, .return_, 1)] : List (Nat × Instr × Nat)), decode cJ5_init_d00df q.1 = .ok (q.2.1, q.2.2) := by decide +kernel
set_option maxRecDepth 100000 in
theorem D_J5_length_8abf5 : ∀ q ∈ ([(0, .aload_n 0, 1), (1, .getfield 79, 3), (4, .ireturn, 1)] : List (Nat × Instr × Nat)), decode cJ5_length_8abf5 q.1 = .ok (q.2.1, q.2.2) := by decide +kernel
set_option maxRecDepth 100000 in
theorem D_J5_ensureCapacityInternal_d00df : ∀ q ∈ ([(0, .aload_n 0, 1), (1, .getfield 15, 3), (4, .arraylength, 1), (5, .aload_n 0, 1), (6, .getfield 22, 3), (9, .ishr, 1), (10, .istore_n 2, 1), (11, .iload_n 1, 1), (12, .iload_n 2, 1), (13, .isub, 1), (14, .ifCond .le 24, 3), (17, .aload_n 0, 1), (18, .aload_n 0, 1), (19, .getfield 15, 3), (22, .aload_n 0, 1), (23, .iload_n 1, 1), (24, .invokevirtual 104, 3), (27, .aload_n 0, 1), (28, .getfield 22, 3), (31, .ishl, 1), (32, .invokestatic 108, 3), (35, .putfield 15, 3), (38, .return_, 1)] : List (Nat × Instr × Nat)), decode cJ5_ensureCapacityInternal_d00df q.1 = .ok (q.2.1, q.2.2) := by decide +kernel
set_option maxRecDepth 100000 in
theorem D_J5_newCapacity_0f7a4 : ∀ q ∈ ([(0, .aload_n 0, 1), (1, .getfield 15, 3), (4, .arraylength, 1), (5, .istore_n 2, 1), (6, .iload_n 1, 1), (7, .aload_n 0, 1), (8, .getfield 22, 3), (11, .ishl, 1), (12, .istore_n 3, 1), (13, .iload_n 3, 1), (14, .iload_n 2, 1), (15, .isub, 1), (16, .istore 4, 2), (18, .iload_n 2, 1), (19, .iload 4, 2), (21, .iload_n 2, 1), (22, .iconst 2, 1), (23, .aload_n 0, 1), (24, .getfield 22, 3), (27, .ishl, 1), (28, .iadd, 1), (29, .invokestatic 114, 3), (32, .istore 5, 2), (34, .iload 5, 2), (36, .ldc 39, 2), (38, .if_icmp .ne 13, 3), (41, .new 120, 3), (44, .dup, 1), (45, .ldc 122, 2), (47, .invokespecial 124, 3), (50, .athrow, 1), (51, .iload 5, 2), (53, .aload_n 0, 1), (54, .getfield 22, 3), (57, .ishr, 1), (58, .ireturn, 1)] : List (Nat × Instr × Nat)), decode cJ5_newCapacity_0f7a4 q.1 = .ok (q.2.1, q.2.2) := by decide +kernel
set_option maxRecDepth 100000 in
theorem D_J5_inflate_da8c8 : ∀ q ∈ ([(0, .aload_n 0, 1), (1, .invokevirtual 83, 3), (4, .ifCond .ne 4, 3), (7, .return_, 1), (8, .aload_n 0, 1), (9, .getfield 15, 3), (12, .arraylength, 1), (13, .invokestatic 26, 3), (16, .astore_n 1, 1), (17, .aload_n 0, 1), (18, .getfield 15, 3), (21, .iconst 0, 1), (22, .aload_n 1, 1), (23, .iconst 0, 1), (24, .aload_n 0, 1), (25, .getfield 79, 3), (28, .invokestatic 125, 3), (31, .aload_n 0, 1), (32, .aload_n 1, 1), (33, .putfield 15, 3), (36, .aload_n 0, 1), (37, .iconst 1, 1), (38, .putfield 22, 3), (41, .return_, 1)] : List (Nat × Instr × Nat)), decode cJ5_inflate_da8c8 q.1 = .ok (q.2.1, q.2.2) := by decide +kernel
set_option maxRecDepth 100000 in
theorem D_J5_append_cf1ce : ∀ q ∈ ([(0, .aload_n 1, 1), (1, .ifnonnull 8, 3), (4, .aload_n 0, 1), (5, .invokevirtual 204, 3), (8, .areturn, 1), (9, .aload_n 1, 1), (10, .invokevirtual 32, 3), (13, .istore_n 2, 1), (14, .aload_n 0, 1), (15, .aload_n 0, 1), (16, .getfield 79, 3), (19, .iload_n 2, 1), (20, .iadd, 1), (21, .invokevirtual 100, 3), (24, .aload_n 0, 1), (25, .aload_n 0, 1), (26, .getfield 79, 3), (29, .aload_n 1, 1), (30, .invokevirtual 208, 3), (33, .aload_n 0, 1), (34, .dup, 1), (35, .getfield 79, 3), (38, .iload_n 2, 1), (39, .iadd, 1), (40, .putfield 79, 3), (43, .aload_n 0, 1), (44, .areturn, 1)] : List (Nat × Instr × Nat)), decode cJ5_append_cf1ce q.1 = .ok (q.2.1, q.2.2) := by decide +kernel
set_option maxRecDepth 100000 in
theorem D_J5_appendNull_278bc : ∀ q ∈ ([(0, .aload_n 0, 1), (1, .aload_n 0, 1), (2, .getfield 79, 3), (5, .iconst 4, 1), (6, .iadd, 1), (7, .invokevirtual 100, 3), (10, .aload_n 0, 1), (11, .getfield 79, 3), (14, .istore_n 1, 1), (15, .aload_n 0, 1), (16, .getfield 15, 3), (19, .astore_n 2, 1), (20, .aload_n 0, 1), (21, .invokevirtual 83, 3), (24, .ifCond .eq 38, 3), (27, .aload_n 2, 1), (28, .iload_n 1, 1), (29, .iinc 1 1, 3), (32, .bipush 110, 2), (34, .bastore, 1), (35, .aload_n 2, 1), (36, .iload_n 1, 1), (37, .iinc 1 1, 3), (40, .bipush 117, 2), (42, .bastore, 1), (43, .aload_n 2, 1), (44, .iload_n 1, 1), (45, .iinc 1 1, 3), (48, .bipush 108, 2), (50, .bastore, 1), (51, .aload_n 2, 1), (52, .iload_n 1, 1), (53, .iinc 1 1, 3), (56, .bipush 108, 2), (58, .bastore, 1), (59, .goto 17, 3), (62, .aload_n 2, 1), (63, .iload_n 1, 1), (64, .bipush 110, 2), (66, .bipush 117, 2), (68, .bipush 108, 2), (70, .bipush 108, 2), (72, .invokestatic 226, 3), (75, .istore_n 1, 1), (76, .aload_n 0, 1), (77, .iload_n 1, 1), (78, .putfield 79, 3), (81, .aload_n 0, 1), (82, .areturn, 1)] : List (Nat × Instr × Nat)), decode cJ5_appendNull_278bc q.1 = .ok (q.2.1, q.2.2) := by decide +kernel
set_option maxRecDepth 100000 in
theorem D_J5_append_3fe6f : ∀ q ∈ ([(0, .aload_n 0, 1), (1, .aload_n 0, 1), (2, .getfield 79, 3), (5, .iconst 1, 1), (6, .iadd, 1), (7, .invokevirtual 100, 3), (10, .aload_n 0, 1), (11, .invokevirtual 83, 3), (14, .ifCond .eq 31, 3), (17, .iload_n 1, 1), (18, .invokestatic 191, 3), (21, .ifCond .eq 24, 3), (24, .aload_n 0, 1), (25, .getfield 15, 3), (28, .aload_n 0, 1), (29, .dup, 1), (30, .getfield 79, 3), (33, .dup_x1, 1), (34, .iconst 1, 1), (35, .iadd, 1), (36, .putfield 79, 3), (39, .iload_n 1, 1), (40, .i2b, 1), (41, .bastore, 1), (42, .goto 33, 3), (45, .aload_n 0, 1), (46, .invokevirtual 83, 3), (49, .ifCond .eq 7, 3), (52, .aload_n 0, 1), (53, .invokevirtual 195, 3), (56, .aload_n 0, 1), (57, .getfield 15, 3), (60, .aload_n 0, 1), (61, .dup, 1), (62, .getfield 79, 3), (65, .dup_x1, 1), (66, .iconst 1, 1), (67, .iadd, 1), (68, .putfield 79, 3), (71, .iload_n 1, 1), (72, .invokestatic 197, 3), (75, .aload_n 0, 1), (76, .areturn, 1)] : List (Nat × Instr × Nat)), decode cJ5_append_3fe6f q.1 = .ok (q.2.1, q.2.2) := by decide +kernel
set_option maxRecDepth 100000 in
theorem D_J5_append_c97b9 : ∀ q ∈ ([(0, .aload_n 0, 1), (1, .getfield 79, 3), (4, .istore_n 2, 1), (5, .iload_n 2, 1), (6, .iload_n 1, 1), (7, .invokestatic 245, 3), (10, .iadd, 1), (11, .istore_n 3, 1), (12, .aload_n 0, 1), (13, .iload_n 3, 1), (14, .invokevirtual 100, 3), (17, .aload_n 0, 1), (18, .invokevirtual 83, 3), (21, .ifCond .eq 16, 3), (24, .iload_n 1, 1), (25, .iload_n 3, 1), (26, .aload_n 0, 1), (27, .getfield 15, 3), (30, .invokestatic 248, 3), (33, .pop, 1), (34, .goto 14, 3), (37, .iload_n 1, 1), (38, .iload_n 2, 1), (39, .iload_n 3, 1), (40, .aload_n 0, 1), (41, .getfield 15, 3), (44, .invokestatic 251, 3), (47, .pop, 1), (48, .aload_n 0, 1), (49, .iload_n 3, 1), (50, .putfield 79, 3), (53, .aload_n 0, 1), (54, .areturn, 1)] : List (Nat × Instr × Nat)), decode cJ5_append_c97b9 q.1 = .ok (q.2.1, q.2.2) := by decide +kernel
set_option maxRecDepth 100000 in
theorem D_J5_getValue_6d5f1 : ∀ q ∈ ([(0, .aload_n 0, 1), (1, .getfield 15, 3), (4, .areturn, 1)] : List (Nat × Instr × Nat)), decode cJ5_getValue_6d5f1 q.1 = .ok (q.2.1, q.2.2) := by decide +kernel
set_option maxRecDepth 100000 in
theorem D_J5_isLatin1_aae02 : ∀ q ∈ ([(0, .getstatic 18, 3), (3, .ifCond .eq 14, 3), (6, .aload_n 0, 1), (7, .getfield 22, 3), (10, .ifCond .ne 7, 3), (13, .iconst 1, 1), (14, .goto 4, 3), (17, .iconst 0, 1), (18, .ireturn, 1)] : List (Nat × Instr × Nat)), decode cJ5_isLatin1_aae02 q.1 = .ok (q.2.1, q.2.2) := by decide +kernel
set_option maxRecDepth 100000 in
theorem D_J5_inflateIfNeededFor_a7421 : ∀ q ∈ ([(0, .getstatic 18, 3), (3, .ifCond .eq 18, 3), (6, .aload_n 0, 1), (7, .getfield 22, 3), (10, .aload_n 1, 1), (11, .invokevirtual 40, 3), (14, .if_icmp .eq 7, 3), (17, .aload_n 0, 1), (18, .invokevirtual 195, 3), (21, .return_, 1)] : List (Nat × Instr × Nat)), decode cJ5_inflateIfNeededFor_a7421 q.1 = .ok (q.2.1, q.2.2) := by decide +kernel
set_option maxRecDepth 100000 in
theorem D_J5_putStringAt_47b60 : ∀ q ∈ ([(0, .aload_n 0, 1), (1, .aload_n 2, 1), (2, .invokevirtual 397, 3), (5, .aload_n 2, 1), (6, .aload_n 0, 1), (7, .getfield 15, 3), (10, .iload_n 1, 1), (11, .aload_n 0, 1), (12, .getfield 22, 3), (15, .invokevirtual 399, 3), (18, .return_, 1)] : List (Nat × Instr × Nat)), decode cJ5_putStringAt_47b60 q.1 = .ok (q.2.1, q.2.2) := by decide +kernel
set_option maxRecDepth 100000 in
theorem D_J6_getChars_ba4f3 : ∀ q ∈ ([(0, .iload_n 1, 1), (1, .istore 5, 2), (3, .iload_n 0, 1), (4, .ifCond .ge 7, 3), (7, .iconst 1, 1), (8, .goto 4, 3), (11, .iconst 0, 1), (12, .istore 6, 2), (14, .iload 6, 2), (16, .ifCond .ne 6, 3), (19, .iload_n 0, 1), (20, .ineg, 1), (21, .istore_n 0, 1), (22, .iload_n 0, 1), (23, .bipush (-100), 2), (25, .if_icmp .gt 47, 3), (28, .iload_n 0, 1), (29, .bipush 100, 2), (31, .idiv, 1), (32, .istore_n 3, 1), (33, .iload_n 3, 1), (34, .bipush 100, 2), (36, .imul, 1), (37, .iload_n 0, 1), (38, .isub, 1), (39, .istore 4, 2), (41, .iload_n 3, 1), (42, .istore_n 0, 1), (43, .aload_n 2, 1), (44, .iinc 5 (-1), 3), (47, .iload 5, 2), (49, .getstatic 83, 3), (52, .iload 4, 2), (54, .baload, 1), (55, .bastore, 1), (56, .aload_n 2, 1), (57, .iinc 5 (-1), 3), (60, .iload 5, 2), (62, .getstatic 87, 3), (65, .iload 4, 2), (67, .baload, 1), (68, .bastore, 1), (69, .goto (-47), 3), (72, .aload_n 2, 1), (73, .iinc 5 (-1), 3), (76, .iload 5, 2), (78, .getstatic 83, 3), (81, .iload_n 0, 1), (82, .ineg, 1), (83, .baload, 1), (84, .bastore, 1), (85, .iload_n 0, 1), (86, .bipush (-9), 2), (88, .if_icmp .ge 16, 3), (91, .aload_n 2, 1), (92, .iinc 5 (-1), 3), (95, .iload 5, 2), (97, .getstatic 87, 3), (100, .iload_n 0, 1), (101, .ineg, 1), (102, .baload, 1), (103, .bastore, 1), (104, .iload 6, 2), (106, .ifCond .eq 12, 3), (109, .aload_n 2, 1), (110, .iinc 5 (-1), 3), (113, .iload 5, 2), (115, .bipush 45, 2), (117, .bastore, 1), (118, .iload 5, 2), (120, .ireturn, 1)] : List (Nat × Instr × Nat)), decode cJ6_getChars_ba4f3 q.1 = .ok (q.2.1, q.2.2) := by decide +kernel
set_option maxRecDepth 100000 in
theorem D_J6_stringSize_0f7a4 : ∀ q ∈ ([(0, .iconst 1, 1), (1, .istore_n 1, 1), (2, .iload_n 0, 1), (3, .ifCond .lt 8, 3), (6, .iconst 0, 1), (7, .istore_n 1, 1), (8, .iload_n 0, 1), (9, .ineg, 1), (10, .istore_n 0, 1), (11, .bipush (-10), 2), (13, .istore_n 2, 1), (14, .iconst 1, 1), (15, .istore_n 3, 1), (16, .iload_n 3, 1), (17, .bipush 10, 2), (19, .if_icmp .ge 23, 3), (22, .iload_n 0, 1), (23, .iload_n 2, 1), (24, .if_icmp .le 7, 3), (27, .iload_n 3, 1), (28, .iload_n 1, 1), (29, .iadd, 1), (30, .ireturn, 1), (31, .bipush 10, 2), (33, .iload_n 2, 1), (34, .imul, 1), (35, .istore_n 2, 1), (36, .iinc 3 1, 3), (39, .goto (-23), 3), (42, .bipush 10, 2), (44, .iload_n 1, 1), (45, .iadd, 1), (46, .ireturn, 1)] : List (Nat × Instr × Nat)), decode cJ6_stringSize_0f7a4 q.1 = .ok (q.2.1, q.2.2) := by decide +kernel
set_option maxRecDepth 100000 in
theorem D_J6_bitCount_0f7a4 : ∀ q ∈ ([(0, .iload_n 0, 1), (1, .iload_n 0, 1), (2, .iconst 1, 1), (3, .iushr, 1), (4, .ldc_w 265, 3), (7, .iand, 1), (8, .isub, 1), (9, .istore_n 0, 1), (10, .iload_n 0, 1), (11, .ldc_w 266, 3), (14, .iand, 1), (15, .iload_n 0, 1), (16, .iconst 2, 1), (17, .iushr, 1), (18, .ldc_w 266, 3), (21, .iand, 1), (22, .iadd, 1), (23, .istore_n 0, 1), (24, .iload_n 0, 1), (25, .iload_n 0, 1), (26, .iconst 4, 1), (27, .iushr, 1), (28, .iadd, 1), (29, .ldc_w 267, 3), (32, .iand, 1), (33, .istore_n 0, 1), (34, .iload_n 0, 1), (35, .iload_n 0, 1), (36, .bipush 8, 2), (38, .iushr, 1), (39, .iadd, 1), (40, .istore_n 0, 1), (41, .iload_n 0, 1), (42, .iload_n 0, 1), (43, .bipush 16, 2), (45, .iushr, 1), (46, .iadd, 1), (47, .istore_n 0, 1), (48, .iload_n 0, 1), (49, .bipush 63, 2), (51, .iand, 1), (52, .ireturn, 1)] : List (Nat × Instr × Nat)), decode cJ6_bitCount_0f7a4 q.1 = .ok (q.2.1, q.2.2) := by decide +kernel
set_option maxRecDepth 100000 in
theorem D_J9_max_7cf53 : ∀ q ∈ ([(0, .iload_n 0, 1), (1, .iload_n 1, 1), (2, .if_icmp .lt 7, 3), (5, .iload_n 0, 1), (6, .goto 4, 3), (9, .iload_n 1, 1), (10, .ireturn, 1)] : List (Nat × Instr × Nat)), decode cJ9_max_7cf53 q.1 = .ok (q.2.1, q.2.2) := by decide +kernel
set_option maxRecDepth 100000 in
theorem D_J9_min_7cf53 : ∀ q ∈ ([(0, .iload_n 0, 1), (1, .iload_n 1, 1), (2, .if_icmp .gt 7, 3), (5, .iload_n 0, 1), (6, .goto 4, 3), (9, .iload_n 1, 1), (10, .ireturn, 1)] : List (Nat × Instr × Nat)), decode cJ9_min_7cf53 q.1 = .ok (q.2.1, q.2.2) := by decide +kernel
set_option maxRecDepth 100000 in
theorem D_J0_init_81219 : ∀ q ∈ ([(0, .aload_n 0, 1), (1, .aload_n 1, 1), (2, .aconst_null, 1), (3, .invokespecial 489, 3), (6, .return_, 1)] : List (Nat × Instr × Nat)), decode cJ0_init_81219 q.1 = .ok (q.2.1, q.2.2) := by decide +kernel
set_option maxRecDepth 100000 in
theorem D_J0_length_8abf5 : ∀ q ∈ ([(0, .aload_n 0, 1), (1, .getfield 9, 3), (4, .arraylength, 1), (5, .aload_n 0, 1), (6, .invokevirtual 335, 3), (9, .ishr, 1), (10, .ireturn, 1)] : List (Nat × Instr × Nat)), decode cJ0_length_8abf5 q.1 = .ok (q.2.1, q.2.2) := by decide +kernel
set_option maxRecDepth 100000 in
theorem D_J0_charAt_5068e : ∀ q ∈ ([(0, .aload_n 0, 1), (1, .invokevirtual 492, 3), (4, .ifCond .eq 12, 3), (7, .aload_n 0, 1), (8, .getfield 9, 3), (11, .iload_n 1, 1), (12, .invokestatic 495, 3), (15, .ireturn, 1), (16, .aload_n 0, 1), (17, .getfield 9, 3), (20, .iload_n 1, 1), (21, .invokestatic 498, 3), (24, .ireturn, 1)] : List (Nat × Instr × Nat)), decode cJ0_charAt_5068e q.1 = .ok (q.2.1, q.2.2) := by decide +kernel
set_option maxRecDepth 100000 in
theorem D_J0_getBytes_840e7 : ∀ q ∈ ([(0, .aload_n 0, 1), (1, .invokevirtual 335, 3), (4, .iload_n 3, 1), (5, .if_icmp .ne 23, 3), (8, .aload_n 0, 1), (9, .getfield 9, 3), (12, .iconst 0, 1), (13, .aload_n 1, 1), (14, .iload_n 2, 1), (15, .iload_n 3, 1), (16, .ishl, 1), (17, .aload_n 0, 1), (18, .getfield 9, 3), (21, .arraylength, 1), (22, .invokestatic 212, 3), (25, .goto 18, 3), (28, .aload_n 0, 1), (29, .getfield 9, 3), (32, .iconst 0, 1), (33, .aload_n 1, 1), (34, .iload_n 2, 1), (35, .aload_n 0, 1), (36, .getfield 9, 3), (39, .arraylength, 1), (40, .invokestatic 106, 3), (43, .return_, 1)] : List (Nat × Instr × Nat)), decode cJ0_getBytes_840e7 q.1 = .ok (q.2.1, q.2.2) := by decide +kernel
set_option maxRecDepth 100000 in
theorem D_J0_init_db425 : ∀ q ∈ ([(0, .aload_n 0, 1), (1, .invokespecial 1, 3), (4, .aload_n 1, 1), (5, .invokevirtual 552, 3), (8, .astore_n 3, 1), (9, .aload_n 1, 1), (10, .invokevirtual 549, 3), (13, .istore 4, 2), (15, .aload_n 1, 1), (16, .invokevirtual 1047, 3), (19, .ifCond .eq 22, 3), (22, .aload_n 0, 1), (23, .iconst 0, 1), (24, .putfield 15, 3), (27, .aload_n 0, 1), (28, .aload_n 3, 1), (29, .iconst 0, 1), (30, .iload 4, 2), (32, .invokestatic 54, 3), (35, .putfield 9, 3), (38, .goto 59, 3), (41, .getstatic 38, 3), (44, .ifCond .eq 35, 3), (47, .aload_n 1, 1), (48, .getfield 1048, 3), (51, .ifCond .eq 28, 3), (54, .aload_n 0, 1), (55, .aload_n 3, 1), (56, .iconst 0, 1), (57, .iload 4, 2), (59, .invokestatic 1051, 3), (62, .putfield 9, 3), (65, .aload_n 0, 1), (66, .aload_n 0, 1), (67, .getfield 9, 3), (70, .iload 4, 2), (72, .invokestatic 47, 3), (75, .putfield 15, 3), (78, .return_, 1), (79, .aload_n 0, 1), (80, .iconst 1, 1), (81, .putfield 15, 3), (84, .aload_n 0, 1), (85, .aload_n 3, 1), (86, .iconst 0, 1), (87, .iload 4, 2), (89, .iconst 1, 1), (90, .ishl, 1), (91, .invokestatic 54, 3), (94, .putfield 9, 3), (97, .return_, 1)] : List (Nat × Instr × Nat)), decode cJ0_init_db425 q.1 = .ok (q.2.1, q.2.2) := by decide +kernel
set_option maxRecDepth 100000 in
theorem D_J0_coder_7d493 : ∀ q ∈ ([(0, .getstatic 38, 3), (3, .ifCond .eq 10, 3), (6, .aload_n 0, 1), (7, .getfield 15, 3), (10, .goto 4, 3), (13, .iconst 1, 1), (14, .ireturn, 1)] : List (Nat × Instr × Nat)), decode cJ0_coder_7d493 q.1 = .ok (q.2.1, q.2.2) := by decide +kernel
set_option maxRecDepth 100000 in
theorem D_J0_isLatin1_aae02 : ∀ q ∈ ([(0, .getstatic 38, 3), (3, .ifCond .eq 14, 3), (6, .aload_n 0, 1), (7, .getfield 15, 3), (10, .ifCond .ne 7, 3), (13, .iconst 1, 1), (14, .goto 4, 3), (17, .iconst 0, 1), (18, .ireturn, 1)] : List (Nat × Instr × Nat)), decode cJ0_isLatin1_aae02 q.1 = .ok (q.2.1, q.2.2) := by decide +kernel
set_option maxRecDepth 100000 in
theorem D_J0_checkIndex_df160 : ∀ q ∈ ([(0, .iload_n 0, 1), (1, .iload_n 1, 1), (2, .getstatic 1053, 3), (5, .invokestatic 1059, 3), (8, .pop, 1), (9, .return_, 1)] : List (Nat × Instr × Nat)), decode cJ0_checkIndex_df160 q.1 = .ok (q.2.1, q.2.2) := by decide +kernel
set_option maxRecDepth 100000 in
theorem D_J0_checkBoundsOffCount_cabcc : ∀ q ∈ ([(0, .iload_n 0, 1), (1, .iload_n 1, 1), (2, .iload_n 2, 1), (3, .getstatic 1053, 3), (6, .invokestatic 1065, 3), (9, .ireturn, 1)] : List (Nat × Instr × Nat)), decode cJ0_checkBoundsOffCount_cabcc q.1 = .ok (q.2.1, q.2.2) := by decide +kernel
set_option maxRecDepth 100000 in
theorem D_J0_checkBoundsBeginEnd_23922 : ∀ q ∈ ([(0, .iload_n 0, 1), (1, .iload_n 1, 1), (2, .iload_n 2, 1), (3, .getstatic 1053, 3), (6, .invokestatic 1062, 3), (9, .pop, 1), (10, .return_, 1)] : List (Nat × Instr × Nat)), decode cJ0_checkBoundsBeginEnd_23922 q.1 = .ok (q.2.1, q.2.2) := by decide +kernel
set_option maxRecDepth 100000 in
theorem D_J4_init_da8c8 : ∀ q ∈ ([(0, .aload_n 0, 1), (1, .bipush 16, 2), (3, .invokespecial 1, 3), (6, .return_, 1)] : List (Nat × Instr × Nat)), decode cJ4_init_da8c8 q.1 = .ok (q.2.1, q.2.2) := by decide +kernel
set_option maxRecDepth 100000 in
theorem D_J4_append_15ec4 : ∀ q ∈ ([(0, .aload_n 0, 1), (1, .aload_n 1, 1), (2, .invokespecial 29, 3), (5, .pop, 1), (6, .aload_n 0, 1), (7, .areturn, 1)] : List (Nat × Instr × Nat)), decode cJ4_append_15ec4 q.1 = .ok (q.2.1, q.2.2) := by decide +kernel
set_option maxRecDepth 100000 in
theorem D_J4_append_cf468 : ∀ q ∈ ([(0, .aload_n 0, 1), (1, .iload_n 1, 1), (2, .invokespecial 50, 3), (5, .pop, 1), (6, .aload_n 0, 1), (7, .areturn, 1)] : List (Nat × Instr × Nat)), decode cJ4_append_cf468 q.1 = .ok (q.2.1, q.2.2) := by decide +kernel
set_option maxRecDepth 100000 in
theorem D_J4_append_bf812 : ∀ q ∈ ([(0, .aload_n 0, 1), (1, .iload_n 1, 1), (2, .invokespecial 53, 3), (5, .pop, 1), (6, .aload_n 0, 1), (7, .areturn, 1)] : List (Nat × Instr × Nat)), decode cJ4_append_bf812 q.1 = .ok (q.2.1, q.2.2) := by decide +kernel
set_option maxRecDepth 100000 in
theorem D_J4_toString_0e30d : ∀ q ∈ ([(0, .new 18, 3), (3, .dup, 1), (4, .aload_n 0, 1), (5, .invokespecial 137, 3), (8, .areturn, 1)] : List (Nat × Instr × Nat)), decode cJ4_toString_0e30d q.1 = .ok (q.2.1, q.2.2) := by decide +kernel
set_option maxRecDepth 100000 in
theorem D_J4_length_8abf5 : ∀ q ∈ ([(0, .aload_n 0, 1), (1, .invokespecial 343, 3), (4, .ireturn, 1)] : List (Nat × Instr × Nat)), decode cJ4_length_8abf5 q.1 = .ok (q.2.1, q.2.2) := by decide +kernel
set_option maxRecDepth 100000 in
theorem D_J1_charAt_3b067 : ∀ q ∈ ([(0, .iload_n 1, 1), (1, .aload_n 0, 1), (2, .arraylength, 1), (3, .invokestatic 9, 3), (6, .aload_n 0, 1), (7, .iload_n 1, 1), (8, .baload, 1), (9, .sipush 255, 3), (12, .iand, 1), (13, .i2c, 1), (14, .ireturn, 1)] : List (Nat × Instr × Nat)), decode cJ1_charAt_3b067 q.1 = .ok (q.2.1, q.2.2) := by decide +kernel
set_option maxRecDepth 100000 in
theorem D_J1_canEncode_fc78d : ∀ q ∈ ([(0, .iload_n 0, 1), (1, .sipush 255, 3), (4, .if_icmp .gt 7, 3), (7, .iconst 1, 1), (8, .goto 4, 3), (11, .iconst 0, 1), (12, .ireturn, 1)] : List (Nat × Instr × Nat)), decode cJ1_canEncode_fc78d q.1 = .ok (q.2.1, q.2.2) := by decide +kernel
set_option maxRecDepth 100000 in
theorem D_J1_inflate_0e8fd : ∀ q ∈ ([(0, .aload_n 0, 1), (1, .iload_n 1, 1), (2, .aload_n 2, 1), (3, .iload_n 3, 1), (4, .iload 4, 2), (6, .invokestatic 240, 3), (9, .return_, 1)] : List (Nat × Instr × Nat)), decode cJ1_inflate_0e8fd q.1 = .ok (q.2.1, q.2.2) := by decide +kernel
set_option maxRecDepth 100000 in
theorem D_J2_newBytesFor_77867 : ∀ q ∈ ([(0, .iload_n 0, 1), (1, .invokestatic 11, 3), (4, .newarray .byte, 2), (6, .areturn, 1)] : List (Nat × Instr × Nat)), decode cJ2_newBytesFor_77867 q.1 = .ok (q.2.1, q.2.2) := by decide +kernel
set_option maxRecDepth 100000 in
theorem D_J2_newBytesLength_0f7a4 : ∀ q ∈ ([(0, .iload_n 0, 1), (1, .ifCond .ge 11, 3), (4, .new 17, 3), (7, .dup, 1), (8, .invokespecial 19, 3), (11, .athrow, 1), (12, .iload_n 0, 1), (13, .ldc 20, 2), (15, .if_icmp .lt 40, 3), (18, .new 21, 3), (21, .dup, 1), (22, .new 23, 3), (25, .dup, 1), (26, .invokespecial 25, 3), (29, .ldc 26, 2), (31, .invokevirtual 28, 3), (34, .iload_n 0, 1), (35, .invokevirtual 32, 3), (38, .ldc 35, 2), (40, .invokevirtual 28, 3), (43, .ldc 20, 2), (45, .invokevirtual 32, 3), (48, .invokevirtual 37, 3), (51, .invokespecial 41, 3), (54, .athrow, 1), (55, .iload_n 0, 1), (56, .iconst 1, 1), (57, .ishl, 1), (58, .ireturn, 1)] : List (Nat × Instr × Nat)), decode cJ2_newBytesLength_0f7a4 q.1 = .ok (q.2.1, q.2.2) := by decide +kernel
set_option maxRecDepth 100000 in
theorem D_J2_putChar_b72d1 : ∀ q ∈ ([(0, .getstatic 44, 3), (3, .ifCond .ne 25, 3), (6, .iload_n 1, 1), (7, .ifCond .lt 11, 3), (10, .iload_n 1, 1), (11, .aload_n 0, 1), (12, .invokestatic 48, 3), (15, .if_icmp .lt 13, 3), (18, .new 52, 3), (21, .dup, 1), (22, .ldc 54, 2), (24, .invokespecial 56, 3), (27, .athrow, 1), (28, .iload_n 1, 1), (29, .iconst 1, 1), (30, .ishl, 1), (31, .istore_n 1, 1), (32, .aload_n 0, 1), (33, .iload_n 1, 1), (34, .iinc 1 1, 3), (37, .iload_n 2, 1), (38, .getstatic 59, 3), (41, .ishr, 1), (42, .i2b, 1), (43, .bastore, 1), (44, .aload_n 0, 1), (45, .iload_n 1, 1), (46, .iload_n 2, 1), (47, .getstatic 63, 3), (50, .ishr, 1), (51, .i2b, 1), (52, .bastore, 1), (53, .return_, 1)] : List (Nat × Instr × Nat)), decode cJ2_putChar_b72d1 q.1 = .ok (q.2.1, q.2.2) := by decide +kernel
set_option maxRecDepth 100000 in
theorem D_J2_getChar_3b067 : ∀ q ∈ ([(0, .getstatic 44, 3), (3, .ifCond .ne 25, 3), (6, .iload_n 1, 1), (7, .ifCond .lt 11, 3), (10, .iload_n 1, 1), (11, .aload_n 0, 1), (12, .invokestatic 48, 3), (15, .if_icmp .lt 13, 3), (18, .new 52, 3), (21, .dup, 1), (22, .ldc 54, 2), (24, .invokespecial 56, 3), (27, .athrow, 1), (28, .iload_n 1, 1), (29, .iconst 1, 1), (30, .ishl, 1), (31, .istore_n 1, 1), (32, .aload_n 0, 1), (33, .iload_n 1, 1), (34, .iinc 1 1, 3), (37, .baload, 1), (38, .sipush 255, 3), (41, .iand, 1), (42, .getstatic 59, 3), (45, .ishl, 1), (46, .aload_n 0, 1), (47, .iload_n 1, 1), (48, .baload, 1), (49, .sipush 255, 3), (52, .iand, 1), (53, .getstatic 63, 3), (56, .ishl, 1), (57, .ior, 1), (58, .i2c, 1), (59, .ireturn, 1)] : List (Nat × Instr × Nat)), decode cJ2_getChar_3b067 q.1 = .ok (q.2.1, q.2.2) := by decide +kernel
set_option maxRecDepth 100000 in
theorem D_J2_length_9d52b : ∀ q ∈ ([(0, .aload_n 0, 1), (1, .arraylength, 1), (2, .iconst 1, 1), (3, .ishr, 1), (4, .ireturn, 1)] : List (Nat × Instr × Nat)), decode cJ2_length_9d52b q.1 = .ok (q.2.1, q.2.2) := by decide +kernel
set_option maxRecDepth 100000 in
theorem D_J2_coderFromArrayLen_85cad : ∀ q ∈ ([(0, .iload_n 1, 1), (1, .aload_n 0, 1), (2, .arraylength, 1), (3, .isub, 1), (4, .bipush 31, 2), (6, .iushr, 1), (7, .i2b, 1), (8, .ireturn, 1)] : List (Nat × Instr × Nat)), decode cJ2_coderFromArrayLen_85cad q.1 = .ok (q.2.1, q.2.2) := by decide +kernel
set_option maxRecDepth 100000 in
theorem D_J2_compress_39247 : ∀ q ∈ ([(0, .iload_n 2, 1), (1, .newarray .byte, 2), (3, .astore_n 3, 1), (4, .aload_n 0, 1), (5, .iload_n 1, 1), (6, .aload_n 3, 1), (7, .iconst 0, 1), (8, .iload_n 2, 1), (9, .invokestatic 123, 3), (12, .istore 4, 2), (14, .iload 4, 2), (16, .iload_n 2, 1), (17, .if_icmp .eq 47, 3), (20, .aload_n 0, 1), (21, .iload_n 1, 1), (22, .iconst 1, 1), (23, .ishl, 1), (24, .iload_n 1, 1), (25, .iload_n 2, 1), (26, .iadd, 1), (27, .invokestatic 11, 3), (30, .invokestatic 126, 3), (33, .astore 5, 2), (35, .aload 5, 2), (37, .iload 4, 2), (39, .invokestatic 71, 3), (42, .sipush 255, 3), (45, .if_icmp .gt 16, 3), (48, .aload 5, 2), (50, .iconst 0, 1), (51, .aload_n 3, 1), (52, .iconst 0, 1), (53, .iload_n 2, 1), (54, .invokestatic 123, 3), (57, .iload_n 2, 1), (58, .if_icmp .eq 6, 3), (61, .aload 5, 2), (63, .areturn, 1), (64, .aload_n 3, 1), (65, .areturn, 1)] : List (Nat × Instr × Nat)), decode cJ2_compress_39247 q.1 = .ok (q.2.1, q.2.2) := by decide +kernel
set_option maxRecDepth 100000 in
theorem D_J2_compress_5af95 : ∀ q ∈ ([(0, .iload_n 1, 1), (1, .iload 4, 2), (3, .aload_n 0, 1), (4, .invokestatic 173, 3), (7, .iconst 0, 1), (8, .istore 5, 2), (10, .iload 5, 2), (12, .iload 4, 2), (14, .if_icmp .ge 39, 3), (17, .aload_n 0, 1), (18, .iload_n 1, 1), (19, .invokestatic 71, 3), (22, .istore 6, 2), (24, .iload 6, 2), (26, .sipush 255, 3), (29, .if_icmp .le 6, 3), (32, .iload 5, 2), (34, .ireturn, 1), (35, .aload_n 2, 1), (36, .iload_n 3, 1), (37, .iload 6, 2), (39, .i2b, 1), (40, .bastore, 1), (41, .iinc 1 1, 3), (44, .iinc 3 1, 3), (47, .iinc 5 1, 3), (50, .goto (-40), 3), (53, .iload 4, 2), (55, .ireturn, 1)] : List (Nat × Instr × Nat)), decode cJ2_compress_5af95 q.1 = .ok (q.2.1, q.2.2) := by decide +kernel
set_option maxRecDepth 100000 in
theorem D_J2_putCharSB_b72d1 : ∀ q ∈ ([(0, .iload_n 1, 1), (1, .aload_n 0, 1), (2, .invokestatic 67, 3), (5, .aload_n 0, 1), (6, .iload_n 1, 1), (7, .iload_n 2, 1), (8, .invokestatic 111, 3), (11, .return_, 1)] : List (Nat × Instr × Nat)), decode cJ2_putCharSB_b72d1 q.1 = .ok (q.2.1, q.2.2) := by decide +kernel
set_option maxRecDepth 100000 in
theorem D_J2_getChars_46870 : ∀ q ∈ ([(0, .iload_n 1, 1), (1, .iload_n 2, 1), (2, .aload_n 3, 1), (3, .invokestatic 96, 3), (6, .iload_n 0, 1), (7, .iload_n 2, 1), (8, .aload_n 3, 1), (9, .invokestatic 393, 3), (12, .istore 4, 2), (14, .getstatic 44, 3), (17, .ifCond .ne 17, 3), (20, .iload_n 1, 1), (21, .iload 4, 2), (23, .if_icmp .eq 11, 3), (26, .new 52, 3), (29, .dup, 1), (30, .invokespecial 66, 3), (33, .athrow, 1), (34, .iload 4, 2), (36, .ireturn, 1)] : List (Nat × Instr × Nat)), decode cJ2_getChars_46870 q.1 = .ok (q.2.1, q.2.2) := by decide +kernel
set_option maxRecDepth 100000 in
theorem D_J2_putCharsAt_cd4e5 : ∀ q ∈ ([(0, .iload_n 1, 1), (1, .iconst 4, 1), (2, .iadd, 1), (3, .istore 6, 2), (5, .iload_n 1, 1), (6, .iload 6, 2), (8, .aload_n 0, 1), (9, .invokestatic 96, 3), (12, .aload_n 0, 1), (13, .iload_n 1, 1), (14, .iinc 1 1, 3), (17, .iload_n 2, 1), (18, .invokestatic 111, 3), (21, .aload_n 0, 1), (22, .iload_n 1, 1), (23, .iinc 1 1, 3), (26, .iload_n 3, 1), (27, .invokestatic 111, 3), (30, .aload_n 0, 1), (31, .iload_n 1, 1), (32, .iinc 1 1, 3), (35, .iload 4, 2), (37, .invokestatic 111, 3), (40, .aload_n 0, 1), (41, .iload_n 1, 1), (42, .iinc 1 1, 3), (45, .iload 5, 2), (47, .invokestatic 111, 3), (50, .getstatic 44, 3), (53, .ifCond .ne 17, 3), (56, .iload_n 1, 1), (57, .iload 6, 2), (59, .if_icmp .eq 11, 3), (62, .new 52, 3), (65, .dup, 1), (66, .invokespecial 66, 3), (69, .athrow, 1), (70, .iload 6, 2), (72, .ireturn, 1)] : List (Nat × Instr × Nat)), decode cJ2_putCharsAt_cd4e5 q.1 = .ok (q.2.1, q.2.2) := by decide +kernel
set_option maxRecDepth 100000 in
theorem D_J2_charAt_3b067 : ∀ q ∈ ([(0, .iload_n 1, 1), (1, .aload_n 0, 1), (2, .invokestatic 67, 3), (5, .aload_n 0, 1), (6, .iload_n 1, 1), (7, .invokestatic 71, 3), (10, .ireturn, 1)] : List (Nat × Instr × Nat)), decode cJ2_charAt_3b067 q.1 = .ok (q.2.1, q.2.2) := by decide +kernel
set_option maxRecDepth 100000 in
theorem D_J2_inflate_0e8fd : ∀ q ∈ ([(0, .iload_n 3, 1), (1, .iload 4, 2), (3, .aload_n 2, 1), (4, .invokestatic 173, 3), (7, .iconst 0, 1), (8, .istore 5, 2), (10, .iload 5, 2), (12, .iload 4, 2), (14, .if_icmp .ge 27, 3), (17, .aload_n 2, 1), (18, .iload_n 3, 1), (19, .iinc 3 1, 3), (22, .aload_n 0, 1), (23, .iload_n 1, 1), (24, .iinc 1 1, 3), (27, .baload, 1), (28, .sipush 255, 3), (31, .iand, 1), (32, .invokestatic 111, 3), (35, .iinc 5 1, 3), (38, .goto (-28), 3), (41, .return_, 1)] : List (Nat × Instr × Nat)), decode cJ2_inflate_0e8fd q.1 = .ok (q.2.1, q.2.2) := by decide +kernel
set_option maxRecDepth 100000 in
theorem D_J2_getChars_ba4f3 : ∀ q ∈ ([(0, .iload_n 1, 1), (1, .istore 5, 2), (3, .iload_n 0, 1), (4, .ifCond .ge 7, 3), (7, .iconst 1, 1), (8, .goto 4, 3), (11, .iconst 0, 1), (12, .istore 6, 2), (14, .iload 6, 2), (16, .ifCond .ne 6, 3), (19, .iload_n 0, 1), (20, .ineg, 1), (21, .istore_n 0, 1), (22, .iload_n 0, 1), (23, .bipush (-100), 2), (25, .if_icmp .gt 51, 3), (28, .iload_n 0, 1), (29, .bipush 100, 2), (31, .idiv, 1), (32, .istore_n 3, 1), (33, .iload_n 3, 1), (34, .bipush 100, 2), (36, .imul, 1), (37, .iload_n 0, 1), (38, .isub, 1), (39, .istore 4, 2), (41, .iload_n 3, 1), (42, .istore_n 0, 1), (43, .aload_n 2, 1), (44, .iinc 5 (-1), 3), (47, .iload 5, 2), (49, .getstatic 403, 3), (52, .iload 4, 2), (54, .baload, 1), (55, .invokestatic 111, 3), (58, .aload_n 2, 1), (59, .iinc 5 (-1), 3), (62, .iload 5, 2), (64, .getstatic 407, 3), (67, .iload 4, 2), (69, .baload, 1), (70, .invokestatic 111, 3), (73, .goto (-51), 3), (76, .aload_n 2, 1), (77, .iinc 5 (-1), 3), (80, .iload 5, 2), (82, .getstatic 403, 3), (85, .iload_n 0, 1), (86, .ineg, 1), (87, .baload, 1), (88, .invokestatic 111, 3), (91, .iload_n 0, 1), (92, .bipush (-9), 2), (94, .if_icmp .ge 18, 3), (97, .aload_n 2, 1), (98, .iinc 5 (-1), 3), (101, .iload 5, 2), (103, .getstatic 407, 3), (106, .iload_n 0, 1), (107, .ineg, 1), (108, .baload, 1), (109, .invokestatic 111, 3), (112, .iload 6, 2), (114, .ifCond .eq 14, 3), (117, .aload_n 2, 1), (118, .iinc 5 (-1), 3), (121, .iload 5, 2), (123, .bipush 45, 2), (125, .invokestatic 111, 3), (128, .iload 5, 2), (130, .ireturn, 1)] : List (Nat × Instr × Nat)), decode cJ2_getChars_ba4f3 q.1 = .ok (q.2.1, q.2.2) := by decide +kernel
set_option maxRecDepth 100000 in
theorem D_J2_checkIndex_2214a : ∀ q ∈ ([(0, .iload_n 0, 1), (1, .aload_n 1, 1), (2, .invokestatic 48, 3), (5, .invokestatic 414, 3), (8, .return_, 1)] : List (Nat × Instr × Nat)), decode cJ2_checkIndex_2214a q.1 = .ok (q.2.1, q.2.2) := by decide +kernel
set_option maxRecDepth 100000 in
theorem D_J2_checkBoundsBeginEnd_d044e : ∀ q ∈ ([(0, .iload_n 0, 1), (1, .iload_n 1, 1), (2, .aload_n 2, 1), (3, .invokestatic 48, 3), (6, .invokestatic 241, 3), (9, .return_, 1)] : List (Nat × Instr × Nat)), decode cJ2_checkBoundsBeginEnd_d044e q.1 = .ok (q.2.1, q.2.2) := by decide +kernel
set_option maxRecDepth 100000 in
theorem D_J2_checkBoundsOffCount_d044e : ∀ q ∈ ([(0, .iload_n 0, 1), (1, .iload_n 1, 1), (2, .aload_n 2, 1), (3, .invokestatic 48, 3), (6, .invokestatic 419, 3), (9, .pop, 1), (10, .return_, 1)] : List (Nat × Instr × Nat)), decode cJ2_checkBoundsOffCount_d044e q.1 = .ok (q.2.1, q.2.2) := by decide +kernel
set_option maxRecDepth 100000 in
theorem D_J7_fill_53178 : ∀ q ∈ ([(0, .iconst 0, 1), (1, .istore_n 2, 1), (2, .aload_n 0, 1), (3, .arraylength, 1), (4, .istore_n 3, 1), (5, .iload_n 2, 1), (6, .iload_n 3, 1), (7, .if_icmp .ge 13, 3), (10, .aload_n 0, 1), (11, .iload_n 2, 1), (12, .iload_n 1, 1), (13, .iastore, 1), (14, .iinc 2 1, 3), (17, .goto (-12), 3), (20, .return_, 1)] : List (Nat × Instr × Nat)), decode cJ7_fill_53178 q.1 = .ok (q.2.1, q.2.2) := by decide +kernel
set_option maxRecDepth 100000 in
theorem D_J7_copyOf_9075b : ∀ q ∈ ([(0, .iload_n 1, 1), (1, .aload_n 0, 1), (2, .arraylength, 1), (3, .if_icmp .ne 11, 3), (6, .aload_n 0, 1), (7, .invokevirtual 310, 3), (10, .checkcast 311, 3), (13, .areturn, 1), (14, .iload_n 1, 1), (15, .newarray .byte, 2), (17, .astore_n 2, 1), (18, .aload_n 0, 1), (19, .iconst 0, 1), (20, .aload_n 2, 1), (21, .iconst 0, 1), (22, .aload_n 0, 1), (23, .arraylength, 1), (24, .iload_n 1, 1), (25, .invokestatic 304, 3), (28, .invokestatic 150, 3), (31, .aload_n 2, 1), (32, .areturn, 1)] : List (Nat × Instr × Nat)), decode cJ7_copyOf_9075b q.1 = .ok (q.2.1, q.2.2) := by decide +kernel
set_option maxRecDepth 100000 in
theorem D_J7_checkLength_df160 : ∀ q ∈ ([(0, .iload_n 1, 1), (1, .iload_n 0, 1), (2, .if_icmp .ge 35, 3), (5, .new 43, 3), (8, .dup, 1), (9, .new 45, 3), (12, .dup, 1), (13, .invokespecial 47, 3), (16, .iload_n 0, 1), (17, .invokevirtual 54, 3), (20, .ldc_w 337, 3), (23, .invokevirtual 50, 3), (26, .iload_n 1, 1), (27, .invokevirtual 54, 3), (30, .invokevirtual 61, 3), (33, .invokespecial 65, 3), (36, .athrow, 1), (37, .return_, 1)] : List (Nat × Instr × Nat)), decode cJ7_checkLength_df160 q.1 = .ok (q.2.1, q.2.2) := by decide +kernel
set_option maxRecDepth 100000 in
theorem D_J7_copyOfRange_39247 : ∀ q ∈ ([(0, .iload_n 1, 1), (1, .ifCond .ne 9, 3), (4, .iload_n 2, 1), (5, .aload_n 0, 1), (6, .arraylength, 1), (7, .if_icmp .eq 10, 3), (10, .aload_n 0, 1), (11, .iload_n 1, 1), (12, .iload_n 2, 1), (13, .invokestatic 339, 3), (16, .areturn, 1), (17, .aload_n 0, 1), (18, .invokevirtual 310, 3), (21, .checkcast 311, 3), (24, .areturn, 1)] : List (Nat × Instr × Nat)), decode cJ7_copyOfRange_39247 q.1 = .ok (q.2.1, q.2.2) := by decide +kernel
set_option maxRecDepth 100000 in
theorem D_J7_copyOfRangeByte_39247 : ∀ q ∈ ([(0, .iload_n 1, 1), (1, .iload_n 2, 1), (2, .invokestatic 343, 3), (5, .iload_n 2, 1), (6, .iload_n 1, 1), (7, .isub, 1), (8, .istore_n 3, 1), (9, .iload_n 3, 1), (10, .newarray .byte, 2), (12, .astore 4, 2), (14, .aload_n 0, 1), (15, .iload_n 1, 1), (16, .aload 4, 2), (18, .iconst 0, 1), (19, .aload_n 0, 1), (20, .arraylength, 1), (21, .iload_n 1, 1), (22, .isub, 1), (23, .iload_n 3, 1), (24, .invokestatic 304, 3), (27, .invokestatic 150, 3), (30, .aload 4, 2), (32, .areturn, 1)] : List (Nat × Instr × Nat)), decode cJ7_copyOfRangeByte_39247 q.1 = .ok (q.2.1, q.2.2) := by decide +kernel
set_option maxRecDepth 100000 in
theorem D_J8_newLength_cabcc : ∀ q ∈ ([(0, .iload_n 0, 1), (1, .iload_n 1, 1), (2, .iload_n 2, 1), (3, .invokestatic 194, 3), (6, .iadd, 1), (7, .istore_n 3, 1), (8, .iconst 0, 1), (9, .iload_n 3, 1), (10, .if_icmp .ge 11, 3), (13, .iload_n 3, 1), (14, .ldc 200, 2), (16, .if_icmp .gt 5, 3), (19, .iload_n 3, 1), (20, .ireturn, 1), (21, .iload_n 0, 1), (22, .iload_n 1, 1), (23, .invokestatic 201, 3), (26, .ireturn, 1)] : List (Nat × Instr × Nat)), decode cJ8_newLength_cabcc q.1 = .ok (q.2.1, q.2.2) := by decide +kernel
set_option maxRecDepth 100000 in
theorem D_J8_hugeLength_7cf53 : ∀ q ∈ ([(0, .iload_n 0, 1), (1, .iload_n 1, 1), (2, .iadd, 1), (3, .istore_n 2, 1), (4, .iload_n 2, 1), (5, .ifCond .ge 44, 3), (8, .new 204, 3), (11, .dup, 1), (12, .new 89, 3), (15, .dup, 1), (16, .invokespecial 91, 3), (19, .ldc 206, 2), (21, .invokevirtual 94, 3), (24, .iload_n 0, 1), (25, .invokevirtual 98, 3), (28, .ldc 208, 2), (30, .invokevirtual 94, 3), (33, .iload_n 1, 1), (34, .invokevirtual 98, 3), (37, .ldc 210, 2), (39, .invokevirtual 94, 3), (42, .invokevirtual 101, 3), (45, .invokespecial 212, 3), (48, .athrow, 1), (49, .iload_n 2, 1), (50, .ldc 200, 2), (52, .if_icmp .gt 6, 3), (55, .ldc 200, 2), (57, .ireturn, 1), (58, .iload_n 2, 1), (59, .ireturn, 1)] : List (Nat × Instr × Nat)), decode cJ8_hugeLength_7cf53 q.1 = .ok (q.2.1, q.2.2) := by decide +kernel
set_option maxRecDepth 100000 in
theorem D_J3_checkIndex_8e157 : ∀ q ∈ ([(0, .iload_n 0, 1), (1, .ifCond .lt 8, 3), (4, .iload_n 0, 1), (5, .iload_n 1, 1), (6, .if_icmp .lt 10, 3), (9, .aload_n 2, 1), (10, .iload_n 0, 1), (11, .iload_n 1, 1), (12, .invokestatic 95, 3), (15, .athrow, 1), (16, .iload_n 0, 1), (17, .ireturn, 1)] : List (Nat × Instr × Nat)), decode cJ3_checkIndex_8e157 q.1 = .ok (q.2.1, q.2.2) := by decide +kernel
set_option maxRecDepth 100000 in
theorem D_J3_checkFromToIndex_8c36e : ∀ q ∈ ([(0, .iload_n 0, 1), (1, .ifCond .lt 13, 3), (4, .iload_n 0, 1), (5, .iload_n 1, 1), (6, .if_icmp .gt 8, 3), (9, .iload_n 1, 1), (10, .iload_n 2, 1), (11, .if_icmp .le 11, 3), (14, .aload_n 3, 1), (15, .iload_n 0, 1), (16, .iload_n 1, 1), (17, .iload_n 2, 1), (18, .invokestatic 99, 3), (21, .athrow, 1), (22, .iload_n 0, 1), (23, .ireturn, 1)] : List (Nat × Instr × Nat)), decode cJ3_checkFromToIndex_8c36e q.1 = .ok (q.2.1, q.2.2) := by decide +kernel
set_option maxRecDepth 100000 in
theorem D_J3_checkFromIndexSize_8c36e : ∀ q ∈ ([(0, .iload_n 2, 1), (1, .iload_n 0, 1), (2, .ior, 1), (3, .iload_n 1, 1), (4, .ior, 1), (5, .ifCond .lt 10, 3), (8, .iload_n 1, 1), (9, .iload_n 2, 1), (10, .iload_n 0, 1), (11, .isub, 1), (12, .if_icmp .le 11, 3), (15, .aload_n 3, 1), (16, .iload_n 0, 1), (17, .iload_n 1, 1), (18, .iload_n 2, 1), (19, .invokestatic 103, 3), (22, .athrow, 1), (23, .iload_n 0, 1), (24, .ireturn, 1)] : List (Nat × Instr × Nat)), decode cJ3_checkFromIndexSize_8c36e q.1 = .ok (q.2.1, q.2.2) := by decide +kernel
set_option maxRecDepth 100000 in
theorem D_L_init : ∀ q ∈ ([(0, .aload_n 0, 1), (1, .invokespecial 1, 3), (4, .aload_n 0, 1), (5, .iconst 0, 1), (6, .newarray .int, 2), (8, .putfield 7, 3), (11, .aload_n 0, 1), (12, .iconst 5, 1), (13, .newarray .int, 2), (15, .putfield 13, 3), (18, .aload_n 0, 1), (19, .iconst 5, 1), (20, .newarray .int, 2), (22, .putfield 16, 3), (25, .aload_n 0, 1), (26, .iconst 5, 1), (27, .newarray .int, 2), (29, .putfield 19, 3), (32, .aload_n 0, 1), (33, .iconst 5, 1), (34, .newarray .int, 2), (36, .putfield 22, 3), (39, .aload_n 0, 1), (40, .iconst 5, 1), (41, .newarray .int, 2), (43, .putfield 25, 3), (46, .aload_n 0, 1), (47, .iconst 2, 1), (48, .newarray .int, 2), (50, .putfield 28, 3), (53, .aload_n 0, 1), (54, .iconst 2, 1), (55, .newarray .int, 2), (57, .putfield 31, 3), (60, .aload_n 0, 1), (61, .bipush 6, 2), (63, .newarray .int, 2), (65, .putfield 34, 3), (68, .aload_n 0, 1), (69, .iconst 5, 1), (70, .bipush 6, 2), (72, .multianewarray 37 2, 4), (76, .putfield 39, 3), (79, .return_, 1)] : List (Nat × Instr × Nat)), decode cL_init q.1 = .ok (q.2.1, q.2.2) := by decide +kernel
set_option maxRecDepth 100000 in
theorem D_L_among : ∀ q ∈ ([(0, .iload_n 0, 1), (1, .iload_n 1, 1), (2, .irem, 1), (3, .istore_n 2, 1), (4, .iload_n 2, 1), (5, .ifCond .ge 9, 3), (8, .iload_n 2, 1), (9, .iload_n 1, 1), (10, .iadd, 1), (11, .goto 4, 3), (14, .iload_n 2, 1), (15, .ireturn, 1)] : List (Nat × Instr × Nat)), decode cL_among q.1 = .ok (q.2.1, q.2.2) := by decide +kernel
set_option maxRecDepth 100000 in
theorem D_L_cell : ∀ q ∈ ([(0, .iload_n 1, 1), (1, .aload_n 0, 1), (2, .arraylength, 1), (3, .if_icmp .ge 9, 3), (6, .aload_n 0, 1), (7, .iload_n 1, 1), (8, .iaload, 1), (9, .goto 10, 3), (12, .sipush 7919, 3), (15, .iload_n 1, 1), (16, .imul, 1), (17, .iconst 5, 1), (18, .iadd, 1), (19, .ireturn, 1)] : List (Nat × Instr × Nat)), decode cL_cell q.1 = .ok (q.2.1, q.2.2) := by decide +kernel
set_option maxRecDepth 100000 in
theorem D_L_four : ∀ q ∈ ([(0, .iconst 0, 1), (1, .istore_n 2, 1), (2, .iload_n 1, 1), (3, .istore_n 3, 1), (4, .iload_n 3, 1), (5, .iload_n 1, 1), (6, .iconst 4, 1), (7, .iadd, 1), (8, .if_icmp .ge 33, 3), (11, .iload_n 2, 1), (12, .bipush 8, 2), (14, .ishl, 1), (15, .iload_n 3, 1), (16, .aload_n 0, 1), (17, .invokevirtual 42, 3), (20, .if_icmp .ge 11, 3), (23, .aload_n 0, 1), (24, .iload_n 3, 1), (25, .invokevirtual 48, 3), (28, .goto 5, 3), (31, .bipush 32, 2), (33, .ior, 1), (34, .istore_n 2, 1), (35, .iinc 3 1, 3), (38, .goto (-34), 3), (41, .iload_n 2, 1), (42, .ireturn, 1)] : List (Nat × Instr × Nat)), decode cL_four q.1 = .ok (q.2.1, q.2.2) := by decide +kernel
set_option maxRecDepth 100000 in
theorem D_L_load : ∀ q ∈ ([(0, .iconst 0, 1), (1, .istore_n 2, 1), (2, .iload_n 2, 1), (3, .aload_n 1, 1), (4, .invokevirtual 42, 3), (7, .if_icmp .ge 50, 3), (10, .aload_n 0, 1), (11, .aload_n 1, 1), (12, .iload_n 2, 1), (13, .invokestatic 52, 3), (16, .aload_n 1, 1), (17, .iload_n 2, 1), (18, .iconst 4, 1), (19, .iadd, 1), (20, .invokestatic 52, 3), (23, .aload_n 1, 1), (24, .iload_n 2, 1), (25, .bipush 8, 2), (27, .iadd, 1), (28, .invokestatic 52, 3), (31, .aload_n 1, 1), (32, .iload_n 2, 1), (33, .bipush 12, 2), (35, .iadd, 1), (36, .invokestatic 52, 3), (39, .aload_n 1, 1), (40, .iload_n 2, 1), (41, .bipush 16, 2), (43, .iadd, 1), (44, .invokestatic 52, 3), (47, .invokevirtual 56, 3), (50, .pop, 1), (51, .iinc 2 20, 3), (54, .goto (-52), 3), (57, .aload_n 0, 1), (58, .aload_n 1, 1), (59, .invokevirtual 42, 3), (62, .invokevirtual 62, 3), (65, .ireturn, 1)] : List (Nat × Instr × Nat)), decode cL_load q.1 = .ok (q.2.1, q.2.2) := by decide +kernel
set_option maxRecDepth 100000 in
theorem D_L_chosen : ∀ q ∈ ([(0, .aload_n 0, 1), (1, .getfield 7, 3), (4, .aload_n 0, 1), (5, .getfield 66, 3), (8, .invokestatic 70, 3), (11, .iload_n 1, 1), (12, .invokestatic 74, 3), (15, .istore_n 2, 1), (16, .aload_n 0, 1), (17, .dup, 1), (18, .getfield 66, 3), (21, .iconst 1, 1), (22, .iadd, 1), (23, .putfield 66, 3), (26, .iload_n 2, 1), (27, .ireturn, 1)] : List (Nat × Instr × Nat)), decode cL_chosen q.1 = .ok (q.2.1, q.2.2) := by decide +kernel
set_option maxRecDepth 100000 in
theorem D_L_bridge : ∀ q ∈ ([(0, .aload_n 0, 1), (1, .iconst 2, 1), (2, .aload_n 0, 1), (3, .iconst 5, 1), (4, .invokevirtual 78, 3), (7, .iadd, 1), (8, .putfield 81, 3), (11, .aload_n 0, 1), (12, .iconst 1, 1), (13, .aload_n 0, 1), (14, .iconst 3, 1), (15, .invokevirtual 78, 3), (18, .iadd, 1), (19, .putfield 84, 3), (22, .aload_n 0, 1), (23, .aload_n 0, 1), (24, .iconst 3, 1), (25, .invokevirtual 78, 3), (28, .putfield 87, 3), (31, .aload_n 0, 1), (32, .iconst 1, 1), (33, .aload_n 0, 1), (34, .iconst 3, 1), (35, .invokevirtual 78, 3), (38, .iadd, 1), (39, .putfield 90, 3), (42, .aload_n 0, 1), (43, .iconst 1, 1), (44, .aload_n 0, 1), (45, .iconst 5, 1), (46, .invokevirtual 78, 3), (49, .iadd, 1), (50, .putfield 93, 3), (53, .aload_n 0, 1), (54, .iconst 1, 1), (55, .aload_n 0, 1), (56, .iconst 2, 1), (57, .invokevirtual 78, 3), (60, .iadd, 1), (61, .putfield 96, 3), (64, .new 99, 3), (67, .dup, 1), (68, .invokespecial 101, 3), (71, .ldc 102, 2), (73, .invokevirtual 104, 3), (76, .aload_n 0, 1), (77, .getfield 81, 3), (80, .invokevirtual 108, 3), (83, .ldc 111, 2), (85, .invokevirtual 104, 3), (88, .aload_n 0, 1), (89, .getfield 84, 3), (92, .invokevirtual 108, 3), (95, .ldc 111, 2), (97, .invokevirtual 104, 3), (100, .aload_n 0, 1), (101, .getfield 87, 3), (104, .invokevirtual 108, 3), (107, .ldc 113, 2), (109, .invokevirtual 104, 3), (112, .invokevirtual 115, 3), (115, .astore_n 1, 1), (116, .iconst 0, 1), (117, .istore_n 2, 1), (118, .iload_n 2, 1), (119, .aload_n 0, 1), (120, .getfield 90, 3), (123, .if_icmp .ge 54, 3), (126, .new 99, 3), (129, .dup, 1), (130, .invokespecial 101, 3), (133, .aload_n 1, 1), (134, .invokevirtual 104, 3), (137, .ldc 119, 2), (139, .invokevirtual 104, 3), (142, .bipush 97, 2), (144, .iload_n 2, 1), (145, .iadd, 1), (146, .i2c, 1), (147, .invokevirtual 121, 3), (150, .ldc 111, 2), (152, .invokevirtual 104, 3), (155, .bipush 10, 2), (157, .iload_n 2, 1), (158, .imul, 1), (159, .invokevirtual 108, 3), (162, .ldc 113, 2), (164, .invokevirtual 104, 3), (167, .invokevirtual 115, 3), (170, .astore_n 1, 1), (171, .iinc 2 1, 3), (174, .goto (-56), 3), (177, .iconst 0, 1), (178, .istore_n 2, 1), (179, .iload_n 2, 1), (180, .aload_n 0, 1), (181, .getfield 93, 3), (184, .if_icmp .ge 32, 3), (187, .new 99, 3), (190, .dup, 1), (191, .invokespecial 101, 3), (194, .aload_n 1, 1), (195, .invokevirtual 104, 3), (198, .aload_n 0, 1), (199, .iload_n 2, 1), (200, .invokevirtual 124, 3), (203, .invokevirtual 104, 3), (206, .invokevirtual 115, 3), (209, .astore_n 1, 1), (210, .iinc 2 1, 3), (213, .goto (-34), 3), (216, .iconst 0, 1), (217, .istore_n 2, 1), (218, .iload_n 2, 1), (219, .aload_n 0, 1), (220, .getfield 96, 3), (223, .if_icmp .ge 96, 3), (226, .aload_n 0, 1), (227, .getfield 28, 3), (230, .iload_n 2, 1), (231, .iconst 1, 1), (232, .aload_n 0, 1), (233, .bipush 8, 2), (235, .invokevirtual 78, 3), (238, .iadd, 1), (239, .iastore, 1), (240, .aload_n 0, 1), (241, .getfield 31, 3), (244, .iload_n 2, 1), (245, .aload_n 0, 1), (246, .bipush 9, 2), (248, .invokevirtual 78, 3), (251, .iastore, 1), (252, .new 99, 3), (255, .dup, 1), (256, .invokespecial 101, 3), (259, .aload_n 1, 1), (260, .invokevirtual 104, 3), (263, .ldc 128, 2), (265, .invokevirtual 104, 3), (268, .bipush 97, 2), (270, .iload_n 2, 1), (271, .iadd, 1), (272, .i2c, 1), (273, .invokevirtual 121, 3), (276, .ldc 111, 2), (278, .invokevirtual 104, 3), (281, .aload_n 0, 1), (282, .getfield 28, 3), (285, .iload_n 2, 1), (286, .iaload, 1), (287, .invokevirtual 108, 3), (290, .ldc 111, 2), (292, .invokevirtual 104, 3), (295, .aload_n 0, 1), (296, .getfield 31, 3), (299, .iload_n 2, 1), (300, .iaload, 1), (301, .invokevirtual 108, 3), (304, .ldc 113, 2), (306, .invokevirtual 104, 3), (309, .invokevirtual 115, 3), (312, .astore_n 1, 1), (313, .iinc 2 1, 3), (316, .goto (-98), 3), (319, .iconst 0, 1), (320, .istore_n 2, 1), (321, .iload_n 2, 1), (322, .aload_n 0, 1), (323, .getfield 81, 3), (326, .if_icmp .ge 64, 3), (329, .aload_n 0, 1), (330, .getfield 34, 3), (333, .iload_n 2, 1), (334, .aload_n 0, 1), (335, .bipush 30, 2), (337, .invokevirtual 78, 3), (340, .iastore, 1), (341, .new 99, 3), (344, .dup, 1), (345, .invokespecial 101, 3), (348, .aload_n 1, 1), (349, .invokevirtual 104, 3), (352, .ldc 130, 2), (354, .invokevirtual 104, 3), (357, .iload_n 2, 1), (358, .invokevirtual 108, 3), (361, .ldc 111, 2), (363, .invokevirtual 104, 3), (366, .aload_n 0, 1), (367, .getfield 34, 3), (370, .iload_n 2, 1), (371, .iaload, 1), (372, .invokevirtual 108, 3), (375, .ldc 113, 2), (377, .invokevirtual 104, 3), (380, .invokevirtual 115, 3), (383, .astore_n 1, 1), (384, .iinc 2 1, 3), (387, .goto (-66), 3), (390, .aload_n 1, 1), (391, .areturn, 1)] : List (Nat × Instr × Nat)), decode cL_bridge q.1 = .ok (q.2.1, q.2.2) := by decide +kernel
set_option maxRecDepth 100000 in
theorem D_L_span : ∀ q ∈ ([(0, .aload_n 0, 1), (1, .getfield 13, 3), (4, .iload_n 1, 1), (5, .aload_n 0, 1), (6, .aload_n 0, 1), (7, .getfield 90, 3), (10, .iconst 1, 1), (11, .iadd, 1), (12, .invokevirtual 78, 3), (15, .iconst 1, 1), (16, .isub, 1), (17, .iastore, 1), (18, .aload_n 0, 1), (19, .getfield 16, 3), (22, .iload_n 1, 1), (23, .iconst 1, 1), (24, .aload_n 0, 1), (25, .bipush 30, 2), (27, .invokevirtual 78, 3), (30, .iadd, 1), (31, .iastore, 1), (32, .aload_n 0, 1), (33, .getfield 19, 3), (36, .iload_n 1, 1), (37, .aload_n 0, 1), (38, .bipush 60, 2), (40, .invokevirtual 78, 3), (43, .iastore, 1), (44, .aload_n 0, 1), (45, .getfield 22, 3), (48, .iload_n 1, 1), (49, .iconst 1, 1), (50, .aload_n 0, 1), (51, .bipush 20, 2), (53, .invokevirtual 78, 3), (56, .iadd, 1), (57, .iastore, 1), (58, .aload_n 0, 1), (59, .getfield 25, 3), (62, .iload_n 1, 1), (63, .bipush 30, 2), (65, .aload_n 0, 1), (66, .bipush 60, 2), (68, .invokevirtual 78, 3), (71, .iadd, 1), (72, .iastore, 1), (73, .new 99, 3), (76, .dup, 1), (77, .invokespecial 101, 3), (80, .ldc 132, 2), (82, .invokevirtual 104, 3), (85, .bipush 97, 2), (87, .iload_n 1, 1), (88, .iadd, 1), (89, .i2c, 1), (90, .invokevirtual 121, 3), (93, .ldc 111, 2), (95, .invokevirtual 104, 3), (98, .aload_n 0, 1), (99, .getfield 13, 3), (102, .iload_n 1, 1), (103, .iaload, 1), (104, .ifCond .ge 8, 3), (107, .ldc 134, 2), (109, .goto 31, 3), (112, .new 99, 3), (115, .dup, 1), (116, .invokespecial 101, 3), (119, .ldc 136, 2), (121, .invokevirtual 104, 3), (124, .bipush 97, 2), (126, .aload_n 0, 1), (127, .getfield 13, 3), (130, .iload_n 1, 1), (131, .iaload, 1), (132, .iadd, 1), (133, .i2c, 1), (134, .invokevirtual 121, 3), (137, .invokevirtual 115, 3), (140, .invokevirtual 104, 3), (143, .ldc 111, 2), (145, .invokevirtual 104, 3), (148, .aload_n 0, 1), (149, .getfield 16, 3), (152, .iload_n 1, 1), (153, .iaload, 1), (154, .invokevirtual 108, 3), (157, .ldc 111, 2), (159, .invokevirtual 104, 3), (162, .aload_n 0, 1), (163, .getfield 19, 3), (166, .iload_n 1, 1), (167, .iaload, 1), (168, .invokevirtual 108, 3), (171, .ldc 111, 2), (173, .invokevirtual 104, 3), (176, .aload_n 0, 1), (177, .getfield 22, 3), (180, .iload_n 1, 1), (181, .iaload, 1), (182, .invokevirtual 108, 3), (185, .ldc 111, 2), (187, .invokevirtual 104, 3), (190, .aload_n 0, 1), (191, .getfield 25, 3), (194, .iload_n 1, 1), (195, .iaload, 1), (196, .invokevirtual 108, 3), (199, .ldc 113, 2), (201, .invokevirtual 104, 3), (204, .invokevirtual 115, 3), (207, .areturn, 1)] : List (Nat × Instr × Nat)), decode cL_span q.1 = .ok (q.2.1, q.2.2) := by decide +kernel
set_option maxRecDepth 100000 in
theorem D_L_law : ∀ q ∈ ([(0, .new 8, 3), (3, .dup, 1), (4, .invokespecial 138, 3), (7, .astore_n 1, 1), (8, .aload_n 1, 1), (9, .aload_n 0, 1), (10, .putfield 7, 3), (13, .new 57, 3), (16, .dup, 1), (17, .invokespecial 139, 3), (20, .astore_n 2, 1), (21, .aload_n 2, 1), (22, .aload_n 1, 1), (23, .invokevirtual 140, 3), (26, .invokestatic 143, 3), (29, .aload_n 1, 1), (30, .getfield 93, 3), (33, .if_icmp .ne 17, 3), (36, .aload_n 2, 1), (37, .invokevirtual 146, 3), (40, .ifCond .ne 10, 3), (43, .aload_n 2, 1), (44, .invokevirtual 149, 3), (47, .ifCond .eq 5, 3), (50, .iconst 0, 1), (51, .ireturn, 1), (52, .aload_n 1, 1), (53, .getfield 39, 3), (56, .astore_n 3, 1), (57, .aload_n 3, 1), (58, .arraylength, 1), (59, .istore 4, 2), (61, .iconst 0, 1), (62, .istore 5, 2), (64, .iload 5, 2), (66, .iload 4, 2), (68, .if_icmp .ge 21, 3), (71, .aload_n 3, 1), (72, .iload 5, 2), (74, .aaload, 1), (75, .astore 6, 2), (77, .aload 6, 2), (79, .iconst (-1), 1), (80, .invokestatic 152, 3), (83, .iinc 5 1, 3), (86, .goto (-22), 3), (89, .iconst 0, 1), (90, .istore_n 3, 1), (91, .iconst 0, 1), (92, .istore 4, 2), (94, .iload 4, 2), (96, .bipush 15, 2), (98, .if_icmp .ge 147, 3), (101, .aload_n 1, 1), (102, .aload_n 1, 1), (103, .getfield 81, 3), (106, .invokevirtual 78, 3), (109, .istore 5, 2), (111, .aload_n 1, 1), (112, .aload_n 1, 1), (113, .getfield 93, 3), (116, .invokevirtual 78, 3), (119, .istore 6, 2), (121, .aload_n 1, 1), (122, .aload_n 1, 1), (123, .getfield 96, 3), (126, .invokevirtual 78, 3), (129, .istore 7, 2), (131, .aload_n 1, 1), (132, .iload 5, 2), (134, .iload 6, 2), (136, .iload 7, 2), (138, .invokevirtual 158, 3), (141, .istore 8, 2), (143, .aload_n 2, 1), (144, .iload 5, 2), (146, .iload 6, 2), (148, .iload 7, 2), (150, .invokevirtual 162, 3), (153, .iload 8, 2), (155, .if_icmp .ne 34, 3), (158, .aload_n 2, 1), (159, .iload 5, 2), (161, .iload 6, 2), (163, .iload 7, 2), (165, .invokevirtual 165, 3), (168, .ifCond .lt 7, 3), (171, .iconst 1, 1), (172, .goto 4, 3), (175, .iconst 0, 1), (176, .iload 8, 2), (178, .ifCond .ne 7, 3), (181, .iconst 1, 1), (182, .goto 4, 3), (185, .iconst 0, 1), (186, .if_icmp .eq 5, 3), (189, .iconst 0, 1), (190, .ireturn, 1), (191, .iload 8, 2), (193, .ifCond .ne 15, 3), (196, .aload_n 1, 1), (197, .getfield 39, 3), (200, .iload 6, 2), (202, .aaload, 1), (203, .iload 5, 2), (205, .iload 7, 2), (207, .iastore, 1), (208, .iload_n 3, 1), (209, .iload 8, 2), (211, .ifCond .ne 7, 3), (214, .iconst 1, 1), (215, .goto 4, 3), (218, .iconst 0, 1), (219, .iadd, 1), (220, .istore_n 3, 1), (221, .aload_n 2, 1), (222, .invokevirtual 149, 3), (225, .iload_n 3, 1), (226, .if_icmp .ne 11, 3), (229, .aload_n 1, 1), (230, .aload_n 2, 1), (231, .invokevirtual 168, 3), (234, .ifCond .ne 5, 3), (237, .iconst 0, 1), (238, .ireturn, 1), (239, .iinc 4 1, 3), (242, .goto (-148), 3), (245, .iload_n 3, 1), (246, .istore 4, 2), (248, .iload 4, 2), (250, .ifCond .le 33, 3), (253, .aload_n 2, 1), (254, .invokevirtual 172, 3), (257, .iload 4, 2), (259, .iconst 1, 1), (260, .isub, 1), (261, .if_icmp .ne 14, 3), (264, .aload_n 2, 1), (265, .invokevirtual 149, 3), (268, .iload 4, 2), (270, .iconst 1, 1), (271, .isub, 1), (272, .if_icmp .eq 5, 3), (275, .iconst 0, 1), (276, .ireturn, 1), (277, .iinc 4 (-1), 3), (280, .goto (-32), 3), (283, .aload_n 2, 1), (284, .invokevirtual 172, 3), (287, .ldc 175, 2), (289, .if_icmp .ne 18, 3), (292, .aload_n 2, 1), (293, .aload_n 1, 1), (294, .getfield 93, 3), (297, .invokestatic 176, 3), (300, .ifCond .eq 7, 3), (303, .iconst 1, 1), (304, .goto 4, 3), (307, .iconst 0, 1), (308, .ireturn, 1)] : List (Nat × Instr × Nat)), decode cL_law q.1 = .ok (q.2.1, q.2.2) := by decide +kernel
set_option maxRecDepth 100000 in
theorem D_L_isRefused : ∀ q ∈ ([(0, .aload_n 0, 1), (1, .iload_n 1, 1), (2, .invokevirtual 180, 3), (5, .iconst 5, 1), (6, .if_icmp .ne 7, 3), (9, .iconst 1, 1), (10, .goto 4, 3), (13, .iconst 0, 1), (14, .ireturn, 1), (15, .astore_n 2, 1), (16, .iconst 1, 1), (17, .ireturn, 1)] : List (Nat × Instr × Nat)), decode cL_isRefused q.1 = .ok (q.2.1, q.2.2) := by decide +kernel
set_option maxRecDepth 100000 in
theorem D_L_end : ∀ q ∈ ([(0, .aload_n 0, 1), (1, .getfield 19, 3), (4, .iload_n 1, 1), (5, .iaload, 1), (6, .istore_n 3, 1), (7, .aload_n 0, 1), (8, .iconst 0, 1), (9, .putfield 185, 3), (12, .iconst 0, 1), (13, .istore 4, 2), (15, .iload 4, 2), (17, .iload_n 2, 1), (18, .if_icmp .gt 68, 3), (21, .aload_n 0, 1), (22, .getfield 39, 3), (25, .iload_n 1, 1), (26, .aaload, 1), (27, .iload 4, 2), (29, .iaload, 1), (30, .ifCond .lt 16, 3), (33, .iconst 0, 1), (34, .istore_n 3, 1), (35, .aload_n 0, 1), (36, .aload_n 0, 1), (37, .getfield 87, 3), (40, .putfield 185, 3), (43, .goto 37, 3), (46, .aload_n 0, 1), (47, .getfield 185, 3), (50, .ifCond .le 16, 3), (53, .aload_n 0, 1), (54, .dup, 1), (55, .getfield 185, 3), (58, .iconst 1, 1), (59, .isub, 1), (60, .putfield 185, 3), (63, .goto 17, 3), (66, .bipush 100, 2), (68, .iload_n 3, 1), (69, .aload_n 0, 1), (70, .getfield 22, 3), (73, .iload_n 1, 1), (74, .iaload, 1), (75, .iadd, 1), (76, .invokestatic 188, 3), (79, .istore_n 3, 1), (80, .iinc 4 1, 3), (83, .goto (-68), 3), (86, .iload_n 3, 1), (87, .ireturn, 1)] : List (Nat × Instr × Nat)), decode cL_end q.1 = .ok (q.2.1, q.2.2) := by decide +kernel
set_option maxRecDepth 100000 in
theorem D_L_begin : ∀ q ∈ ([(0, .aload_n 0, 1), (1, .iconst 0, 1), (2, .putfield 185, 3), (5, .iload_n 2, 1), (6, .ifCond .ne 12, 3), (9, .aload_n 0, 1), (10, .getfield 19, 3), (13, .iload_n 1, 1), (14, .iaload, 1), (15, .goto 11, 3), (18, .aload_n 0, 1), (19, .iload_n 1, 1), (20, .iload_n 2, 1), (21, .iconst 1, 1), (22, .isub, 1), (23, .invokevirtual 193, 3), (26, .ireturn, 1)] : List (Nat × Instr × Nat)), decode cL_begin q.1 = .ok (q.2.1, q.2.2) := by decide +kernel
set_option maxRecDepth 100000 in
theorem D_L_effort : ∀ q ∈ ([(0, .aload_n 0, 1), (1, .getfield 16, 3), (4, .iload_n 1, 1), (5, .iaload, 1), (6, .bipush 100, 2), (8, .aload_n 0, 1), (9, .iload_n 1, 1), (10, .iload_n 2, 1), (11, .invokevirtual 196, 3), (14, .iadd, 1), (15, .imul, 1), (16, .bipush 100, 2), (18, .idiv, 1), (19, .ireturn, 1)] : List (Nat × Instr × Nat)), decode cL_effort q.1 = .ok (q.2.1, q.2.2) := by decide +kernel
set_option maxRecDepth 100000 in
theorem D_L_load_ : ∀ q ∈ ([(0, .iconst 0, 1), (1, .istore_n 3, 1), (2, .iconst 0, 1), (3, .istore 4, 2), (5, .iload 4, 2), (7, .aload_n 0, 1), (8, .getfield 93, 3), (11, .if_icmp .ge 36, 3), (14, .iload_n 3, 1), (15, .aload_n 0, 1), (16, .getfield 39, 3), (19, .iload 4, 2), (21, .aaload, 1), (22, .iload_n 2, 1), (23, .iaload, 1), (24, .iload_n 1, 1), (25, .if_icmp .ne 13, 3), (28, .aload_n 0, 1), (29, .iload 4, 2), (31, .iload_n 2, 1), (32, .invokevirtual 199, 3), (35, .goto 4, 3), (38, .iconst 0, 1), (39, .iadd, 1), (40, .istore_n 3, 1), (41, .iinc 4 1, 3), (44, .goto (-39), 3), (47, .iload_n 3, 1), (48, .ireturn, 1)] : List (Nat × Instr × Nat)), decode cL_load_ q.1 = .ok (q.2.1, q.2.2) := by decide +kernel
set_option maxRecDepth 100000 in
theorem D_L_refused : ∀ q ∈ ([(0, .aload_n 0, 1), (1, .getfield 39, 3), (4, .iload_n 2, 1), (5, .aaload, 1), (6, .iload_n 1, 1), (7, .iaload, 1), (8, .ifCond .lt 5, 3), (11, .iconst 1, 1), (12, .ireturn, 1), (13, .iconst 4, 1), (14, .newarray .boolean, 2), (16, .astore 4, 2), (18, .iconst 0, 1), (19, .istore 5, 2), (21, .iconst 0, 1), (22, .istore 6, 2), (24, .iload 6, 2), (26, .aload_n 0, 1), (27, .getfield 93, 3), (30, .if_icmp .ge 67, 3), (33, .aload_n 0, 1), (34, .getfield 39, 3), (37, .iload 6, 2), (39, .aaload, 1), (40, .iload_n 1, 1), (41, .iaload, 1), (42, .ifCond .ge 9, 3), (45, .iload 6, 2), (47, .iload_n 2, 1), (48, .if_icmp .ne 43, 3), (51, .aload_n 0, 1), (52, .getfield 13, 3), (55, .iload 6, 2), (57, .iaload, 1), (58, .ifCond .lt 33, 3), (61, .aload 4, 2), (63, .aload_n 0, 1), (64, .getfield 13, 3), (67, .iload 6, 2), (69, .iaload, 1), (70, .baload, 1), (71, .ifCond .eq 6, 3), (74, .goto 17, 3), (77, .aload 4, 2), (79, .aload_n 0, 1), (80, .getfield 13, 3), (83, .iload 6, 2), (85, .iaload, 1), (86, .iconst 1, 1), (87, .bastore, 1), (88, .iinc 5 1, 3), (91, .iinc 6 1, 3), (94, .goto (-70), 3), (97, .aload_n 0, 1), (98, .getfield 13, 3), (101, .iload_n 2, 1), (102, .iaload, 1), (103, .ifCond .lt 14, 3), (106, .iload 5, 2), (108, .aload_n 0, 1), (109, .getfield 84, 3), (112, .if_icmp .le 5, 3), (115, .iconst 3, 1), (116, .ireturn, 1), (117, .aload_n 0, 1), (118, .iload_n 3, 1), (119, .iload_n 1, 1), (120, .invokevirtual 202, 3), (123, .aload_n 0, 1), (124, .iload_n 2, 1), (125, .iload_n 1, 1), (126, .invokevirtual 199, 3), (129, .iadd, 1), (130, .aload_n 0, 1), (131, .getfield 28, 3), (134, .iload_n 3, 1), (135, .iaload, 1), (136, .aload_n 0, 1), (137, .getfield 34, 3), (140, .iload_n 1, 1), (141, .iaload, 1), (142, .imul, 1), (143, .if_icmp .le 7, 3), (146, .iconst 4, 1), (147, .goto 4, 3), (150, .iconst 0, 1), (151, .ireturn, 1)] : List (Nat × Instr × Nat)), decode cL_refused q.1 = .ok (q.2.1, q.2.2) := by decide +kernel
set_option maxRecDepth 100000 in
theorem D_L_isSame : ∀ q ∈ ([(0, .iconst 0, 1), (1, .istore_n 2, 1), (2, .iload_n 2, 1), (3, .aload_n 0, 1), (4, .getfield 93, 3), (7, .if_icmp .ge 128, 3), (10, .ldc 175, 2), (12, .istore_n 3, 1), (13, .aload_n 0, 1), (14, .getfield 81, 3), (17, .iconst 1, 1), (18, .isub, 1), (19, .istore 4, 2), (21, .iload 4, 2), (23, .ifCond .lt 95, 3), (26, .aload_n 1, 1), (27, .iload_n 2, 1), (28, .iload 4, 2), (30, .invokevirtual 204, 3), (33, .aload_n 0, 1), (34, .iload_n 2, 1), (35, .iload 4, 2), (37, .invokevirtual 193, 3), (40, .if_icmp .ne 51, 3), (43, .aload_n 1, 1), (44, .iload_n 2, 1), (45, .iload 4, 2), (47, .invokevirtual 207, 3), (50, .aload_n 0, 1), (51, .iload_n 2, 1), (52, .iload 4, 2), (54, .invokevirtual 196, 3), (57, .if_icmp .ne 34, 3), (60, .aload_n 1, 1), (61, .iload_n 2, 1), (62, .iload 4, 2), (64, .invokevirtual 210, 3), (67, .aload_n 0, 1), (68, .getfield 185, 3), (71, .if_icmp .ne 20, 3), (74, .aload_n 1, 1), (75, .iload_n 2, 1), (76, .iload 4, 2), (78, .invokevirtual 213, 3), (81, .aload_n 0, 1), (82, .iload_n 2, 1), (83, .iload 4, 2), (85, .invokevirtual 199, 3), (88, .if_icmp .eq 5, 3), (91, .iconst 0, 1), (92, .ireturn, 1), (93, .aload_n 0, 1), (94, .iload_n 2, 1), (95, .iload 4, 2), (97, .invokevirtual 193, 3), (100, .aload_n 0, 1), (101, .getfield 25, 3), (104, .iload_n 2, 1), (105, .iaload, 1), (106, .if_icmp .le 6, 3), (109, .iload 4, 2), (111, .istore_n 3, 1), (112, .iinc 4 (-1), 3), (115, .goto (-94), 3), (118, .aload_n 1, 1), (119, .iload_n 2, 1), (120, .invokevirtual 180, 3), (123, .iload_n 3, 1), (124, .if_icmp .eq 5, 3), (127, .iconst 0, 1), (128, .ireturn, 1), (129, .iinc 2 1, 3), (132, .goto (-130), 3), (135, .iconst 0, 1), (136, .istore_n 2, 1), (137, .iload_n 2, 1), (138, .aload_n 0, 1), (139, .getfield 96, 3), (142, .if_icmp .ge 64, 3), (145, .iconst 0, 1), (146, .istore_n 3, 1), (147, .iload_n 3, 1), (148, .aload_n 0, 1), (149, .getfield 81, 3), (152, .if_icmp .ge 48, 3), (155, .aload_n 1, 1), (156, .iload_n 2, 1), (157, .iload_n 3, 1), (158, .invokevirtual 214, 3), (161, .aload_n 0, 1), (162, .iload_n 2, 1), (163, .iload_n 3, 1), (164, .invokevirtual 202, 3), (167, .if_icmp .ne 25, 3), (170, .aload_n 1, 1), (171, .iload_n 2, 1), (172, .iload_n 3, 1), (173, .invokevirtual 217, 3), (176, .aload_n 0, 1), (177, .getfield 28, 3), (180, .iload_n 2, 1), (181, .iaload, 1), (182, .aload_n 0, 1), (183, .getfield 34, 3), (186, .iload_n 3, 1), (187, .iaload, 1), (188, .imul, 1), (189, .if_icmp .eq 5, 3), (192, .iconst 0, 1), (193, .ireturn, 1), (194, .iinc 3 1, 3), (197, .goto (-50), 3), (200, .iinc 2 1, 3), (203, .goto (-66), 3), (206, .iconst 1, 1), (207, .ireturn, 1)] : List (Nat × Instr × Nat)), decode cL_isSame q.1 = .ok (q.2.1, q.2.2) := by decide +kernel
end
section
theorem inR_law : ∀ w ∈ wsL_law0, w ∈ wsL_law := fun _ h => List.mem_append_left _ (List.mem_append_left _ h)
theorem inR_1 : ∀ w ∈ wsL_law0_r1, w ∈ wsL_law := fun _ h => inR_law _ (List.mem_append_left _ (List.mem_append_left _ (List.mem_append_left _ (List.mem_append_left _ (List.mem_append_left _ (List.mem_append_left _ (List.mem_append_left _ (List.mem_append_left _ (List.mem_append_left _ (List.mem_append_left _ (List.mem_append_left _ (List.mem_append_left _ (List.mem_append_left _ (List.mem_append_left _ (List.mem_append_left _ (List.mem_append_left _ (List.mem_append_left _ h)))))))))))))))))
theorem inR_2 : ∀ w ∈ wsL_law0_r2, w ∈ wsL_law := fun _ h => inR_law _ (List.mem_append_left _ (List.mem_append_left _ (List.mem_append_left _ (List.mem_append_left _ (List.mem_append_left _ (List.mem_append_left _ (List.mem_append_left _ (List.mem_append_left _ (List.mem_append_left _ (List.mem_append_left _ (List.mem_append_left _ (List.mem_append_left _ (List.mem_append_left _ (List.mem_append_left _ (List.mem_append_left _ (List.mem_append_left _ (List.mem_append_right _ (List.mem_append_left _ h))))))))))))))))))
theorem inR_3 : ∀ w ∈ wsL_law0_r3, w ∈ wsL_law := fun _ h => inR_law _ (List.mem_append_left _ (List.mem_append_left _ (List.mem_append_left _ (List.mem_append_left _ (List.mem_append_left _ (List.mem_append_left _ (List.mem_append_left _ (List.mem_append_left _ (List.mem_append_left _ (List.mem_append_left _ (List.mem_append_left _ (List.mem_append_left _ (List.mem_append_left _ (List.mem_append_left _ (List.mem_append_left _ (List.mem_append_left _ (List.mem_append_right _ (List.mem_append_right _ (List.mem_append_left _ h)))))))))))))))))))
theorem inR_4 : ∀ w ∈ wsL_law0_r4, w ∈ wsL_law := fun _ h => inR_law _ (List.mem_append_left _ (List.mem_append_left _ (List.mem_append_left _ (List.mem_append_left _ (List.mem_append_left _ (List.mem_append_left _ (List.mem_append_left _ (List.mem_append_left _ (List.mem_append_left _ (List.mem_append_left _ (List.mem_append_left _ (List.mem_append_left _ (List.mem_append_left _ (List.mem_append_left _ (List.mem_append_left _ (List.mem_append_left _ (List.mem_append_right _ (List.mem_append_right _ (List.mem_append_right _ (List.mem_append_left _ h))))))))))))))))))))
theorem inR_5 : ∀ w ∈ wsL_law0_r5, w ∈ wsL_law := fun _ h => inR_law _ (List.mem_append_left _ (List.mem_append_left _ (List.mem_append_left _ (List.mem_append_left _ (List.mem_append_left _ (List.mem_append_left _ (List.mem_append_left _ (List.mem_append_left _ (List.mem_append_left _ (List.mem_append_left _ (List.mem_append_left _ (List.mem_append_left _ (List.mem_append_left _ (List.mem_append_left _ (List.mem_append_left _ (List.mem_append_left _ (List.mem_append_right _ (List.mem_append_right _ (List.mem_append_right _ (List.mem_append_right _ (List.mem_append_left _ h)))))))))))))))))))))
theorem inR_6 : ∀ w ∈ wsL_law0_r6, w ∈ wsL_law := fun _ h => inR_law _ (List.mem_append_left _ (List.mem_append_left _ (List.mem_append_left _ (List.mem_append_left _ (List.mem_append_left _ (List.mem_append_left _ (List.mem_append_left _ (List.mem_append_left _ (List.mem_append_left _ (List.mem_append_left _ (List.mem_append_left _ (List.mem_append_left _ (List.mem_append_left _ (List.mem_append_left _ (List.mem_append_left _ (List.mem_append_left _ (List.mem_append_right _ (List.mem_append_right _ (List.mem_append_right _ (List.mem_append_right _ (List.mem_append_right _ (List.mem_append_left _ h))))))))))))))))))))))
theorem inR_7 : ∀ w ∈ wsL_law0_r7, w ∈ wsL_law := fun _ h => inR_law _ (List.mem_append_left _ (List.mem_append_left _ (List.mem_append_left _ (List.mem_append_left _ (List.mem_append_left _ (List.mem_append_left _ (List.mem_append_left _ (List.mem_append_left _ (List.mem_append_left _ (List.mem_append_left _ (List.mem_append_left _ (List.mem_append_left _ (List.mem_append_left _ (List.mem_append_left _ (List.mem_append_left _ (List.mem_append_left _ (List.mem_append_right _ (List.mem_append_right _ (List.mem_append_right _ (List.mem_append_right _ (List.mem_append_right _ (List.mem_append_right _ (List.mem_append_left _ h)))))))))))))))))))))))
theorem inR_8 : ∀ w ∈ wsL_law0_r8, w ∈ wsL_law := fun _ h => inR_law _ (List.mem_append_left _ (List.mem_append_left _ (List.mem_append_left _ (List.mem_append_left _ (List.mem_append_left _ (List.mem_append_left _ (List.mem_append_left _ (List.mem_append_left _ (List.mem_append_left _ (List.mem_append_left _ (List.mem_append_left _ (List.mem_append_left _ (List.mem_append_left _ (List.mem_append_left _ (List.mem_append_left _ (List.mem_append_left _ (List.mem_append_right _ (List.mem_append_right _ (List.mem_append_right _ (List.mem_append_right _ (List.mem_append_right _ (List.mem_append_right _ (List.mem_append_right _ (List.mem_append_left _ h))))))))))))))))))))))))
theorem inR_9 : ∀ w ∈ wsL_law0_r9, w ∈ wsL_law := fun _ h => inR_law _ (List.mem_append_left _ (List.mem_append_left _ (List.mem_append_left _ (List.mem_append_left _ (List.mem_append_left _ (List.mem_append_left _ (List.mem_append_left _ (List.mem_append_left _ (List.mem_append_left _ (List.mem_append_left _ (List.mem_append_left _ (List.mem_append_left _ (List.mem_append_left _ (List.mem_append_left _ (List.mem_append_left _ (List.mem_append_left _ (List.mem_append_right _ (List.mem_append_right _ (List.mem_append_right _ (List.mem_append_right _ (List.mem_append_right _ (List.mem_append_right _ (List.mem_append_right _ (List.mem_append_right _ (List.mem_append_left _ h)))))))))))))))))))))))))
theorem inR_10 : ∀ w ∈ wsL_law0_r10, w ∈ wsL_law := fun _ h => inR_law _ (List.mem_append_left _ (List.mem_append_left _ (List.mem_append_left _ (List.mem_append_left _ (List.mem_append_left _ (List.mem_append_left _ (List.mem_append_left _ (List.mem_append_left _ (List.mem_append_left _ (List.mem_append_left _ (List.mem_append_left _ (List.mem_append_left _ (List.mem_append_left _ (List.mem_append_left _ (List.mem_append_left _ (List.mem_append_left _ (List.mem_append_right _ (List.mem_append_right _ (List.mem_append_right _ (List.mem_append_right _ (List.mem_append_right _ (List.mem_append_right _ (List.mem_append_right _ (List.mem_append_right _ (List.mem_append_right _ (List.mem_append_left _ h))))))))))))))))))))))))))
theorem inR_11 : ∀ w ∈ wsL_law0_r11, w ∈ wsL_law := fun _ h => inR_law _ (List.mem_append_left _ (List.mem_append_left _ (List.mem_append_left _ (List.mem_append_left _ (List.mem_append_left _ (List.mem_append_left _ (List.mem_append_left _ (List.mem_append_left _ (List.mem_append_left _ (List.mem_append_left _ (List.mem_append_left _ (List.mem_append_left _ (List.mem_append_left _ (List.mem_append_left _ (List.mem_append_left _ (List.mem_append_left _ (List.mem_append_right _ (List.mem_append_right _ (List.mem_append_right _ (List.mem_append_right _ (List.mem_append_right _ (List.mem_append_right _ (List.mem_append_right _ (List.mem_append_right _ (List.mem_append_right _ (List.mem_append_right _ (List.mem_append_left _ h)))))))))))))))))))))))))))
theorem inR_12 : ∀ w ∈ wsL_law0_r12, w ∈ wsL_law := fun _ h => inR_law _ (List.mem_append_left _ (List.mem_append_left _ (List.mem_append_left _ (List.mem_append_left _ (List.mem_append_left _ (List.mem_append_left _ (List.mem_append_left _ (List.mem_append_left _ (List.mem_append_left _ (List.mem_append_left _ (List.mem_append_left _ (List.mem_append_left _ (List.mem_append_left _ (List.mem_append_left _ (List.mem_append_left _ (List.mem_append_left _ (List.mem_append_right _ (List.mem_append_right _ (List.mem_append_right _ (List.mem_append_right _ (List.mem_append_right _ (List.mem_append_right _ (List.mem_append_right _ (List.mem_append_right _ (List.mem_append_right _ (List.mem_append_right _ (List.mem_append_right _ (List.mem_append_left _ h))))))))))))))))))))))))))))
theorem inR_13 : ∀ w ∈ wsL_law0_r13, w ∈ wsL_law := fun _ h => inR_law _ (List.mem_append_left _ (List.mem_append_left _ (List.mem_append_left _ (List.mem_append_left _ (List.mem_append_left _ (List.mem_append_left _ (List.mem_append_left _ (List.mem_append_left _ (List.mem_append_left _ (List.mem_append_left _ (List.mem_append_left _ (List.mem_append_left _ (List.mem_append_left _ (List.mem_append_left _ (List.mem_append_left _ (List.mem_append_left _ (List.mem_append_right _ (List.mem_append_right _ (List.mem_append_right _ (List.mem_append_right _ (List.mem_append_right _ (List.mem_append_right _ (List.mem_append_right _ (List.mem_append_right _ (List.mem_append_right _ (List.mem_append_right _ (List.mem_append_right _ (List.mem_append_right _ (List.mem_append_left _ h)))))))))))))))))))))))))))))
theorem inR_14 : ∀ w ∈ wsL_law0_r14, w ∈ wsL_law := fun _ h => inR_law _ (List.mem_append_left _ (List.mem_append_left _ (List.mem_append_left _ (List.mem_append_left _ (List.mem_append_left _ (List.mem_append_left _ (List.mem_append_left _ (List.mem_append_left _ (List.mem_append_left _ (List.mem_append_left _ (List.mem_append_left _ (List.mem_append_left _ (List.mem_append_left _ (List.mem_append_left _ (List.mem_append_left _ (List.mem_append_left _ (List.mem_append_right _ (List.mem_append_right _ (List.mem_append_right _ (List.mem_append_right _ (List.mem_append_right _ (List.mem_append_right _ (List.mem_append_right _ (List.mem_append_right _ (List.mem_append_right _ (List.mem_append_right _ (List.mem_append_right _ (List.mem_append_right _ (List.mem_append_right _ (List.mem_append_left _ h))))))))))))))))))))))))))))))
theorem inR_15 : ∀ w ∈ wsL_law0_r15, w ∈ wsL_law := fun _ h => inR_law _ (List.mem_append_left _ (List.mem_append_left _ (List.mem_append_left _ (List.mem_append_left _ (List.mem_append_left _ (List.mem_append_left _ (List.mem_append_left _ (List.mem_append_left _ (List.mem_append_left _ (List.mem_append_left _ (List.mem_append_left _ (List.mem_append_left _ (List.mem_append_left _ (List.mem_append_left _ (List.mem_append_left _ (List.mem_append_left _ (List.mem_append_right _ (List.mem_append_right _ (List.mem_append_right _ (List.mem_append_right _ (List.mem_append_right _ (List.mem_append_right _ (List.mem_append_right _ (List.mem_append_right _ (List.mem_append_right _ (List.mem_append_right _ (List.mem_append_right _ (List.mem_append_right _ (List.mem_append_right _ (List.mem_append_right _ (List.mem_append_left _ h)))))))))))))))))))))))))))))))
theorem inR_16 : ∀ w ∈ wsL_law0_r16, w ∈ wsL_law := fun _ h => inR_law _ (List.mem_append_left _ (List.mem_append_left _ (List.mem_append_left _ (List.mem_append_left _ (List.mem_append_left _ (List.mem_append_left _ (List.mem_append_left _ (List.mem_append_left _ (List.mem_append_left _ (List.mem_append_left _ (List.mem_append_left _ (List.mem_append_left _ (List.mem_append_left _ (List.mem_append_left _ (List.mem_append_left _ (List.mem_append_left _ (List.mem_append_right _ (List.mem_append_right _ (List.mem_append_right _ (List.mem_append_right _ (List.mem_append_right _ (List.mem_append_right _ (List.mem_append_right _ (List.mem_append_right _ (List.mem_append_right _ (List.mem_append_right _ (List.mem_append_right _ (List.mem_append_right _ (List.mem_append_right _ (List.mem_append_right _ (List.mem_append_right _ (List.mem_append_left _ h))))))))))))))))))))))))))))))))
theorem inR_17 : ∀ w ∈ wsL_law0_r17, w ∈ wsL_law := fun _ h => inR_law _ (List.mem_append_left _ (List.mem_append_left _ (List.mem_append_left _ (List.mem_append_left _ (List.mem_append_left _ (List.mem_append_left _ (List.mem_append_left _ (List.mem_append_left _ (List.mem_append_left _ (List.mem_append_left _ (List.mem_append_left _ (List.mem_append_left _ (List.mem_append_left _ (List.mem_append_left _ (List.mem_append_left _ (List.mem_append_left _ (List.mem_append_right _ (List.mem_append_right _ (List.mem_append_right _ (List.mem_append_right _ (List.mem_append_right _ (List.mem_append_right _ (List.mem_append_right _ (List.mem_append_right _ (List.mem_append_right _ (List.mem_append_right _ (List.mem_append_right _ (List.mem_append_right _ (List.mem_append_right _ (List.mem_append_right _ (List.mem_append_right _ (List.mem_append_right _ (List.mem_append_left _ h)))))))))))))))))))))))))))))))))
theorem inR_18 : ∀ w ∈ wsL_law0_r18, w ∈ wsL_law := fun _ h => inR_law _ (List.mem_append_left _ (List.mem_append_left _ (List.mem_append_left _ (List.mem_append_left _ (List.mem_append_left _ (List.mem_append_left _ (List.mem_append_left _ (List.mem_append_left _ (List.mem_append_left _ (List.mem_append_left _ (List.mem_append_left _ (List.mem_append_left _ (List.mem_append_left _ (List.mem_append_left _ (List.mem_append_left _ (List.mem_append_left _ (List.mem_append_right _ (List.mem_append_right _ (List.mem_append_right _ (List.mem_append_right _ (List.mem_append_right _ (List.mem_append_right _ (List.mem_append_right _ (List.mem_append_right _ (List.mem_append_right _ (List.mem_append_right _ (List.mem_append_right _ (List.mem_append_right _ (List.mem_append_right _ (List.mem_append_right _ (List.mem_append_right _ (List.mem_append_right _ (List.mem_append_right _ (List.mem_append_left _ h))))))))))))))))))))))))))))))))))
theorem inR_19 : ∀ w ∈ wsL_law0_r19, w ∈ wsL_law := fun _ h => inR_law _ (List.mem_append_left _ (List.mem_append_left _ (List.mem_append_left _ (List.mem_append_left _ (List.mem_append_left _ (List.mem_append_left _ (List.mem_append_left _ (List.mem_append_left _ (List.mem_append_left _ (List.mem_append_left _ (List.mem_append_left _ (List.mem_append_left _ (List.mem_append_left _ (List.mem_append_left _ (List.mem_append_left _ (List.mem_append_left _ (List.mem_append_right _ (List.mem_append_right _ (List.mem_append_right _ (List.mem_append_right _ (List.mem_append_right _ (List.mem_append_right _ (List.mem_append_right _ (List.mem_append_right _ (List.mem_append_right _ (List.mem_append_right _ (List.mem_append_right _ (List.mem_append_right _ (List.mem_append_right _ (List.mem_append_right _ (List.mem_append_right _ (List.mem_append_right _ (List.mem_append_right _ (List.mem_append_right _ (List.mem_append_left _ h)))))))))))))))))))))))))))))))))))
theorem inR_20 : ∀ w ∈ wsL_law0_r20, w ∈ wsL_law := fun _ h => inR_law _ (List.mem_append_left _ (List.mem_append_left _ (List.mem_append_left _ (List.mem_append_left _ (List.mem_append_left _ (List.mem_append_left _ (List.mem_append_left _ (List.mem_append_left _ (List.mem_append_left _ (List.mem_append_left _ (List.mem_append_left _ (List.mem_append_left _ (List.mem_append_left _ (List.mem_append_left _ (List.mem_append_left _ (List.mem_append_left _ (List.mem_append_right _ (List.mem_append_right _ (List.mem_append_right _ (List.mem_append_right _ (List.mem_append_right _ (List.mem_append_right _ (List.mem_append_right _ (List.mem_append_right _ (List.mem_append_right _ (List.mem_append_right _ (List.mem_append_right _ (List.mem_append_right _ (List.mem_append_right _ (List.mem_append_right _ (List.mem_append_right _ (List.mem_append_right _ (List.mem_append_right _ (List.mem_append_right _ (List.mem_append_right _ (List.mem_append_left _ h))))))))))))))))))))))))))))))))))))
theorem inR_21 : ∀ w ∈ wsL_law0_r21, w ∈ wsL_law := fun _ h => inR_law _ (List.mem_append_left _ (List.mem_append_left _ (List.mem_append_left _ (List.mem_append_left _ (List.mem_append_left _ (List.mem_append_left _ (List.mem_append_left _ (List.mem_append_left _ (List.mem_append_left _ (List.mem_append_left _ (List.mem_append_left _ (List.mem_append_left _ (List.mem_append_left _ (List.mem_append_left _ (List.mem_append_left _ (List.mem_append_left _ (List.mem_append_right _ (List.mem_append_right _ (List.mem_append_right _ (List.mem_append_right _ (List.mem_append_right _ (List.mem_append_right _ (List.mem_append_right _ (List.mem_append_right _ (List.mem_append_right _ (List.mem_append_right _ (List.mem_append_right _ (List.mem_append_right _ (List.mem_append_right _ (List.mem_append_right _ (List.mem_append_right _ (List.mem_append_right _ (List.mem_append_right _ (List.mem_append_right _ (List.mem_append_right _ (List.mem_append_right _ (List.mem_append_left _ h)))))))))))))))))))))))))))))))))))))
theorem inR_22 : ∀ w ∈ wsL_law0_r22, w ∈ wsL_law := fun _ h => inR_law _ (List.mem_append_left _ (List.mem_append_left _ (List.mem_append_left _ (List.mem_append_left _ (List.mem_append_left _ (List.mem_append_left _ (List.mem_append_left _ (List.mem_append_left _ (List.mem_append_left _ (List.mem_append_left _ (List.mem_append_left _ (List.mem_append_left _ (List.mem_append_left _ (List.mem_append_left _ (List.mem_append_left _ (List.mem_append_left _ (List.mem_append_right _ (List.mem_append_right _ (List.mem_append_right _ (List.mem_append_right _ (List.mem_append_right _ (List.mem_append_right _ (List.mem_append_right _ (List.mem_append_right _ (List.mem_append_right _ (List.mem_append_right _ (List.mem_append_right _ (List.mem_append_right _ (List.mem_append_right _ (List.mem_append_right _ (List.mem_append_right _ (List.mem_append_right _ (List.mem_append_right _ (List.mem_append_right _ (List.mem_append_right _ (List.mem_append_right _ (List.mem_append_right _ (List.mem_append_left _ h))))))))))))))))))))))))))))))))))))))
theorem inR_23 : ∀ w ∈ wsL_law0_r23, w ∈ wsL_law := fun _ h => inR_law _ (List.mem_append_left _ (List.mem_append_left _ (List.mem_append_left _ (List.mem_append_left _ (List.mem_append_left _ (List.mem_append_left _ (List.mem_append_left _ (List.mem_append_left _ (List.mem_append_left _ (List.mem_append_left _ (List.mem_append_left _ (List.mem_append_left _ (List.mem_append_left _ (List.mem_append_left _ (List.mem_append_left _ (List.mem_append_left _ (List.mem_append_right _ (List.mem_append_right _ (List.mem_append_right _ (List.mem_append_right _ (List.mem_append_right _ (List.mem_append_right _ (List.mem_append_right _ (List.mem_append_right _ (List.mem_append_right _ (List.mem_append_right _ (List.mem_append_right _ (List.mem_append_right _ (List.mem_append_right _ (List.mem_append_right _ (List.mem_append_right _ (List.mem_append_right _ (List.mem_append_right _ (List.mem_append_right _ (List.mem_append_right _ (List.mem_append_right _ (List.mem_append_right _ (List.mem_append_right _ (List.mem_append_left _ h)))))))))))))))))))))))))))))))))))))))
theorem inR_24 : ∀ w ∈ wsL_law0_r24, w ∈ wsL_law := fun _ h => inR_law _ (List.mem_append_left _ (List.mem_append_left _ (List.mem_append_left _ (List.mem_append_left _ (List.mem_append_left _ (List.mem_append_left _ (List.mem_append_left _ (List.mem_append_left _ (List.mem_append_left _ (List.mem_append_left _ (List.mem_append_left _ (List.mem_append_left _ (List.mem_append_left _ (List.mem_append_left _ (List.mem_append_left _ (List.mem_append_left _ (List.mem_append_right _ (List.mem_append_right _ (List.mem_append_right _ (List.mem_append_right _ (List.mem_append_right _ (List.mem_append_right _ (List.mem_append_right _ (List.mem_append_right _ (List.mem_append_right _ (List.mem_append_right _ (List.mem_append_right _ (List.mem_append_right _ (List.mem_append_right _ (List.mem_append_right _ (List.mem_append_right _ (List.mem_append_right _ (List.mem_append_right _ (List.mem_append_right _ (List.mem_append_right _ (List.mem_append_right _ (List.mem_append_right _ (List.mem_append_right _ (List.mem_append_right _ (List.mem_append_left _ h))))))))))))))))))))))))))))))))))))))))
theorem inR_25 : ∀ w ∈ wsL_law0_r25, w ∈ wsL_law := fun _ h => inR_law _ (List.mem_append_left _ (List.mem_append_left _ (List.mem_append_left _ (List.mem_append_left _ (List.mem_append_left _ (List.mem_append_left _ (List.mem_append_left _ (List.mem_append_left _ (List.mem_append_left _ (List.mem_append_left _ (List.mem_append_left _ (List.mem_append_left _ (List.mem_append_left _ (List.mem_append_left _ (List.mem_append_left _ (List.mem_append_left _ (List.mem_append_right _ (List.mem_append_right _ (List.mem_append_right _ (List.mem_append_right _ (List.mem_append_right _ (List.mem_append_right _ (List.mem_append_right _ (List.mem_append_right _ (List.mem_append_right _ (List.mem_append_right _ (List.mem_append_right _ (List.mem_append_right _ (List.mem_append_right _ (List.mem_append_right _ (List.mem_append_right _ (List.mem_append_right _ (List.mem_append_right _ (List.mem_append_right _ (List.mem_append_right _ (List.mem_append_right _ (List.mem_append_right _ (List.mem_append_right _ (List.mem_append_right _ (List.mem_append_right _ (List.mem_append_left _ h)))))))))))))))))))))))))))))))))))))))))
theorem inR_26 : ∀ w ∈ wsL_law0_r26, w ∈ wsL_law := fun _ h => inR_law _ (List.mem_append_left _ (List.mem_append_left _ (List.mem_append_left _ (List.mem_append_left _ (List.mem_append_left _ (List.mem_append_left _ (List.mem_append_left _ (List.mem_append_left _ (List.mem_append_left _ (List.mem_append_left _ (List.mem_append_left _ (List.mem_append_left _ (List.mem_append_left _ (List.mem_append_left _ (List.mem_append_left _ (List.mem_append_left _ (List.mem_append_right _ (List.mem_append_right _ (List.mem_append_right _ (List.mem_append_right _ (List.mem_append_right _ (List.mem_append_right _ (List.mem_append_right _ (List.mem_append_right _ (List.mem_append_right _ (List.mem_append_right _ (List.mem_append_right _ (List.mem_append_right _ (List.mem_append_right _ (List.mem_append_right _ (List.mem_append_right _ (List.mem_append_right _ (List.mem_append_right _ (List.mem_append_right _ (List.mem_append_right _ (List.mem_append_right _ (List.mem_append_right _ (List.mem_append_right _ (List.mem_append_right _ (List.mem_append_right _ (List.mem_append_right _ (List.mem_append_left _ h))))))))))))))))))))))))))))))))))))))))))
theorem inR_27 : ∀ w ∈ wsL_law0_r27, w ∈ wsL_law := fun _ h => inR_law _ (List.mem_append_left _ (List.mem_append_left _ (List.mem_append_left _ (List.mem_append_left _ (List.mem_append_left _ (List.mem_append_left _ (List.mem_append_left _ (List.mem_append_left _ (List.mem_append_left _ (List.mem_append_left _ (List.mem_append_left _ (List.mem_append_left _ (List.mem_append_left _ (List.mem_append_left _ (List.mem_append_left _ (List.mem_append_left _ (List.mem_append_right _ (List.mem_append_right _ (List.mem_append_right _ (List.mem_append_right _ (List.mem_append_right _ (List.mem_append_right _ (List.mem_append_right _ (List.mem_append_right _ (List.mem_append_right _ (List.mem_append_right _ (List.mem_append_right _ (List.mem_append_right _ (List.mem_append_right _ (List.mem_append_right _ (List.mem_append_right _ (List.mem_append_right _ (List.mem_append_right _ (List.mem_append_right _ (List.mem_append_right _ (List.mem_append_right _ (List.mem_append_right _ (List.mem_append_right _ (List.mem_append_right _ (List.mem_append_right _ (List.mem_append_right _ (List.mem_append_right _ (List.mem_append_left _ h)))))))))))))))))))))))))))))))))))))))))))
theorem inR_28 : ∀ w ∈ wsL_law0_r28, w ∈ wsL_law := fun _ h => inR_law _ (List.mem_append_left _ (List.mem_append_left _ (List.mem_append_left _ (List.mem_append_left _ (List.mem_append_left _ (List.mem_append_left _ (List.mem_append_left _ (List.mem_append_left _ (List.mem_append_left _ (List.mem_append_left _ (List.mem_append_left _ (List.mem_append_left _ (List.mem_append_left _ (List.mem_append_left _ (List.mem_append_left _ (List.mem_append_left _ (List.mem_append_right _ (List.mem_append_right _ (List.mem_append_right _ (List.mem_append_right _ (List.mem_append_right _ (List.mem_append_right _ (List.mem_append_right _ (List.mem_append_right _ (List.mem_append_right _ (List.mem_append_right _ (List.mem_append_right _ (List.mem_append_right _ (List.mem_append_right _ (List.mem_append_right _ (List.mem_append_right _ (List.mem_append_right _ (List.mem_append_right _ (List.mem_append_right _ (List.mem_append_right _ (List.mem_append_right _ (List.mem_append_right _ (List.mem_append_right _ (List.mem_append_right _ (List.mem_append_right _ (List.mem_append_right _ (List.mem_append_right _ (List.mem_append_right _ (List.mem_append_left _ h))))))))))))))))))))))))))))))))))))))))))))
theorem inR_29 : ∀ w ∈ wsL_law0_r29, w ∈ wsL_law := fun _ h => inR_law _ (List.mem_append_left _ (List.mem_append_left _ (List.mem_append_left _ (List.mem_append_left _ (List.mem_append_left _ (List.mem_append_left _ (List.mem_append_left _ (List.mem_append_left _ (List.mem_append_left _ (List.mem_append_left _ (List.mem_append_left _ (List.mem_append_left _ (List.mem_append_left _ (List.mem_append_left _ (List.mem_append_left _ (List.mem_append_left _ (List.mem_append_right _ (List.mem_append_right _ (List.mem_append_right _ (List.mem_append_right _ (List.mem_append_right _ (List.mem_append_right _ (List.mem_append_right _ (List.mem_append_right _ (List.mem_append_right _ (List.mem_append_right _ (List.mem_append_right _ (List.mem_append_right _ (List.mem_append_right _ (List.mem_append_right _ (List.mem_append_right _ (List.mem_append_right _ (List.mem_append_right _ (List.mem_append_right _ (List.mem_append_right _ (List.mem_append_right _ (List.mem_append_right _ (List.mem_append_right _ (List.mem_append_right _ (List.mem_append_right _ (List.mem_append_right _ (List.mem_append_right _ (List.mem_append_right _ (List.mem_append_right _ (List.mem_append_left _ h)))))))))))))))))))))))))))))))))))))))))))))
theorem inR_30 : ∀ w ∈ wsL_law0_r30, w ∈ wsL_law := fun _ h => inR_law _ (List.mem_append_left _ (List.mem_append_left _ (List.mem_append_left _ (List.mem_append_left _ (List.mem_append_left _ (List.mem_append_left _ (List.mem_append_left _ (List.mem_append_left _ (List.mem_append_left _ (List.mem_append_left _ (List.mem_append_left _ (List.mem_append_left _ (List.mem_append_left _ (List.mem_append_left _ (List.mem_append_left _ (List.mem_append_left _ (List.mem_append_right _ (List.mem_append_right _ (List.mem_append_right _ (List.mem_append_right _ (List.mem_append_right _ (List.mem_append_right _ (List.mem_append_right _ (List.mem_append_right _ (List.mem_append_right _ (List.mem_append_right _ (List.mem_append_right _ (List.mem_append_right _ (List.mem_append_right _ (List.mem_append_right _ (List.mem_append_right _ (List.mem_append_right _ (List.mem_append_right _ (List.mem_append_right _ (List.mem_append_right _ (List.mem_append_right _ (List.mem_append_right _ (List.mem_append_right _ (List.mem_append_right _ (List.mem_append_right _ (List.mem_append_right _ (List.mem_append_right _ (List.mem_append_right _ (List.mem_append_right _ (List.mem_append_right _ (List.mem_append_left _ h))))))))))))))))))))))))))))))))))))))))))))))
theorem inR_31 : ∀ w ∈ wsL_law0_r31, w ∈ wsL_law := fun _ h => inR_law _ (List.mem_append_left _ (List.mem_append_left _ (List.mem_append_left _ (List.mem_append_left _ (List.mem_append_left _ (List.mem_append_left _ (List.mem_append_left _ (List.mem_append_left _ (List.mem_append_left _ (List.mem_append_left _ (List.mem_append_left _ (List.mem_append_left _ (List.mem_append_left _ (List.mem_append_left _ (List.mem_append_left _ (List.mem_append_left _ (List.mem_append_right _ (List.mem_append_right _ (List.mem_append_right _ (List.mem_append_right _ (List.mem_append_right _ (List.mem_append_right _ (List.mem_append_right _ (List.mem_append_right _ (List.mem_append_right _ (List.mem_append_right _ (List.mem_append_right _ (List.mem_append_right _ (List.mem_append_right _ (List.mem_append_right _ (List.mem_append_right _ (List.mem_append_right _ (List.mem_append_right _ (List.mem_append_right _ (List.mem_append_right _ (List.mem_append_right _ (List.mem_append_right _ (List.mem_append_right _ (List.mem_append_right _ (List.mem_append_right _ (List.mem_append_right _ (List.mem_append_right _ (List.mem_append_right _ (List.mem_append_right _ (List.mem_append_right _ (List.mem_append_right _ (List.mem_append_left _ h)))))))))))))))))))))))))))))))))))))))))))))))
theorem inR_32 : ∀ w ∈ wsL_law0_r32, w ∈ wsL_law := fun _ h => inR_law _ (List.mem_append_left _ (List.mem_append_left _ (List.mem_append_left _ (List.mem_append_left _ (List.mem_append_left _ (List.mem_append_left _ (List.mem_append_left _ (List.mem_append_left _ (List.mem_append_left _ (List.mem_append_left _ (List.mem_append_left _ (List.mem_append_left _ (List.mem_append_left _ (List.mem_append_left _ (List.mem_append_left _ (List.mem_append_left _ (List.mem_append_right _ (List.mem_append_right _ (List.mem_append_right _ (List.mem_append_right _ (List.mem_append_right _ (List.mem_append_right _ (List.mem_append_right _ (List.mem_append_right _ (List.mem_append_right _ (List.mem_append_right _ (List.mem_append_right _ (List.mem_append_right _ (List.mem_append_right _ (List.mem_append_right _ (List.mem_append_right _ (List.mem_append_right _ (List.mem_append_right _ (List.mem_append_right _ (List.mem_append_right _ (List.mem_append_right _ (List.mem_append_right _ (List.mem_append_right _ (List.mem_append_right _ (List.mem_append_right _ (List.mem_append_right _ (List.mem_append_right _ (List.mem_append_right _ (List.mem_append_right _ (List.mem_append_right _ (List.mem_append_right _ (List.mem_append_right _ (List.mem_append_left _ h))))))))))))))))))))))))))))))))))))))))))))))))
theorem inR_33 : ∀ w ∈ wsL_law0_r33, w ∈ wsL_law := fun _ h => inR_law _ (List.mem_append_left _ (List.mem_append_left _ (List.mem_append_left _ (List.mem_append_left _ (List.mem_append_left _ (List.mem_append_left _ (List.mem_append_left _ (List.mem_append_left _ (List.mem_append_left _ (List.mem_append_left _ (List.mem_append_left _ (List.mem_append_left _ (List.mem_append_left _ (List.mem_append_left _ (List.mem_append_left _ (List.mem_append_left _ (List.mem_append_right _ (List.mem_append_right _ (List.mem_append_right _ (List.mem_append_right _ (List.mem_append_right _ (List.mem_append_right _ (List.mem_append_right _ (List.mem_append_right _ (List.mem_append_right _ (List.mem_append_right _ (List.mem_append_right _ (List.mem_append_right _ (List.mem_append_right _ (List.mem_append_right _ (List.mem_append_right _ (List.mem_append_right _ (List.mem_append_right _ (List.mem_append_right _ (List.mem_append_right _ (List.mem_append_right _ (List.mem_append_right _ (List.mem_append_right _ (List.mem_append_right _ (List.mem_append_right _ (List.mem_append_right _ (List.mem_append_right _ (List.mem_append_right _ (List.mem_append_right _ (List.mem_append_right _ (List.mem_append_right _ (List.mem_append_right _ (List.mem_append_right _ (List.mem_append_left _ h)))))))))))))))))))))))))))))))))))))))))))))))))
theorem inR_34 : ∀ w ∈ wsL_law0_r34, w ∈ wsL_law := fun _ h => inR_law _ (List.mem_append_left _ (List.mem_append_left _ (List.mem_append_left _ (List.mem_append_left _ (List.mem_append_left _ (List.mem_append_left _ (List.mem_append_left _ (List.mem_append_left _ (List.mem_append_left _ (List.mem_append_left _ (List.mem_append_left _ (List.mem_append_left _ (List.mem_append_left _ (List.mem_append_left _ (List.mem_append_left _ (List.mem_append_left _ (List.mem_append_right _ (List.mem_append_right _ (List.mem_append_right _ (List.mem_append_right _ (List.mem_append_right _ (List.mem_append_right _ (List.mem_append_right _ (List.mem_append_right _ (List.mem_append_right _ (List.mem_append_right _ (List.mem_append_right _ (List.mem_append_right _ (List.mem_append_right _ (List.mem_append_right _ (List.mem_append_right _ (List.mem_append_right _ (List.mem_append_right _ (List.mem_append_right _ (List.mem_append_right _ (List.mem_append_right _ (List.mem_append_right _ (List.mem_append_right _ (List.mem_append_right _ (List.mem_append_right _ (List.mem_append_right _ (List.mem_append_right _ (List.mem_append_right _ (List.mem_append_right _ (List.mem_append_right _ (List.mem_append_right _ (List.mem_append_right _ (List.mem_append_right _ (List.mem_append_right _ (List.mem_append_left _ h))))))))))))))))))))))))))))))))))))))))))))))))))
theorem inR_35 : ∀ w ∈ wsL_law0_r35, w ∈ wsL_law := fun _ h => inR_law _ (List.mem_append_left _ (List.mem_append_left _ (List.mem_append_left _ (List.mem_append_left _ (List.mem_append_left _ (List.mem_append_left _ (List.mem_append_left _ (List.mem_append_left _ (List.mem_append_left _ (List.mem_append_left _ (List.mem_append_left _ (List.mem_append_left _ (List.mem_append_left _ (List.mem_append_left _ (List.mem_append_left _ (List.mem_append_left _ (List.mem_append_right _ (List.mem_append_right _ (List.mem_append_right _ (List.mem_append_right _ (List.mem_append_right _ (List.mem_append_right _ (List.mem_append_right _ (List.mem_append_right _ (List.mem_append_right _ (List.mem_append_right _ (List.mem_append_right _ (List.mem_append_right _ (List.mem_append_right _ (List.mem_append_right _ (List.mem_append_right _ (List.mem_append_right _ (List.mem_append_right _ (List.mem_append_right _ (List.mem_append_right _ (List.mem_append_right _ (List.mem_append_right _ (List.mem_append_right _ (List.mem_append_right _ (List.mem_append_right _ (List.mem_append_right _ (List.mem_append_right _ (List.mem_append_right _ (List.mem_append_right _ (List.mem_append_right _ (List.mem_append_right _ (List.mem_append_right _ (List.mem_append_right _ (List.mem_append_right _ (List.mem_append_right _ (List.mem_append_left _ h)))))))))))))))))))))))))))))))))))))))))))))))))))
theorem inR_36 : ∀ w ∈ wsL_law0_r36, w ∈ wsL_law := fun _ h => inR_law _ (List.mem_append_left _ (List.mem_append_left _ (List.mem_append_left _ (List.mem_append_left _ (List.mem_append_left _ (List.mem_append_left _ (List.mem_append_left _ (List.mem_append_left _ (List.mem_append_left _ (List.mem_append_left _ (List.mem_append_left _ (List.mem_append_left _ (List.mem_append_left _ (List.mem_append_left _ (List.mem_append_left _ (List.mem_append_left _ (List.mem_append_right _ (List.mem_append_right _ (List.mem_append_right _ (List.mem_append_right _ (List.mem_append_right _ (List.mem_append_right _ (List.mem_append_right _ (List.mem_append_right _ (List.mem_append_right _ (List.mem_append_right _ (List.mem_append_right _ (List.mem_append_right _ (List.mem_append_right _ (List.mem_append_right _ (List.mem_append_right _ (List.mem_append_right _ (List.mem_append_right _ (List.mem_append_right _ (List.mem_append_right _ (List.mem_append_right _ (List.mem_append_right _ (List.mem_append_right _ (List.mem_append_right _ (List.mem_append_right _ (List.mem_append_right _ (List.mem_append_right _ (List.mem_append_right _ (List.mem_append_right _ (List.mem_append_right _ (List.mem_append_right _ (List.mem_append_right _ (List.mem_append_right _ (List.mem_append_right _ (List.mem_append_right _ (List.mem_append_right _ (List.mem_append_left _ h))))))))))))))))))))))))))))))))))))))))))))))))))))
theorem inR_37 : ∀ w ∈ wsL_law0_r37, w ∈ wsL_law := fun _ h => inR_law _ (List.mem_append_left _ (List.mem_append_left _ (List.mem_append_left _ (List.mem_append_left _ (List.mem_append_left _ (List.mem_append_left _ (List.mem_append_left _ (List.mem_append_left _ (List.mem_append_left _ (List.mem_append_left _ (List.mem_append_left _ (List.mem_append_left _ (List.mem_append_left _ (List.mem_append_left _ (List.mem_append_left _ (List.mem_append_left _ (List.mem_append_right _ (List.mem_append_right _ (List.mem_append_right _ (List.mem_append_right _ (List.mem_append_right _ (List.mem_append_right _ (List.mem_append_right _ (List.mem_append_right _ (List.mem_append_right _ (List.mem_append_right _ (List.mem_append_right _ (List.mem_append_right _ (List.mem_append_right _ (List.mem_append_right _ (List.mem_append_right _ (List.mem_append_right _ (List.mem_append_right _ (List.mem_append_right _ (List.mem_append_right _ (List.mem_append_right _ (List.mem_append_right _ (List.mem_append_right _ (List.mem_append_right _ (List.mem_append_right _ (List.mem_append_right _ (List.mem_append_right _ (List.mem_append_right _ (List.mem_append_right _ (List.mem_append_right _ (List.mem_append_right _ (List.mem_append_right _ (List.mem_append_right _ (List.mem_append_right _ (List.mem_append_right _ (List.mem_append_right _ (List.mem_append_right _ (h)))))))))))))))))))))))))))))))))))))))))))))))))))))
abbrev Shp : Type := (Nat × List Nat) ⊕ (Nat × Nat)
/-- the shape of each cell from bs on: an object (its class, its fields: 0 int, 1 long, 2 a reference that changes, t + 3 the cell t), or an array (0 int, 1 byte, 2 long, 3 double, 4 rows; its length) -/
def shL : List Shp := [.inl (11, [32, 64, 4, 7, 10, 12, 30, 2, 2, 2, 2, 0, 0]), .inl (0, [5]), .inl (7, [6, 0]), .inr (0, 12), .inl (8, [8, 0]), .inl (7, [9, 0]), .inr (0, 12), .inl (7, [11, 0]), .inr (0, 12), .inl (2, [13, 0, 0]), .inr (4, 16), .inr (0, 186), .inr (0, 186), .inr (0, 186), .inr (0, 186), .inr (0, 186), .inr (0, 186), .inr (0, 186), .inr (0, 186), .inr (0, 186), .inr (0, 186), .inr (0, 186), .inr (0, 186), .inr (0, 186), .inr (0, 186), .inr (0, 186), .inr (0, 186), .inl (4, [31, 0]), .inr (1, 1152), .inl (9, [33, 0]), .inr (1, 900), .inl (1, [0, 0, 0, 0, 0, 0, 35, 36, 37, 38, 39, 40, 41, 42, 43, 44]), .inr (0, 4), .inr (0, 12), .inr (0, 12), .inr (0, 12), .inr (0, 12), .inr (0, 12), .inr (0, 5), .inr (0, 5), .inr (0, 12), .inr (0, 12), .inl (1, [0, 0, 0, 0, 0, 0, 46, 47, 48, 49, 50, 51, 52, 53, 54, 55]), .inr (0, 4), .inr (0, 12), .inr (0, 12), .inr (0, 12), .inr (0, 12), .inr (0, 12), .inr (0, 5), .inr (0, 5), .inr (0, 12), .inr (0, 12), .inl (6, [2, 57, 58, 59]), .inr (0, 144), .inr (0, 156), .inr (0, 156), .inl (6, [2, 61, 62, 63]), .inr (0, 144), .inr (0, 156), .inr (0, 156), .inl (5, [69, 65, 2, 2, 0, 0]), .inl (3, [66, 67, 68, 0]), .inr (2, 21), .inr (0, 21), .inr (0, 21), .inl (10, [32, 0, 0, 0, 0, 0, 1]), .inr (9, 18), .inr (0, 0), .inr (0, 5), .inr (0, 5), .inr (0, 5), .inr (0, 5), .inr (0, 5), .inr (0, 2), .inr (0, 2), .inr (0, 6), .inr (5, 5), .inr (0, 6), .inr (0, 6), .inr (0, 6), .inr (0, 6), .inr (0, 6)]
abbrev NC : Nat := 67
abbrev NT : Nat := 83
def shp (k : Nat) : Shp := shL.getD k (.inr (0, 0))
abbrev CI : Type := Nat → Nat → Int32
abbrev CL : Type := Nat → Nat → Int64
abbrev CR : Type := Nat → Nat → Nat
/-- a field's value: q.1 its kind, q.2 its place -/
def fvV (bs : Nat) (i : Nat → Int32) (l : Nat → Int64) (r : Nat → Nat) (q : Nat × Nat) : Value := match q.1 with
  | 0 => .int (i q.2)
  | 1 => .long (l q.2)
  | 2 => .ref (bs + r q.2)
  | t + 3 => .ref (bs + t)
/-- the law's cells: places 67 to 82, ahead of bs -/
def ad (bs k : Nat) : Nat := bs + k - 83
def adr (bs k : Nat) : Nat := if k < 67 then bs + k else ad bs k
def entA (bs : Nat) (ty : Nat) (i : Nat → Int32) (l : Nat → Int64) : (Nat → Int32) ⊕ (Nat → Int64) ⊕ (Nat → UInt32) ⊕ (Nat → UInt64) ⊕ (Nat → Option Nat) := match ty with
  | 0 => .inl i
  | 1 => .inl i
  | 2 => .inr (.inl l)
  | 3 => .inl i
  | 4 => .inr (.inr (.inr (.inr (fun j => some (bs + 11 + j)))))
  | _ => .inr (.inr (.inr (.inr (fun j => some (ad bs (78 + j))))))
/-- the law's own object -/
def wfs (bs : Nat) (i : Nat → Int32) (r : Nat → Nat) : List Value := [.ref (r 0), .int (i 1), .int (i 2), .int (i 3), .int (i 4), .int (i 5), .int (i 6), .int (i 7), .ref (ad bs 69), .ref (ad bs 70), .ref (ad bs 71), .ref (ad bs 72), .ref (ad bs 73), .ref (ad bs 74), .ref (ad bs 75), .ref (ad bs 76), .ref (ad bs 77), .int (i 17)]
def ent (bs : Nat) (cy : Nat → ClassId) (s : Shp) (i : Nat → Int32) (l : Nat → Int64) (r : Nat → Nat) : va_E := match s with
  | .inl (ci, ks) => .inr (ci, ks.zipIdx.map (fvV bs i l r))
  | .inr (ty, n) => if ty = 9 then .inr (12, wfs bs i r) else .inl (cy ty, n, entA bs ty i l)
def wl (bs : Nat) (cy : Nat → ClassId) (I : CI) (L : CL) (R : CR) : va_W := (List.range NT).map (fun k => (adr bs k, ent bs cy (shp k) (I k) (L k) (R k)))
def Wd (G : va_G) (bs : Nat) (cy : Nat → ClassId) (I : CI) (L : CL) (R : CR) (H : Heap) : Prop := va_P G vwCl (wl bs cy I L R) H
/-- the world's own cells -/
def Aq (bs : Nat) : Nat → Prop := fun q => bs ≤ q + 16 ∧ q < bs + 67
/-- all from the world's first cell on -/
def Ag (bs : Nat) : Nat → Prop := fun q => bs ≤ q + 16
theorem agq {bs q : Nat} (h : Aq bs q) : Ag bs q := h.1
def tyLs (cy : Nat → ClassId) : List (ClassId × FieldType) := [(cy 0, .int), (cy 1, .byte), (cy 2, .long), (cy 3, .boolean), (cy 4, .array .int), (cy 5, .array .int)]
def u2 (I : CI) (k j : Nat) (v : Int32) : CI := fun a => if a = k then upd (I a) j v else I a
def u2L (L : CL) (k j : Nat) (v : Int64) : CL := fun a => if a = k then vp_updL (L a) j v else L a
def u2R (R : CR) (k j v : Nat) : CR := fun a => if a = k then (fun b => if b = j then v else R a b) else R a
theorem wl_at0 {bs : Nat} {cy : Nat → ClassId} {I : CI} {L : CL} {R : CR} {k : Nat} (h : k < NT) : (wl bs cy I L R)[k]? = some (adr bs k, ent bs cy (shp k) (I k) (L k) (R k)) := by
  unfold wl
  rw [List.getElem?_map, List.getElem?_range h]
  rfl
theorem adr_lt {bs k : Nat} (h : k < NC) : adr bs k = bs + k := if_pos h
theorem adr_ge {bs k : Nat} (h : 67 ≤ k) : adr bs k = ad bs k := if_neg (Nat.not_lt.mpr h)
theorem wl_at {bs : Nat} {cy : Nat → ClassId} {I : CI} {L : CL} {R : CR} {k : Nat} (h : k < NC) : (wl bs cy I L R)[k]? = some (bs + k, ent bs cy (shp k) (I k) (L k) (R k)) := by
  rw [wl_at0 (Nat.lt_of_lt_of_le h (by decide)), adr_lt h]
theorem wl_atL {bs : Nat} {cy : Nat → ClassId} {I : CI} {L : CL} {R : CR} {k : Nat} (h : 67 ≤ k ∧ k < NT) : (wl bs cy I L R)[k]? = some (ad bs k, ent bs cy (shp k) (I k) (L k) (R k)) := by
  rw [wl_at0 h.2, adr_ge h.1]
theorem wl_in {bs : Nat} {cy : Nat → ClassId} {I : CI} {L : CL} {R : CR} {k : Nat} {q : Nat × va_E} (h : (wl bs cy I L R)[k]? = some q) : k < NT ∧ q.1 = adr bs k := by
  have hk : k < NT := by
    have h1 := (List.getElem?_eq_some_iff.mp h).1
    unfold wl at h1
    rwa [List.length_map, List.length_range] at h1
  rw [wl_at0 hk] at h
  cases h
  exact ⟨hk, rfl⟩
theorem adr_A {bs k : Nat} (hb : 16 ≤ bs) (hk : k < NT) : Aq bs (adr bs k) := by
  unfold Aq adr ad
  have : NT = 83 := rfl
  split <;> omega
theorem wl_D {bs : Nat} {cy : Nat → ClassId} {I : CI} {L : CL} {R : CR} (hb : 16 ≤ bs) : va_D (Aq bs) (wl bs cy I L R) := by
  refine ⟨fun i j p q hp hq he => ?_, fun k q h => ?_⟩
  · obtain ⟨h1, e1⟩ := wl_in hp
    obtain ⟨h2, e2⟩ := wl_in hq
    rw [e1, e2] at he
    unfold adr ad at he
    have : NT = 83 := rfl
    split at he <;> split at he <;> omega
  · obtain ⟨h1, e1⟩ := wl_in h
    rw [e1]
    exact adr_A hb h1
/-- one cell of the world replaced -/
theorem wl_set0 {bs : Nat} {cy : Nat → ClassId} {I I' : CI} {L L' : CL} {R R' : CR} {k : Nat} {e : va_E} (hI : ∀ a, a ≠ k → I' a = I a) (hL : ∀ a, a ≠ k → L' a = L a) (hR : ∀ a, a ≠ k → R' a = R a) (he : k < NT → e = ent bs cy (shp k) (I' k) (L' k) (R' k)) :
    (wl bs cy I L R).set k (adr bs k, e) = wl bs cy I' L' R' := by
  apply List.ext_getElem?
  intro j
  rw [List.getElem?_set]
  by_cases hj : k = j
  · subst hj
    by_cases hk : k < NT
    · rw [wl_at0 hk]
      simp [wl, hk, he hk]
    · simp [wl, hk]
  · rw [if_neg hj]
    by_cases hk : j < NT
    · rw [wl_at0 hk, wl_at0 hk, hI j (Ne.symm hj), hL j (Ne.symm hj), hR j (Ne.symm hj)]
    · simp [wl, hk]
theorem wl_set {bs : Nat} {cy : Nat → ClassId} {I I' : CI} {L L' : CL} {R R' : CR} {k : Nat} {e : va_E} (hk : k < NC) (hI : ∀ a, a ≠ k → I' a = I a) (hL : ∀ a, a ≠ k → L' a = L a) (hR : ∀ a, a ≠ k → R' a = R a) (he : k < NC → e = ent bs cy (shp k) (I' k) (L' k) (R' k)) :
    (wl bs cy I L R).set k (bs + k, e) = wl bs cy I' L' R' := by
  rw [← adr_lt hk]
  exact wl_set0 hI hL hR (fun _ => he hk)
theorem wl_setL {bs : Nat} {cy : Nat → ClassId} {I I' : CI} {L L' : CL} {R R' : CR} {k : Nat} {e : va_E} (hk : 67 ≤ k ∧ k < NT) (hI : ∀ a, a ≠ k → I' a = I a) (hL : ∀ a, a ≠ k → L' a = L a) (hR : ∀ a, a ≠ k → R' a = R a) (he : e = ent bs cy (shp k) (I' k) (L' k) (R' k)) :
    (wl bs cy I L R).set k (ad bs k, e) = wl bs cy I' L' R' := by
  rw [← adr_ge hk.1]
  exact wl_set0 hI hL hR (fun _ => he)
theorem u2_ne {I : CI} {k j a : Nat} {v : Int32} (h : a ≠ k) : u2 I k j v a = I a := if_neg h
theorem u2_eq {I : CI} {k j : Nat} {v : Int32} : u2 I k j v k = upd (I k) j v := if_pos rfl
theorem u2L_ne {I : CL} {k j a : Nat} {v : Int64} (h : a ≠ k) : u2L I k j v a = I a := if_neg h
theorem u2L_eq {I : CL} {k j : Nat} {v : Int64} : u2L I k j v k = vp_updL (I k) j v := if_pos rfl
theorem u2R_ne {I : CR} {k j a v : Nat} (h : a ≠ k) : u2R I k j v a = I a := if_neg h
theorem ks_at {bs : Nat} {i : Nat → Int32} {l : Nat → Int64} {r : Nat → Nat} {ks : List Nat} {j t : Nat} (h : ks[j]? = some t) : (ks.zipIdx.map (fvV bs i l r))[j]? = some (fvV bs i l r (t, j)) := by
  rw [List.getElem?_map, List.getElem?_zipIdx, h]
  simp
theorem ks_len {bs : Nat} {i : Nat → Int32} {l : Nat → Int64} {r : Nat → Nat} {ks : List Nat} {j t : Nat} (h : ks[j]? = some t) : j < (ks.zipIdx.map (fvV bs i l r)).length := by
  rw [List.length_map, List.length_zipIdx]
  exact (List.getElem?_eq_some_iff.mp h).1
theorem ks_set {bs : Nat} {i i' : Nat → Int32} {l l' : Nat → Int64} {r r' : Nat → Nat} {ks : List Nat} {j t : Nat} {v : Value} (h : ks[j]? = some t) (hv : v = fvV bs i' l' r' (t, j)) (hne : ∀ a, a ≠ j → i' a = i a ∧ l' a = l a ∧ r' a = r a) :
    (ks.zipIdx.map (fvV bs i l r)).set j v = ks.zipIdx.map (fvV bs i' l' r') := by
  apply List.ext_getElem?
  intro a
  rw [List.getElem?_set]
  by_cases ha : j = a
  · subst ha
    rw [if_pos rfl, if_pos (ks_len h), ks_at h, hv]
  · rw [if_neg ha, List.getElem?_map, List.getElem?_map, List.getElem?_zipIdx]
    cases hk : ks[a]? with
    | none => simp
    | some t2 =>
      obtain ⟨e1, e2, e3⟩ := hne a (Ne.symm ha)
      simp only [Option.map_some, Nat.zero_add]
      congr 1
      unfold fvV
      dsimp only
      split <;> simp [e1, e2, e3]
/-- words that a walk carries beside wsL_law: links between nest mates, what a throw and a catch ask -/
def nestL : List Cond := [Cond.fieldLinkNest "SpanPainter$Tokens" 37 "SpanPainter$Text" "bytes" "[B" "SpanPainter", Cond.fieldLinkNest "SpanPainter$Tokens" 13 "SpanPainter$Text" "size" "I" "SpanPainter", Cond.fieldLinkNest "SpanPainter$Parser" 139 "SpanPainter$Bridge" "years" "I" "SpanPainter", Cond.fieldLinkNest "SpanPainter$Plan" 53 "SpanPainter$Bridge" "years" "I" "SpanPainter", Cond.fieldLinkNest "SpanPainter" 168 "SpanPainter$Bridge" "years" "I" "SpanPainter", Cond.fieldLinkNest "SpanPainter$Parser" 142 "SpanPainter$Bridge" "shut" "I" "SpanPainter", Cond.fieldLinkNest "SpanPainter$Plan" 139 "SpanPainter$Bridge" "shut" "I" "SpanPainter", Cond.fieldLinkNest "SpanPainter$Parser" 145 "SpanPainter$Bridge" "guard" "I" "SpanPainter", Cond.fieldLinkNest "SpanPainter$Plan" 60 "SpanPainter$Bridge" "guard" "I" "SpanPainter", Cond.fieldLinkNest "SpanPainter$Parser" 95 "SpanPainter$Bridge" "laneCount" "I" "SpanPainter", Cond.fieldLinkNest "SpanPainter" 128 "SpanPainter$Bridge" "spanCount" "I" "SpanPainter", Cond.fieldLinkNest "SpanPainter$Parser" 103 "SpanPainter$Bridge" "spanCount" "I" "SpanPainter", Cond.fieldLinkNest "SpanPainter$Plan" 46 "SpanPainter$Bridge" "spanCount" "I" "SpanPainter", Cond.fieldLinkNest "SpanPainter$Parser" 111 "SpanPainter$Bridge" "gangCount" "I" "SpanPainter", Cond.fieldLinkNest "SpanPainter" 226 "SpanPainter$Bridge" "gangCount" "I" "SpanPainter", Cond.fieldLinkNest "SpanPainter$Plan" 95 "SpanPainter$Bridge" "laneOf" "[I" "SpanPainter", Cond.fieldLinkNest "SpanPainter$Plan" 83 "SpanPainter$Bridge" "area" "[I" "SpanPainter", Cond.fieldLinkNest "SpanPainter$Plan" 50 "SpanPainter$Bridge" "rust" "[I" "SpanPainter", Cond.fieldLinkNest "SpanPainter$Plan" 63 "SpanPainter$Bridge" "rate" "[I" "SpanPainter", Cond.fieldLinkNest "SpanPainter$Plan" 72 "SpanPainter$Bridge" "limit" "[I" "SpanPainter", Cond.fieldLinkNest "SpanPainter$Parser" 173 "SpanPainter$Bridge" "days" "[I" "SpanPainter", Cond.fieldLinkNest "SpanPainter$Parser" 181 "SpanPainter$Bridge" "closed" "[I" "SpanPainter", Cond.fieldLinkNest "SpanPainter$Parser" 74 "SpanPainter$Tokens" "start" "I" "SpanPainter", Cond.fieldLinkNest "SpanPainter$Parser" 64 "SpanPainter$Tokens" "kind" "I" "SpanPainter", Cond.fieldLinkNest "SpanPainter$Parser" 192 "SpanPainter$Tokens" "number" "I" "SpanPainter", Cond.fieldLinkNest "SpanPainter$Parser" 80 "SpanPainter$Tokens" "word" "J" "SpanPainter", Cond.methodLinkNest "SpanPainter" 11 ({ cls := "SpanPainter$AutoPlanner", name := "<init>", desc := "()V" } : Jvm.MethodName) "SpanPainter", Cond.methodLinkNest "SpanPainter$AutoPlanner" 11 ({ cls := "SpanPainter$Ranking", name := "<init>", desc := "()V" } : Jvm.MethodName) "SpanPainter", Cond.methodLinkNest "SpanPainter" 18 ({ cls := "SpanPainter$SafeSearch", name := "<init>", desc := "()V" } : Jvm.MethodName) "SpanPainter", Cond.methodLinkNest "SpanPainter$SafeSearch" 11 ({ cls := "SpanPainter$Ranking", name := "<init>", desc := "()V" } : Jvm.MethodName) "SpanPainter", Cond.methodLinkNest "SpanPainter" 25 ({ cls := "SpanPainter$Ranking", name := "<init>", desc := "()V" } : Jvm.MethodName) "SpanPainter", Cond.methodLinkNest "SpanPainter" 32 ({ cls := "SpanPainter$History", name := "<init>", desc := "()V" } : Jvm.MethodName) "SpanPainter", Cond.methodLinkNest "SpanPainter" 39 ({ cls := "SpanPainter$Output", name := "<init>", desc := "()V" } : Jvm.MethodName) "SpanPainter", Cond.methodLinkNest "SpanPainter" 54 ({ cls := "SpanPainter$Text", name := "<init>", desc := "()V" } : Jvm.MethodName) "SpanPainter", Cond.methodLinkNest "SpanPainter$Parser" 11 ({ cls := "SpanPainter$Names", name := "<init>", desc := "()V" } : Jvm.MethodName) "SpanPainter", Cond.castable "java/lang/IndexOutOfBoundsException" "java/lang/IndexOutOfBoundsException", Cond.castable "java/lang/IllegalArgumentException" "java/lang/IllegalArgumentException", Cond.declares (Bundle.initS "java/lang/RuntimeException"), Cond.declares (Bundle.initS "java/lang/Exception"), Cond.declares (Bundle.initS Bundle.tN)]
def okW (w : Cond) : Prop := w.onTables = true ∧ ∀ s U : State, s.WarmedH U.vm → va_Nw w s → va_Nw w U
theorem okW_F {a : String} {i : Nat} {b n d h : String} : okW (.fieldLinkNest a i b n d h) := ⟨rfl, fun _ _ hW hZ => va_Nw.warmF hW hZ⟩
theorem okW_M {a : String} {i : Nat} {x : MethodName} {h : String} : okW (.methodLinkNest a i x h) := ⟨rfl, fun _ _ hW hZ => va_Nw.warmM hW hZ⟩
theorem okW_C {C T : String} : okW (.castable C T) := ⟨rfl, fun _ _ hW hZ => va_Nw.warmC hW hZ⟩
theorem okW_D {x : MethodName} : okW (.declares x) := ⟨rfl, fun s U hW hZ => va_tabs rfl (rfl : (s.setVm U.vm).vm = U.vm) (by rw [Cond.declares_setVm hW.alike]; exact hZ)⟩
theorem nest_ok : ∀ w ∈ nestL, okW w := List.forall_mem_cons.mpr ⟨okW_F, List.forall_mem_cons.mpr ⟨okW_F, List.forall_mem_cons.mpr ⟨okW_F, List.forall_mem_cons.mpr ⟨okW_F, List.forall_mem_cons.mpr ⟨okW_F, List.forall_mem_cons.mpr ⟨okW_F, List.forall_mem_cons.mpr ⟨okW_F, List.forall_mem_cons.mpr ⟨okW_F, List.forall_mem_cons.mpr ⟨okW_F, List.forall_mem_cons.mpr ⟨okW_F, List.forall_mem_cons.mpr ⟨okW_F, List.forall_mem_cons.mpr ⟨okW_F, List.forall_mem_cons.mpr ⟨okW_F, List.forall_mem_cons.mpr ⟨okW_F, List.forall_mem_cons.mpr ⟨okW_F, List.forall_mem_cons.mpr ⟨okW_F, List.forall_mem_cons.mpr ⟨okW_F, List.forall_mem_cons.mpr ⟨okW_F, List.forall_mem_cons.mpr ⟨okW_F, List.forall_mem_cons.mpr ⟨okW_F, List.forall_mem_cons.mpr ⟨okW_F, List.forall_mem_cons.mpr ⟨okW_F, List.forall_mem_cons.mpr ⟨okW_F, List.forall_mem_cons.mpr ⟨okW_F, List.forall_mem_cons.mpr ⟨okW_F, List.forall_mem_cons.mpr ⟨okW_F, List.forall_mem_cons.mpr ⟨okW_M, List.forall_mem_cons.mpr ⟨okW_M, List.forall_mem_cons.mpr ⟨okW_M, List.forall_mem_cons.mpr ⟨okW_M, List.forall_mem_cons.mpr ⟨okW_M, List.forall_mem_cons.mpr ⟨okW_M, List.forall_mem_cons.mpr ⟨okW_M, List.forall_mem_cons.mpr ⟨okW_M, List.forall_mem_cons.mpr ⟨okW_M, List.forall_mem_cons.mpr ⟨okW_C, List.forall_mem_cons.mpr ⟨okW_C, List.forall_mem_cons.mpr ⟨okW_D, List.forall_mem_cons.mpr ⟨okW_D, List.forall_mem_cons.mpr ⟨okW_D, fun _ h => absurd h List.not_mem_nil⟩⟩⟩⟩⟩⟩⟩⟩⟩⟩⟩⟩⟩⟩⟩⟩⟩⟩⟩⟩⟩⟩⟩⟩⟩⟩⟩⟩⟩⟩⟩⟩⟩⟩⟩⟩⟩⟩⟩⟩
def strL : List (Nat × String) := [(105, "the buffer does not hold so many bytes"), (334, "there is no such span"), (332, "there is no such year"), (341, "there is no such gang")]
/-- the law's texts: their places in its pool, their words -/
def litL : List (Nat × String) := [(102, "bridge "), (111, " "), (113, ";"), (119, "lane l"), (128, "gang g"), (130, "weather "), (132, "span s"), (134, "none"), (136, "l")]
def litN : List Nat := [7, 1, 1, 6, 6, 8, 6, 4, 1]
def litB : List (List Int32) := [[98, 114, 105, 100, 103, 101, 32], [32], [59], [108, 97, 110, 101, 32, 108], [103, 97, 110, 103, 32, 103], [119, 101, 97, 116, 104, 101, 114, 32], [115, 112, 97, 110, 32, 115], [110, 111, 110, 101], [108]]
def NK (U : State) : Prop := (∀ w ∈ nestL, va_Nw w U) ∧ ∀ q ∈ strL, ∃ a : Nat, vk_R RX11 q.1 q.2 a U
/-- texts and statics of the JDK: cells below the world that nothing changes (cy 20 .. 28 the law's texts, cy 40 .. 48 their bytes, cy 60, cy 61 the digits' tables; cy 70 the script, cy 71 its length, cy (100 + j) its numbers) -/
def ES (bs : Nat) (cy : Nat → ClassId) (U : State) (H : Heap) : Prop := vk_S 9 litN litB (fun i => cy (20 + i)) (fun i => cy (40 + i)) (Ag bs) U H ∧ va_Z "java/lang/String" "COMPACT_STRINGS" "Z" (.int 1) (Ag bs) U H ∧ va_Zq "jdk/internal/util/Preconditions" "SIOOBE_FORMATTER" "Ljava/util/function/BiFunction;" (Ag bs) U H ∧
  va_Z "java/lang/Integer" "DigitOnes" "[B" (.ref (cy 60)) (Ag bs) U H ∧ va_Z "java/lang/Integer" "DigitTens" "[B" (.ref (cy 61)) (Ag bs) U H ∧ va_T .byte (cy 60) 100 (fun j => .int (nI (48 + j % 10))) (Ag bs) U H ∧ va_T .byte (cy 61) 100 (fun j => .int (nI (48 + j / 10))) (Ag bs) U H ∧ va_T .int (cy 70) (cy 71) (fun j => .int (nI (cy (100 + j)))) (Ag bs) U H ∧ cy 71 < 2 ^ 31
def LR (cy : Nat → ClassId) (U : State) : Prop := ∀ i, i < 9 → vk_R RL ((litL.getD i (0, "")).1) ((litL.getD i (0, "")).2) (cy (20 + i)) U
/-- what a walk stands on beside the world -/
def EK (bs : Nat) (cy : Nat → ClassId) (U : State) (H : Heap) : Prop := NK U ∧ vx_Zq Bundle.tN "UNASSIGNED_STACK" Bundle.steD (Ag bs) U H ∧ vx_Zq Bundle.tN "SUPPRESSED_SENTINEL" Bundle.listD (Ag bs) U H ∧ 16 ≤ bs ∧ LR cy U ∧ ES bs cy U H
theorem NK.warm {s U : State} (hW : s.WarmedH U.vm) (h : NK s) : NK U := ⟨fun w hw => (nest_ok w hw).2 s U hW (h.1 w hw), fun q hq => by obtain ⟨a, ha⟩ := h.2 q hq; exact ⟨a, vk_R.warm hW ha⟩⟩
theorem NK.same {s U : State} (hv : U.vm = s.vm) (h : NK s) : NK U := ⟨fun w hw => va_Nw.same (nest_ok w hw).1 hv.symm (h.1 w hw), fun q hq => by obtain ⟨a, ha⟩ := h.2 q hq; exact ⟨a, vk_R.same hv ha⟩⟩
theorem ES.kept {bs : Nat} {cy : Nat → ClassId} {U : State} {H H1 : Heap} (h : ES bs cy U H) (hk : ∀ a : Nat, a < H.size → ¬ Ag bs a → H1[a]? = H[a]?) : ES bs cy U H1 := by
  obtain ⟨h1, h2, h3, h4, h5, h6, h7, h8, h9⟩ := h
  exact ⟨h1.kept hk, h2.kept hk, h3.kept hk, h4.kept hk, h5.kept hk, h6.kept hk, h7.kept hk, h8.kept hk, h9⟩
theorem ES.moved {bs : Nat} {cy : Nat → ClassId} {u U : State} {H : Heap} (hvm : u.vm.Alike U.vm) (h : ES bs cy u H) : ES bs cy U H := by
  obtain ⟨h1, h2, h3, h4, h5, h6, h7, h8, h9⟩ := h
  exact ⟨h1.moved hvm, h2.moved hvm, h3.moved hvm, h4.moved hvm, h5.moved hvm, h6.moved hvm, h7.moved hvm, h8.moved hvm, h9⟩
theorem EK.tog {bs : Nat} {cy : Nat → ClassId} {s U : State} {H : Heap} (hW : s.WarmedH U.vm) (hk : ∀ a : Nat, a < s.heap.size → ¬ Ag bs a → H[a]? = s.heap[a]?) (h : EK bs cy s s.heap) : EK bs cy U H := by
  obtain ⟨h1, h2, h3, h4, h5, h6⟩ := h
  exact ⟨h1.warm hW, (h2.moved hW.alike).kept hk, (h3.moved hW.alike).kept hk, h4, fun i hi => vk_R.warm hW (h5 i hi), (h6.moved hW.alike).kept hk⟩
theorem EK.to {bs : Nat} {cy : Nat → ClassId} {s U : State} {H : Heap} (hW : s.WarmedH U.vm) (hk : ∀ a : Nat, a < s.heap.size → ¬ Aq bs a → H[a]? = s.heap[a]?) (h : EK bs cy s s.heap) : EK bs cy U H := h.tog hW (fun a h1 h2 => hk a h1 (fun z => h2 (agq z)))
theorem EK.same {bs : Nat} {cy : Nat → ClassId} {s U : State} {H : Heap} (hv : U.vm = s.vm) (h : EK bs cy s H) : EK bs cy U H := by
  obtain ⟨h1, h2, h3, h4, h5, h6⟩ := h
  have ha : s.vm.Alike U.vm := by rw [hv]; exact Vm.Alike.refl s.vm
  exact ⟨h1.same hv, h2.moved ha, h3.moved ha, h4, fun i hi => vk_R.same hv (h5 i hi), h6.moved ha⟩
/-- a field's place in the tables: own's pool index, the class's number, the field's number -/
def FI (own : String) (index ci j : Nat) : Prop := ∃ (C : String) (T : u_T) (N : Nat), vwCl[ci]? = some (C, T, N) ∧ (T j).1 = C ∧ j < N ∧ (∀ w ∈ u_ws C T N, w ∈ wsL_law) ∧ Cond.fieldLink own index C (T j).2.1 (T j).2.2.1 ∈ wsL_law
def FN (own : String) (index ci j : Nat) : Prop := ∃ (C : String) (T : u_T) (N : Nat), vwCl[ci]? = some (C, T, N) ∧ (T j).1 = C ∧ j < N ∧ (∀ w ∈ u_ws C T N, w ∈ wsL_law) ∧ Cond.fieldLinkNest own index C (T j).2.1 (T j).2.2.1 "SpanPainter" ∈ nestL
/-- what a method's walk stands on -/
def Cx (p : Program) (s : State) (m : MethodId) (args : Array Value) (c : Code) (cc : ByteArray) (nL : Nat) (own : String) (G : va_G) (bs : Nat) (cy : Nat → ClassId) : Prop :=
  p.tables.exec = Jvm.exec ∧ c.code = cc ∧ c.maxLocals = nL ∧ s.vm.findClass own = some m.cls ∧ (∀ w ∈ wsL_law, w.before args s = true) ∧ va_K G vwCl (tyLs cy) s ∧ EK bs cy s s.heap
theorem dg {cc : ByteArray} {l : List (Nat × Instr × Nat)} (h : ∀ q ∈ l, decode cc q.1 = .ok (q.2.1, q.2.2)) {i pc n : Nat} {x : Instr} (hi : l[i]? = some (pc, x, n)) : decode cc pc = .ok (x, n) := h (pc, x, n) (List.mem_of_getElem? hi)
theorem cls_nm : ∀ k, k < 15 → ∀ a, a < ((vwCl.getD k ("", TX0, 0)).2.2) → ∀ b, b < ((vwCl.getD k ("", TX0, 0)).2.2) → a ≠ b → ((vwCl.getD k ("", TX0, 0)).2.1 a).2.1 ≠ ((vwCl.getD k ("", TX0, 0)).2.1 b).2.1 := by decide +kernel
theorem cls_ty : ∀ k, k < 15 → ∀ a, a < ((vwCl.getD k ("", TX0, 0)).2.2) → (parseFieldDescriptor ((vwCl.getD k ("", TX0, 0)).2.1 a).2.2.1).isSome = true := by decide +kernel
section RR
variable {p : Program} {l : Launch} {e : Env} {Rm : Room} {s : State} {m : MethodId} {args : Array Value} {below : List Frame} {meth : Method} {c : Code} {H : Heap} {locs : List Loc} {cells slots : Nat} {Q : State → Prop}
variable {cc : ByteArray} {pc nL : Nat} {ls : Array Slot} {rest : List Value} {own : String} {G : va_G} {bs : Nat} {cy : Nat → ClassId} {I : CI} {L : CL} {R : CR} {H0 : Heap} {k : Nat}
theorem r_get (X : Cx p s m args c cc nL own G bs cy) (hW : Wd G bs cy I L R H) {index ci j : Nat} (hF : FI own index ci j) {ks : List Nat} {t : Nat} (hk : shp k = .inl (ci, ks)) (hN : k < NC) (ht : ks[j]? = some t) {v : Value} (hv : fvV bs (I k) (L k) (R k) (t, j) = v) (hdg : decode cc pc = .ok (.getfield index, 3))
    (kk : W p l e Rm s m args below meth c H locs cells slots Q (F0 m (pc + 3) ls (v :: rest))) : W p l e Rm s m args below meth c H locs cells slots Q (F0 m pc ls (.ref (bs + k) :: rest)) := by
  obtain ⟨hx, hb, hml, hown, hts, hK, -⟩ := X
  obtain ⟨C, T, N, hc, hC, hj, hin, hl⟩ := hF
  subst hv
  refine va_get hx hb hts hin hown hK hW k (fs := ks.zipIdx.map (fvV bs (I k) (L k) (R k))) ?_ hc j hj (hts _ hl) (fun x hx2 => by rw [hC] at hx2; exact hx2) (ks_at ht) hdg kk
  rw [wl_at hN, hk]
  rfl
theorem r_geti (X : Cx p s m args c cc nL own G bs cy) (hW : Wd G bs cy I L R H) {index ci j : Nat} (hF : FI own index ci j) {ks : List Nat} (hk : shp k = .inl (ci, ks)) (hN : k < NC) (ht : ks[j]? = some 0) {v : Int32} (hv : I k j = v) (hdg : decode cc pc = .ok (.getfield index, 3))
    (kk : W p l e Rm s m args below meth c H locs cells slots Q (F0 m (pc + 3) ls (.int v :: rest))) : W p l e Rm s m args below meth c H locs cells slots Q (F0 m pc ls (.ref (bs + k) :: rest)) := r_get X hW hF hk hN ht (by rw [← hv]; rfl) hdg kk
theorem r_getl (X : Cx p s m args c cc nL own G bs cy) (hW : Wd G bs cy I L R H) {index ci j : Nat} (hF : FI own index ci j) {ks : List Nat} (hk : shp k = .inl (ci, ks)) (hN : k < NC) (ht : ks[j]? = some 1) {v : Int64} (hv : L k j = v) (hdg : decode cc pc = .ok (.getfield index, 3))
    (kk : W p l e Rm s m args below meth c H locs cells slots Q (F0 m (pc + 3) ls (.long v :: rest))) : W p l e Rm s m args below meth c H locs cells slots Q (F0 m pc ls (.ref (bs + k) :: rest)) := r_get X hW hF hk hN ht (by rw [← hv]; rfl) hdg kk
theorem r_getr (X : Cx p s m args c cc nL own G bs cy) (hW : Wd G bs cy I L R H) {index ci j : Nat} (hF : FI own index ci j) {ks : List Nat} (hk : shp k = .inl (ci, ks)) (hN : k < NC) (ht : ks[j]? = some 2) {v : Nat} (hv : R k j = v) (hdg : decode cc pc = .ok (.getfield index, 3))
    (kk : W p l e Rm s m args below meth c H locs cells slots Q (F0 m (pc + 3) ls (.ref (bs + v) :: rest))) : W p l e Rm s m args below meth c H locs cells slots Q (F0 m pc ls (.ref (bs + k) :: rest)) := r_get X hW hF hk hN ht (by rw [← hv]; rfl) hdg kk
theorem r_getc (X : Cx p s m args c cc nL own G bs cy) (hW : Wd G bs cy I L R H) {index ci j : Nat} (hF : FI own index ci j) {ks : List Nat} {t : Nat} (hk : shp k = .inl (ci, ks)) (hN : k < NC) (ht : ks[j]? = some (t + 3)) (hdg : decode cc pc = .ok (.getfield index, 3))
    (kk : W p l e Rm s m args below meth c H locs cells slots Q (F0 m (pc + 3) ls (.ref (bs + t) :: rest))) : W p l e Rm s m args below meth c H locs cells slots Q (F0 m pc ls (.ref (bs + k) :: rest)) := r_get X hW hF hk hN ht rfl hdg kk
theorem r_put (X : Cx p s m args c cc nL own G bs cy) (hW : Wd G bs cy I L R H) (hS : va_S (Aq bs) H0 H locs) {index ci j : Nat} (hF : FI own index ci j) {ks : List Nat} {t : Nat} (hk : shp k = .inl (ci, ks)) (hN : k < NC) (ht : ks[j]? = some t) {v : Value} {ty : FieldType}
    (hfin : (vwCl.getD ci ("", TX0, 0)).2.1 j |>.2.2.2 = false) (hd : parseFieldDescriptor ((vwCl.getD ci ("", TX0, 0)).2.1 j).2.2.1 = some ty) (hn : narrow ty v = v) (hfit : fits ty v = true) {I' : CI} {L' : CL} {R' : CR}
    (hI : ∀ a, a ≠ k → I' a = I a) (hL : ∀ a, a ≠ k → L' a = L a) (hR : ∀ a, a ≠ k → R' a = R a) (hv : v = fvV bs (I' k) (L' k) (R' k) (t, j)) (hne : ∀ a, a ≠ j → I' k a = I k a ∧ L' k a = L k a ∧ R' k a = R k a) (hdg : decode cc pc = .ok (.putfield index, 3))
    (kk : ∀ (H1 : Heap) (locs1 : List Loc), Wd G bs cy I' L' R' H1 → va_S (Aq bs) H0 H1 locs1 → W p l e Rm s m args below meth c H1 locs1 cells slots Q (F0 m (pc + 3) ls rest)) : W p l e Rm s m args below meth c H locs cells slots Q (F0 m pc ls (v :: .ref (bs + k) :: rest)) := by
  obtain ⟨hx, hb, hml, hown, hts, hK, hE⟩ := X
  obtain ⟨C, T, N, hc, hC, hj, hin, hl⟩ := hF
  have hg : vwCl.getD ci ("", TX0, 0) = (C, T, N) := by rw [List.getD_eq_getElem?_getD, hc]; rfl
  have hci : ci < 15 := (List.getElem?_eq_some_iff.mp hc).1
  have hnm := cls_nm ci hci
  have hty := cls_ty ci hci
  rw [hg] at hfin hd hnm hty
  dsimp only at hfin hd hnm hty
  refine va_put hx hb hts hin (fun a => (parseFieldDescriptor (T a).2.2.1).getD .int) (fun a ha => ?_) hnm hown hK hW (wl_D hE.2.2.2.1) hS k (fs := ks.zipIdx.map (fvV bs (I k) (L k) (R k))) ?_ hc j hj (hts _ hl) (fun x hx2 => by rw [hC] at hx2; exact hx2) hfin hd hn hfit (ks_len ht) hdg (fun H1 locs1 hP _ hS1 => kk H1 locs1 ?_ hS1)
  · have h2 := hty a ha
    cases h3 : parseFieldDescriptor (T a).2.2.1 with
    | none => rw [h3] at h2; cases h2
    | some z => rfl
  · rw [wl_at hN, hk]
    rfl
  · rw [ks_set (i' := I' k) (l' := L' k) (r' := R' k) ht hv hne] at hP
    rw [wl_set hN hI hL hR (fun _ => by rw [hk]; rfl)] at hP
    exact hP
theorem r_puti (X : Cx p s m args c cc nL own G bs cy) (hW : Wd G bs cy I L R H) (hS : va_S (Aq bs) H0 H locs) {index ci j : Nat} (hF : FI own index ci j) {ks : List Nat} (hk : shp k = .inl (ci, ks)) (hN : k < NC) (ht : ks[j]? = some 0) {v : Int32} {ty : FieldType}
    (hfin : ((vwCl.getD ci ("", TX0, 0)).2.1 j).2.2.2 = false) (hd : parseFieldDescriptor ((vwCl.getD ci ("", TX0, 0)).2.1 j).2.2.1 = some ty) (hn : narrow ty (.int v) = .int v) (hfit : fits ty (.int v) = true) (hdg : decode cc pc = .ok (.putfield index, 3))
    (kk : ∀ (H1 : Heap) (locs1 : List Loc), Wd G bs cy (u2 I k j v) L R H1 → va_S (Aq bs) H0 H1 locs1 → W p l e Rm s m args below meth c H1 locs1 cells slots Q (F0 m (pc + 3) ls rest)) : W p l e Rm s m args below meth c H locs cells slots Q (F0 m pc ls (.int v :: .ref (bs + k) :: rest)) :=
  r_put X hW hS hF hk hN ht hfin hd hn hfit (I' := u2 I k j v) (L' := L) (R' := R) (fun a h => u2_ne h) (fun _ _ => rfl) (fun _ _ => rfl) (by rw [u2_eq]; simp [fvV, upd]) (fun a h => ⟨by rw [u2_eq]; simp [upd, h], rfl, rfl⟩) hdg kk
theorem r_putl (X : Cx p s m args c cc nL own G bs cy) (hW : Wd G bs cy I L R H) (hS : va_S (Aq bs) H0 H locs) {index ci j : Nat} (hF : FI own index ci j) {ks : List Nat} (hk : shp k = .inl (ci, ks)) (hN : k < NC) (ht : ks[j]? = some 1) {v : Int64}
    (hfin : ((vwCl.getD ci ("", TX0, 0)).2.1 j).2.2.2 = false) (hd : parseFieldDescriptor ((vwCl.getD ci ("", TX0, 0)).2.1 j).2.2.1 = some .long) (hdg : decode cc pc = .ok (.putfield index, 3))
    (kk : ∀ (H1 : Heap) (locs1 : List Loc), Wd G bs cy I (u2L L k j v) R H1 → va_S (Aq bs) H0 H1 locs1 → W p l e Rm s m args below meth c H1 locs1 cells slots Q (F0 m (pc + 3) ls rest)) : W p l e Rm s m args below meth c H locs cells slots Q (F0 m pc ls (.long v :: .ref (bs + k) :: rest)) :=
  r_put X hW hS hF hk hN ht hfin hd rfl rfl (I' := I) (L' := u2L L k j v) (R' := R) (fun _ _ => rfl) (fun a h => u2L_ne h) (fun _ _ => rfl) (by rw [u2L_eq]; simp [fvV, vp_updL]) (fun a h => ⟨rfl, by rw [u2L_eq]; simp [vp_updL, h], rfl⟩) hdg kk
theorem r_putr (X : Cx p s m args c cc nL own G bs cy) (hW : Wd G bs cy I L R H) (hS : va_S (Aq bs) H0 H locs) {index ci j : Nat} (hF : FI own index ci j) {ks : List Nat} (hk : shp k = .inl (ci, ks)) (hN : k < NC) (ht : ks[j]? = some 2) {v : Nat} {C : String}
    (hfin : ((vwCl.getD ci ("", TX0, 0)).2.1 j).2.2.2 = false) (hd : parseFieldDescriptor ((vwCl.getD ci ("", TX0, 0)).2.1 j).2.2.1 = some (.object C)) (hdg : decode cc pc = .ok (.putfield index, 3))
    (kk : ∀ (H1 : Heap) (locs1 : List Loc), Wd G bs cy I L (u2R R k j v) H1 → va_S (Aq bs) H0 H1 locs1 → W p l e Rm s m args below meth c H1 locs1 cells slots Q (F0 m (pc + 3) ls rest)) : W p l e Rm s m args below meth c H locs cells slots Q (F0 m pc ls (.ref (bs + v) :: .ref (bs + k) :: rest)) :=
  r_put X hW hS hF hk hN ht hfin hd rfl rfl (I' := I) (L' := L) (R' := u2R R k j v) (fun _ _ => rfl) (fun _ _ => rfl) (fun a h => u2R_ne h) (by simp [fvV, u2R]) (fun a h => ⟨rfl, rfl, by simp [u2R, h]⟩) hdg kk
theorem rn_get (X : Cx p s m args c cc nL own G bs cy) (hW : Wd G bs cy I L R H) {index ci j : Nat} (hF : FN own index ci j) {ks : List Nat} {t : Nat} (hk : shp k = .inl (ci, ks)) (hN : k < NC) (ht : ks[j]? = some t) {v : Value} (hv : fvV bs (I k) (L k) (R k) (t, j) = v) (hdg : decode cc pc = .ok (.getfield index, 3))
    (kk : W p l e Rm s m args below meth c H locs cells slots Q (F0 m (pc + 3) ls (v :: rest))) : W p l e Rm s m args below meth c H locs cells slots Q (F0 m pc ls (.ref (bs + k) :: rest)) := by
  obtain ⟨hx, hb, hml, hown, hts, hK, hE⟩ := X
  obtain ⟨C, T, N, hc, hC, hj, hin, hl⟩ := hF
  subst hv
  refine va_getN (host := "SpanPainter") hx hb hts hin hown hK hW k (fs := ks.zipIdx.map (fvV bs (I k) (L k) (R k))) ?_ hc j hj (va_Nw.use (nest_ok _ hl).1 (hE.1.1 _ hl)) (fun x hx2 => by rw [hC] at hx2; exact hx2) (ks_at ht) hdg kk
  rw [wl_at hN, hk]
  rfl
theorem rn_geti (X : Cx p s m args c cc nL own G bs cy) (hW : Wd G bs cy I L R H) {index ci j : Nat} (hF : FN own index ci j) {ks : List Nat} (hk : shp k = .inl (ci, ks)) (hN : k < NC) (ht : ks[j]? = some 0) {v : Int32} (hv : I k j = v) (hdg : decode cc pc = .ok (.getfield index, 3))
    (kk : W p l e Rm s m args below meth c H locs cells slots Q (F0 m (pc + 3) ls (.int v :: rest))) : W p l e Rm s m args below meth c H locs cells slots Q (F0 m pc ls (.ref (bs + k) :: rest)) := rn_get X hW hF hk hN ht (by rw [← hv]; rfl) hdg kk
theorem rn_getl (X : Cx p s m args c cc nL own G bs cy) (hW : Wd G bs cy I L R H) {index ci j : Nat} (hF : FN own index ci j) {ks : List Nat} (hk : shp k = .inl (ci, ks)) (hN : k < NC) (ht : ks[j]? = some 1) {v : Int64} (hv : L k j = v) (hdg : decode cc pc = .ok (.getfield index, 3))
    (kk : W p l e Rm s m args below meth c H locs cells slots Q (F0 m (pc + 3) ls (.long v :: rest))) : W p l e Rm s m args below meth c H locs cells slots Q (F0 m pc ls (.ref (bs + k) :: rest)) := rn_get X hW hF hk hN ht (by rw [← hv]; rfl) hdg kk
theorem rn_getr (X : Cx p s m args c cc nL own G bs cy) (hW : Wd G bs cy I L R H) {index ci j : Nat} (hF : FN own index ci j) {ks : List Nat} (hk : shp k = .inl (ci, ks)) (hN : k < NC) (ht : ks[j]? = some 2) {v : Nat} (hv : R k j = v) (hdg : decode cc pc = .ok (.getfield index, 3))
    (kk : W p l e Rm s m args below meth c H locs cells slots Q (F0 m (pc + 3) ls (.ref (bs + v) :: rest))) : W p l e Rm s m args below meth c H locs cells slots Q (F0 m pc ls (.ref (bs + k) :: rest)) := rn_get X hW hF hk hN ht (by rw [← hv]; rfl) hdg kk
theorem rn_getc (X : Cx p s m args c cc nL own G bs cy) (hW : Wd G bs cy I L R H) {index ci j : Nat} (hF : FN own index ci j) {ks : List Nat} {t : Nat} (hk : shp k = .inl (ci, ks)) (hN : k < NC) (ht : ks[j]? = some (t + 3)) (hdg : decode cc pc = .ok (.getfield index, 3))
    (kk : W p l e Rm s m args below meth c H locs cells slots Q (F0 m (pc + 3) ls (.ref (bs + t) :: rest))) : W p l e Rm s m args below meth c H locs cells slots Q (F0 m pc ls (.ref (bs + k) :: rest)) := rn_get X hW hF hk hN ht rfl hdg kk
theorem rn_put (X : Cx p s m args c cc nL own G bs cy) (hW : Wd G bs cy I L R H) (hS : va_S (Aq bs) H0 H locs) {index ci j : Nat} (hF : FN own index ci j) {ks : List Nat} {t : Nat} (hk : shp k = .inl (ci, ks)) (hN : k < NC) (ht : ks[j]? = some t) {v : Value} {ty : FieldType}
    (hfin : (vwCl.getD ci ("", TX0, 0)).2.1 j |>.2.2.2 = false) (hd : parseFieldDescriptor ((vwCl.getD ci ("", TX0, 0)).2.1 j).2.2.1 = some ty) (hn : narrow ty v = v) (hfit : fits ty v = true) {I' : CI} {L' : CL} {R' : CR}
    (hI : ∀ a, a ≠ k → I' a = I a) (hL : ∀ a, a ≠ k → L' a = L a) (hR : ∀ a, a ≠ k → R' a = R a) (hv : v = fvV bs (I' k) (L' k) (R' k) (t, j)) (hne : ∀ a, a ≠ j → I' k a = I k a ∧ L' k a = L k a ∧ R' k a = R k a) (hdg : decode cc pc = .ok (.putfield index, 3))
    (kk : ∀ (H1 : Heap) (locs1 : List Loc), Wd G bs cy I' L' R' H1 → va_S (Aq bs) H0 H1 locs1 → W p l e Rm s m args below meth c H1 locs1 cells slots Q (F0 m (pc + 3) ls rest)) : W p l e Rm s m args below meth c H locs cells slots Q (F0 m pc ls (v :: .ref (bs + k) :: rest)) := by
  obtain ⟨hx, hb, hml, hown, hts, hK, hE⟩ := X
  obtain ⟨C, T, N, hc, hC, hj, hin, hl⟩ := hF
  have hg : vwCl.getD ci ("", TX0, 0) = (C, T, N) := by rw [List.getD_eq_getElem?_getD, hc]; rfl
  have hci : ci < 15 := (List.getElem?_eq_some_iff.mp hc).1
  have hnm := cls_nm ci hci
  have hty := cls_ty ci hci
  rw [hg] at hfin hd hnm hty
  dsimp only at hfin hd hnm hty
  refine va_putN (host := "SpanPainter") hx hb hts hin (fun a => (parseFieldDescriptor (T a).2.2.1).getD .int) (fun a ha => ?_) hnm hown hK hW (wl_D hE.2.2.2.1) hS k (fs := ks.zipIdx.map (fvV bs (I k) (L k) (R k))) ?_ hc j hj (va_Nw.use (nest_ok _ hl).1 (hE.1.1 _ hl)) (fun x hx2 => by rw [hC] at hx2; exact hx2) hfin hd hn hfit (ks_len ht) hdg (fun H1 locs1 hP _ hS1 => kk H1 locs1 ?_ hS1)
  · have h2 := hty a ha
    cases h3 : parseFieldDescriptor (T a).2.2.1 with
    | none => rw [h3] at h2; cases h2
    | some z => rfl
  · rw [wl_at hN, hk]
    rfl
  · rw [ks_set (i' := I' k) (l' := L' k) (r' := R' k) ht hv hne] at hP
    rw [wl_set hN hI hL hR (fun _ => by rw [hk]; rfl)] at hP
    exact hP
theorem rn_puti (X : Cx p s m args c cc nL own G bs cy) (hW : Wd G bs cy I L R H) (hS : va_S (Aq bs) H0 H locs) {index ci j : Nat} (hF : FN own index ci j) {ks : List Nat} (hk : shp k = .inl (ci, ks)) (hN : k < NC) (ht : ks[j]? = some 0) {v : Int32} {ty : FieldType}
    (hfin : ((vwCl.getD ci ("", TX0, 0)).2.1 j).2.2.2 = false) (hd : parseFieldDescriptor ((vwCl.getD ci ("", TX0, 0)).2.1 j).2.2.1 = some ty) (hn : narrow ty (.int v) = .int v) (hfit : fits ty (.int v) = true) (hdg : decode cc pc = .ok (.putfield index, 3))
    (kk : ∀ (H1 : Heap) (locs1 : List Loc), Wd G bs cy (u2 I k j v) L R H1 → va_S (Aq bs) H0 H1 locs1 → W p l e Rm s m args below meth c H1 locs1 cells slots Q (F0 m (pc + 3) ls rest)) : W p l e Rm s m args below meth c H locs cells slots Q (F0 m pc ls (.int v :: .ref (bs + k) :: rest)) :=
  rn_put X hW hS hF hk hN ht hfin hd hn hfit (I' := u2 I k j v) (L' := L) (R' := R) (fun a h => u2_ne h) (fun _ _ => rfl) (fun _ _ => rfl) (by rw [u2_eq]; simp [fvV, upd]) (fun a h => ⟨by rw [u2_eq]; simp [upd, h], rfl, rfl⟩) hdg kk
theorem rn_putl (X : Cx p s m args c cc nL own G bs cy) (hW : Wd G bs cy I L R H) (hS : va_S (Aq bs) H0 H locs) {index ci j : Nat} (hF : FN own index ci j) {ks : List Nat} (hk : shp k = .inl (ci, ks)) (hN : k < NC) (ht : ks[j]? = some 1) {v : Int64}
    (hfin : ((vwCl.getD ci ("", TX0, 0)).2.1 j).2.2.2 = false) (hd : parseFieldDescriptor ((vwCl.getD ci ("", TX0, 0)).2.1 j).2.2.1 = some .long) (hdg : decode cc pc = .ok (.putfield index, 3))
    (kk : ∀ (H1 : Heap) (locs1 : List Loc), Wd G bs cy I (u2L L k j v) R H1 → va_S (Aq bs) H0 H1 locs1 → W p l e Rm s m args below meth c H1 locs1 cells slots Q (F0 m (pc + 3) ls rest)) : W p l e Rm s m args below meth c H locs cells slots Q (F0 m pc ls (.long v :: .ref (bs + k) :: rest)) :=
  rn_put X hW hS hF hk hN ht hfin hd rfl rfl (I' := I) (L' := u2L L k j v) (R' := R) (fun _ _ => rfl) (fun a h => u2L_ne h) (fun _ _ => rfl) (by rw [u2L_eq]; simp [fvV, vp_updL]) (fun a h => ⟨rfl, by rw [u2L_eq]; simp [vp_updL, h], rfl⟩) hdg kk
theorem rn_putr (X : Cx p s m args c cc nL own G bs cy) (hW : Wd G bs cy I L R H) (hS : va_S (Aq bs) H0 H locs) {index ci j : Nat} (hF : FN own index ci j) {ks : List Nat} (hk : shp k = .inl (ci, ks)) (hN : k < NC) (ht : ks[j]? = some 2) {v : Nat} {C : String}
    (hfin : ((vwCl.getD ci ("", TX0, 0)).2.1 j).2.2.2 = false) (hd : parseFieldDescriptor ((vwCl.getD ci ("", TX0, 0)).2.1 j).2.2.1 = some (.object C)) (hdg : decode cc pc = .ok (.putfield index, 3))
    (kk : ∀ (H1 : Heap) (locs1 : List Loc), Wd G bs cy I L (u2R R k j v) H1 → va_S (Aq bs) H0 H1 locs1 → W p l e Rm s m args below meth c H1 locs1 cells slots Q (F0 m (pc + 3) ls rest)) : W p l e Rm s m args below meth c H locs cells slots Q (F0 m pc ls (.ref (bs + v) :: .ref (bs + k) :: rest)) :=
  rn_put X hW hS hF hk hN ht hfin hd rfl rfl (I' := I) (L' := L) (R' := u2R R k j v) (fun _ _ => rfl) (fun _ _ => rfl) (fun a h => u2R_ne h) (by simp [fvV, u2R]) (fun a h => ⟨rfl, rfl, by simp [u2R, h]⟩) hdg kk
theorem wl_arr {ty n : Nat} (hk : shp k = .inr (ty, n)) (hN : k < NC) (hty : ty ≠ 9) : (wl bs cy I L R)[k]? = some (bs + k, .inl (cy ty, n, entA bs ty (I k) (L k))) := by
  rw [wl_at hN, hk]
  show some (bs + k, if ty = 9 then _ else _) = _
  rw [if_neg hty]
theorem r_ald (X : Cx p s m args c cc nL own G bs cy) (hW : Wd G bs cy I L R H) {n : Nat} (hk : shp k = .inr (0, n)) (hN : k < NC) {x : Int32} {j : Nat} (hx : x = nI j) (hj : j < n) (hn : n < 2 ^ 31) {v : Int32} (hv : I k j = v) (hdg : decode cc pc = .ok (.iaload, 1))
    (kk : W p l e Rm s m args below meth c H locs cells slots Q (F0 m (pc + 1) ls (.int v :: rest))) : W p l e Rm s m args below meth c H locs cells slots Q (F0 m pc ls (.int x :: .ref (bs + k) :: rest)) := by
  subst hx; subst hv
  refine va_iald X.1 X.2.1 X.2.2.2.2.2.1 hW k 0 (wl_arr hk hN (by omega)) rfl (vp_in_nI hj hn) hdg ?_
  rw [nI_clamp (by omega)]
  exact kk
theorem r_bald (X : Cx p s m args c cc nL own G bs cy) (hW : Wd G bs cy I L R H) {n : Nat} (hk : shp k = .inr (1, n)) (hN : k < NC) {x : Int32} {j : Nat} (hx : x = nI j) (hj : j < n) (hn : n < 2 ^ 31) {v : Int32} (hv : I k j = v) (hdg : decode cc pc = .ok (.baload, 1))
    (kk : W p l e Rm s m args below meth c H locs cells slots Q (F0 m (pc + 1) ls (.int v :: rest))) : W p l e Rm s m args below meth c H locs cells slots Q (F0 m pc ls (.int x :: .ref (bs + k) :: rest)) := by
  subst hx; subst hv
  refine va_bald X.1 X.2.1 X.2.2.2.2.2.1 hW k 1 (wl_arr hk hN (by omega)) rfl (vp_in_nI hj hn) hdg ?_
  rw [nI_clamp (by omega)]
  exact kk
theorem r_lald (X : Cx p s m args c cc nL own G bs cy) (hW : Wd G bs cy I L R H) {n : Nat} (hk : shp k = .inr (2, n)) (hN : k < NC) {x : Int32} {j : Nat} (hx : x = nI j) (hj : j < n) (hn : n < 2 ^ 31) {v : Int64} (hv : L k j = v) (hdg : decode cc pc = .ok (.laload, 1))
    (kk : W p l e Rm s m args below meth c H locs cells slots Q (F0 m (pc + 1) ls (.long v :: rest))) : W p l e Rm s m args below meth c H locs cells slots Q (F0 m pc ls (.int x :: .ref (bs + k) :: rest)) := by
  subst hx; subst hv
  refine va_lald X.1 X.2.1 X.2.2.2.2.2.1 hW k 2 (wl_arr hk hN (by omega)) rfl (vp_in_nI hj hn) hdg ?_
  rw [nI_clamp (by omega)]
  exact kk
theorem r_ast (X : Cx p s m args c cc nL own G bs cy) (hW : Wd G bs cy I L R H) (hS : va_S (Aq bs) H0 H locs) {n : Nat} (hk : shp k = .inr (0, n)) (hN : k < NC) {x : Int32} {j : Nat} (hx : x = nI j) (hj : j < n) (hn : n < 2 ^ 31) {v : Int32} (hdg : decode cc pc = .ok (.iastore, 1))
    (kk : ∀ (H1 : Heap) (locs1 : List Loc), Wd G bs cy (u2 I k j v) L R H1 → va_S (Aq bs) H0 H1 locs1 → W p l e Rm s m args below meth c H1 locs1 cells slots Q (F0 m (pc + 1) ls rest)) : W p l e Rm s m args below meth c H locs cells slots Q (F0 m pc ls (.int v :: .int x :: .ref (bs + k) :: rest)) := by
  subst hx
  refine va_iast X.1 X.2.1 X.2.2.2.2.2.1 hW (wl_D X.2.2.2.2.2.2.2.2.2.1) hS k 0 (wl_arr hk hN (by omega)) rfl (vp_in_nI hj hn) hdg (fun H1 locs1 hP _ hS1 => kk H1 locs1 ?_ hS1)
  rw [nI_clamp (by omega), wl_set hN (I' := u2 I k j v) (L' := L) (R' := R) (fun a h => u2_ne h) (fun _ _ => rfl) (fun _ _ => rfl) (fun _ => by rw [hk, u2_eq]; rfl)] at hP
  exact hP
theorem r_bast (X : Cx p s m args c cc nL own G bs cy) (hW : Wd G bs cy I L R H) (hS : va_S (Aq bs) H0 H locs) {n : Nat} (hk : shp k = .inr (1, n)) (hN : k < NC) {x : Int32} {j : Nat} (hx : x = nI j) (hj : j < n) (hn : n < 2 ^ 31) {v w : Int32} (hv : vp_nar .byte v = w) (hdg : decode cc pc = .ok (.bastore, 1))
    (kk : ∀ (H1 : Heap) (locs1 : List Loc), Wd G bs cy (u2 I k j w) L R H1 → va_S (Aq bs) H0 H1 locs1 → W p l e Rm s m args below meth c H1 locs1 cells slots Q (F0 m (pc + 1) ls rest)) : W p l e Rm s m args below meth c H locs cells slots Q (F0 m pc ls (.int v :: .int x :: .ref (bs + k) :: rest)) := by
  subst hx; subst hv
  refine va_bast X.1 X.2.1 X.2.2.2.2.2.1 hW (wl_D X.2.2.2.2.2.2.2.2.2.1) hS k 1 (wl_arr hk hN (by omega)) rfl (vp_in_nI hj hn) hdg (fun H1 locs1 hP _ hS1 => kk H1 locs1 ?_ hS1)
  rw [nI_clamp (by omega), wl_set hN (I' := u2 I k j (vp_nar .byte v)) (L' := L) (R' := R) (fun a h => u2_ne h) (fun _ _ => rfl) (fun _ _ => rfl) (fun _ => by rw [hk, u2_eq]; rfl)] at hP
  exact hP
theorem r_last (X : Cx p s m args c cc nL own G bs cy) (hW : Wd G bs cy I L R H) (hS : va_S (Aq bs) H0 H locs) {n : Nat} (hk : shp k = .inr (2, n)) (hN : k < NC) {x : Int32} {j : Nat} (hx : x = nI j) (hj : j < n) (hn : n < 2 ^ 31) {v : Int64} (hdg : decode cc pc = .ok (.lastore, 1))
    (kk : ∀ (H1 : Heap) (locs1 : List Loc), Wd G bs cy I (u2L L k j v) R H1 → va_S (Aq bs) H0 H1 locs1 → W p l e Rm s m args below meth c H1 locs1 cells slots Q (F0 m (pc + 1) ls rest)) : W p l e Rm s m args below meth c H locs cells slots Q (F0 m pc ls (.long v :: .int x :: .ref (bs + k) :: rest)) := by
  subst hx
  refine va_last X.1 X.2.1 X.2.2.2.2.2.1 hW (wl_D X.2.2.2.2.2.2.2.2.2.1) hS k 2 (wl_arr hk hN (by omega)) rfl (vp_in_nI hj hn) hdg (fun H1 locs1 hP _ hS1 => kk H1 locs1 ?_ hS1)
  rw [nI_clamp (by omega), wl_set hN (I' := I) (L' := u2L L k j v) (R' := R) (fun _ _ => rfl) (fun a h => u2L_ne h) (fun _ _ => rfl) (fun _ => by rw [hk, u2L_eq]; rfl)] at hP
  exact hP
theorem r_alen (X : Cx p s m args c cc nL own G bs cy) (hW : Wd G bs cy I L R H) {ty n : Nat} (hk : shp k = .inr (ty, n)) (hty : ty < 5) (hN : k < NC) (hdg : decode cc pc = .ok (.arraylength, 1))
    (kk : W p l e Rm s m args below meth c H locs cells slots Q (F0 m (pc + 1) ls (.int (nI n) :: rest))) : W p l e Rm s m args below meth c H locs cells slots Q (F0 m pc ls (.ref (bs + k) :: rest)) := by
  have h5 : ∃ t, (tyLs cy)[ty]? = some (cy ty, t) := by
    rcases (show ty = 0 ∨ ty = 1 ∨ ty = 2 ∨ ty = 3 ∨ ty = 4 by omega) with rfl | rfl | rfl | rfl | rfl <;> exact ⟨_, rfl⟩
  obtain ⟨t, ht⟩ := h5
  exact va_alen X.1 X.2.1 X.2.2.2.2.2.1 hW k ty (wl_arr hk hN (by omega)) ht rfl hdg kk
end RR
abbrev MI : Type := MethodName × ByteArray × Nat × Option FieldType
def rmL (n mc ms : Nat) : Room := { frames := n, cells := mc, slots := ms, locals := 60 * n }
def mws (μ : MI) : List Cond := .code μ.1 μ.2.1 μ.2.2.1 μ.2.2.2 :: wsL_law
def PcM (G : va_G) (bs : Nat) (cy : Nat → ClassId) (av : List Value) (I : CI) (L : CL) (R : CR) : Array Value → State → Prop := va_Pc av (fun U => Wd G bs cy I L R U.heap ∧ va_K G vwCl (tyLs cy) U ∧ EK bs cy U U.heap)
abbrev Sto : Type := CI × CL × CR
def BM (G : va_G) (bs : Nat) (cy : Nat → ClassId) (u : Sto) (t : State) : Prop := Wd G bs cy u.1 u.2.1 u.2.2 t.heap
/-- the contract of a method that answers an int (at its room's level n): from this store, these arguments, it returns r and leaves a store, as Q says -/
def MTi (l : Launch) (G : va_G) (bs : Nat) (cy : Nat → ClassId) (μ : MI) (n : Nat) (av : List Value) (I : CI) (L : CL) (R : CR) (Q : Int32 → CI → CL → CR → Prop) : Prop :=
  Met l μ.1 (mws μ) (rmL n 0 0) (PcM G bs cy av I L R) (va_Qi (fun (r : Int32) (u : Sto) => Q r u.1 u.2.1 u.2.2) (BM G bs cy) (Aq bs)) 0 0 (Aq bs)
def MTl (l : Launch) (G : va_G) (bs : Nat) (cy : Nat → ClassId) (μ : MI) (n : Nat) (av : List Value) (I : CI) (L : CL) (R : CR) (Q : Int64 → CI → CL → CR → Prop) : Prop :=
  Met l μ.1 (mws μ) (rmL n 0 0) (PcM G bs cy av I L R) (va_Ql (fun (r : Int64) (u : Sto) => Q r u.1 u.2.1 u.2.2) (BM G bs cy) (Aq bs)) 0 0 (Aq bs)
def MTv (l : Launch) (G : va_G) (bs : Nat) (cy : Nat → ClassId) (μ : MI) (n : Nat) (av : List Value) (I : CI) (L : CL) (R : CR) (Q : CI → CL → CR → Prop) : Prop :=
  Met l μ.1 (mws μ) (rmL n 0 0) (PcM G bs cy av I L R) (va_Qv (fun (u : Sto) => Q u.1 u.2.1 u.2.2) (BM G bs cy) (Aq bs)) 0 0 (Aq bs)
def MTd (l : Launch) (G : va_G) (bs : Nat) (cy : Nat → ClassId) (μ : MI) (n : Nat) (av : List Value) (I : CI) (L : CL) (R : CR) (Q : UInt64 → CI → CL → CR → Prop) : Prop :=
  Met l μ.1 (mws μ) (rmL n 0 0) (PcM G bs cy av I L R) (va_Qd (fun (r : UInt64) (u : Sto) => Q r u.1 u.2.1 u.2.2) (BM G bs cy) (Aq bs)) 0 0 (Aq bs)
theorem PcM_blind {G : va_G} {bs : Nat} {cy : Nat → ClassId} {av : List Value} {I : CI} {L : CL} {R : CR} : FrameBlind (PcM G bs cy av I L R) := fun a U g mk q => ⟨q.1, q.2.1, va_K.moved (u := U) (U := U.calling g mk a) (Vm.Alike.refl U.vm) q.2.2.1, EK.same (s := U) (U := U.calling g mk a) rfl q.2.2.2⟩
def noMH (y : MethodName) (n : Nat) : Prop := y.cls ≠ "java/lang/invoke/MethodHandle" ∧ y.cls ≠ "java/lang/invoke/VarHandle" ∧ (parseMethodDescriptor y.desc).map (fun d => d.parameters.length) = some n
/-- what the tables say of a method that is called: by a receiver of its own class; statically; as a constructor -/
def UV (μ : MI) (C : String) (n : Nat) : Prop := (μ.1.cls = C ∧ μ.1.cls ≠ "java/lang/invoke/MethodHandle" ∧ μ.1.cls ≠ "java/lang/invoke/VarHandle" ∧ (parseMethodDescriptor μ.1.desc).map (fun d => d.parameters.length) = some n) ∧ μ.2.2.1 ≤ 41 ∧ Cond.instanceMethod μ.1 ∈ wsL_law ∧ Cond.selects C μ.1 μ.1 ∈ wsL_law ∧ Cond.initialized C ∈ wsL_law ∧ Cond.code μ.1 μ.2.1 μ.2.2.1 μ.2.2.2 ∈ wsL_law
def US (μ : MI) (C : String) (n : Nat) : Prop := (μ.1.cls = C ∧ μ.1.cls ≠ "java/lang/invoke/MethodHandle" ∧ μ.1.cls ≠ "java/lang/invoke/VarHandle" ∧ (parseMethodDescriptor μ.1.desc).map (fun d => d.parameters.length) = some n) ∧ μ.2.2.1 ≤ 41 ∧ Cond.static μ.1 ∈ wsL_law ∧ Cond.initialized C ∈ wsL_law ∧ Cond.code μ.1 μ.2.1 μ.2.2.1 μ.2.2.2 ∈ wsL_law
def UI (μ : MI) (C : String) (n : Nat) : Prop := (μ.1.cls = C ∧ μ.1.cls ≠ "java/lang/invoke/MethodHandle" ∧ μ.1.cls ≠ "java/lang/invoke/VarHandle" ∧ (parseMethodDescriptor μ.1.desc).map (fun d => d.parameters.length) = some n) ∧ μ.2.2.1 ≤ 41 ∧ Cond.instanceMethod μ.1 ∈ wsL_law ∧ Cond.initialized C ∈ wsL_law ∧ Cond.code μ.1 μ.2.1 μ.2.2.1 μ.2.2.2 ∈ wsL_law
theorem wsL_good0 : wsL_law.all goodWord = true := by decide +kernel
theorem wsL_good {w : Cond} (h : w ∈ wsL_law) : (w.onTables && w.keeps) = true ∨ ∃ ty, w = .arrayClass ty := good_of_word (List.all_eq_true.mp wsL_good0 w h)
theorem gIn {ws : List Cond} (h : ∀ w ∈ ws, w ∈ wsL_law) : GoodIn wsL_law ws := fun w hw => ⟨h w hw, wsL_good (h w hw)⟩
abbrev ML_init : MI := (yL_init, cL_init, 1, none)
abbrev MX11_init : MI := (yX11_init, cX11_init, 5, none)
abbrev MX0_init : MI := (yX0_init, cX0_init, 1, none)
abbrev MX7_init : MI := (yX7_init, cX7_init, 1, none)
abbrev MX8_init : MI := (yX8_init, cX8_init, 1, none)
abbrev MX2_init : MI := (yX2_init, cX2_init, 1, none)
abbrev MX4_init : MI := (yX4_init, cX4_init, 1, none)
abbrev MX9_init : MI := (yX9_init, cX9_init, 1, none)
abbrev MX1_init : MI := (yX1_init, cX1_init, 1, none)
abbrev MX1_reset : MI := (yX1_reset, cX1_reset, 1, none)
abbrev MJ7_fill_53178 : MI := (yJ7_fill_53178, cJ7_fill_53178, 4, none)
abbrev MX6_init : MI := (yX6_init, cX6_init, 2, none)
abbrev MX5_init : MI := (yX5_init, cX5_init, 4, none)
abbrev MX3_init : MI := (yX3_init, cX3_init, 1, none)
abbrev MX10_init : MI := (yX10_init, cX10_init, 2, none)
abbrev ML_bridge : MI := (yL_bridge, cL_bridge, 3, (some (.object "java/lang/String")))
abbrev ML_chosen : MI := (yL_chosen, cL_chosen, 3, (some .int))
abbrev ML_cell : MI := (yL_cell, cL_cell, 2, (some .int))
abbrev ML_among : MI := (yL_among, cL_among, 3, (some .int))
abbrev MJ4_init_da8c8 : MI := (yJ4_init_da8c8, cJ4_init_da8c8, 1, none)
abbrev MJ5_init_d00df : MI := (yJ5_init_d00df, cJ5_init_d00df, 2, none)
abbrev MJ2_newBytesFor_77867 : MI := (yJ2_newBytesFor_77867, cJ2_newBytesFor_77867, 1, (some (.array .byte)))
abbrev MJ2_newBytesLength_0f7a4 : MI := (yJ2_newBytesLength_0f7a4, cJ2_newBytesLength_0f7a4, 1, (some .int))
abbrev MJ4_append_15ec4 : MI := (yJ4_append_15ec4, cJ4_append_15ec4, 2, (some (.object "java/lang/StringBuilder")))
abbrev MJ5_append_cf1ce : MI := (yJ5_append_cf1ce, cJ5_append_cf1ce, 3, (some (.object "java/lang/AbstractStringBuilder")))
abbrev MJ5_appendNull_278bc : MI := (yJ5_appendNull_278bc, cJ5_appendNull_278bc, 3, (some (.object "java/lang/AbstractStringBuilder")))
abbrev MJ5_ensureCapacityInternal_d00df : MI := (yJ5_ensureCapacityInternal_d00df, cJ5_ensureCapacityInternal_d00df, 3, none)
abbrev MJ5_newCapacity_0f7a4 : MI := (yJ5_newCapacity_0f7a4, cJ5_newCapacity_0f7a4, 6, (some .int))
abbrev MJ8_newLength_cabcc : MI := (yJ8_newLength_cabcc, cJ8_newLength_cabcc, 4, (some .int))
abbrev MJ8_hugeLength_7cf53 : MI := (yJ8_hugeLength_7cf53, cJ8_hugeLength_7cf53, 3, (some .int))
abbrev MJ7_copyOf_9075b : MI := (yJ7_copyOf_9075b, cJ7_copyOf_9075b, 3, (some (.array .byte)))
abbrev MJ5_isLatin1_aae02 : MI := (yJ5_isLatin1_aae02, cJ5_isLatin1_aae02, 1, (some .boolean))
abbrev MJ2_putCharsAt_cd4e5 : MI := (yJ2_putCharsAt_cd4e5, cJ2_putCharsAt_cd4e5, 7, (some .int))
abbrev MJ2_checkBoundsBeginEnd_d044e : MI := (yJ2_checkBoundsBeginEnd_d044e, cJ2_checkBoundsBeginEnd_d044e, 3, none)
abbrev MJ2_length_9d52b : MI := (yJ2_length_9d52b, cJ2_length_9d52b, 1, (some .int))
abbrev MJ0_checkBoundsBeginEnd_23922 : MI := (yJ0_checkBoundsBeginEnd_23922, cJ0_checkBoundsBeginEnd_23922, 3, none)
abbrev MJ3_checkFromToIndex_8c36e : MI := (yJ3_checkFromToIndex_8c36e, cJ3_checkFromToIndex_8c36e, 4, (some .int))
abbrev MJ2_putChar_b72d1 : MI := (yJ2_putChar_b72d1, cJ2_putChar_b72d1, 3, none)
abbrev MJ0_length_8abf5 : MI := (yJ0_length_8abf5, cJ0_length_8abf5, 1, (some .int))
abbrev MJ0_coder_7d493 : MI := (yJ0_coder_7d493, cJ0_coder_7d493, 1, (some .byte))
abbrev MJ5_putStringAt_47b60 : MI := (yJ5_putStringAt_47b60, cJ5_putStringAt_47b60, 3, none)
abbrev MJ5_inflateIfNeededFor_a7421 : MI := (yJ5_inflateIfNeededFor_a7421, cJ5_inflateIfNeededFor_a7421, 2, none)
abbrev MJ5_inflate_da8c8 : MI := (yJ5_inflate_da8c8, cJ5_inflate_da8c8, 2, none)
abbrev MJ1_inflate_0e8fd : MI := (yJ1_inflate_0e8fd, cJ1_inflate_0e8fd, 5, none)
abbrev MJ2_inflate_0e8fd : MI := (yJ2_inflate_0e8fd, cJ2_inflate_0e8fd, 6, none)
abbrev MJ2_checkBoundsOffCount_d044e : MI := (yJ2_checkBoundsOffCount_d044e, cJ2_checkBoundsOffCount_d044e, 3, none)
abbrev MJ0_checkBoundsOffCount_cabcc : MI := (yJ0_checkBoundsOffCount_cabcc, cJ0_checkBoundsOffCount_cabcc, 3, (some .int))
abbrev MJ3_checkFromIndexSize_8c36e : MI := (yJ3_checkFromIndexSize_8c36e, cJ3_checkFromIndexSize_8c36e, 4, (some .int))
abbrev MJ0_getBytes_840e7 : MI := (yJ0_getBytes_840e7, cJ0_getBytes_840e7, 4, none)
abbrev MJ4_append_bf812 : MI := (yJ4_append_bf812, cJ4_append_bf812, 2, (some (.object "java/lang/StringBuilder")))
abbrev MJ5_append_c97b9 : MI := (yJ5_append_c97b9, cJ5_append_c97b9, 4, (some (.object "java/lang/AbstractStringBuilder")))
abbrev MJ6_stringSize_0f7a4 : MI := (yJ6_stringSize_0f7a4, cJ6_stringSize_0f7a4, 4, (some .int))
abbrev MJ6_getChars_ba4f3 : MI := (yJ6_getChars_ba4f3, cJ6_getChars_ba4f3, 7, (some .int))
abbrev MJ2_getChars_46870 : MI := (yJ2_getChars_46870, cJ2_getChars_46870, 5, (some .int))
abbrev MJ2_getChars_ba4f3 : MI := (yJ2_getChars_ba4f3, cJ2_getChars_ba4f3, 7, (some .int))
abbrev MJ4_toString_0e30d : MI := (yJ4_toString_0e30d, cJ4_toString_0e30d, 1, (some (.object "java/lang/String")))
abbrev MJ0_init_81219 : MI := (yJ0_init_81219, cJ0_init_81219, 2, none)
abbrev MJ0_init_db425 : MI := (yJ0_init_db425, cJ0_init_db425, 5, none)
abbrev MJ5_getValue_6d5f1 : MI := (yJ5_getValue_6d5f1, cJ5_getValue_6d5f1, 1, (some (.array .byte)))
abbrev MJ4_length_8abf5 : MI := (yJ4_length_8abf5, cJ4_length_8abf5, 1, (some .int))
abbrev MJ5_length_8abf5 : MI := (yJ5_length_8abf5, cJ5_length_8abf5, 1, (some .int))
abbrev MJ7_copyOfRange_39247 : MI := (yJ7_copyOfRange_39247, cJ7_copyOfRange_39247, 3, (some (.array .byte)))
abbrev MJ7_copyOfRangeByte_39247 : MI := (yJ7_copyOfRangeByte_39247, cJ7_copyOfRangeByte_39247, 5, (some (.array .byte)))
abbrev MJ7_checkLength_df160 : MI := (yJ7_checkLength_df160, cJ7_checkLength_df160, 2, none)
abbrev MJ2_compress_39247 : MI := (yJ2_compress_39247, cJ2_compress_39247, 6, (some (.array .byte)))
abbrev MJ2_compress_5af95 : MI := (yJ2_compress_5af95, cJ2_compress_5af95, 7, (some .int))
abbrev MJ2_getChar_3b067 : MI := (yJ2_getChar_3b067, cJ2_getChar_3b067, 2, (some .char))
abbrev MJ2_coderFromArrayLen_85cad : MI := (yJ2_coderFromArrayLen_85cad, cJ2_coderFromArrayLen_85cad, 2, (some .byte))
abbrev MJ4_append_cf468 : MI := (yJ4_append_cf468, cJ4_append_cf468, 2, (some (.object "java/lang/StringBuilder")))
abbrev MJ5_append_3fe6f : MI := (yJ5_append_3fe6f, cJ5_append_3fe6f, 2, (some (.object "java/lang/AbstractStringBuilder")))
abbrev MJ1_canEncode_fc78d : MI := (yJ1_canEncode_fc78d, cJ1_canEncode_fc78d, 1, (some .boolean))
abbrev MJ2_putCharSB_b72d1 : MI := (yJ2_putCharSB_b72d1, cJ2_putCharSB_b72d1, 3, none)
abbrev MJ2_checkIndex_2214a : MI := (yJ2_checkIndex_2214a, cJ2_checkIndex_2214a, 2, none)
abbrev MJ0_checkIndex_df160 : MI := (yJ0_checkIndex_df160, cJ0_checkIndex_df160, 2, none)
abbrev MJ3_checkIndex_8e157 : MI := (yJ3_checkIndex_8e157, cJ3_checkIndex_8e157, 3, (some .int))
abbrev ML_span : MI := (yL_span, cL_span, 2, (some (.object "java/lang/String")))
abbrev ML_load : MI := (yL_load, cL_load, 3, (some .int))
abbrev ML_four : MI := (yL_four, cL_four, 4, (some .int))
abbrev MJ0_charAt_5068e : MI := (yJ0_charAt_5068e, cJ0_charAt_5068e, 2, (some .char))
abbrev MJ0_isLatin1_aae02 : MI := (yJ0_isLatin1_aae02, cJ0_isLatin1_aae02, 1, (some .boolean))
abbrev MJ1_charAt_3b067 : MI := (yJ1_charAt_3b067, cJ1_charAt_3b067, 2, (some .char))
abbrev MJ2_charAt_3b067 : MI := (yJ2_charAt_3b067, cJ2_charAt_3b067, 2, (some .char))
abbrev MX11_feed : MI := (yX11_feed, cX11_feed, 6, (some .int))
abbrev MX9_hasRoomFor : MI := (yX9_hasRoomFor, cX9_hasRoomFor, 2, (some .boolean))
abbrev MX9_append : MI := (yX9_append, cX9_append, 3, none)
abbrev MX9_size : MI := (yX9_size, cX9_size, 1, (some .int))
abbrev MX11_load : MI := (yX11_load, cX11_load, 4, (some .int))
abbrev MX5_read : MI := (yX5_read, cX5_read, 6, (some .boolean))
abbrev MX6_start : MI := (yX6_start, cX6_start, 2, none)
abbrev MX6_followAll : MI := (yX6_followAll, cX6_followAll, 2, none)
abbrev MX6_follow : MI := (yX6_follow, cX6_follow, 6, none)
abbrev MX6_isPainted : MI := (yX6_isPainted, cX6_isPainted, 3, (some .boolean))
abbrev MX3_clear : MI := (yX3_clear, cX3_clear, 1, none)
abbrev MX10_begin : MI := (yX10_begin, cX10_begin, 2, none)
abbrev MX10_next : MI := (yX10_next, cX10_next, 1, none)
abbrev MX10_takeLetters : MI := (yX10_takeLetters, cX10_takeLetters, 1, none)
abbrev MX10_takeDigits : MI := (yX10_takeDigits, cX10_takeDigits, 1, none)
abbrev MX5_readStatement : MI := (yX5_readStatement, cX5_readStatement, 4, (some .boolean))
abbrev MX5_failOnToken : MI := (yX5_failOnToken, cX5_failOnToken, 1, (some .boolean))
abbrev MX5_readBridge : MI := (yX5_readBridge, cX5_readBridge, 4, (some .boolean))
abbrev MX5_number : MI := (yX5_number, cX5_number, 3, (some .int))
abbrev MX5_fail : MI := (yX5_fail, cX5_fail, 2, (some .boolean))
abbrev MX5_semicolon : MI := (yX5_semicolon, cX5_semicolon, 1, (some .boolean))
abbrev MX5_readLane : MI := (yX5_readLane, cX5_readLane, 4, (some .boolean))
abbrev MX5_newName : MI := (yX5_newName, cX5_newName, 1, (some .long))
abbrev MX5_isReserved : MI := (yX5_isReserved, cX5_isReserved, 2, (some .boolean))
abbrev MX3_isDeclared : MI := (yX3_isDeclared, cX3_isDeclared, 4, (some .boolean))
abbrev MX3_add : MI := (yX3_add, cX3_add, 5, none)
abbrev MX1_addLane : MI := (yX1_addLane, cX1_addLane, 2, none)
abbrev MX5_readSpan : MI := (yX5_readSpan, cX5_readSpan, 8, (some .boolean))
abbrev MX5_laneOrNone : MI := (yX5_laneOrNone, cX5_laneOrNone, 1, (some .int))
abbrev MX5_thisName : MI := (yX5_thisName, cX5_thisName, 3, (some .int))
abbrev MX3_numberOf : MI := (yX3_numberOf, cX3_numberOf, 5, (some .int))
abbrev MX1_addSpan : MI := (yX1_addSpan, cX1_addSpan, 6, none)
abbrev MX5_readGang : MI := (yX5_readGang, cX5_readGang, 5, (some .boolean))
abbrev MX1_addGang : MI := (yX1_addGang, cX1_addGang, 3, none)
abbrev MX5_readWeather : MI := (yX5_readWeather, cX5_readWeather, 3, (some .boolean))
abbrev MX5_readClosed : MI := (yX5_readClosed, cX5_readClosed, 3, (some .boolean))
abbrev MX5_knownName : MI := (yX5_knownName, cX5_knownName, 2, (some .int))
abbrev MX5_readPainting : MI := (yX5_readPainting, cX5_readPainting, 4, (some .boolean))
abbrev MX6_put : MI := (yX6_put, cX6_put, 4, none)
abbrev MX5_failureKind : MI := (yX5_failureKind, cX5_failureKind, 1, (some .int))
abbrev MX5_failurePosition : MI := (yX5_failurePosition, cX5_failurePosition, 1, (some .int))
abbrev MX9_clear : MI := (yX9_clear, cX9_clear, 1, none)
abbrev MX11_takeDraft : MI := (yX11_takeDraft, cX11_takeDraft, 2, none)
abbrev MX2_clear : MI := (yX2_clear, cX2_clear, 1, none)
abbrev MX11_errorKind : MI := (yX11_errorKind, cX11_errorKind, 1, (some .int))
abbrev MX11_paintings : MI := (yX11_paintings, cX11_paintings, 1, (some .int))
abbrev MX6_countPaintings : MI := (yX6_countPaintings, cX6_countPaintings, 3, (some .int))
abbrev ML_refused : MI := (yL_refused, cL_refused, 7, (some .int))
abbrev ML_load_ : MI := (yL_load_, cL_load_, 5, (some .int))
abbrev ML_effort : MI := (yL_effort, cL_effort, 3, (some .int))
abbrev ML_begin : MI := (yL_begin, cL_begin, 3, (some .int))
abbrev ML_end : MI := (yL_end, cL_end, 5, (some .int))
abbrev MX11_refusal : MI := (yX11_refusal, cX11_refusal, 4, (some .int))
abbrev MX11_checkYear : MI := (yX11_checkYear, cX11_checkYear, 2, none)
abbrev MX11_checkSpan : MI := (yX11_checkSpan, cX11_checkSpan, 2, none)
abbrev MX11_checkGang : MI := (yX11_checkGang, cX11_checkGang, 2, none)
abbrev MX6_reasonAgainst : MI := (yX6_reasonAgainst, cX6_reasonAgainst, 6, (some .int))
abbrev MX1_isClosed : MI := (yX1_isClosed, cX1_isClosed, 3, (some .boolean))
abbrev MX6_shutLanes : MI := (yX6_shutLanes, cX6_shutLanes, 4, (some .int))
abbrev MJ6_bitCount_0f7a4 : MI := (yJ6_bitCount_0f7a4, cJ6_bitCount_0f7a4, 1, (some .int))
abbrev MX6_gangLoad : MI := (yX6_gangLoad, cX6_gangLoad, 5, (some .int))
abbrev MX6_painter : MI := (yX6_painter, cX6_painter, 3, (some .int))
abbrev MX6_spanEffort : MI := (yX6_spanEffort, cX6_spanEffort, 3, (some .int))
abbrev MX1_gangCapacity : MI := (yX1_gangCapacity, cX1_gangCapacity, 3, (some .int))
abbrev MX11_paint : MI := (yX11_paint, cX11_paint, 4, (some .int))
abbrev MX11_remember : MI := (yX11_remember, cX11_remember, 1, none)
abbrev MX2_keep : MI := (yX2_keep, cX2_keep, 3, none)
abbrev MX1_saveTo : MI := (yX1_saveTo, cX1_saveTo, 2, none)
abbrev MX6_saveTo : MI := (yX6_saveTo, cX6_saveTo, 2, none)
abbrev MX6_countPast : MI := (yX6_countPast, cX6_countPast, 3, (some .int))
abbrev MX6_firstPast : MI := (yX6_firstPast, cX6_firstPast, 3, (some .int))
abbrev MX6_isPast : MI := (yX6_isPast, cX6_isPast, 3, (some .boolean))
abbrev ML_isSame : MI := (yL_isSame, cL_isSame, 5, (some .boolean))
abbrev MX11_rustAfter : MI := (yX11_rustAfter, cX11_rustAfter, 3, (some .int))
abbrev MX6_rustAtEnd : MI := (yX6_rustAtEnd, cX6_rustAtEnd, 3, (some .int))
abbrev MX11_rustBefore : MI := (yX11_rustBefore, cX11_rustBefore, 3, (some .int))
abbrev MX6_rustAtStart : MI := (yX6_rustAtStart, cX6_rustAtStart, 3, (some .int))
abbrev MX11_guardLeft : MI := (yX11_guardLeft, cX11_guardLeft, 3, (some .int))
abbrev MX6_guardAtStart : MI := (yX6_guardAtStart, cX6_guardAtStart, 3, (some .int))
abbrev MX11_effort : MI := (yX11_effort, cX11_effort, 3, (some .int))
abbrev MX11_pastYear : MI := (yX11_pastYear, cX11_pastYear, 2, (some .int))
abbrev MX11_loadOf : MI := (yX11_loadOf, cX11_loadOf, 3, (some .int))
abbrev MX11_capacity : MI := (yX11_capacity, cX11_capacity, 3, (some .int))
abbrev MX11_undo : MI := (yX11_undo, cX11_undo, 1, (some .int))
abbrev MX2_isEmpty : MI := (yX2_isEmpty, cX2_isEmpty, 1, (some .boolean))
abbrev MX2_takeBack : MI := (yX2_takeBack, cX2_takeBack, 3, none)
abbrev MX1_restoreFrom : MI := (yX1_restoreFrom, cX1_restoreFrom, 2, none)
abbrev MX6_restoreFrom : MI := (yX6_restoreFrom, cX6_restoreFrom, 2, none)
abbrev MX2_size : MI := (yX2_size, cX2_size, 1, (some .int))
abbrev ML_isRefused : MI := (yL_isRefused, cL_isRefused, 3, (some .boolean))
theorem FI_L_7 : FI RL 7 12 0 := ⟨RL, TL, 18, rfl, rfl, by decide, inlL, inR_1 _ (List.mem_of_getElem? (i := 3) rfl)⟩
theorem FI_L_93 : FI RL 93 12 6 := ⟨RL, TL, 18, rfl, rfl, by decide, inlL, inR_1 _ (List.mem_of_getElem? (i := 7) rfl)⟩
theorem FI_L_39 : FI RL 39 12 16 := ⟨RL, TL, 18, rfl, rfl, by decide, inlL, inR_1 _ (List.mem_of_getElem? (i := 8) rfl)⟩
theorem FI_L_81 : FI RL 81 12 2 := ⟨RL, TL, 18, rfl, rfl, by decide, inlL, inR_1 _ (List.mem_of_getElem? (i := 9) rfl)⟩
theorem FI_L_96 : FI RL 96 12 7 := ⟨RL, TL, 18, rfl, rfl, by decide, inlL, inR_1 _ (List.mem_of_getElem? (i := 10) rfl)⟩
theorem FI_L_13 : FI RL 13 12 8 := ⟨RL, TL, 18, rfl, rfl, by decide, inlL, inR_1 _ (List.mem_of_getElem? (i := 19) rfl)⟩
theorem FI_L_16 : FI RL 16 12 9 := ⟨RL, TL, 18, rfl, rfl, by decide, inlL, inR_1 _ (List.mem_of_getElem? (i := 20) rfl)⟩
theorem FI_L_19 : FI RL 19 12 10 := ⟨RL, TL, 18, rfl, rfl, by decide, inlL, inR_1 _ (List.mem_of_getElem? (i := 21) rfl)⟩
theorem FI_L_22 : FI RL 22 12 11 := ⟨RL, TL, 18, rfl, rfl, by decide, inlL, inR_1 _ (List.mem_of_getElem? (i := 22) rfl)⟩
theorem FI_L_25 : FI RL 25 12 12 := ⟨RL, TL, 18, rfl, rfl, by decide, inlL, inR_1 _ (List.mem_of_getElem? (i := 23) rfl)⟩
theorem FI_L_28 : FI RL 28 12 13 := ⟨RL, TL, 18, rfl, rfl, by decide, inlL, inR_2 _ (List.mem_of_getElem? (i := 0) rfl)⟩
theorem FI_L_31 : FI RL 31 12 14 := ⟨RL, TL, 18, rfl, rfl, by decide, inlL, inR_2 _ (List.mem_of_getElem? (i := 1) rfl)⟩
theorem FI_L_34 : FI RL 34 12 15 := ⟨RL, TL, 18, rfl, rfl, by decide, inlL, inR_2 _ (List.mem_of_getElem? (i := 2) rfl)⟩
theorem FI_X11_12 : FI RX11 12 11 2 := ⟨RX11, TX11, 13, rfl, rfl, by decide, inlX11, inR_2 _ (List.mem_of_getElem? (i := 11) rfl)⟩
theorem FI_X11_19 : FI RX11 19 11 3 := ⟨RX11, TX11, 13, rfl, rfl, by decide, inlX11, inR_2 _ (List.mem_of_getElem? (i := 15) rfl)⟩
theorem FI_X11_26 : FI RX11 26 11 4 := ⟨RX11, TX11, 13, rfl, rfl, by decide, inlX11, inR_2 _ (List.mem_of_getElem? (i := 19) rfl)⟩
theorem FI_X11_33 : FI RX11 33 11 5 := ⟨RX11, TX11, 13, rfl, rfl, by decide, inlX11, inR_2 _ (List.mem_of_getElem? (i := 23) rfl)⟩
theorem FI_X11_40 : FI RX11 40 11 6 := ⟨RX11, TX11, 13, rfl, rfl, by decide, inlX11, inR_3 _ (List.mem_of_getElem? (i := 3) rfl)⟩
theorem FI_X11_44 : FI RX11 44 11 11 := ⟨RX11, TX11, 13, rfl, rfl, by decide, inlX11, inR_3 _ (List.mem_of_getElem? (i := 4) rfl)⟩
theorem FI_X11_49 : FI RX11 49 11 12 := ⟨RX11, TX11, 13, rfl, rfl, by decide, inlX11, inR_3 _ (List.mem_of_getElem? (i := 6) rfl)⟩
theorem FI_X11_63 : FI RX11 63 11 0 := ⟨RX11, TX11, 13, rfl, rfl, by decide, inlX11, inR_3 _ (List.mem_of_getElem? (i := 16) rfl)⟩
theorem FI_X11_67 : FI RX11 67 11 7 := ⟨RX11, TX11, 13, rfl, rfl, by decide, inlX11, inR_3 _ (List.mem_of_getElem? (i := 17) rfl)⟩
theorem FI_X11_71 : FI RX11 71 11 8 := ⟨RX11, TX11, 13, rfl, rfl, by decide, inlX11, inR_3 _ (List.mem_of_getElem? (i := 18) rfl)⟩
theorem FI_X11_75 : FI RX11 75 11 9 := ⟨RX11, TX11, 13, rfl, rfl, by decide, inlX11, inR_3 _ (List.mem_of_getElem? (i := 19) rfl)⟩
theorem FI_X11_78 : FI RX11 78 11 10 := ⟨RX11, TX11, 13, rfl, rfl, by decide, inlX11, inR_3 _ (List.mem_of_getElem? (i := 20) rfl)⟩
theorem FI_X11_86 : FI RX11 86 11 1 := ⟨RX11, TX11, 13, rfl, rfl, by decide, inlX11, inR_4 _ (List.mem_of_getElem? (i := 0) rfl)⟩
theorem FI_X0_12 : FI RX0 12 0 0 := ⟨RX0, TX0, 1, rfl, rfl, by decide, inlX0, inR_4 _ (List.mem_of_getElem? (i := 5) rfl)⟩
theorem FI_X7_9 : FI RX7 9 7 0 := ⟨RX7, TX7, 2, rfl, rfl, by decide, inlX7, inR_4 _ (List.mem_of_getElem? (i := 9) rfl)⟩
theorem FI_X8_12 : FI RX8 12 8 0 := ⟨RX8, TX8, 2, rfl, rfl, by decide, inlX8, inR_4 _ (List.mem_of_getElem? (i := 14) rfl)⟩
theorem FI_X2_15 : FI RX2 15 2 0 := ⟨RX2, TX2, 3, rfl, rfl, by decide, inlX2, inR_4 _ (List.mem_of_getElem? (i := 19) rfl)⟩
theorem FI_X2_18 : FI RX2 18 2 1 := ⟨RX2, TX2, 3, rfl, rfl, by decide, inlX2, inR_4 _ (List.mem_of_getElem? (i := 20) rfl)⟩
theorem FI_X4_11 : FI RX4 11 4 0 := ⟨RX4, TX4, 2, rfl, rfl, by decide, inlX4, inR_5 _ (List.mem_of_getElem? (i := 1) rfl)⟩
theorem FI_X9_9 : FI RX9 9 9 0 := ⟨RX9, TX9, 2, rfl, rfl, by decide, inlX9, inR_5 _ (List.mem_of_getElem? (i := 5) rfl)⟩
theorem FI_X1_11 : FI RX1 11 1 6 := ⟨RX1, TX1, 16, rfl, rfl, by decide, inlX1, inR_5 _ (List.mem_of_getElem? (i := 10) rfl)⟩
theorem FI_X1_15 : FI RX1 15 1 7 := ⟨RX1, TX1, 16, rfl, rfl, by decide, inlX1, inR_5 _ (List.mem_of_getElem? (i := 11) rfl)⟩
theorem FI_X1_18 : FI RX1 18 1 8 := ⟨RX1, TX1, 16, rfl, rfl, by decide, inlX1, inR_5 _ (List.mem_of_getElem? (i := 12) rfl)⟩
theorem FI_X1_21 : FI RX1 21 1 9 := ⟨RX1, TX1, 16, rfl, rfl, by decide, inlX1, inR_5 _ (List.mem_of_getElem? (i := 13) rfl)⟩
theorem FI_X1_24 : FI RX1 24 1 10 := ⟨RX1, TX1, 16, rfl, rfl, by decide, inlX1, inR_5 _ (List.mem_of_getElem? (i := 14) rfl)⟩
theorem FI_X1_27 : FI RX1 27 1 11 := ⟨RX1, TX1, 16, rfl, rfl, by decide, inlX1, inR_5 _ (List.mem_of_getElem? (i := 15) rfl)⟩
theorem FI_X1_30 : FI RX1 30 1 12 := ⟨RX1, TX1, 16, rfl, rfl, by decide, inlX1, inR_5 _ (List.mem_of_getElem? (i := 16) rfl)⟩
theorem FI_X1_33 : FI RX1 33 1 13 := ⟨RX1, TX1, 16, rfl, rfl, by decide, inlX1, inR_5 _ (List.mem_of_getElem? (i := 17) rfl)⟩
theorem FI_X1_36 : FI RX1 36 1 14 := ⟨RX1, TX1, 16, rfl, rfl, by decide, inlX1, inR_5 _ (List.mem_of_getElem? (i := 18) rfl)⟩
theorem FI_X1_39 : FI RX1 39 1 15 := ⟨RX1, TX1, 16, rfl, rfl, by decide, inlX1, inR_5 _ (List.mem_of_getElem? (i := 19) rfl)⟩
theorem FI_X1_45 : FI RX1 45 1 0 := ⟨RX1, TX1, 16, rfl, rfl, by decide, inlX1, inR_6 _ (List.mem_of_getElem? (i := 0) rfl)⟩
theorem FI_X1_49 : FI RX1 49 1 1 := ⟨RX1, TX1, 16, rfl, rfl, by decide, inlX1, inR_6 _ (List.mem_of_getElem? (i := 1) rfl)⟩
theorem FI_X1_52 : FI RX1 52 1 2 := ⟨RX1, TX1, 16, rfl, rfl, by decide, inlX1, inR_6 _ (List.mem_of_getElem? (i := 2) rfl)⟩
theorem FI_X1_55 : FI RX1 55 1 3 := ⟨RX1, TX1, 16, rfl, rfl, by decide, inlX1, inR_6 _ (List.mem_of_getElem? (i := 3) rfl)⟩
theorem FI_X1_58 : FI RX1 58 1 4 := ⟨RX1, TX1, 16, rfl, rfl, by decide, inlX1, inR_6 _ (List.mem_of_getElem? (i := 4) rfl)⟩
theorem FI_X1_61 : FI RX1 61 1 5 := ⟨RX1, TX1, 16, rfl, rfl, by decide, inlX1, inR_6 _ (List.mem_of_getElem? (i := 5) rfl)⟩
theorem FI_X6_11 : FI RX6 11 6 1 := ⟨RX6, TX6, 4, rfl, rfl, by decide, inlX6, inR_6 _ (List.mem_of_getElem? (i := 14) rfl)⟩
theorem FI_X6_15 : FI RX6 15 6 2 := ⟨RX6, TX6, 4, rfl, rfl, by decide, inlX6, inR_6 _ (List.mem_of_getElem? (i := 15) rfl)⟩
theorem FI_X6_18 : FI RX6 18 6 3 := ⟨RX6, TX6, 4, rfl, rfl, by decide, inlX6, inR_6 _ (List.mem_of_getElem? (i := 16) rfl)⟩
theorem FI_X6_21 : FI RX6 21 6 0 := ⟨RX6, TX6, 4, rfl, rfl, by decide, inlX6, inR_6 _ (List.mem_of_getElem? (i := 17) rfl)⟩
theorem FI_X5_12 : FI RX5 12 5 1 := ⟨RX5, TX5, 6, rfl, rfl, by decide, inlX5, inR_7 _ (List.mem_of_getElem? (i := 2) rfl)⟩
theorem FI_X5_19 : FI RX5 19 5 5 := ⟨RX5, TX5, 6, rfl, rfl, by decide, inlX5, inR_7 _ (List.mem_of_getElem? (i := 4) rfl)⟩
theorem FI_X5_28 : FI RX5 28 5 0 := ⟨RX5, TX5, 6, rfl, rfl, by decide, inlX5, inR_7 _ (List.mem_of_getElem? (i := 8) rfl)⟩
theorem FI_X5_32 : FI RX5 32 5 2 := ⟨RX5, TX5, 6, rfl, rfl, by decide, inlX5, inR_7 _ (List.mem_of_getElem? (i := 9) rfl)⟩
theorem FI_X5_36 : FI RX5 36 5 3 := ⟨RX5, TX5, 6, rfl, rfl, by decide, inlX5, inR_7 _ (List.mem_of_getElem? (i := 10) rfl)⟩
theorem FI_X3_11 : FI RX3 11 3 0 := ⟨RX3, TX3, 4, rfl, rfl, by decide, inlX3, inR_7 _ (List.mem_of_getElem? (i := 15) rfl)⟩
theorem FI_X3_15 : FI RX3 15 3 1 := ⟨RX3, TX3, 4, rfl, rfl, by decide, inlX3, inR_7 _ (List.mem_of_getElem? (i := 16) rfl)⟩
theorem FI_X3_19 : FI RX3 19 3 2 := ⟨RX3, TX3, 4, rfl, rfl, by decide, inlX3, inR_7 _ (List.mem_of_getElem? (i := 17) rfl)⟩
theorem FI_X10_7 : FI RX10 7 10 0 := ⟨RX10, TX10, 7, rfl, rfl, by decide, inlX10, inR_7 _ (List.mem_of_getElem? (i := 22) rfl)⟩
theorem FI_L_84 : FI RL 84 12 3 := ⟨RL, TL, 18, rfl, rfl, by decide, inlL, inR_8 _ (List.mem_of_getElem? (i := 3) rfl)⟩
theorem FI_L_87 : FI RL 87 12 4 := ⟨RL, TL, 18, rfl, rfl, by decide, inlL, inR_8 _ (List.mem_of_getElem? (i := 4) rfl)⟩
theorem FI_L_90 : FI RL 90 12 5 := ⟨RL, TL, 18, rfl, rfl, by decide, inlL, inR_8 _ (List.mem_of_getElem? (i := 5) rfl)⟩
theorem FI_L_66 : FI RL 66 12 1 := ⟨RL, TL, 18, rfl, rfl, by decide, inlL, inR_8 _ (List.mem_of_getElem? (i := 13) rfl)⟩
theorem FI_J0_9 : FI RJ0 9 13 0 := ⟨RJ0, TJ0, 4, rfl, rfl, by decide, inlJ0, inR_13 _ (List.mem_of_getElem? (i := 6) rfl)⟩
theorem FI_J0_15 : FI RJ0 15 13 1 := ⟨RJ0, TJ0, 4, rfl, rfl, by decide, inlJ0, inR_13 _ (List.mem_of_getElem? (i := 12) rfl)⟩
theorem FI_X9_15 : FI RX9 15 9 1 := ⟨RX9, TX9, 2, rfl, rfl, by decide, inlX9, inR_20 _ (List.mem_of_getElem? (i := 17) rfl)⟩
theorem FI_X5_40 : FI RX5 40 5 4 := ⟨RX5, TX5, 6, rfl, rfl, by decide, inlX5, inR_21 _ (List.mem_of_getElem? (i := 13) rfl)⟩
theorem FI_X3_22 : FI RX3 22 3 3 := ⟨RX3, TX3, 4, rfl, rfl, by decide, inlX3, inR_22 _ (List.mem_of_getElem? (i := 12) rfl)⟩
theorem FI_X10_25 : FI RX10 25 10 1 := ⟨RX10, TX10, 7, rfl, rfl, by decide, inlX10, inR_22 _ (List.mem_of_getElem? (i := 18) rfl)⟩
theorem FI_X10_28 : FI RX10 28 10 2 := ⟨RX10, TX10, 7, rfl, rfl, by decide, inlX10, inR_22 _ (List.mem_of_getElem? (i := 19) rfl)⟩
theorem FI_X10_31 : FI RX10 31 10 3 := ⟨RX10, TX10, 7, rfl, rfl, by decide, inlX10, inR_22 _ (List.mem_of_getElem? (i := 20) rfl)⟩
theorem FI_X10_34 : FI RX10 34 10 4 := ⟨RX10, TX10, 7, rfl, rfl, by decide, inlX10, inR_22 _ (List.mem_of_getElem? (i := 21) rfl)⟩
theorem FI_X10_47 : FI RX10 47 10 6 := ⟨RX10, TX10, 7, rfl, rfl, by decide, inlX10, inR_23 _ (List.mem_of_getElem? (i := 6) rfl)⟩
theorem FI_X10_51 : FI RX10 51 10 5 := ⟨RX10, TX10, 7, rfl, rfl, by decide, inlX10, inR_23 _ (List.mem_of_getElem? (i := 11) rfl)⟩
theorem FI_X2_22 : FI RX2 22 2 2 := ⟨RX2, TX2, 3, rfl, rfl, by decide, inlX2, inR_28 _ (List.mem_of_getElem? (i := 18) rfl)⟩
theorem FI_L_185 : FI RL 185 12 17 := ⟨RL, TL, 18, rfl, rfl, by decide, inlL, inR_30 _ (List.mem_of_getElem? (i := 1) rfl)⟩
theorem FN_X10_37 : FN RX10 37 9 0 := ⟨RX9, TX9, 2, rfl, rfl, by decide, inlX9, List.mem_of_getElem? (i := 0) rfl⟩
theorem FN_X10_13 : FN RX10 13 9 1 := ⟨RX9, TX9, 2, rfl, rfl, by decide, inlX9, List.mem_of_getElem? (i := 1) rfl⟩
theorem FN_X5_139 : FN RX5 139 1 0 := ⟨RX1, TX1, 16, rfl, rfl, by decide, inlX1, List.mem_of_getElem? (i := 2) rfl⟩
theorem FN_X6_53 : FN RX6 53 1 0 := ⟨RX1, TX1, 16, rfl, rfl, by decide, inlX1, List.mem_of_getElem? (i := 3) rfl⟩
theorem FN_X11_168 : FN RX11 168 1 0 := ⟨RX1, TX1, 16, rfl, rfl, by decide, inlX1, List.mem_of_getElem? (i := 4) rfl⟩
theorem FN_X5_142 : FN RX5 142 1 1 := ⟨RX1, TX1, 16, rfl, rfl, by decide, inlX1, List.mem_of_getElem? (i := 5) rfl⟩
theorem FN_X6_139 : FN RX6 139 1 1 := ⟨RX1, TX1, 16, rfl, rfl, by decide, inlX1, List.mem_of_getElem? (i := 6) rfl⟩
theorem FN_X5_145 : FN RX5 145 1 2 := ⟨RX1, TX1, 16, rfl, rfl, by decide, inlX1, List.mem_of_getElem? (i := 7) rfl⟩
theorem FN_X6_60 : FN RX6 60 1 2 := ⟨RX1, TX1, 16, rfl, rfl, by decide, inlX1, List.mem_of_getElem? (i := 8) rfl⟩
theorem FN_X5_95 : FN RX5 95 1 3 := ⟨RX1, TX1, 16, rfl, rfl, by decide, inlX1, List.mem_of_getElem? (i := 9) rfl⟩
theorem FN_X11_128 : FN RX11 128 1 4 := ⟨RX1, TX1, 16, rfl, rfl, by decide, inlX1, List.mem_of_getElem? (i := 10) rfl⟩
theorem FN_X5_103 : FN RX5 103 1 4 := ⟨RX1, TX1, 16, rfl, rfl, by decide, inlX1, List.mem_of_getElem? (i := 11) rfl⟩
theorem FN_X6_46 : FN RX6 46 1 4 := ⟨RX1, TX1, 16, rfl, rfl, by decide, inlX1, List.mem_of_getElem? (i := 12) rfl⟩
theorem FN_X5_111 : FN RX5 111 1 5 := ⟨RX1, TX1, 16, rfl, rfl, by decide, inlX1, List.mem_of_getElem? (i := 13) rfl⟩
theorem FN_X11_226 : FN RX11 226 1 5 := ⟨RX1, TX1, 16, rfl, rfl, by decide, inlX1, List.mem_of_getElem? (i := 14) rfl⟩
theorem FN_X6_95 : FN RX6 95 1 7 := ⟨RX1, TX1, 16, rfl, rfl, by decide, inlX1, List.mem_of_getElem? (i := 15) rfl⟩
theorem FN_X6_83 : FN RX6 83 1 8 := ⟨RX1, TX1, 16, rfl, rfl, by decide, inlX1, List.mem_of_getElem? (i := 16) rfl⟩
theorem FN_X6_50 : FN RX6 50 1 9 := ⟨RX1, TX1, 16, rfl, rfl, by decide, inlX1, List.mem_of_getElem? (i := 17) rfl⟩
theorem FN_X6_63 : FN RX6 63 1 10 := ⟨RX1, TX1, 16, rfl, rfl, by decide, inlX1, List.mem_of_getElem? (i := 18) rfl⟩
theorem FN_X6_72 : FN RX6 72 1 11 := ⟨RX1, TX1, 16, rfl, rfl, by decide, inlX1, List.mem_of_getElem? (i := 19) rfl⟩
theorem FN_X5_173 : FN RX5 173 1 14 := ⟨RX1, TX1, 16, rfl, rfl, by decide, inlX1, List.mem_of_getElem? (i := 20) rfl⟩
theorem FN_X5_181 : FN RX5 181 1 15 := ⟨RX1, TX1, 16, rfl, rfl, by decide, inlX1, List.mem_of_getElem? (i := 21) rfl⟩
theorem FN_X5_74 : FN RX5 74 10 2 := ⟨RX10, TX10, 7, rfl, rfl, by decide, inlX10, List.mem_of_getElem? (i := 22) rfl⟩
theorem FN_X5_64 : FN RX5 64 10 4 := ⟨RX10, TX10, 7, rfl, rfl, by decide, inlX10, List.mem_of_getElem? (i := 23) rfl⟩
theorem FN_X5_192 : FN RX5 192 10 5 := ⟨RX10, TX10, 7, rfl, rfl, by decide, inlX10, List.mem_of_getElem? (i := 24) rfl⟩
theorem FN_X5_80 : FN RX5 80 10 6 := ⟨RX10, TX10, 7, rfl, rfl, by decide, inlX10, List.mem_of_getElem? (i := 25) rfl⟩
theorem UIL_init : UI ML_init RL 0 := ⟨by decide +kernel, by decide, inR_1 _ (List.mem_of_getElem? (i := 13) rfl), inR_1 _ (List.mem_of_getElem? (i := 2) rfl), inR_1 _ (List.mem_of_getElem? (i := 14) rfl)⟩
theorem UIX11_init : UI MX11_init RX11 0 := ⟨by decide +kernel, by decide, inR_2 _ (List.mem_of_getElem? (i := 5) rfl), inR_1 _ (List.mem_of_getElem? (i := 6) rfl), inR_2 _ (List.mem_of_getElem? (i := 6) rfl)⟩
theorem UIX0_init : UI MX0_init RX0 0 := ⟨by decide +kernel, by decide, inR_4 _ (List.mem_of_getElem? (i := 1) rfl), inR_2 _ (List.mem_of_getElem? (i := 10) rfl), inR_4 _ (List.mem_of_getElem? (i := 2) rfl)⟩
theorem UIX7_init : UI MX7_init RX7 0 := ⟨by decide +kernel, by decide, inR_4 _ (List.mem_of_getElem? (i := 6) rfl), inR_2 _ (List.mem_of_getElem? (i := 18) rfl), inR_4 _ (List.mem_of_getElem? (i := 7) rfl)⟩
theorem UIX8_init : UI MX8_init RX8 0 := ⟨by decide +kernel, by decide, inR_4 _ (List.mem_of_getElem? (i := 10) rfl), inR_2 _ (List.mem_of_getElem? (i := 14) rfl), inR_4 _ (List.mem_of_getElem? (i := 11) rfl)⟩
theorem UIX2_init : UI MX2_init RX2 0 := ⟨by decide +kernel, by decide, inR_4 _ (List.mem_of_getElem? (i := 15) rfl), inR_2 _ (List.mem_of_getElem? (i := 22) rfl), inR_4 _ (List.mem_of_getElem? (i := 16) rfl)⟩
theorem UIX4_init : UI MX4_init RX4 0 := ⟨by decide +kernel, by decide, inR_4 _ (List.mem_of_getElem? (i := 21) rfl), inR_3 _ (List.mem_of_getElem? (i := 2) rfl), inR_4 _ (List.mem_of_getElem? (i := 22) rfl)⟩
theorem UIX9_init : UI MX9_init RX9 0 := ⟨by decide +kernel, by decide, inR_5 _ (List.mem_of_getElem? (i := 2) rfl), inR_3 _ (List.mem_of_getElem? (i := 9) rfl), inR_5 _ (List.mem_of_getElem? (i := 3) rfl)⟩
theorem UIX1_init : UI MX1_init RX1 0 := ⟨by decide +kernel, by decide, inR_5 _ (List.mem_of_getElem? (i := 7) rfl), inR_3 _ (List.mem_of_getElem? (i := 12) rfl), inR_5 _ (List.mem_of_getElem? (i := 8) rfl)⟩
theorem UVX1_reset : UV MX1_reset RX1 0 := ⟨by decide +kernel, by decide, inR_5 _ (List.mem_of_getElem? (i := 21) rfl), inR_5 _ (List.mem_of_getElem? (i := 22) rfl), inR_3 _ (List.mem_of_getElem? (i := 12) rfl), inR_5 _ (List.mem_of_getElem? (i := 23) rfl)⟩
theorem USJ7_fill_53178 : US MJ7_fill_53178 RJ7 2 := ⟨by decide +kernel, by decide, inR_6 _ (List.mem_of_getElem? (i := 7) rfl), inR_6 _ (List.mem_of_getElem? (i := 8) rfl), inR_6 _ (List.mem_of_getElem? (i := 9) rfl)⟩
theorem UIX6_init : UI MX6_init RX6 1 := ⟨by decide +kernel, by decide, inR_6 _ (List.mem_of_getElem? (i := 11) rfl), inR_3 _ (List.mem_of_getElem? (i := 15) rfl), inR_6 _ (List.mem_of_getElem? (i := 12) rfl)⟩
theorem UIX5_init : UI MX5_init RX5 3 := ⟨by decide +kernel, by decide, inR_6 _ (List.mem_of_getElem? (i := 20) rfl), inR_3 _ (List.mem_of_getElem? (i := 23) rfl), inR_6 _ (List.mem_of_getElem? (i := 21) rfl)⟩
theorem UIX3_init : UI MX3_init RX3 0 := ⟨by decide +kernel, by decide, inR_7 _ (List.mem_of_getElem? (i := 11) rfl), inR_7 _ (List.mem_of_getElem? (i := 1) rfl), inR_7 _ (List.mem_of_getElem? (i := 12) rfl)⟩
theorem UIX10_init : UI MX10_init RX10 1 := ⟨by decide +kernel, by decide, inR_7 _ (List.mem_of_getElem? (i := 19) rfl), inR_7 _ (List.mem_of_getElem? (i := 7) rfl), inR_7 _ (List.mem_of_getElem? (i := 20) rfl)⟩
theorem UVL_bridge : UV ML_bridge RL 0 := ⟨by decide +kernel, by decide, inR_8 _ (List.mem_of_getElem? (i := 0) rfl), inR_8 _ (List.mem_of_getElem? (i := 1) rfl), inR_1 _ (List.mem_of_getElem? (i := 2) rfl), inR_8 _ (List.mem_of_getElem? (i := 2) rfl)⟩
theorem UVL_chosen : UV ML_chosen RL 1 := ⟨by decide +kernel, by decide, inR_8 _ (List.mem_of_getElem? (i := 10) rfl), inR_8 _ (List.mem_of_getElem? (i := 11) rfl), inR_1 _ (List.mem_of_getElem? (i := 2) rfl), inR_8 _ (List.mem_of_getElem? (i := 12) rfl)⟩
theorem USL_cell : US ML_cell RL 2 := ⟨by decide +kernel, by decide, inR_8 _ (List.mem_of_getElem? (i := 15) rfl), inR_1 _ (List.mem_of_getElem? (i := 2) rfl), inR_8 _ (List.mem_of_getElem? (i := 16) rfl)⟩
theorem USL_among : US ML_among RL 2 := ⟨by decide +kernel, by decide, inR_8 _ (List.mem_of_getElem? (i := 18) rfl), inR_1 _ (List.mem_of_getElem? (i := 2) rfl), inR_8 _ (List.mem_of_getElem? (i := 19) rfl)⟩
theorem UIJ4_init_da8c8 : UI MJ4_init_da8c8 RJ4 0 := ⟨by decide +kernel, by decide, inR_8 _ (List.mem_of_getElem? (i := 21) rfl), inR_8 _ (List.mem_of_getElem? (i := 8) rfl), inR_8 _ (List.mem_of_getElem? (i := 22) rfl)⟩
theorem UIJ5_init_d00df : UI MJ5_init_d00df RJ5 1 := ⟨by decide +kernel, by decide, inR_9 _ (List.mem_of_getElem? (i := 0) rfl), inR_9 _ (List.mem_of_getElem? (i := 1) rfl), inR_9 _ (List.mem_of_getElem? (i := 2) rfl)⟩
theorem USJ2_newBytesFor_77867 : US MJ2_newBytesFor_77867 RJ2 1 := ⟨by decide +kernel, by decide, inR_9 _ (List.mem_of_getElem? (i := 8) rfl), inR_9 _ (List.mem_of_getElem? (i := 9) rfl), inR_9 _ (List.mem_of_getElem? (i := 10) rfl)⟩
theorem USJ2_newBytesLength_0f7a4 : US MJ2_newBytesLength_0f7a4 RJ2 1 := ⟨by decide +kernel, by decide, inR_9 _ (List.mem_of_getElem? (i := 12) rfl), inR_9 _ (List.mem_of_getElem? (i := 9) rfl), inR_9 _ (List.mem_of_getElem? (i := 13) rfl)⟩
theorem UVJ4_append_15ec4 : UV MJ4_append_15ec4 RJ4 1 := ⟨by decide +kernel, by decide, inR_9 _ (List.mem_of_getElem? (i := 16) rfl), inR_9 _ (List.mem_of_getElem? (i := 17) rfl), inR_8 _ (List.mem_of_getElem? (i := 8) rfl), inR_9 _ (List.mem_of_getElem? (i := 18) rfl)⟩
theorem UIJ5_append_cf1ce : UI MJ5_append_cf1ce RJ5 1 := ⟨by decide +kernel, by decide, inR_9 _ (List.mem_of_getElem? (i := 22) rfl), inR_9 _ (List.mem_of_getElem? (i := 1) rfl), inR_9 _ (List.mem_of_getElem? (i := 23) rfl)⟩
theorem UIJ5_appendNull_278bc : UI MJ5_appendNull_278bc RJ5 0 := ⟨by decide +kernel, by decide, inR_10 _ (List.mem_of_getElem? (i := 4) rfl), inR_9 _ (List.mem_of_getElem? (i := 1) rfl), inR_10 _ (List.mem_of_getElem? (i := 5) rfl)⟩
theorem UIJ5_ensureCapacityInternal_d00df : UI MJ5_ensureCapacityInternal_d00df RJ5 1 := ⟨by decide +kernel, by decide, inR_10 _ (List.mem_of_getElem? (i := 9) rfl), inR_9 _ (List.mem_of_getElem? (i := 1) rfl), inR_10 _ (List.mem_of_getElem? (i := 10) rfl)⟩
theorem UIJ5_newCapacity_0f7a4 : UI MJ5_newCapacity_0f7a4 RJ5 1 := ⟨by decide +kernel, by decide, inR_10 _ (List.mem_of_getElem? (i := 14) rfl), inR_9 _ (List.mem_of_getElem? (i := 1) rfl), inR_10 _ (List.mem_of_getElem? (i := 15) rfl)⟩
theorem USJ8_newLength_cabcc : US MJ8_newLength_cabcc RJ8 3 := ⟨by decide +kernel, by decide, inR_10 _ (List.mem_of_getElem? (i := 18) rfl), inR_10 _ (List.mem_of_getElem? (i := 19) rfl), inR_10 _ (List.mem_of_getElem? (i := 20) rfl)⟩
theorem USJ8_hugeLength_7cf53 : US MJ8_hugeLength_7cf53 RJ8 2 := ⟨by decide +kernel, by decide, inR_11 _ (List.mem_of_getElem? (i := 3) rfl), inR_10 _ (List.mem_of_getElem? (i := 19) rfl), inR_11 _ (List.mem_of_getElem? (i := 4) rfl)⟩
theorem USJ7_copyOf_9075b : US MJ7_copyOf_9075b RJ7 2 := ⟨by decide +kernel, by decide, inR_11 _ (List.mem_of_getElem? (i := 6) rfl), inR_6 _ (List.mem_of_getElem? (i := 8) rfl), inR_11 _ (List.mem_of_getElem? (i := 7) rfl)⟩
theorem UIJ5_isLatin1_aae02 : UI MJ5_isLatin1_aae02 RJ5 0 := ⟨by decide +kernel, by decide, inR_12 _ (List.mem_of_getElem? (i := 0) rfl), inR_9 _ (List.mem_of_getElem? (i := 1) rfl), inR_12 _ (List.mem_of_getElem? (i := 1) rfl)⟩
theorem USJ2_putCharsAt_cd4e5 : US MJ2_putCharsAt_cd4e5 RJ2 6 := ⟨by decide +kernel, by decide, inR_12 _ (List.mem_of_getElem? (i := 3) rfl), inR_9 _ (List.mem_of_getElem? (i := 9) rfl), inR_12 _ (List.mem_of_getElem? (i := 4) rfl)⟩
theorem USJ2_checkBoundsBeginEnd_d044e : US MJ2_checkBoundsBeginEnd_d044e RJ2 3 := ⟨by decide +kernel, by decide, inR_12 _ (List.mem_of_getElem? (i := 7) rfl), inR_9 _ (List.mem_of_getElem? (i := 9) rfl), inR_12 _ (List.mem_of_getElem? (i := 8) rfl)⟩
theorem USJ2_length_9d52b : US MJ2_length_9d52b RJ2 1 := ⟨by decide +kernel, by decide, inR_12 _ (List.mem_of_getElem? (i := 10) rfl), inR_9 _ (List.mem_of_getElem? (i := 9) rfl), inR_12 _ (List.mem_of_getElem? (i := 11) rfl)⟩
theorem USJ0_checkBoundsBeginEnd_23922 : US MJ0_checkBoundsBeginEnd_23922 RJ0 3 := ⟨by decide +kernel, by decide, inR_12 _ (List.mem_of_getElem? (i := 13) rfl), inR_12 _ (List.mem_of_getElem? (i := 14) rfl), inR_12 _ (List.mem_of_getElem? (i := 15) rfl)⟩
theorem USJ3_checkFromToIndex_8c36e : US MJ3_checkFromToIndex_8c36e RJ3 4 := ⟨by decide +kernel, by decide, inR_12 _ (List.mem_of_getElem? (i := 18) rfl), inR_12 _ (List.mem_of_getElem? (i := 19) rfl), inR_12 _ (List.mem_of_getElem? (i := 20) rfl)⟩
theorem USJ2_putChar_b72d1 : US MJ2_putChar_b72d1 RJ2 3 := ⟨by decide +kernel, by decide, inR_12 _ (List.mem_of_getElem? (i := 22) rfl), inR_9 _ (List.mem_of_getElem? (i := 9) rfl), inR_12 _ (List.mem_of_getElem? (i := 23) rfl)⟩
theorem UVJ0_length_8abf5 : UV MJ0_length_8abf5 RJ0 0 := ⟨by decide +kernel, by decide, inR_13 _ (List.mem_of_getElem? (i := 3) rfl), inR_13 _ (List.mem_of_getElem? (i := 4) rfl), inR_12 _ (List.mem_of_getElem? (i := 14) rfl), inR_13 _ (List.mem_of_getElem? (i := 5) rfl)⟩
theorem UVJ0_coder_7d493 : UV MJ0_coder_7d493 RJ0 0 := ⟨by decide +kernel, by decide, inR_13 _ (List.mem_of_getElem? (i := 8) rfl), inR_13 _ (List.mem_of_getElem? (i := 9) rfl), inR_12 _ (List.mem_of_getElem? (i := 14) rfl), inR_13 _ (List.mem_of_getElem? (i := 10) rfl)⟩
theorem UIJ5_putStringAt_47b60 : UI MJ5_putStringAt_47b60 RJ5 2 := ⟨by decide +kernel, by decide, inR_13 _ (List.mem_of_getElem? (i := 16) rfl), inR_9 _ (List.mem_of_getElem? (i := 1) rfl), inR_13 _ (List.mem_of_getElem? (i := 17) rfl)⟩
theorem UIJ5_inflateIfNeededFor_a7421 : UI MJ5_inflateIfNeededFor_a7421 RJ5 1 := ⟨by decide +kernel, by decide, inR_13 _ (List.mem_of_getElem? (i := 21) rfl), inR_9 _ (List.mem_of_getElem? (i := 1) rfl), inR_13 _ (List.mem_of_getElem? (i := 22) rfl)⟩
theorem UIJ5_inflate_da8c8 : UI MJ5_inflate_da8c8 RJ5 0 := ⟨by decide +kernel, by decide, inR_14 _ (List.mem_of_getElem? (i := 3) rfl), inR_9 _ (List.mem_of_getElem? (i := 1) rfl), inR_14 _ (List.mem_of_getElem? (i := 4) rfl)⟩
theorem USJ1_inflate_0e8fd : US MJ1_inflate_0e8fd RJ1 5 := ⟨by decide +kernel, by decide, inR_14 _ (List.mem_of_getElem? (i := 6) rfl), inR_14 _ (List.mem_of_getElem? (i := 7) rfl), inR_14 _ (List.mem_of_getElem? (i := 8) rfl)⟩
theorem USJ2_inflate_0e8fd : US MJ2_inflate_0e8fd RJ2 5 := ⟨by decide +kernel, by decide, inR_14 _ (List.mem_of_getElem? (i := 10) rfl), inR_9 _ (List.mem_of_getElem? (i := 9) rfl), inR_14 _ (List.mem_of_getElem? (i := 11) rfl)⟩
theorem USJ2_checkBoundsOffCount_d044e : US MJ2_checkBoundsOffCount_d044e RJ2 3 := ⟨by decide +kernel, by decide, inR_14 _ (List.mem_of_getElem? (i := 13) rfl), inR_9 _ (List.mem_of_getElem? (i := 9) rfl), inR_14 _ (List.mem_of_getElem? (i := 14) rfl)⟩
theorem USJ0_checkBoundsOffCount_cabcc : US MJ0_checkBoundsOffCount_cabcc RJ0 3 := ⟨by decide +kernel, by decide, inR_14 _ (List.mem_of_getElem? (i := 16) rfl), inR_12 _ (List.mem_of_getElem? (i := 14) rfl), inR_14 _ (List.mem_of_getElem? (i := 17) rfl)⟩
theorem USJ3_checkFromIndexSize_8c36e : US MJ3_checkFromIndexSize_8c36e RJ3 4 := ⟨by decide +kernel, by decide, inR_14 _ (List.mem_of_getElem? (i := 19) rfl), inR_12 _ (List.mem_of_getElem? (i := 19) rfl), inR_14 _ (List.mem_of_getElem? (i := 20) rfl)⟩
theorem UVJ0_getBytes_840e7 : UV MJ0_getBytes_840e7 RJ0 3 := ⟨by decide +kernel, by decide, inR_14 _ (List.mem_of_getElem? (i := 22) rfl), inR_14 _ (List.mem_of_getElem? (i := 23) rfl), inR_12 _ (List.mem_of_getElem? (i := 14) rfl), inR_15 _ (List.mem_of_getElem? (i := 0) rfl)⟩
theorem UVJ4_append_bf812 : UV MJ4_append_bf812 RJ4 1 := ⟨by decide +kernel, by decide, inR_15 _ (List.mem_of_getElem? (i := 4) rfl), inR_15 _ (List.mem_of_getElem? (i := 5) rfl), inR_8 _ (List.mem_of_getElem? (i := 8) rfl), inR_15 _ (List.mem_of_getElem? (i := 6) rfl)⟩
theorem UIJ5_append_c97b9 : UI MJ5_append_c97b9 RJ5 1 := ⟨by decide +kernel, by decide, inR_15 _ (List.mem_of_getElem? (i := 9) rfl), inR_9 _ (List.mem_of_getElem? (i := 1) rfl), inR_15 _ (List.mem_of_getElem? (i := 10) rfl)⟩
theorem USJ6_stringSize_0f7a4 : US MJ6_stringSize_0f7a4 RJ6 1 := ⟨by decide +kernel, by decide, inR_15 _ (List.mem_of_getElem? (i := 12) rfl), inR_15 _ (List.mem_of_getElem? (i := 13) rfl), inR_15 _ (List.mem_of_getElem? (i := 14) rfl)⟩
theorem USJ6_getChars_ba4f3 : US MJ6_getChars_ba4f3 RJ6 3 := ⟨by decide +kernel, by decide, inR_15 _ (List.mem_of_getElem? (i := 16) rfl), inR_15 _ (List.mem_of_getElem? (i := 13) rfl), inR_15 _ (List.mem_of_getElem? (i := 17) rfl)⟩
theorem USJ2_getChars_46870 : US MJ2_getChars_46870 RJ2 4 := ⟨by decide +kernel, by decide, inR_15 _ (List.mem_of_getElem? (i := 21) rfl), inR_9 _ (List.mem_of_getElem? (i := 9) rfl), inR_15 _ (List.mem_of_getElem? (i := 22) rfl)⟩
theorem USJ2_getChars_ba4f3 : US MJ2_getChars_ba4f3 RJ2 3 := ⟨by decide +kernel, by decide, inR_16 _ (List.mem_of_getElem? (i := 0) rfl), inR_9 _ (List.mem_of_getElem? (i := 9) rfl), inR_16 _ (List.mem_of_getElem? (i := 1) rfl)⟩
theorem UVJ4_toString_0e30d : UV MJ4_toString_0e30d RJ4 0 := ⟨by decide +kernel, by decide, inR_16 _ (List.mem_of_getElem? (i := 5) rfl), inR_16 _ (List.mem_of_getElem? (i := 6) rfl), inR_8 _ (List.mem_of_getElem? (i := 8) rfl), inR_16 _ (List.mem_of_getElem? (i := 7) rfl)⟩
theorem UIJ0_init_81219 : UI MJ0_init_81219 RJ0 1 := ⟨by decide +kernel, by decide, inR_16 _ (List.mem_of_getElem? (i := 11) rfl), inR_12 _ (List.mem_of_getElem? (i := 14) rfl), inR_16 _ (List.mem_of_getElem? (i := 12) rfl)⟩
theorem UIJ0_init_db425 : UI MJ0_init_db425 RJ0 2 := ⟨by decide +kernel, by decide, inR_16 _ (List.mem_of_getElem? (i := 14) rfl), inR_12 _ (List.mem_of_getElem? (i := 14) rfl), inR_16 _ (List.mem_of_getElem? (i := 15) rfl)⟩
theorem UIJ5_getValue_6d5f1 : UI MJ5_getValue_6d5f1 RJ5 0 := ⟨by decide +kernel, by decide, inR_16 _ (List.mem_of_getElem? (i := 21) rfl), inR_9 _ (List.mem_of_getElem? (i := 1) rfl), inR_16 _ (List.mem_of_getElem? (i := 22) rfl)⟩
theorem UIJ4_length_8abf5 : UI MJ4_length_8abf5 RJ4 0 := ⟨by decide +kernel, by decide, inR_17 _ (List.mem_of_getElem? (i := 3) rfl), inR_8 _ (List.mem_of_getElem? (i := 8) rfl), inR_17 _ (List.mem_of_getElem? (i := 4) rfl)⟩
theorem UIJ5_length_8abf5 : UI MJ5_length_8abf5 RJ5 0 := ⟨by decide +kernel, by decide, inR_17 _ (List.mem_of_getElem? (i := 6) rfl), inR_9 _ (List.mem_of_getElem? (i := 1) rfl), inR_17 _ (List.mem_of_getElem? (i := 7) rfl)⟩
theorem USJ7_copyOfRange_39247 : US MJ7_copyOfRange_39247 RJ7 3 := ⟨by decide +kernel, by decide, inR_17 _ (List.mem_of_getElem? (i := 10) rfl), inR_6 _ (List.mem_of_getElem? (i := 8) rfl), inR_17 _ (List.mem_of_getElem? (i := 11) rfl)⟩
theorem USJ7_copyOfRangeByte_39247 : US MJ7_copyOfRangeByte_39247 RJ7 3 := ⟨by decide +kernel, by decide, inR_17 _ (List.mem_of_getElem? (i := 13) rfl), inR_6 _ (List.mem_of_getElem? (i := 8) rfl), inR_17 _ (List.mem_of_getElem? (i := 14) rfl)⟩
theorem USJ7_checkLength_df160 : US MJ7_checkLength_df160 RJ7 2 := ⟨by decide +kernel, by decide, inR_17 _ (List.mem_of_getElem? (i := 16) rfl), inR_6 _ (List.mem_of_getElem? (i := 8) rfl), inR_17 _ (List.mem_of_getElem? (i := 17) rfl)⟩
theorem USJ2_compress_39247 : US MJ2_compress_39247 RJ2 3 := ⟨by decide +kernel, by decide, inR_17 _ (List.mem_of_getElem? (i := 19) rfl), inR_9 _ (List.mem_of_getElem? (i := 9) rfl), inR_17 _ (List.mem_of_getElem? (i := 20) rfl)⟩
theorem USJ2_compress_5af95 : US MJ2_compress_5af95 RJ2 5 := ⟨by decide +kernel, by decide, inR_17 _ (List.mem_of_getElem? (i := 22) rfl), inR_9 _ (List.mem_of_getElem? (i := 9) rfl), inR_17 _ (List.mem_of_getElem? (i := 23) rfl)⟩
theorem USJ2_getChar_3b067 : US MJ2_getChar_3b067 RJ2 2 := ⟨by decide +kernel, by decide, inR_18 _ (List.mem_of_getElem? (i := 1) rfl), inR_9 _ (List.mem_of_getElem? (i := 9) rfl), inR_18 _ (List.mem_of_getElem? (i := 2) rfl)⟩
theorem USJ2_coderFromArrayLen_85cad : US MJ2_coderFromArrayLen_85cad RJ2 2 := ⟨by decide +kernel, by decide, inR_18 _ (List.mem_of_getElem? (i := 5) rfl), inR_9 _ (List.mem_of_getElem? (i := 9) rfl), inR_18 _ (List.mem_of_getElem? (i := 6) rfl)⟩
theorem UVJ4_append_cf468 : UV MJ4_append_cf468 RJ4 1 := ⟨by decide +kernel, by decide, inR_18 _ (List.mem_of_getElem? (i := 8) rfl), inR_18 _ (List.mem_of_getElem? (i := 9) rfl), inR_8 _ (List.mem_of_getElem? (i := 8) rfl), inR_18 _ (List.mem_of_getElem? (i := 10) rfl)⟩
theorem UIJ5_append_3fe6f : UI MJ5_append_3fe6f RJ5 1 := ⟨by decide +kernel, by decide, inR_18 _ (List.mem_of_getElem? (i := 13) rfl), inR_9 _ (List.mem_of_getElem? (i := 1) rfl), inR_18 _ (List.mem_of_getElem? (i := 14) rfl)⟩
theorem USJ1_canEncode_fc78d : US MJ1_canEncode_fc78d RJ1 1 := ⟨by decide +kernel, by decide, inR_18 _ (List.mem_of_getElem? (i := 16) rfl), inR_14 _ (List.mem_of_getElem? (i := 7) rfl), inR_18 _ (List.mem_of_getElem? (i := 17) rfl)⟩
theorem USJ2_putCharSB_b72d1 : US MJ2_putCharSB_b72d1 RJ2 3 := ⟨by decide +kernel, by decide, inR_18 _ (List.mem_of_getElem? (i := 19) rfl), inR_9 _ (List.mem_of_getElem? (i := 9) rfl), inR_18 _ (List.mem_of_getElem? (i := 20) rfl)⟩
theorem USJ2_checkIndex_2214a : US MJ2_checkIndex_2214a RJ2 2 := ⟨by decide +kernel, by decide, inR_18 _ (List.mem_of_getElem? (i := 22) rfl), inR_9 _ (List.mem_of_getElem? (i := 9) rfl), inR_18 _ (List.mem_of_getElem? (i := 23) rfl)⟩
theorem USJ0_checkIndex_df160 : US MJ0_checkIndex_df160 RJ0 2 := ⟨by decide +kernel, by decide, inR_19 _ (List.mem_of_getElem? (i := 1) rfl), inR_12 _ (List.mem_of_getElem? (i := 14) rfl), inR_19 _ (List.mem_of_getElem? (i := 2) rfl)⟩
theorem USJ3_checkIndex_8e157 : US MJ3_checkIndex_8e157 RJ3 3 := ⟨by decide +kernel, by decide, inR_19 _ (List.mem_of_getElem? (i := 4) rfl), inR_12 _ (List.mem_of_getElem? (i := 19) rfl), inR_19 _ (List.mem_of_getElem? (i := 5) rfl)⟩
theorem UVL_span : UV ML_span RL 1 := ⟨by decide +kernel, by decide, inR_19 _ (List.mem_of_getElem? (i := 7) rfl), inR_19 _ (List.mem_of_getElem? (i := 8) rfl), inR_1 _ (List.mem_of_getElem? (i := 2) rfl), inR_19 _ (List.mem_of_getElem? (i := 9) rfl)⟩
theorem USL_load : US ML_load RL 2 := ⟨by decide +kernel, by decide, inR_19 _ (List.mem_of_getElem? (i := 11) rfl), inR_1 _ (List.mem_of_getElem? (i := 2) rfl), inR_19 _ (List.mem_of_getElem? (i := 12) rfl)⟩
theorem USL_four : US ML_four RL 2 := ⟨by decide +kernel, by decide, inR_19 _ (List.mem_of_getElem? (i := 15) rfl), inR_1 _ (List.mem_of_getElem? (i := 2) rfl), inR_19 _ (List.mem_of_getElem? (i := 16) rfl)⟩
theorem UVJ0_charAt_5068e : UV MJ0_charAt_5068e RJ0 1 := ⟨by decide +kernel, by decide, inR_19 _ (List.mem_of_getElem? (i := 18) rfl), inR_19 _ (List.mem_of_getElem? (i := 19) rfl), inR_12 _ (List.mem_of_getElem? (i := 14) rfl), inR_19 _ (List.mem_of_getElem? (i := 20) rfl)⟩
theorem UVJ0_isLatin1_aae02 : UV MJ0_isLatin1_aae02 RJ0 0 := ⟨by decide +kernel, by decide, inR_19 _ (List.mem_of_getElem? (i := 22) rfl), inR_19 _ (List.mem_of_getElem? (i := 23) rfl), inR_12 _ (List.mem_of_getElem? (i := 14) rfl), inR_20 _ (List.mem_of_getElem? (i := 0) rfl)⟩
theorem USJ1_charAt_3b067 : US MJ1_charAt_3b067 RJ1 2 := ⟨by decide +kernel, by decide, inR_20 _ (List.mem_of_getElem? (i := 2) rfl), inR_14 _ (List.mem_of_getElem? (i := 7) rfl), inR_20 _ (List.mem_of_getElem? (i := 3) rfl)⟩
theorem USJ2_charAt_3b067 : US MJ2_charAt_3b067 RJ2 2 := ⟨by decide +kernel, by decide, inR_20 _ (List.mem_of_getElem? (i := 6) rfl), inR_9 _ (List.mem_of_getElem? (i := 9) rfl), inR_20 _ (List.mem_of_getElem? (i := 7) rfl)⟩
theorem UVX11_feed : UV MX11_feed RX11 5 := ⟨by decide +kernel, by decide, inR_20 _ (List.mem_of_getElem? (i := 9) rfl), inR_20 _ (List.mem_of_getElem? (i := 10) rfl), inR_1 _ (List.mem_of_getElem? (i := 6) rfl), inR_20 _ (List.mem_of_getElem? (i := 11) rfl)⟩
theorem UVX9_hasRoomFor : UV MX9_hasRoomFor RX9 1 := ⟨by decide +kernel, by decide, inR_20 _ (List.mem_of_getElem? (i := 14) rfl), inR_20 _ (List.mem_of_getElem? (i := 15) rfl), inR_3 _ (List.mem_of_getElem? (i := 9) rfl), inR_20 _ (List.mem_of_getElem? (i := 16) rfl)⟩
theorem UVX9_append : UV MX9_append RX9 1 := ⟨by decide +kernel, by decide, inR_20 _ (List.mem_of_getElem? (i := 19) rfl), inR_20 _ (List.mem_of_getElem? (i := 20) rfl), inR_3 _ (List.mem_of_getElem? (i := 9) rfl), inR_20 _ (List.mem_of_getElem? (i := 21) rfl)⟩
theorem UVX9_size : UV MX9_size RX9 0 := ⟨by decide +kernel, by decide, inR_20 _ (List.mem_of_getElem? (i := 23) rfl), inR_21 _ (List.mem_of_getElem? (i := 0) rfl), inR_3 _ (List.mem_of_getElem? (i := 9) rfl), inR_21 _ (List.mem_of_getElem? (i := 1) rfl)⟩
theorem UVX11_load : UV MX11_load RX11 1 := ⟨by decide +kernel, by decide, inR_21 _ (List.mem_of_getElem? (i := 3) rfl), inR_21 _ (List.mem_of_getElem? (i := 4) rfl), inR_1 _ (List.mem_of_getElem? (i := 6) rfl), inR_21 _ (List.mem_of_getElem? (i := 5) rfl)⟩
theorem UVX5_read : UV MX5_read RX5 3 := ⟨by decide +kernel, by decide, inR_21 _ (List.mem_of_getElem? (i := 10) rfl), inR_21 _ (List.mem_of_getElem? (i := 11) rfl), inR_3 _ (List.mem_of_getElem? (i := 23) rfl), inR_21 _ (List.mem_of_getElem? (i := 12) rfl)⟩
theorem UVX6_start : UV MX6_start RX6 1 := ⟨by decide +kernel, by decide, inR_21 _ (List.mem_of_getElem? (i := 16) rfl), inR_21 _ (List.mem_of_getElem? (i := 17) rfl), inR_3 _ (List.mem_of_getElem? (i := 15) rfl), inR_21 _ (List.mem_of_getElem? (i := 18) rfl)⟩
theorem UVX6_followAll : UV MX6_followAll RX6 0 := ⟨by decide +kernel, by decide, inR_21 _ (List.mem_of_getElem? (i := 20) rfl), inR_21 _ (List.mem_of_getElem? (i := 21) rfl), inR_3 _ (List.mem_of_getElem? (i := 15) rfl), inR_21 _ (List.mem_of_getElem? (i := 22) rfl)⟩
theorem UVX6_follow : UV MX6_follow RX6 1 := ⟨by decide +kernel, by decide, inR_22 _ (List.mem_of_getElem? (i := 0) rfl), inR_22 _ (List.mem_of_getElem? (i := 1) rfl), inR_3 _ (List.mem_of_getElem? (i := 15) rfl), inR_22 _ (List.mem_of_getElem? (i := 2) rfl)⟩
theorem UVX6_isPainted : UV MX6_isPainted RX6 2 := ⟨by decide +kernel, by decide, inR_22 _ (List.mem_of_getElem? (i := 5) rfl), inR_22 _ (List.mem_of_getElem? (i := 6) rfl), inR_3 _ (List.mem_of_getElem? (i := 15) rfl), inR_22 _ (List.mem_of_getElem? (i := 7) rfl)⟩
theorem UVX3_clear : UV MX3_clear RX3 0 := ⟨by decide +kernel, by decide, inR_22 _ (List.mem_of_getElem? (i := 9) rfl), inR_22 _ (List.mem_of_getElem? (i := 10) rfl), inR_7 _ (List.mem_of_getElem? (i := 1) rfl), inR_22 _ (List.mem_of_getElem? (i := 11) rfl)⟩
theorem UVX10_begin : UV MX10_begin RX10 1 := ⟨by decide +kernel, by decide, inR_22 _ (List.mem_of_getElem? (i := 14) rfl), inR_22 _ (List.mem_of_getElem? (i := 15) rfl), inR_7 _ (List.mem_of_getElem? (i := 7) rfl), inR_22 _ (List.mem_of_getElem? (i := 16) rfl)⟩
theorem UVX10_next : UV MX10_next RX10 0 := ⟨by decide +kernel, by decide, inR_22 _ (List.mem_of_getElem? (i := 23) rfl), inR_23 _ (List.mem_of_getElem? (i := 0) rfl), inR_7 _ (List.mem_of_getElem? (i := 7) rfl), inR_23 _ (List.mem_of_getElem? (i := 1) rfl)⟩
theorem UVX10_takeLetters : UV MX10_takeLetters RX10 0 := ⟨by decide +kernel, by decide, inR_23 _ (List.mem_of_getElem? (i := 3) rfl), inR_23 _ (List.mem_of_getElem? (i := 4) rfl), inR_7 _ (List.mem_of_getElem? (i := 7) rfl), inR_23 _ (List.mem_of_getElem? (i := 5) rfl)⟩
theorem UVX10_takeDigits : UV MX10_takeDigits RX10 0 := ⟨by decide +kernel, by decide, inR_23 _ (List.mem_of_getElem? (i := 8) rfl), inR_23 _ (List.mem_of_getElem? (i := 9) rfl), inR_7 _ (List.mem_of_getElem? (i := 7) rfl), inR_23 _ (List.mem_of_getElem? (i := 10) rfl)⟩
theorem UVX5_readStatement : UV MX5_readStatement RX5 1 := ⟨by decide +kernel, by decide, inR_23 _ (List.mem_of_getElem? (i := 13) rfl), inR_23 _ (List.mem_of_getElem? (i := 14) rfl), inR_3 _ (List.mem_of_getElem? (i := 23) rfl), inR_23 _ (List.mem_of_getElem? (i := 15) rfl)⟩
theorem UVX5_failOnToken : UV MX5_failOnToken RX5 0 := ⟨by decide +kernel, by decide, inR_24 _ (List.mem_of_getElem? (i := 0) rfl), inR_24 _ (List.mem_of_getElem? (i := 1) rfl), inR_3 _ (List.mem_of_getElem? (i := 23) rfl), inR_24 _ (List.mem_of_getElem? (i := 2) rfl)⟩
theorem UVX5_readBridge : UV MX5_readBridge RX5 0 := ⟨by decide +kernel, by decide, inR_24 _ (List.mem_of_getElem? (i := 4) rfl), inR_24 _ (List.mem_of_getElem? (i := 5) rfl), inR_3 _ (List.mem_of_getElem? (i := 23) rfl), inR_24 _ (List.mem_of_getElem? (i := 6) rfl)⟩
theorem UVX5_number : UV MX5_number RX5 2 := ⟨by decide +kernel, by decide, inR_24 _ (List.mem_of_getElem? (i := 8) rfl), inR_24 _ (List.mem_of_getElem? (i := 9) rfl), inR_3 _ (List.mem_of_getElem? (i := 23) rfl), inR_24 _ (List.mem_of_getElem? (i := 10) rfl)⟩
theorem UVX5_fail : UV MX5_fail RX5 1 := ⟨by decide +kernel, by decide, inR_24 _ (List.mem_of_getElem? (i := 12) rfl), inR_24 _ (List.mem_of_getElem? (i := 13) rfl), inR_3 _ (List.mem_of_getElem? (i := 23) rfl), inR_24 _ (List.mem_of_getElem? (i := 14) rfl)⟩
theorem UVX5_semicolon : UV MX5_semicolon RX5 0 := ⟨by decide +kernel, by decide, inR_24 _ (List.mem_of_getElem? (i := 16) rfl), inR_24 _ (List.mem_of_getElem? (i := 17) rfl), inR_3 _ (List.mem_of_getElem? (i := 23) rfl), inR_24 _ (List.mem_of_getElem? (i := 18) rfl)⟩
theorem UVX5_readLane : UV MX5_readLane RX5 0 := ⟨by decide +kernel, by decide, inR_24 _ (List.mem_of_getElem? (i := 20) rfl), inR_24 _ (List.mem_of_getElem? (i := 21) rfl), inR_3 _ (List.mem_of_getElem? (i := 23) rfl), inR_24 _ (List.mem_of_getElem? (i := 22) rfl)⟩
theorem UVX5_newName : UV MX5_newName RX5 0 := ⟨by decide +kernel, by decide, inR_25 _ (List.mem_of_getElem? (i := 1) rfl), inR_25 _ (List.mem_of_getElem? (i := 2) rfl), inR_3 _ (List.mem_of_getElem? (i := 23) rfl), inR_25 _ (List.mem_of_getElem? (i := 3) rfl)⟩
theorem USX5_isReserved : US MX5_isReserved RX5 1 := ⟨by decide +kernel, by decide, inR_25 _ (List.mem_of_getElem? (i := 5) rfl), inR_3 _ (List.mem_of_getElem? (i := 23) rfl), inR_25 _ (List.mem_of_getElem? (i := 6) rfl)⟩
theorem UVX3_isDeclared : UV MX3_isDeclared RX3 1 := ⟨by decide +kernel, by decide, inR_25 _ (List.mem_of_getElem? (i := 9) rfl), inR_25 _ (List.mem_of_getElem? (i := 10) rfl), inR_7 _ (List.mem_of_getElem? (i := 1) rfl), inR_25 _ (List.mem_of_getElem? (i := 11) rfl)⟩
theorem UVX3_add : UV MX3_add RX3 3 := ⟨by decide +kernel, by decide, inR_25 _ (List.mem_of_getElem? (i := 13) rfl), inR_25 _ (List.mem_of_getElem? (i := 14) rfl), inR_7 _ (List.mem_of_getElem? (i := 1) rfl), inR_25 _ (List.mem_of_getElem? (i := 15) rfl)⟩
theorem UVX1_addLane : UV MX1_addLane RX1 1 := ⟨by decide +kernel, by decide, inR_25 _ (List.mem_of_getElem? (i := 17) rfl), inR_25 _ (List.mem_of_getElem? (i := 18) rfl), inR_3 _ (List.mem_of_getElem? (i := 12) rfl), inR_25 _ (List.mem_of_getElem? (i := 19) rfl)⟩
theorem UVX5_readSpan : UV MX5_readSpan RX5 0 := ⟨by decide +kernel, by decide, inR_25 _ (List.mem_of_getElem? (i := 21) rfl), inR_25 _ (List.mem_of_getElem? (i := 22) rfl), inR_3 _ (List.mem_of_getElem? (i := 23) rfl), inR_25 _ (List.mem_of_getElem? (i := 23) rfl)⟩
theorem UVX5_laneOrNone : UV MX5_laneOrNone RX5 0 := ⟨by decide +kernel, by decide, inR_26 _ (List.mem_of_getElem? (i := 1) rfl), inR_26 _ (List.mem_of_getElem? (i := 2) rfl), inR_3 _ (List.mem_of_getElem? (i := 23) rfl), inR_26 _ (List.mem_of_getElem? (i := 3) rfl)⟩
theorem UVX5_thisName : UV MX5_thisName RX5 1 := ⟨by decide +kernel, by decide, inR_26 _ (List.mem_of_getElem? (i := 5) rfl), inR_26 _ (List.mem_of_getElem? (i := 6) rfl), inR_3 _ (List.mem_of_getElem? (i := 23) rfl), inR_26 _ (List.mem_of_getElem? (i := 7) rfl)⟩
theorem UVX3_numberOf : UV MX3_numberOf RX3 2 := ⟨by decide +kernel, by decide, inR_26 _ (List.mem_of_getElem? (i := 9) rfl), inR_26 _ (List.mem_of_getElem? (i := 10) rfl), inR_7 _ (List.mem_of_getElem? (i := 1) rfl), inR_26 _ (List.mem_of_getElem? (i := 11) rfl)⟩
theorem UVX1_addSpan : UV MX1_addSpan RX1 5 := ⟨by decide +kernel, by decide, inR_26 _ (List.mem_of_getElem? (i := 13) rfl), inR_26 _ (List.mem_of_getElem? (i := 14) rfl), inR_3 _ (List.mem_of_getElem? (i := 12) rfl), inR_26 _ (List.mem_of_getElem? (i := 15) rfl)⟩
theorem UVX5_readGang : UV MX5_readGang RX5 0 := ⟨by decide +kernel, by decide, inR_26 _ (List.mem_of_getElem? (i := 17) rfl), inR_26 _ (List.mem_of_getElem? (i := 18) rfl), inR_3 _ (List.mem_of_getElem? (i := 23) rfl), inR_26 _ (List.mem_of_getElem? (i := 19) rfl)⟩
theorem UVX1_addGang : UV MX1_addGang RX1 2 := ⟨by decide +kernel, by decide, inR_26 _ (List.mem_of_getElem? (i := 21) rfl), inR_26 _ (List.mem_of_getElem? (i := 22) rfl), inR_3 _ (List.mem_of_getElem? (i := 12) rfl), inR_26 _ (List.mem_of_getElem? (i := 23) rfl)⟩
theorem UVX5_readWeather : UV MX5_readWeather RX5 0 := ⟨by decide +kernel, by decide, inR_27 _ (List.mem_of_getElem? (i := 1) rfl), inR_27 _ (List.mem_of_getElem? (i := 2) rfl), inR_3 _ (List.mem_of_getElem? (i := 23) rfl), inR_27 _ (List.mem_of_getElem? (i := 3) rfl)⟩
theorem UVX5_readClosed : UV MX5_readClosed RX5 0 := ⟨by decide +kernel, by decide, inR_27 _ (List.mem_of_getElem? (i := 5) rfl), inR_27 _ (List.mem_of_getElem? (i := 6) rfl), inR_3 _ (List.mem_of_getElem? (i := 23) rfl), inR_27 _ (List.mem_of_getElem? (i := 7) rfl)⟩
theorem UVX5_knownName : UV MX5_knownName RX5 1 := ⟨by decide +kernel, by decide, inR_27 _ (List.mem_of_getElem? (i := 9) rfl), inR_27 _ (List.mem_of_getElem? (i := 10) rfl), inR_3 _ (List.mem_of_getElem? (i := 23) rfl), inR_27 _ (List.mem_of_getElem? (i := 11) rfl)⟩
theorem UVX5_readPainting : UV MX5_readPainting RX5 0 := ⟨by decide +kernel, by decide, inR_27 _ (List.mem_of_getElem? (i := 13) rfl), inR_27 _ (List.mem_of_getElem? (i := 14) rfl), inR_3 _ (List.mem_of_getElem? (i := 23) rfl), inR_27 _ (List.mem_of_getElem? (i := 15) rfl)⟩
theorem UVX6_put : UV MX6_put RX6 3 := ⟨by decide +kernel, by decide, inR_27 _ (List.mem_of_getElem? (i := 18) rfl), inR_27 _ (List.mem_of_getElem? (i := 19) rfl), inR_3 _ (List.mem_of_getElem? (i := 15) rfl), inR_27 _ (List.mem_of_getElem? (i := 20) rfl)⟩
theorem UVX5_failureKind : UV MX5_failureKind RX5 0 := ⟨by decide +kernel, by decide, inR_27 _ (List.mem_of_getElem? (i := 23) rfl), inR_28 _ (List.mem_of_getElem? (i := 0) rfl), inR_3 _ (List.mem_of_getElem? (i := 23) rfl), inR_28 _ (List.mem_of_getElem? (i := 1) rfl)⟩
theorem UVX5_failurePosition : UV MX5_failurePosition RX5 0 := ⟨by decide +kernel, by decide, inR_28 _ (List.mem_of_getElem? (i := 3) rfl), inR_28 _ (List.mem_of_getElem? (i := 4) rfl), inR_3 _ (List.mem_of_getElem? (i := 23) rfl), inR_28 _ (List.mem_of_getElem? (i := 5) rfl)⟩
theorem UVX9_clear : UV MX9_clear RX9 0 := ⟨by decide +kernel, by decide, inR_28 _ (List.mem_of_getElem? (i := 7) rfl), inR_28 _ (List.mem_of_getElem? (i := 8) rfl), inR_3 _ (List.mem_of_getElem? (i := 9) rfl), inR_28 _ (List.mem_of_getElem? (i := 9) rfl)⟩
theorem UVX11_takeDraft : UV MX11_takeDraft RX11 0 := ⟨by decide +kernel, by decide, inR_28 _ (List.mem_of_getElem? (i := 11) rfl), inR_28 _ (List.mem_of_getElem? (i := 12) rfl), inR_1 _ (List.mem_of_getElem? (i := 6) rfl), inR_28 _ (List.mem_of_getElem? (i := 13) rfl)⟩
theorem UVX2_clear : UV MX2_clear RX2 0 := ⟨by decide +kernel, by decide, inR_28 _ (List.mem_of_getElem? (i := 15) rfl), inR_28 _ (List.mem_of_getElem? (i := 16) rfl), inR_2 _ (List.mem_of_getElem? (i := 22) rfl), inR_28 _ (List.mem_of_getElem? (i := 17) rfl)⟩
theorem UVX11_errorKind : UV MX11_errorKind RX11 0 := ⟨by decide +kernel, by decide, inR_28 _ (List.mem_of_getElem? (i := 20) rfl), inR_28 _ (List.mem_of_getElem? (i := 21) rfl), inR_1 _ (List.mem_of_getElem? (i := 6) rfl), inR_28 _ (List.mem_of_getElem? (i := 22) rfl)⟩
theorem UVX11_paintings : UV MX11_paintings RX11 0 := ⟨by decide +kernel, by decide, inR_29 _ (List.mem_of_getElem? (i := 0) rfl), inR_29 _ (List.mem_of_getElem? (i := 1) rfl), inR_1 _ (List.mem_of_getElem? (i := 6) rfl), inR_29 _ (List.mem_of_getElem? (i := 2) rfl)⟩
theorem UVX6_countPaintings : UV MX6_countPaintings RX6 0 := ⟨by decide +kernel, by decide, inR_29 _ (List.mem_of_getElem? (i := 4) rfl), inR_29 _ (List.mem_of_getElem? (i := 5) rfl), inR_3 _ (List.mem_of_getElem? (i := 15) rfl), inR_29 _ (List.mem_of_getElem? (i := 6) rfl)⟩
theorem UVL_refused : UV ML_refused RL 3 := ⟨by decide +kernel, by decide, inR_29 _ (List.mem_of_getElem? (i := 9) rfl), inR_29 _ (List.mem_of_getElem? (i := 10) rfl), inR_1 _ (List.mem_of_getElem? (i := 2) rfl), inR_29 _ (List.mem_of_getElem? (i := 11) rfl)⟩
theorem UVL_load_ : UV ML_load_ RL 2 := ⟨by decide +kernel, by decide, inR_29 _ (List.mem_of_getElem? (i := 14) rfl), inR_29 _ (List.mem_of_getElem? (i := 15) rfl), inR_1 _ (List.mem_of_getElem? (i := 2) rfl), inR_29 _ (List.mem_of_getElem? (i := 16) rfl)⟩
theorem UVL_effort : UV ML_effort RL 2 := ⟨by decide +kernel, by decide, inR_29 _ (List.mem_of_getElem? (i := 18) rfl), inR_29 _ (List.mem_of_getElem? (i := 19) rfl), inR_1 _ (List.mem_of_getElem? (i := 2) rfl), inR_29 _ (List.mem_of_getElem? (i := 20) rfl)⟩
theorem UVL_begin : UV ML_begin RL 2 := ⟨by decide +kernel, by decide, inR_29 _ (List.mem_of_getElem? (i := 22) rfl), inR_29 _ (List.mem_of_getElem? (i := 23) rfl), inR_1 _ (List.mem_of_getElem? (i := 2) rfl), inR_30 _ (List.mem_of_getElem? (i := 0) rfl)⟩
theorem UVL_end : UV ML_end RL 2 := ⟨by decide +kernel, by decide, inR_30 _ (List.mem_of_getElem? (i := 3) rfl), inR_30 _ (List.mem_of_getElem? (i := 4) rfl), inR_1 _ (List.mem_of_getElem? (i := 2) rfl), inR_30 _ (List.mem_of_getElem? (i := 5) rfl)⟩
theorem UVX11_refusal : UV MX11_refusal RX11 3 := ⟨by decide +kernel, by decide, inR_30 _ (List.mem_of_getElem? (i := 8) rfl), inR_30 _ (List.mem_of_getElem? (i := 9) rfl), inR_1 _ (List.mem_of_getElem? (i := 6) rfl), inR_30 _ (List.mem_of_getElem? (i := 10) rfl)⟩
theorem UVX11_checkYear : UV MX11_checkYear RX11 1 := ⟨by decide +kernel, by decide, inR_30 _ (List.mem_of_getElem? (i := 12) rfl), inR_30 _ (List.mem_of_getElem? (i := 13) rfl), inR_1 _ (List.mem_of_getElem? (i := 6) rfl), inR_30 _ (List.mem_of_getElem? (i := 14) rfl)⟩
theorem UVX11_checkSpan : UV MX11_checkSpan RX11 1 := ⟨by decide +kernel, by decide, inR_30 _ (List.mem_of_getElem? (i := 18) rfl), inR_30 _ (List.mem_of_getElem? (i := 19) rfl), inR_1 _ (List.mem_of_getElem? (i := 6) rfl), inR_30 _ (List.mem_of_getElem? (i := 20) rfl)⟩
theorem UVX11_checkGang : UV MX11_checkGang RX11 1 := ⟨by decide +kernel, by decide, inR_30 _ (List.mem_of_getElem? (i := 22) rfl), inR_30 _ (List.mem_of_getElem? (i := 23) rfl), inR_1 _ (List.mem_of_getElem? (i := 6) rfl), inR_31 _ (List.mem_of_getElem? (i := 0) rfl)⟩
theorem UVX6_reasonAgainst : UV MX6_reasonAgainst RX6 3 := ⟨by decide +kernel, by decide, inR_31 _ (List.mem_of_getElem? (i := 2) rfl), inR_31 _ (List.mem_of_getElem? (i := 3) rfl), inR_3 _ (List.mem_of_getElem? (i := 15) rfl), inR_31 _ (List.mem_of_getElem? (i := 4) rfl)⟩
theorem UVX1_isClosed : UV MX1_isClosed RX1 2 := ⟨by decide +kernel, by decide, inR_31 _ (List.mem_of_getElem? (i := 6) rfl), inR_31 _ (List.mem_of_getElem? (i := 7) rfl), inR_3 _ (List.mem_of_getElem? (i := 12) rfl), inR_31 _ (List.mem_of_getElem? (i := 8) rfl)⟩
theorem UVX6_shutLanes : UV MX6_shutLanes RX6 1 := ⟨by decide +kernel, by decide, inR_31 _ (List.mem_of_getElem? (i := 10) rfl), inR_31 _ (List.mem_of_getElem? (i := 11) rfl), inR_3 _ (List.mem_of_getElem? (i := 15) rfl), inR_31 _ (List.mem_of_getElem? (i := 12) rfl)⟩
theorem USJ6_bitCount_0f7a4 : US MJ6_bitCount_0f7a4 RJ6 1 := ⟨by decide +kernel, by decide, inR_31 _ (List.mem_of_getElem? (i := 14) rfl), inR_15 _ (List.mem_of_getElem? (i := 13) rfl), inR_31 _ (List.mem_of_getElem? (i := 15) rfl)⟩
theorem UVX6_gangLoad : UV MX6_gangLoad RX6 2 := ⟨by decide +kernel, by decide, inR_31 _ (List.mem_of_getElem? (i := 20) rfl), inR_31 _ (List.mem_of_getElem? (i := 21) rfl), inR_3 _ (List.mem_of_getElem? (i := 15) rfl), inR_31 _ (List.mem_of_getElem? (i := 22) rfl)⟩
theorem UVX6_painter : UV MX6_painter RX6 2 := ⟨by decide +kernel, by decide, inR_32 _ (List.mem_of_getElem? (i := 0) rfl), inR_32 _ (List.mem_of_getElem? (i := 1) rfl), inR_3 _ (List.mem_of_getElem? (i := 15) rfl), inR_32 _ (List.mem_of_getElem? (i := 2) rfl)⟩
theorem UVX6_spanEffort : UV MX6_spanEffort RX6 2 := ⟨by decide +kernel, by decide, inR_32 _ (List.mem_of_getElem? (i := 4) rfl), inR_32 _ (List.mem_of_getElem? (i := 5) rfl), inR_3 _ (List.mem_of_getElem? (i := 15) rfl), inR_32 _ (List.mem_of_getElem? (i := 6) rfl)⟩
theorem UVX1_gangCapacity : UV MX1_gangCapacity RX1 2 := ⟨by decide +kernel, by decide, inR_32 _ (List.mem_of_getElem? (i := 8) rfl), inR_32 _ (List.mem_of_getElem? (i := 9) rfl), inR_3 _ (List.mem_of_getElem? (i := 12) rfl), inR_32 _ (List.mem_of_getElem? (i := 10) rfl)⟩
theorem UVX11_paint : UV MX11_paint RX11 3 := ⟨by decide +kernel, by decide, inR_32 _ (List.mem_of_getElem? (i := 12) rfl), inR_32 _ (List.mem_of_getElem? (i := 13) rfl), inR_1 _ (List.mem_of_getElem? (i := 6) rfl), inR_32 _ (List.mem_of_getElem? (i := 14) rfl)⟩
theorem UVX11_remember : UV MX11_remember RX11 0 := ⟨by decide +kernel, by decide, inR_32 _ (List.mem_of_getElem? (i := 17) rfl), inR_32 _ (List.mem_of_getElem? (i := 18) rfl), inR_1 _ (List.mem_of_getElem? (i := 6) rfl), inR_32 _ (List.mem_of_getElem? (i := 19) rfl)⟩
theorem UVX2_keep : UV MX2_keep RX2 2 := ⟨by decide +kernel, by decide, inR_32 _ (List.mem_of_getElem? (i := 21) rfl), inR_32 _ (List.mem_of_getElem? (i := 22) rfl), inR_2 _ (List.mem_of_getElem? (i := 22) rfl), inR_32 _ (List.mem_of_getElem? (i := 23) rfl)⟩
theorem UVX1_saveTo : UV MX1_saveTo RX1 1 := ⟨by decide +kernel, by decide, inR_33 _ (List.mem_of_getElem? (i := 2) rfl), inR_33 _ (List.mem_of_getElem? (i := 3) rfl), inR_3 _ (List.mem_of_getElem? (i := 12) rfl), inR_33 _ (List.mem_of_getElem? (i := 4) rfl)⟩
theorem UVX6_saveTo : UV MX6_saveTo RX6 1 := ⟨by decide +kernel, by decide, inR_33 _ (List.mem_of_getElem? (i := 7) rfl), inR_33 _ (List.mem_of_getElem? (i := 8) rfl), inR_3 _ (List.mem_of_getElem? (i := 15) rfl), inR_33 _ (List.mem_of_getElem? (i := 9) rfl)⟩
theorem UVX6_countPast : UV MX6_countPast RX6 0 := ⟨by decide +kernel, by decide, inR_33 _ (List.mem_of_getElem? (i := 13) rfl), inR_33 _ (List.mem_of_getElem? (i := 14) rfl), inR_3 _ (List.mem_of_getElem? (i := 15) rfl), inR_33 _ (List.mem_of_getElem? (i := 15) rfl)⟩
theorem UVX6_firstPast : UV MX6_firstPast RX6 1 := ⟨by decide +kernel, by decide, inR_33 _ (List.mem_of_getElem? (i := 18) rfl), inR_33 _ (List.mem_of_getElem? (i := 19) rfl), inR_3 _ (List.mem_of_getElem? (i := 15) rfl), inR_33 _ (List.mem_of_getElem? (i := 20) rfl)⟩
theorem UVX6_isPast : UV MX6_isPast RX6 2 := ⟨by decide +kernel, by decide, inR_33 _ (List.mem_of_getElem? (i := 22) rfl), inR_33 _ (List.mem_of_getElem? (i := 23) rfl), inR_3 _ (List.mem_of_getElem? (i := 15) rfl), inR_34 _ (List.mem_of_getElem? (i := 0) rfl)⟩
theorem UVL_isSame : UV ML_isSame RL 1 := ⟨by decide +kernel, by decide, inR_34 _ (List.mem_of_getElem? (i := 2) rfl), inR_34 _ (List.mem_of_getElem? (i := 3) rfl), inR_1 _ (List.mem_of_getElem? (i := 2) rfl), inR_34 _ (List.mem_of_getElem? (i := 4) rfl)⟩
theorem UVX11_rustAfter : UV MX11_rustAfter RX11 2 := ⟨by decide +kernel, by decide, inR_34 _ (List.mem_of_getElem? (i := 6) rfl), inR_34 _ (List.mem_of_getElem? (i := 7) rfl), inR_1 _ (List.mem_of_getElem? (i := 6) rfl), inR_34 _ (List.mem_of_getElem? (i := 8) rfl)⟩
theorem UVX6_rustAtEnd : UV MX6_rustAtEnd RX6 2 := ⟨by decide +kernel, by decide, inR_34 _ (List.mem_of_getElem? (i := 10) rfl), inR_34 _ (List.mem_of_getElem? (i := 11) rfl), inR_3 _ (List.mem_of_getElem? (i := 15) rfl), inR_34 _ (List.mem_of_getElem? (i := 12) rfl)⟩
theorem UVX11_rustBefore : UV MX11_rustBefore RX11 2 := ⟨by decide +kernel, by decide, inR_34 _ (List.mem_of_getElem? (i := 14) rfl), inR_34 _ (List.mem_of_getElem? (i := 15) rfl), inR_1 _ (List.mem_of_getElem? (i := 6) rfl), inR_34 _ (List.mem_of_getElem? (i := 16) rfl)⟩
theorem UVX6_rustAtStart : UV MX6_rustAtStart RX6 2 := ⟨by decide +kernel, by decide, inR_34 _ (List.mem_of_getElem? (i := 18) rfl), inR_34 _ (List.mem_of_getElem? (i := 19) rfl), inR_3 _ (List.mem_of_getElem? (i := 15) rfl), inR_34 _ (List.mem_of_getElem? (i := 20) rfl)⟩
theorem UVX11_guardLeft : UV MX11_guardLeft RX11 2 := ⟨by decide +kernel, by decide, inR_34 _ (List.mem_of_getElem? (i := 22) rfl), inR_34 _ (List.mem_of_getElem? (i := 23) rfl), inR_1 _ (List.mem_of_getElem? (i := 6) rfl), inR_35 _ (List.mem_of_getElem? (i := 0) rfl)⟩
theorem UVX6_guardAtStart : UV MX6_guardAtStart RX6 2 := ⟨by decide +kernel, by decide, inR_35 _ (List.mem_of_getElem? (i := 2) rfl), inR_35 _ (List.mem_of_getElem? (i := 3) rfl), inR_3 _ (List.mem_of_getElem? (i := 15) rfl), inR_35 _ (List.mem_of_getElem? (i := 4) rfl)⟩
theorem UVX11_effort : UV MX11_effort RX11 2 := ⟨by decide +kernel, by decide, inR_35 _ (List.mem_of_getElem? (i := 6) rfl), inR_35 _ (List.mem_of_getElem? (i := 7) rfl), inR_1 _ (List.mem_of_getElem? (i := 6) rfl), inR_35 _ (List.mem_of_getElem? (i := 8) rfl)⟩
theorem UVX11_pastYear : UV MX11_pastYear RX11 1 := ⟨by decide +kernel, by decide, inR_35 _ (List.mem_of_getElem? (i := 11) rfl), inR_35 _ (List.mem_of_getElem? (i := 12) rfl), inR_1 _ (List.mem_of_getElem? (i := 6) rfl), inR_35 _ (List.mem_of_getElem? (i := 13) rfl)⟩
theorem UVX11_loadOf : UV MX11_loadOf RX11 2 := ⟨by decide +kernel, by decide, inR_35 _ (List.mem_of_getElem? (i := 16) rfl), inR_35 _ (List.mem_of_getElem? (i := 17) rfl), inR_1 _ (List.mem_of_getElem? (i := 6) rfl), inR_35 _ (List.mem_of_getElem? (i := 18) rfl)⟩
theorem UVX11_capacity : UV MX11_capacity RX11 2 := ⟨by decide +kernel, by decide, inR_35 _ (List.mem_of_getElem? (i := 21) rfl), inR_35 _ (List.mem_of_getElem? (i := 22) rfl), inR_1 _ (List.mem_of_getElem? (i := 6) rfl), inR_35 _ (List.mem_of_getElem? (i := 23) rfl)⟩
theorem UVX11_undo : UV MX11_undo RX11 0 := ⟨by decide +kernel, by decide, inR_36 _ (List.mem_of_getElem? (i := 2) rfl), inR_36 _ (List.mem_of_getElem? (i := 3) rfl), inR_1 _ (List.mem_of_getElem? (i := 6) rfl), inR_36 _ (List.mem_of_getElem? (i := 4) rfl)⟩
theorem UVX2_isEmpty : UV MX2_isEmpty RX2 0 := ⟨by decide +kernel, by decide, inR_36 _ (List.mem_of_getElem? (i := 6) rfl), inR_36 _ (List.mem_of_getElem? (i := 7) rfl), inR_2 _ (List.mem_of_getElem? (i := 22) rfl), inR_36 _ (List.mem_of_getElem? (i := 8) rfl)⟩
theorem UVX2_takeBack : UV MX2_takeBack RX2 2 := ⟨by decide +kernel, by decide, inR_36 _ (List.mem_of_getElem? (i := 10) rfl), inR_36 _ (List.mem_of_getElem? (i := 11) rfl), inR_2 _ (List.mem_of_getElem? (i := 22) rfl), inR_36 _ (List.mem_of_getElem? (i := 12) rfl)⟩
theorem UVX1_restoreFrom : UV MX1_restoreFrom RX1 1 := ⟨by decide +kernel, by decide, inR_36 _ (List.mem_of_getElem? (i := 14) rfl), inR_36 _ (List.mem_of_getElem? (i := 15) rfl), inR_3 _ (List.mem_of_getElem? (i := 12) rfl), inR_36 _ (List.mem_of_getElem? (i := 16) rfl)⟩
theorem UVX6_restoreFrom : UV MX6_restoreFrom RX6 1 := ⟨by decide +kernel, by decide, inR_36 _ (List.mem_of_getElem? (i := 18) rfl), inR_36 _ (List.mem_of_getElem? (i := 19) rfl), inR_3 _ (List.mem_of_getElem? (i := 15) rfl), inR_36 _ (List.mem_of_getElem? (i := 20) rfl)⟩
theorem UVX2_size : UV MX2_size RX2 0 := ⟨by decide +kernel, by decide, inR_36 _ (List.mem_of_getElem? (i := 22) rfl), inR_36 _ (List.mem_of_getElem? (i := 23) rfl), inR_2 _ (List.mem_of_getElem? (i := 22) rfl), inR_37 _ (List.mem_of_getElem? (i := 0) rfl)⟩
theorem LK_L_138 : Cond.methodLink RL 138 yL_init ∈ wsL_law := inR_1 _ (List.mem_of_getElem? (i := 12) rfl)
theorem LK_L_1 : Cond.methodLink RL 1 objectInit ∈ wsL_law := inR_1 _ (List.mem_of_getElem? (i := 15) rfl)
theorem LK_L_139 : Cond.methodLink RL 139 yX11_init ∈ wsL_law := inR_2 _ (List.mem_of_getElem? (i := 4) rfl)
theorem LK_X11_3 : Cond.methodLink RX11 3 objectInit ∈ wsL_law := inR_2 _ (List.mem_of_getElem? (i := 7) rfl)
theorem LK_X0_3 : Cond.methodLink RX0 3 objectInit ∈ wsL_law := inR_4 _ (List.mem_of_getElem? (i := 3) rfl)
theorem LK_X7_3 : Cond.methodLink RX7 3 objectInit ∈ wsL_law := inR_4 _ (List.mem_of_getElem? (i := 8) rfl)
theorem LK_X8_3 : Cond.methodLink RX8 3 objectInit ∈ wsL_law := inR_4 _ (List.mem_of_getElem? (i := 12) rfl)
theorem LK_X2_1 : Cond.methodLink RX2 1 objectInit ∈ wsL_law := inR_4 _ (List.mem_of_getElem? (i := 17) rfl)
theorem LK_X4_1 : Cond.methodLink RX4 1 objectInit ∈ wsL_law := inR_4 _ (List.mem_of_getElem? (i := 23) rfl)
theorem LK_X9_3 : Cond.methodLink RX9 3 objectInit ∈ wsL_law := inR_5 _ (List.mem_of_getElem? (i := 4) rfl)
theorem LK_X11_57 : Cond.methodLink RX11 57 yX1_init ∈ wsL_law := inR_5 _ (List.mem_of_getElem? (i := 6) rfl)
theorem LK_X1_5 : Cond.methodLink RX1 5 objectInit ∈ wsL_law := inR_5 _ (List.mem_of_getElem? (i := 9) rfl)
theorem LK_X1_42 : Cond.methodLink RX1 42 yX1_reset ∈ wsL_law := inR_5 _ (List.mem_of_getElem? (i := 20) rfl)
theorem LK_X1_64 : Cond.methodLink RX1 64 yJ7_fill_53178 ∈ wsL_law := inR_6 _ (List.mem_of_getElem? (i := 6) rfl)
theorem LK_X11_60 : Cond.methodLink RX11 60 yX6_init ∈ wsL_law := inR_6 _ (List.mem_of_getElem? (i := 10) rfl)
theorem LK_X6_3 : Cond.methodLink RX6 3 objectInit ∈ wsL_law := inR_6 _ (List.mem_of_getElem? (i := 13) rfl)
theorem LK_X6_25 : Cond.methodLink RX6 25 yJ7_fill_53178 ∈ wsL_law := inR_6 _ (List.mem_of_getElem? (i := 18) rfl)
theorem LK_X11_83 : Cond.methodLink RX11 83 yX5_init ∈ wsL_law := inR_6 _ (List.mem_of_getElem? (i := 19) rfl)
theorem LK_X5_3 : Cond.methodLink RX5 3 objectInit ∈ wsL_law := inR_6 _ (List.mem_of_getElem? (i := 22) rfl)
theorem LK_X3_3 : Cond.methodLink RX3 3 objectInit ∈ wsL_law := inR_7 _ (List.mem_of_getElem? (i := 13) rfl)
theorem LK_X5_25 : Cond.methodLink RX5 25 yX10_init ∈ wsL_law := inR_7 _ (List.mem_of_getElem? (i := 18) rfl)
theorem LK_X10_1 : Cond.methodLink RX10 1 objectInit ∈ wsL_law := inR_7 _ (List.mem_of_getElem? (i := 21) rfl)
theorem LK_L_140 : Cond.methodLink RL 140 yL_bridge ∈ wsL_law := inR_7 _ (List.mem_of_getElem? (i := 23) rfl)
theorem LK_L_78 : Cond.methodLink RL 78 yL_chosen ∈ wsL_law := inR_8 _ (List.mem_of_getElem? (i := 9) rfl)
theorem LK_L_70 : Cond.methodLink RL 70 yL_cell ∈ wsL_law := inR_8 _ (List.mem_of_getElem? (i := 14) rfl)
theorem LK_L_74 : Cond.methodLink RL 74 yL_among ∈ wsL_law := inR_8 _ (List.mem_of_getElem? (i := 17) rfl)
theorem LK_L_101 : Cond.methodLink RL 101 yJ4_init_da8c8 ∈ wsL_law := inR_8 _ (List.mem_of_getElem? (i := 20) rfl)
theorem LK_J4_1 : Cond.methodLink RJ4 1 yJ5_init_d00df ∈ wsL_law := inR_8 _ (List.mem_of_getElem? (i := 23) rfl)
theorem LK_J5_3 : Cond.methodLink RJ5 3 objectInit ∈ wsL_law := inR_9 _ (List.mem_of_getElem? (i := 3) rfl)
theorem LK_J5_26 : Cond.methodLink RJ5 26 yJ2_newBytesFor_77867 ∈ wsL_law := inR_9 _ (List.mem_of_getElem? (i := 7) rfl)
theorem LK_J2_11 : Cond.methodLink RJ2 11 yJ2_newBytesLength_0f7a4 ∈ wsL_law := inR_9 _ (List.mem_of_getElem? (i := 11) rfl)
theorem LK_L_104 : Cond.methodLink RL 104 yJ4_append_15ec4 ∈ wsL_law := inR_9 _ (List.mem_of_getElem? (i := 15) rfl)
theorem LK_J4_29 : Cond.methodLink RJ4 29 yJ5_append_cf1ce ∈ wsL_law := inR_9 _ (List.mem_of_getElem? (i := 19) rfl)
theorem LK_J5_204 : Cond.methodLink RJ5 204 ⟨"java/lang/AbstractStringBuilder", "appendNull", "()Ljava/lang/AbstractStringBuilder;"⟩ ∈ wsL_law := inR_10 _ (List.mem_of_getElem? (i := 1) rfl)
theorem LK_J5_100 : Cond.methodLink RJ5 100 ⟨"java/lang/AbstractStringBuilder", "ensureCapacityInternal", "(I)V"⟩ ∈ wsL_law := inR_10 _ (List.mem_of_getElem? (i := 6) rfl)
theorem LK_J5_104 : Cond.methodLink RJ5 104 ⟨"java/lang/AbstractStringBuilder", "newCapacity", "(I)I"⟩ ∈ wsL_law := inR_10 _ (List.mem_of_getElem? (i := 11) rfl)
theorem LK_J5_114 : Cond.methodLink RJ5 114 yJ8_newLength_cabcc ∈ wsL_law := inR_10 _ (List.mem_of_getElem? (i := 17) rfl)
theorem LK_J8_194 : Cond.methodLink RJ8 194 Lib.Math.max.name ∈ wsL_law := inR_10 _ (List.mem_of_getElem? (i := 21) rfl)
theorem LK_J8_201 : Cond.methodLink RJ8 201 yJ8_hugeLength_7cf53 ∈ wsL_law := inR_11 _ (List.mem_of_getElem? (i := 2) rfl)
theorem LK_J5_108 : Cond.methodLink RJ5 108 yJ7_copyOf_9075b ∈ wsL_law := inR_11 _ (List.mem_of_getElem? (i := 5) rfl)
theorem LK_J7_310 : Cond.methodLink RJ7 310 ⟨"[B", "clone", "()Ljava/lang/Object;"⟩ ∈ wsL_law := inR_11 _ (List.mem_of_getElem? (i := 8) rfl)
theorem LK_J7_304 : Cond.methodLink RJ7 304 Lib.Math.min.name ∈ wsL_law := inR_11 _ (List.mem_of_getElem? (i := 14) rfl)
theorem LK_J7_150 : Cond.methodLink RJ7 150 arraycopyName ∈ wsL_law := inR_11 _ (List.mem_of_getElem? (i := 17) rfl)
theorem LK_J5_83 : Cond.methodLink RJ5 83 ⟨"java/lang/AbstractStringBuilder", "isLatin1", "()Z"⟩ ∈ wsL_law := inR_11 _ (List.mem_of_getElem? (i := 21) rfl)
theorem LK_J5_226 : Cond.methodLink RJ5 226 yJ2_putCharsAt_cd4e5 ∈ wsL_law := inR_12 _ (List.mem_of_getElem? (i := 2) rfl)
theorem LK_J2_96 : Cond.methodLink RJ2 96 yJ2_checkBoundsBeginEnd_d044e ∈ wsL_law := inR_12 _ (List.mem_of_getElem? (i := 6) rfl)
theorem LK_J2_48 : Cond.methodLink RJ2 48 yJ2_length_9d52b ∈ wsL_law := inR_12 _ (List.mem_of_getElem? (i := 9) rfl)
theorem LK_J2_241 : Cond.methodLink RJ2 241 yJ0_checkBoundsBeginEnd_23922 ∈ wsL_law := inR_12 _ (List.mem_of_getElem? (i := 12) rfl)
theorem LK_J0_1062 : Cond.methodLink RJ0 1062 yJ3_checkFromToIndex_8c36e ∈ wsL_law := inR_12 _ (List.mem_of_getElem? (i := 17) rfl)
theorem LK_J2_111 : Cond.methodLink RJ2 111 yJ2_putChar_b72d1 ∈ wsL_law := inR_12 _ (List.mem_of_getElem? (i := 21) rfl)
theorem LK_J5_32 : Cond.methodLink RJ5 32 yJ0_length_8abf5 ∈ wsL_law := inR_13 _ (List.mem_of_getElem? (i := 2) rfl)
theorem LK_J0_335 : Cond.methodLink RJ0 335 yJ0_coder_7d493 ∈ wsL_law := inR_13 _ (List.mem_of_getElem? (i := 7) rfl)
theorem LK_J5_208 : Cond.methodLink RJ5 208 ⟨"java/lang/AbstractStringBuilder", "putStringAt", "(ILjava/lang/String;)V"⟩ ∈ wsL_law := inR_13 _ (List.mem_of_getElem? (i := 13) rfl)
theorem LK_J5_397 : Cond.methodLink RJ5 397 ⟨"java/lang/AbstractStringBuilder", "inflateIfNeededFor", "(Ljava/lang/String;)V"⟩ ∈ wsL_law := inR_13 _ (List.mem_of_getElem? (i := 18) rfl)
theorem LK_J5_40 : Cond.methodLink RJ5 40 yJ0_coder_7d493 ∈ wsL_law := inR_13 _ (List.mem_of_getElem? (i := 23) rfl)
theorem LK_J5_195 : Cond.methodLink RJ5 195 ⟨"java/lang/AbstractStringBuilder", "inflate", "()V"⟩ ∈ wsL_law := inR_14 _ (List.mem_of_getElem? (i := 0) rfl)
theorem LK_J5_125 : Cond.methodLink RJ5 125 yJ1_inflate_0e8fd ∈ wsL_law := inR_14 _ (List.mem_of_getElem? (i := 5) rfl)
theorem LK_J1_240 : Cond.methodLink RJ1 240 yJ2_inflate_0e8fd ∈ wsL_law := inR_14 _ (List.mem_of_getElem? (i := 9) rfl)
theorem LK_J2_173 : Cond.methodLink RJ2 173 yJ2_checkBoundsOffCount_d044e ∈ wsL_law := inR_14 _ (List.mem_of_getElem? (i := 12) rfl)
theorem LK_J2_419 : Cond.methodLink RJ2 419 yJ0_checkBoundsOffCount_cabcc ∈ wsL_law := inR_14 _ (List.mem_of_getElem? (i := 15) rfl)
theorem LK_J0_1065 : Cond.methodLink RJ0 1065 yJ3_checkFromIndexSize_8c36e ∈ wsL_law := inR_14 _ (List.mem_of_getElem? (i := 18) rfl)
theorem LK_J5_399 : Cond.methodLink RJ5 399 yJ0_getBytes_840e7 ∈ wsL_law := inR_14 _ (List.mem_of_getElem? (i := 21) rfl)
theorem LK_J0_212 : Cond.methodLink RJ0 212 arraycopyName ∈ wsL_law := inR_15 _ (List.mem_of_getElem? (i := 1) rfl)
theorem LK_J0_106 : Cond.methodLink RJ0 106 yJ1_inflate_0e8fd ∈ wsL_law := inR_15 _ (List.mem_of_getElem? (i := 2) rfl)
theorem LK_L_108 : Cond.methodLink RL 108 yJ4_append_bf812 ∈ wsL_law := inR_15 _ (List.mem_of_getElem? (i := 3) rfl)
theorem LK_J4_53 : Cond.methodLink RJ4 53 yJ5_append_c97b9 ∈ wsL_law := inR_15 _ (List.mem_of_getElem? (i := 7) rfl)
theorem LK_J5_245 : Cond.methodLink RJ5 245 yJ6_stringSize_0f7a4 ∈ wsL_law := inR_15 _ (List.mem_of_getElem? (i := 11) rfl)
theorem LK_J5_248 : Cond.methodLink RJ5 248 yJ6_getChars_ba4f3 ∈ wsL_law := inR_15 _ (List.mem_of_getElem? (i := 15) rfl)
theorem LK_J5_251 : Cond.methodLink RJ5 251 yJ2_getChars_46870 ∈ wsL_law := inR_15 _ (List.mem_of_getElem? (i := 20) rfl)
theorem LK_J2_393 : Cond.methodLink RJ2 393 yJ2_getChars_ba4f3 ∈ wsL_law := inR_15 _ (List.mem_of_getElem? (i := 23) rfl)
theorem LK_L_115 : Cond.methodLink RL 115 yJ4_toString_0e30d ∈ wsL_law := inR_16 _ (List.mem_of_getElem? (i := 4) rfl)
theorem LK_J4_137 : Cond.methodLink RJ4 137 yJ0_init_81219 ∈ wsL_law := inR_16 _ (List.mem_of_getElem? (i := 10) rfl)
theorem LK_J0_489 : Cond.methodLink RJ0 489 yJ0_init_db425 ∈ wsL_law := inR_16 _ (List.mem_of_getElem? (i := 13) rfl)
theorem LK_J0_1 : Cond.methodLink RJ0 1 objectInit ∈ wsL_law := inR_16 _ (List.mem_of_getElem? (i := 16) rfl)
theorem LK_J0_552 : Cond.methodLink RJ0 552 ⟨"java/lang/AbstractStringBuilder", "getValue", "()[B"⟩ ∈ wsL_law := inR_16 _ (List.mem_of_getElem? (i := 18) rfl)
theorem LK_J0_549 : Cond.methodLink RJ0 549 ⟨"java/lang/AbstractStringBuilder", "length", "()I"⟩ ∈ wsL_law := inR_16 _ (List.mem_of_getElem? (i := 23) rfl)
theorem LK_J4_343 : Cond.methodLink RJ4 343 yJ5_length_8abf5 ∈ wsL_law := inR_17 _ (List.mem_of_getElem? (i := 5) rfl)
theorem LK_J0_1047 : Cond.methodLink RJ0 1047 ⟨"java/lang/AbstractStringBuilder", "isLatin1", "()Z"⟩ ∈ wsL_law := inR_17 _ (List.mem_of_getElem? (i := 8) rfl)
theorem LK_J0_54 : Cond.methodLink RJ0 54 yJ7_copyOfRange_39247 ∈ wsL_law := inR_17 _ (List.mem_of_getElem? (i := 9) rfl)
theorem LK_J7_339 : Cond.methodLink RJ7 339 yJ7_copyOfRangeByte_39247 ∈ wsL_law := inR_17 _ (List.mem_of_getElem? (i := 12) rfl)
theorem LK_J7_343 : Cond.methodLink RJ7 343 yJ7_checkLength_df160 ∈ wsL_law := inR_17 _ (List.mem_of_getElem? (i := 15) rfl)
theorem LK_J0_1051 : Cond.methodLink RJ0 1051 yJ2_compress_39247 ∈ wsL_law := inR_17 _ (List.mem_of_getElem? (i := 18) rfl)
theorem LK_J2_123 : Cond.methodLink RJ2 123 yJ2_compress_5af95 ∈ wsL_law := inR_17 _ (List.mem_of_getElem? (i := 21) rfl)
theorem LK_J2_71 : Cond.methodLink RJ2 71 yJ2_getChar_3b067 ∈ wsL_law := inR_18 _ (List.mem_of_getElem? (i := 0) rfl)
theorem LK_J2_126 : Cond.methodLink RJ2 126 yJ7_copyOfRange_39247 ∈ wsL_law := inR_18 _ (List.mem_of_getElem? (i := 3) rfl)
theorem LK_J0_47 : Cond.methodLink RJ0 47 yJ2_coderFromArrayLen_85cad ∈ wsL_law := inR_18 _ (List.mem_of_getElem? (i := 4) rfl)
theorem LK_L_121 : Cond.methodLink RL 121 yJ4_append_cf468 ∈ wsL_law := inR_18 _ (List.mem_of_getElem? (i := 7) rfl)
theorem LK_J4_50 : Cond.methodLink RJ4 50 yJ5_append_3fe6f ∈ wsL_law := inR_18 _ (List.mem_of_getElem? (i := 11) rfl)
theorem LK_J5_191 : Cond.methodLink RJ5 191 yJ1_canEncode_fc78d ∈ wsL_law := inR_18 _ (List.mem_of_getElem? (i := 15) rfl)
theorem LK_J5_197 : Cond.methodLink RJ5 197 yJ2_putCharSB_b72d1 ∈ wsL_law := inR_18 _ (List.mem_of_getElem? (i := 18) rfl)
theorem LK_J2_67 : Cond.methodLink RJ2 67 yJ2_checkIndex_2214a ∈ wsL_law := inR_18 _ (List.mem_of_getElem? (i := 21) rfl)
theorem LK_J2_414 : Cond.methodLink RJ2 414 yJ0_checkIndex_df160 ∈ wsL_law := inR_19 _ (List.mem_of_getElem? (i := 0) rfl)
theorem LK_J0_1059 : Cond.methodLink RJ0 1059 yJ3_checkIndex_8e157 ∈ wsL_law := inR_19 _ (List.mem_of_getElem? (i := 3) rfl)
theorem LK_L_124 : Cond.methodLink RL 124 yL_span ∈ wsL_law := inR_19 _ (List.mem_of_getElem? (i := 6) rfl)
theorem LK_L_143 : Cond.methodLink RL 143 yL_load ∈ wsL_law := inR_19 _ (List.mem_of_getElem? (i := 10) rfl)
theorem LK_L_42 : Cond.methodLink RL 42 yJ0_length_8abf5 ∈ wsL_law := inR_19 _ (List.mem_of_getElem? (i := 13) rfl)
theorem LK_L_52 : Cond.methodLink RL 52 yL_four ∈ wsL_law := inR_19 _ (List.mem_of_getElem? (i := 14) rfl)
theorem LK_L_48 : Cond.methodLink RL 48 yJ0_charAt_5068e ∈ wsL_law := inR_19 _ (List.mem_of_getElem? (i := 17) rfl)
theorem LK_J0_492 : Cond.methodLink RJ0 492 yJ0_isLatin1_aae02 ∈ wsL_law := inR_19 _ (List.mem_of_getElem? (i := 21) rfl)
theorem LK_J0_495 : Cond.methodLink RJ0 495 yJ1_charAt_3b067 ∈ wsL_law := inR_20 _ (List.mem_of_getElem? (i := 1) rfl)
theorem LK_J1_9 : Cond.methodLink RJ1 9 yJ0_checkIndex_df160 ∈ wsL_law := inR_20 _ (List.mem_of_getElem? (i := 4) rfl)
theorem LK_J0_498 : Cond.methodLink RJ0 498 yJ2_charAt_3b067 ∈ wsL_law := inR_20 _ (List.mem_of_getElem? (i := 5) rfl)
theorem LK_L_56 : Cond.methodLink RL 56 yX11_feed ∈ wsL_law := inR_20 _ (List.mem_of_getElem? (i := 8) rfl)
theorem LK_X11_90 : Cond.methodLink RX11 90 yX9_hasRoomFor ∈ wsL_law := inR_20 _ (List.mem_of_getElem? (i := 13) rfl)
theorem LK_X11_95 : Cond.methodLink RX11 95 yX9_append ∈ wsL_law := inR_20 _ (List.mem_of_getElem? (i := 18) rfl)
theorem LK_X11_99 : Cond.methodLink RX11 99 yX9_size ∈ wsL_law := inR_20 _ (List.mem_of_getElem? (i := 22) rfl)
theorem LK_L_62 : Cond.methodLink RL 62 yX11_load ∈ wsL_law := inR_21 _ (List.mem_of_getElem? (i := 2) rfl)
theorem LK_X11_110 : Cond.methodLink RX11 110 yX5_read ∈ wsL_law := inR_21 _ (List.mem_of_getElem? (i := 9) rfl)
theorem LK_X5_43 : Cond.methodLink RX5 43 yX1_reset ∈ wsL_law := inR_21 _ (List.mem_of_getElem? (i := 14) rfl)
theorem LK_X5_48 : Cond.methodLink RX5 48 yX6_start ∈ wsL_law := inR_21 _ (List.mem_of_getElem? (i := 15) rfl)
theorem LK_X6_31 : Cond.methodLink RX6 31 yX6_followAll ∈ wsL_law := inR_21 _ (List.mem_of_getElem? (i := 19) rfl)
theorem LK_X6_34 : Cond.methodLink RX6 34 yX6_follow ∈ wsL_law := inR_21 _ (List.mem_of_getElem? (i := 23) rfl)
theorem LK_X6_66 : Cond.methodLink RX6 66 Lib.Math.min.name ∈ wsL_law := inR_22 _ (List.mem_of_getElem? (i := 3) rfl)
theorem LK_X6_56 : Cond.methodLink RX6 56 yX6_isPainted ∈ wsL_law := inR_22 _ (List.mem_of_getElem? (i := 4) rfl)
theorem LK_X5_54 : Cond.methodLink RX5 54 yX3_clear ∈ wsL_law := inR_22 _ (List.mem_of_getElem? (i := 8) rfl)
theorem LK_X5_57 : Cond.methodLink RX5 57 yX10_begin ∈ wsL_law := inR_22 _ (List.mem_of_getElem? (i := 13) rfl)
theorem LK_X10_19 : Cond.methodLink RX10 19 Lib.Math.min.name ∈ wsL_law := inR_22 _ (List.mem_of_getElem? (i := 17) rfl)
theorem LK_X5_61 : Cond.methodLink RX5 61 yX10_next ∈ wsL_law := inR_22 _ (List.mem_of_getElem? (i := 22) rfl)
theorem LK_X10_41 : Cond.methodLink RX10 41 yX10_takeLetters ∈ wsL_law := inR_23 _ (List.mem_of_getElem? (i := 2) rfl)
theorem LK_X10_44 : Cond.methodLink RX10 44 yX10_takeDigits ∈ wsL_law := inR_23 _ (List.mem_of_getElem? (i := 7) rfl)
theorem LK_X5_67 : Cond.methodLink RX5 67 yX5_readStatement ∈ wsL_law := inR_23 _ (List.mem_of_getElem? (i := 12) rfl)
theorem LK_X5_76 : Cond.methodLink RX5 76 yX5_failOnToken ∈ wsL_law := inR_23 _ (List.mem_of_getElem? (i := 23) rfl)
theorem LK_X5_86 : Cond.methodLink RX5 86 yX5_readBridge ∈ wsL_law := inR_24 _ (List.mem_of_getElem? (i := 3) rfl)
theorem LK_X5_132 : Cond.methodLink RX5 132 yX5_number ∈ wsL_law := inR_24 _ (List.mem_of_getElem? (i := 7) rfl)
theorem LK_X5_89 : Cond.methodLink RX5 89 yX5_fail ∈ wsL_law := inR_24 _ (List.mem_of_getElem? (i := 11) rfl)
theorem LK_X5_136 : Cond.methodLink RX5 136 yX5_semicolon ∈ wsL_law := inR_24 _ (List.mem_of_getElem? (i := 15) rfl)
theorem LK_X5_98 : Cond.methodLink RX5 98 yX5_readLane ∈ wsL_law := inR_24 _ (List.mem_of_getElem? (i := 19) rfl)
theorem LK_X5_148 : Cond.methodLink RX5 148 yX5_newName ∈ wsL_law := inR_25 _ (List.mem_of_getElem? (i := 0) rfl)
theorem LK_X5_194 : Cond.methodLink RX5 194 yX5_isReserved ∈ wsL_law := inR_25 _ (List.mem_of_getElem? (i := 4) rfl)
theorem LK_X5_198 : Cond.methodLink RX5 198 yX3_isDeclared ∈ wsL_law := inR_25 _ (List.mem_of_getElem? (i := 8) rfl)
theorem LK_X5_154 : Cond.methodLink RX5 154 yX3_add ∈ wsL_law := inR_25 _ (List.mem_of_getElem? (i := 12) rfl)
theorem LK_X5_158 : Cond.methodLink RX5 158 yX1_addLane ∈ wsL_law := inR_25 _ (List.mem_of_getElem? (i := 16) rfl)
theorem LK_X5_106 : Cond.methodLink RX5 106 yX5_readSpan ∈ wsL_law := inR_25 _ (List.mem_of_getElem? (i := 20) rfl)
theorem LK_X5_161 : Cond.methodLink RX5 161 yX5_laneOrNone ∈ wsL_law := inR_26 _ (List.mem_of_getElem? (i := 0) rfl)
theorem LK_X5_201 : Cond.methodLink RX5 201 yX5_thisName ∈ wsL_law := inR_26 _ (List.mem_of_getElem? (i := 4) rfl)
theorem LK_X5_206 : Cond.methodLink RX5 206 yX3_numberOf ∈ wsL_law := inR_26 _ (List.mem_of_getElem? (i := 8) rfl)
theorem LK_X5_165 : Cond.methodLink RX5 165 yX1_addSpan ∈ wsL_law := inR_26 _ (List.mem_of_getElem? (i := 12) rfl)
theorem LK_X5_114 : Cond.methodLink RX5 114 yX5_readGang ∈ wsL_law := inR_26 _ (List.mem_of_getElem? (i := 16) rfl)
theorem LK_X5_169 : Cond.methodLink RX5 169 yX1_addGang ∈ wsL_law := inR_26 _ (List.mem_of_getElem? (i := 20) rfl)
theorem LK_X5_119 : Cond.methodLink RX5 119 yX5_readWeather ∈ wsL_law := inR_27 _ (List.mem_of_getElem? (i := 0) rfl)
theorem LK_X5_124 : Cond.methodLink RX5 124 yX5_readClosed ∈ wsL_law := inR_27 _ (List.mem_of_getElem? (i := 4) rfl)
theorem LK_X5_177 : Cond.methodLink RX5 177 yX5_knownName ∈ wsL_law := inR_27 _ (List.mem_of_getElem? (i := 8) rfl)
theorem LK_X5_129 : Cond.methodLink RX5 129 yX5_readPainting ∈ wsL_law := inR_27 _ (List.mem_of_getElem? (i := 12) rfl)
theorem LK_X5_184 : Cond.methodLink RX5 184 yX6_isPainted ∈ wsL_law := inR_27 _ (List.mem_of_getElem? (i := 16) rfl)
theorem LK_X5_188 : Cond.methodLink RX5 188 yX6_put ∈ wsL_law := inR_27 _ (List.mem_of_getElem? (i := 17) rfl)
theorem LK_X5_71 : Cond.methodLink RX5 71 yX6_followAll ∈ wsL_law := inR_27 _ (List.mem_of_getElem? (i := 21) rfl)
theorem LK_X11_114 : Cond.methodLink RX11 114 yX5_failureKind ∈ wsL_law := inR_27 _ (List.mem_of_getElem? (i := 22) rfl)
theorem LK_X11_117 : Cond.methodLink RX11 117 yX5_failurePosition ∈ wsL_law := inR_28 _ (List.mem_of_getElem? (i := 2) rfl)
theorem LK_X11_120 : Cond.methodLink RX11 120 yX9_clear ∈ wsL_law := inR_28 _ (List.mem_of_getElem? (i := 6) rfl)
theorem LK_X11_124 : Cond.methodLink RX11 124 yX11_takeDraft ∈ wsL_law := inR_28 _ (List.mem_of_getElem? (i := 10) rfl)
theorem LK_X11_127 : Cond.methodLink RX11 127 yX2_clear ∈ wsL_law := inR_28 _ (List.mem_of_getElem? (i := 14) rfl)
theorem LK_L_146 : Cond.methodLink RL 146 yX11_errorKind ∈ wsL_law := inR_28 _ (List.mem_of_getElem? (i := 19) rfl)
theorem LK_L_149 : Cond.methodLink RL 149 yX11_paintings ∈ wsL_law := inR_28 _ (List.mem_of_getElem? (i := 23) rfl)
theorem LK_X11_208 : Cond.methodLink RX11 208 yX6_countPaintings ∈ wsL_law := inR_29 _ (List.mem_of_getElem? (i := 3) rfl)
theorem LK_L_152 : Cond.methodLink RL 152 yJ7_fill_53178 ∈ wsL_law := inR_29 _ (List.mem_of_getElem? (i := 7) rfl)
theorem LK_L_158 : Cond.methodLink RL 158 yL_refused ∈ wsL_law := inR_29 _ (List.mem_of_getElem? (i := 8) rfl)
theorem LK_L_202 : Cond.methodLink RL 202 yL_load_ ∈ wsL_law := inR_29 _ (List.mem_of_getElem? (i := 13) rfl)
theorem LK_L_199 : Cond.methodLink RL 199 yL_effort ∈ wsL_law := inR_29 _ (List.mem_of_getElem? (i := 17) rfl)
theorem LK_L_196 : Cond.methodLink RL 196 yL_begin ∈ wsL_law := inR_29 _ (List.mem_of_getElem? (i := 21) rfl)
theorem LK_L_193 : Cond.methodLink RL 193 yL_end ∈ wsL_law := inR_30 _ (List.mem_of_getElem? (i := 2) rfl)
theorem LK_L_188 : Cond.methodLink RL 188 Lib.Math.min.name ∈ wsL_law := inR_30 _ (List.mem_of_getElem? (i := 6) rfl)
theorem LK_L_162 : Cond.methodLink RL 162 yX11_refusal ∈ wsL_law := inR_30 _ (List.mem_of_getElem? (i := 7) rfl)
theorem LK_X11_134 : Cond.methodLink RX11 134 yX11_checkYear ∈ wsL_law := inR_30 _ (List.mem_of_getElem? (i := 11) rfl)
theorem LK_X11_131 : Cond.methodLink RX11 131 yX11_checkSpan ∈ wsL_law := inR_30 _ (List.mem_of_getElem? (i := 17) rfl)
theorem LK_X11_190 : Cond.methodLink RX11 190 yX11_checkGang ∈ wsL_law := inR_30 _ (List.mem_of_getElem? (i := 21) rfl)
theorem LK_X11_243 : Cond.methodLink RX11 243 yX6_reasonAgainst ∈ wsL_law := inR_31 _ (List.mem_of_getElem? (i := 1) rfl)
theorem LK_X6_128 : Cond.methodLink RX6 128 yX1_isClosed ∈ wsL_law := inR_31 _ (List.mem_of_getElem? (i := 5) rfl)
theorem LK_X6_131 : Cond.methodLink RX6 131 yX6_shutLanes ∈ wsL_law := inR_31 _ (List.mem_of_getElem? (i := 9) rfl)
theorem LK_X6_134 : Cond.methodLink RX6 134 yJ6_bitCount_0f7a4 ∈ wsL_law := inR_31 _ (List.mem_of_getElem? (i := 13) rfl)
theorem LK_X6_116 : Cond.methodLink RX6 116 yX6_gangLoad ∈ wsL_law := inR_31 _ (List.mem_of_getElem? (i := 19) rfl)
theorem LK_X6_86 : Cond.methodLink RX6 86 yX6_painter ∈ wsL_law := inR_31 _ (List.mem_of_getElem? (i := 23) rfl)
theorem LK_X6_89 : Cond.methodLink RX6 89 yX6_spanEffort ∈ wsL_law := inR_32 _ (List.mem_of_getElem? (i := 3) rfl)
theorem LK_X6_119 : Cond.methodLink RX6 119 yX1_gangCapacity ∈ wsL_law := inR_32 _ (List.mem_of_getElem? (i := 7) rfl)
theorem LK_L_165 : Cond.methodLink RL 165 yX11_paint ∈ wsL_law := inR_32 _ (List.mem_of_getElem? (i := 11) rfl)
theorem LK_X11_254 : Cond.methodLink RX11 254 yX11_remember ∈ wsL_law := inR_32 _ (List.mem_of_getElem? (i := 16) rfl)
theorem LK_X11_345 : Cond.methodLink RX11 345 yX2_keep ∈ wsL_law := inR_32 _ (List.mem_of_getElem? (i := 20) rfl)
theorem LK_X2_30 : Cond.methodLink RX2 30 Lib.Math.min.name ∈ wsL_law := inR_33 _ (List.mem_of_getElem? (i := 0) rfl)
theorem LK_X2_25 : Cond.methodLink RX2 25 yX1_saveTo ∈ wsL_law := inR_33 _ (List.mem_of_getElem? (i := 1) rfl)
theorem LK_X1_70 : Cond.methodLink RX1 70 arraycopyName ∈ wsL_law := inR_33 _ (List.mem_of_getElem? (i := 5) rfl)
theorem LK_X2_29 : Cond.methodLink RX2 29 yX6_saveTo ∈ wsL_law := inR_33 _ (List.mem_of_getElem? (i := 6) rfl)
theorem LK_X6_40 : Cond.methodLink RX6 40 arraycopyName ∈ wsL_law := inR_33 _ (List.mem_of_getElem? (i := 10) rfl)
theorem LK_X11_257 : Cond.methodLink RX11 257 yX6_put ∈ wsL_law := inR_33 _ (List.mem_of_getElem? (i := 11) rfl)
theorem LK_X11_151 : Cond.methodLink RX11 151 yX6_countPast ∈ wsL_law := inR_33 _ (List.mem_of_getElem? (i := 12) rfl)
theorem LK_X6_79 : Cond.methodLink RX6 79 yX6_firstPast ∈ wsL_law := inR_33 _ (List.mem_of_getElem? (i := 17) rfl)
theorem LK_X6_75 : Cond.methodLink RX6 75 yX6_isPast ∈ wsL_law := inR_33 _ (List.mem_of_getElem? (i := 21) rfl)
theorem LK_L_168 : Cond.methodLink RL 168 yL_isSame ∈ wsL_law := inR_34 _ (List.mem_of_getElem? (i := 1) rfl)
theorem LK_L_204 : Cond.methodLink RL 204 yX11_rustAfter ∈ wsL_law := inR_34 _ (List.mem_of_getElem? (i := 5) rfl)
theorem LK_X11_141 : Cond.methodLink RX11 141 yX6_rustAtEnd ∈ wsL_law := inR_34 _ (List.mem_of_getElem? (i := 9) rfl)
theorem LK_L_207 : Cond.methodLink RL 207 yX11_rustBefore ∈ wsL_law := inR_34 _ (List.mem_of_getElem? (i := 13) rfl)
theorem LK_X11_137 : Cond.methodLink RX11 137 yX6_rustAtStart ∈ wsL_law := inR_34 _ (List.mem_of_getElem? (i := 17) rfl)
theorem LK_L_210 : Cond.methodLink RL 210 yX11_guardLeft ∈ wsL_law := inR_34 _ (List.mem_of_getElem? (i := 21) rfl)
theorem LK_X11_144 : Cond.methodLink RX11 144 yX6_guardAtStart ∈ wsL_law := inR_35 _ (List.mem_of_getElem? (i := 1) rfl)
theorem LK_L_213 : Cond.methodLink RL 213 yX11_effort ∈ wsL_law := inR_35 _ (List.mem_of_getElem? (i := 5) rfl)
theorem LK_X11_187 : Cond.methodLink RX11 187 yX6_spanEffort ∈ wsL_law := inR_35 _ (List.mem_of_getElem? (i := 9) rfl)
theorem LK_L_180 : Cond.methodLink RL 180 yX11_pastYear ∈ wsL_law := inR_35 _ (List.mem_of_getElem? (i := 10) rfl)
theorem LK_X11_147 : Cond.methodLink RX11 147 yX6_firstPast ∈ wsL_law := inR_35 _ (List.mem_of_getElem? (i := 14) rfl)
theorem LK_L_214 : Cond.methodLink RL 214 yX11_loadOf ∈ wsL_law := inR_35 _ (List.mem_of_getElem? (i := 15) rfl)
theorem LK_X11_196 : Cond.methodLink RX11 196 yX6_gangLoad ∈ wsL_law := inR_35 _ (List.mem_of_getElem? (i := 19) rfl)
theorem LK_L_217 : Cond.methodLink RL 217 yX11_capacity ∈ wsL_law := inR_35 _ (List.mem_of_getElem? (i := 20) rfl)
theorem LK_X11_193 : Cond.methodLink RX11 193 yX1_gangCapacity ∈ wsL_law := inR_36 _ (List.mem_of_getElem? (i := 0) rfl)
theorem LK_L_172 : Cond.methodLink RL 172 yX11_undo ∈ wsL_law := inR_36 _ (List.mem_of_getElem? (i := 1) rfl)
theorem LK_X11_291 : Cond.methodLink RX11 291 yX2_isEmpty ∈ wsL_law := inR_36 _ (List.mem_of_getElem? (i := 5) rfl)
theorem LK_X11_295 : Cond.methodLink RX11 295 yX2_takeBack ∈ wsL_law := inR_36 _ (List.mem_of_getElem? (i := 9) rfl)
theorem LK_X2_36 : Cond.methodLink RX2 36 yX1_restoreFrom ∈ wsL_law := inR_36 _ (List.mem_of_getElem? (i := 13) rfl)
theorem LK_X2_39 : Cond.methodLink RX2 39 yX6_restoreFrom ∈ wsL_law := inR_36 _ (List.mem_of_getElem? (i := 17) rfl)
theorem LK_X11_299 : Cond.methodLink RX11 299 yX2_size ∈ wsL_law := inR_36 _ (List.mem_of_getElem? (i := 21) rfl)
theorem LK_L_176 : Cond.methodLink RL 176 yL_isRefused ∈ wsL_law := inR_37 _ (List.mem_of_getElem? (i := 1) rfl)
theorem CK_L_175 : Cond.constant RL 175 (-1000004) ∈ wsL_law := inR_1 _ (List.mem_of_getElem? (i := 11) rfl)
theorem CK_X11_48 : Cond.constant RX11 48 (-1000004) ∈ wsL_law := inR_3 _ (List.mem_of_getElem? (i := 5) rfl)
theorem CK_X5_18 : Cond.constant RX5 18 (-1000004) ∈ wsL_law := inR_7 _ (List.mem_of_getElem? (i := 3) rfl)
theorem CK_J2_20 : Cond.constant RJ2 20 (1073741823) ∈ wsL_law := inR_9 _ (List.mem_of_getElem? (i := 14) rfl)
theorem CK_J5_39 : Cond.constant RJ5 39 (2147483647) ∈ wsL_law := inR_10 _ (List.mem_of_getElem? (i := 16) rfl)
theorem WK_238 : Cond.static Lib.Math.max.name ∈ wsL_law := inR_10 _ (List.mem_of_getElem? (i := 22) rfl)
theorem WK_239 : Cond.initialized "java/lang/Math" ∈ wsL_law := inR_10 _ (List.mem_of_getElem? (i := 23) rfl)
theorem WK_240 : Cond.code Lib.Math.max.name Lib.Math.max.code 2 (some .int) ∈ wsL_law := inR_11 _ (List.mem_of_getElem? (i := 0) rfl)
theorem CK_J8_200 : Cond.constant RJ8 200 (2147483639) ∈ wsL_law := inR_11 _ (List.mem_of_getElem? (i := 1) rfl)
theorem WK_255 : Cond.static Lib.Math.min.name ∈ wsL_law := inR_11 _ (List.mem_of_getElem? (i := 15) rfl)
theorem WK_256 : Cond.code Lib.Math.min.name Lib.Math.min.code 2 (some .int) ∈ wsL_law := inR_11 _ (List.mem_of_getElem? (i := 16) rfl)
theorem WK_258 : Cond.native arraycopyName ∈ wsL_law := inR_11 _ (List.mem_of_getElem? (i := 18) rfl)
theorem WK_259 : Cond.static arraycopyName ∈ wsL_law := inR_11 _ (List.mem_of_getElem? (i := 19) rfl)
theorem WK_260 : Cond.initialized "java/lang/System" ∈ wsL_law := inR_11 _ (List.mem_of_getElem? (i := 20) rfl)
theorem CK_X11_94 : Cond.constant RX11 94 (-1000005) ∈ wsL_law := inR_20 _ (List.mem_of_getElem? (i := 12) rfl)
theorem CK_X11_123 : Cond.constant RX11 123 (-1000006) ∈ wsL_law := inR_21 _ (List.mem_of_getElem? (i := 8) rfl)
theorem CK_X5_84 : Cond.constantLong RX5 84 (108243533981541) ∈ wsL_law := inR_23 _ (List.mem_of_getElem? (i := 16) rfl)
theorem CK_X5_93 : Cond.constantLong RX5 93 (1818324581) ∈ wsL_law := inR_23 _ (List.mem_of_getElem? (i := 17) rfl)
theorem CK_X5_101 : Cond.constantLong RX5 101 (1936744814) ∈ wsL_law := inR_23 _ (List.mem_of_getElem? (i := 18) rfl)
theorem CK_X5_109 : Cond.constantLong RX5 109 (1734438503) ∈ wsL_law := inR_23 _ (List.mem_of_getElem? (i := 19) rfl)
theorem CK_X5_117 : Cond.constantLong RX5 117 (33606991467799922) ∈ wsL_law := inR_23 _ (List.mem_of_getElem? (i := 20) rfl)
theorem CK_X5_122 : Cond.constantLong RX5 122 (109317377451364) ∈ wsL_law := inR_23 _ (List.mem_of_getElem? (i := 21) rfl)
theorem CK_X5_127 : Cond.constantLong RX5 127 (482670636660) ∈ wsL_law := inR_23 _ (List.mem_of_getElem? (i := 22) rfl)
theorem CK_X5_152 : Cond.constantLong RX5 152 (-2) ∈ wsL_law := inR_24 _ (List.mem_of_getElem? (i := 23) rfl)
theorem CK_X5_204 : Cond.constantLong RX5 204 (1852796517) ∈ wsL_law := inR_25 _ (List.mem_of_getElem? (i := 7) rfl)
theorem CK_J6_265 : Cond.constant RJ6 265 (1431655765) ∈ wsL_law := inR_31 _ (List.mem_of_getElem? (i := 16) rfl)
theorem CK_J6_266 : Cond.constant RJ6 266 (858993459) ∈ wsL_law := inR_31 _ (List.mem_of_getElem? (i := 17) rfl)
theorem CK_J6_267 : Cond.constant RJ6 267 (252645135) ∈ wsL_law := inR_31 _ (List.mem_of_getElem? (i := 18) rfl)
theorem CK_X11_253 : Cond.constant RX11 253 (-1000007) ∈ wsL_law := inR_32 _ (List.mem_of_getElem? (i := 15) rfl)
theorem CK_X6_78 : Cond.constant RX6 78 (-1000004) ∈ wsL_law := inR_33 _ (List.mem_of_getElem? (i := 16) rfl)
end
section
theorem nI_mul (a b : Nat) : nI a * nI b = nI (a * b) := by
  unfold nI
  exact (Int32.ofNat_mul a b).symm
theorem nI_inc (a : Nat) : nI a + Int32.ofInt 1 = nI (a + 1) := nI_add a 1
theorem nI_sub {a b : Nat} (h : b ≤ a) : nI a - nI b = nI (a - b) := by
  obtain ⟨c, rfl⟩ := Nat.exists_eq_add_of_le h
  rw [Nat.add_sub_cancel_left, ← nI_add]
  rw [Int32.add_comm, Int32.add_sub_cancel]
theorem nI_dec (a : Nat) : nI (a + 1) + Int32.ofInt (-1) = nI a := by
  rw [← nI_add, Int32.add_assoc]
  rw [show nI 1 + Int32.ofInt (-1) = 0 by decide]
  exact Int32.add_zero _
theorem nI_inj {a b : Nat} (ha : a < 2 ^ 31) (hb : b < 2 ^ 31) (h : nI a = nI b) : a = b := by
  have h1 := nI_toInt ha
  rw [h, nI_toInt hb] at h1
  omega
def bI (b : Bool) : Int32 := if b then nI 1 else nI 0
/-- an induction up to a bound: the claim at x, from the claim at x + 1 where x is below it -/
theorem up_ind {P : Nat → Prop} (n : Nat) (h : ∀ x, x ≤ n → (x < n → P (x + 1)) → P x) : ∀ x, x ≤ n → P x := by
  intro x hx
  obtain ⟨k, hk⟩ := Nat.exists_eq_add_of_le hx
  induction k generalizing x with
  | zero => exact h x hx (fun q => by omega)
  | succ k ih => exact h x hx (fun q => ih (x + 1) q (by omega))
section CC
variable {p : Program} {l : Launch} {e : Env} {Rm : Room} {s : State} {m : MethodId} {args : Array Value} {below : List Frame} {meth : Method} {c : Code} {H : Heap} {locs : List Loc} {cells slots : Nat} {Q : State → Prop}
variable {cc : ByteArray} {pc nL : Nat} {ls : Array Slot} {rest : List Value} {own : String} {G : va_G} {bs : Nat} {cy : Nat → ClassId} {I : CI} {L : CL} {R : CR} {H0 : Heap} {k : Nat}
def RmOK (Rm : Room) (n : Nat) : Prop := Rm.frames = n ∧ Rm.locals = 60 * n
theorem cw_UV (hts : ∀ w ∈ wsL_law, w.before args s = true) {μ : MI} {C : String} {na n n' idx : Nat} (hu : UV μ C na) (hl : Cond.methodLink own idx μ.1 ∈ wsL_law) (hR : RmOK Rm n) (hn : n' + 1 ≤ n) : CallW Rm s args own C idx μ.1 μ.2.1 μ.2.2.1 μ.2.2.2 (mws μ) (rmL n' 0 0) 0 0 na := by
  obtain ⟨h1, h2, h3, h4, h5, h6⟩ := hu
  refine cwV na hts (gIn ?_) rfl rfl rfl h1 ⟨by rw [hR.1]; exact hn, by rw [hR.2]; show 8 + (μ.2.2.1 + 11) + 60 * n' ≤ 60 * n; omega⟩
  intro w hw
  unfold wsV mws at hw
  simp only [List.mem_append, List.mem_cons, List.not_mem_nil, or_false] at hw
  rcases hw with (rfl | rfl | rfl | rfl) | rfl | hw
  all_goals assumption
theorem cw_US (hts : ∀ w ∈ wsL_law, w.before args s = true) {μ : MI} {C : String} {na n n' idx : Nat} (hu : US μ C na) (hl : Cond.methodLink own idx μ.1 ∈ wsL_law) (hR : RmOK Rm n) (hn : n' + 1 ≤ n) : CallB Rm s args own idx μ.1 μ.2.1 μ.2.2.1 μ.2.2.2 (mws μ) (rmL n' 0 0) 0 0 na ∧ (Cond.static μ.1).before args s = true := by
  obtain ⟨h1, h2, h3, h5, h6⟩ := hu
  have h5' : Cond.initialized μ.1.cls ∈ wsL_law := by rw [h1.1]; exact h5
  refine va_cwS na hts (gIn ?_) rfl rfl rfl h1.2 ⟨by rw [hR.1]; exact hn, by rw [hR.2]; show 8 + (μ.2.2.1 + 11) + 60 * n' ≤ 60 * n; omega⟩
  intro w hw
  unfold va_wsS mws at hw
  simp only [List.mem_append, List.mem_cons, List.not_mem_nil, or_false] at hw
  rcases hw with (rfl | rfl | rfl) | rfl | hw
  all_goals assumption
theorem recvW (X : Cx p s m args c cc nL own G bs cy) (hW : Wd G bs cy I L R H) {ci : Nat} {ks : List Nat} {C : String} (hk : shp k = .inl (ci, ks)) (hN : k < NC) (hC : (vwCl[ci]?).map (fun q => q.1) = some C) : ∃ cellB : Cell, H[bs + k]? = some cellB ∧ cellB.vm.isStatics = false ∧ s.vm.findClass C = some cellB.cls := by
  cases hc : vwCl[ci]? with
  | none => rw [hc] at hC; cases hC
  | some q =>
    rw [hc] at hC
    cases hC
    refine va_recv X.2.2.2.2.2.1 hW hc (q0 := k) (fs := ks.zipIdx.map (fvV bs (I k) (L k) (R k))) ?_
    rw [wl_at hN, hk]
    rfl
theorem callVi (X : Cx p s m args c cc nL own G bs cy) (hW : Wd G bs cy I L R H) (hS : va_S (Aq bs) s.heap H locs) {n : Nat} (hR : RmOK Rm n) {μ : MI} {n' : Nat} {As : List Value} {Q' : Int32 → CI → CL → CR → Prop} (hM : MTi l G bs cy μ n' (.ref (bs + k) :: As) I L R Q') (hn : n' + 1 ≤ n) {C : String} {na ci idx : Nat} {ks : List Nat} (hu : UV μ C na) (hl : Cond.methodLink own idx μ.1 ∈ wsL_law)
    (hk : shp k = .inl (ci, ks)) (hN : k < NC) (hC : (vwCl[ci]?).map (fun q => q.1) = some C) (hA : As.length = na) {st0 : List Value} (hst : st0 = As.reverse ++ .ref (bs + k) :: rest) (hrest : (rest.map fun v => v.category).sum ≤ 8) {lv : List (Nat × Value)} (hl2 : lv_has ls nL lv) (hcs : cells ≤ Rm.cells ∧ slots ≤ Rm.slots) (hdg : decode cc pc = .ok (.invokevirtual idx, 3))
    (kk : ∀ (r : Int32) (I' : CI) (L' : CL) (R' : CR) (H1 : Heap) (locs1 : List Loc), Q' r I' L' R' → Wd G bs cy I' L' R' H1 → va_S (Aq bs) s.heap H1 locs1 → W p l e Rm s m args below meth c H1 locs1 cells slots Q (F0 m (pc + 3) ls (.int r :: rest))) : W p l e Rm s m args below meth c H locs cells slots Q (F0 m pc ls st0) := by
  obtain ⟨hx, hb, hml, hown, hts, hK, hE⟩ := id X
  subst hst
  exact va_calli (va_runV (As := As) (rest := rest) ⟨hx, hb, hml, hown, hts⟩ hM (cw_UV hts hu hl hR hn) ⟨PcM_blind, recvW X hW hk hN hC, fun U hU hW2 => ⟨rfl, by rw [hU]; exact hW, va_K.moved hW2.alike hK, by rw [hU]; exact hE.to hW2 hS.2.1⟩⟩ rfl hA hl2.1 rfl (lv_room hrest) hdg hcs) hS (fun q _ h => h) (fun q h => h)
    (fun r u t H1 locs1 ht hvm hp hB hz hk1 hS1 => kk r u.1 u.2.1 u.2.2 H1 locs1 hp (by rw [← ht]; exact hB) hS1)
theorem callVl (X : Cx p s m args c cc nL own G bs cy) (hW : Wd G bs cy I L R H) (hS : va_S (Aq bs) s.heap H locs) {n : Nat} (hR : RmOK Rm n) {μ : MI} {n' : Nat} {As : List Value} {Q' : Int64 → CI → CL → CR → Prop} (hM : MTl l G bs cy μ n' (.ref (bs + k) :: As) I L R Q') (hn : n' + 1 ≤ n) {C : String} {na ci idx : Nat} {ks : List Nat} (hu : UV μ C na) (hl : Cond.methodLink own idx μ.1 ∈ wsL_law)
    (hk : shp k = .inl (ci, ks)) (hN : k < NC) (hC : (vwCl[ci]?).map (fun q => q.1) = some C) (hA : As.length = na) {st0 : List Value} (hst : st0 = As.reverse ++ .ref (bs + k) :: rest) (hrest : (rest.map fun v => v.category).sum ≤ 8) {lv : List (Nat × Value)} (hl2 : lv_has ls nL lv) (hcs : cells ≤ Rm.cells ∧ slots ≤ Rm.slots) (hdg : decode cc pc = .ok (.invokevirtual idx, 3))
    (kk : ∀ (r : Int64) (I' : CI) (L' : CL) (R' : CR) (H1 : Heap) (locs1 : List Loc), Q' r I' L' R' → Wd G bs cy I' L' R' H1 → va_S (Aq bs) s.heap H1 locs1 → W p l e Rm s m args below meth c H1 locs1 cells slots Q (F0 m (pc + 3) ls (.long r :: rest))) : W p l e Rm s m args below meth c H locs cells slots Q (F0 m pc ls st0) := by
  obtain ⟨hx, hb, hml, hown, hts, hK, hE⟩ := id X
  subst hst
  exact va_calll (va_runV (As := As) (rest := rest) ⟨hx, hb, hml, hown, hts⟩ hM (cw_UV hts hu hl hR hn) ⟨PcM_blind, recvW X hW hk hN hC, fun U hU hW2 => ⟨rfl, by rw [hU]; exact hW, va_K.moved hW2.alike hK, by rw [hU]; exact hE.to hW2 hS.2.1⟩⟩ rfl hA hl2.1 rfl (lv_room hrest) hdg hcs) hS (fun q _ h => h) (fun q h => h)
    (fun r u t H1 locs1 ht hvm hp hB hz hk1 hS1 => kk r u.1 u.2.1 u.2.2 H1 locs1 hp (by rw [← ht]; exact hB) hS1)
theorem callVv (X : Cx p s m args c cc nL own G bs cy) (hW : Wd G bs cy I L R H) (hS : va_S (Aq bs) s.heap H locs) {n : Nat} (hR : RmOK Rm n) {μ : MI} {n' : Nat} {As : List Value} {Q' : CI → CL → CR → Prop} (hM : MTv l G bs cy μ n' (.ref (bs + k) :: As) I L R Q') (hn : n' + 1 ≤ n) {C : String} {na ci idx : Nat} {ks : List Nat} (hu : UV μ C na) (hl : Cond.methodLink own idx μ.1 ∈ wsL_law)
    (hk : shp k = .inl (ci, ks)) (hN : k < NC) (hC : (vwCl[ci]?).map (fun q => q.1) = some C) (hA : As.length = na) {st0 : List Value} (hst : st0 = As.reverse ++ .ref (bs + k) :: rest) (hrest : (rest.map fun v => v.category).sum ≤ 8) {lv : List (Nat × Value)} (hl2 : lv_has ls nL lv) (hcs : cells ≤ Rm.cells ∧ slots ≤ Rm.slots) (hdg : decode cc pc = .ok (.invokevirtual idx, 3))
    (kk : ∀ (I' : CI) (L' : CL) (R' : CR) (H1 : Heap) (locs1 : List Loc), Q' I' L' R' → Wd G bs cy I' L' R' H1 → va_S (Aq bs) s.heap H1 locs1 → W p l e Rm s m args below meth c H1 locs1 cells slots Q (F0 m (pc + 3) ls rest)) : W p l e Rm s m args below meth c H locs cells slots Q (F0 m pc ls st0) := by
  obtain ⟨hx, hb, hml, hown, hts, hK, hE⟩ := id X
  subst hst
  exact va_callv (va_runV (As := As) (rest := rest) ⟨hx, hb, hml, hown, hts⟩ hM (cw_UV hts hu hl hR hn) ⟨PcM_blind, recvW X hW hk hN hC, fun U hU hW2 => ⟨rfl, by rw [hU]; exact hW, va_K.moved hW2.alike hK, by rw [hU]; exact hE.to hW2 hS.2.1⟩⟩ rfl hA hl2.1 rfl (lv_room hrest) hdg hcs) hS (fun q _ h => h) (fun q h => h)
    (fun u t H1 locs1 ht hvm hp hB hz hk1 hS1 => kk u.1 u.2.1 u.2.2 H1 locs1 hp (by rw [← ht]; exact hB) hS1)
theorem callSi (X : Cx p s m args c cc nL own G bs cy) (hW : Wd G bs cy I L R H) (hS : va_S (Aq bs) s.heap H locs) {n : Nat} (hR : RmOK Rm n) {μ : MI} {n' : Nat} {As : List Value} {Q' : Int32 → CI → CL → CR → Prop} (hM : MTi l G bs cy μ n' As I L R Q') (hn : n' + 1 ≤ n) {C : String} {na idx : Nat} (hu : US μ C na) (hl : Cond.methodLink own idx μ.1 ∈ wsL_law)
    (hA : As.length = na) {st0 : List Value} (hst : st0 = As.reverse ++ rest) (hrest : (rest.map fun v => v.category).sum ≤ 8) {lv : List (Nat × Value)} (hl2 : lv_has ls nL lv) (hcs : cells ≤ Rm.cells ∧ slots ≤ Rm.slots) (hdg : decode cc pc = .ok (.invokestatic idx, 3))
    (kk : ∀ (r : Int32) (I' : CI) (L' : CL) (R' : CR) (H1 : Heap) (locs1 : List Loc), Q' r I' L' R' → Wd G bs cy I' L' R' H1 → va_S (Aq bs) s.heap H1 locs1 → W p l e Rm s m args below meth c H1 locs1 cells slots Q (F0 m (pc + 3) ls (.int r :: rest))) : W p l e Rm s m args below meth c H locs cells slots Q (F0 m pc ls st0) := by
  obtain ⟨hx, hb, hml, hown, hts, hK, hE⟩ := id X
  subst hst
  exact va_calli (va_runS (As := As) (rest := rest) ⟨hx, hb, hml, hown, hts⟩ hM (cw_US hts hu hl hR hn) ⟨PcM_blind, fun U hU hW2 => ⟨rfl, by rw [hU]; exact hW, va_K.moved hW2.alike hK, by rw [hU]; exact hE.to hW2 hS.2.1⟩⟩ rfl hA hl2.1 rfl (lv_room hrest) hdg hcs) hS (fun q _ h => h) (fun q h => h)
    (fun r u t H1 locs1 ht hvm hp hB hz hk1 hS1 => kk r u.1 u.2.1 u.2.2 H1 locs1 hp (by rw [← ht]; exact hB) hS1)
theorem callSv (X : Cx p s m args c cc nL own G bs cy) (hW : Wd G bs cy I L R H) (hS : va_S (Aq bs) s.heap H locs) {n : Nat} (hR : RmOK Rm n) {μ : MI} {n' : Nat} {As : List Value} {Q' : CI → CL → CR → Prop} (hM : MTv l G bs cy μ n' As I L R Q') (hn : n' + 1 ≤ n) {C : String} {na idx : Nat} (hu : US μ C na) (hl : Cond.methodLink own idx μ.1 ∈ wsL_law)
    (hA : As.length = na) {st0 : List Value} (hst : st0 = As.reverse ++ rest) (hrest : (rest.map fun v => v.category).sum ≤ 8) {lv : List (Nat × Value)} (hl2 : lv_has ls nL lv) (hcs : cells ≤ Rm.cells ∧ slots ≤ Rm.slots) (hdg : decode cc pc = .ok (.invokestatic idx, 3))
    (kk : ∀ (I' : CI) (L' : CL) (R' : CR) (H1 : Heap) (locs1 : List Loc), Q' I' L' R' → Wd G bs cy I' L' R' H1 → va_S (Aq bs) s.heap H1 locs1 → W p l e Rm s m args below meth c H1 locs1 cells slots Q (F0 m (pc + 3) ls rest)) : W p l e Rm s m args below meth c H locs cells slots Q (F0 m pc ls st0) := by
  obtain ⟨hx, hb, hml, hown, hts, hK, hE⟩ := id X
  subst hst
  exact va_callv (va_runS (As := As) (rest := rest) ⟨hx, hb, hml, hown, hts⟩ hM (cw_US hts hu hl hR hn) ⟨PcM_blind, fun U hU hW2 => ⟨rfl, by rw [hU]; exact hW, va_K.moved hW2.alike hK, by rw [hU]; exact hE.to hW2 hS.2.1⟩⟩ rfl hA hl2.1 rfl (lv_room hrest) hdg hcs) hS (fun q _ h => h) (fun q h => h)
    (fun u t H1 locs1 ht hvm hp hB hz hk1 hS1 => kk u.1 u.2.1 u.2.2 H1 locs1 hp (by rw [← ht]; exact hB) hS1)
/-- Math.min, Math.max of ints -/
theorem r_min (X : Cx p s m args c cc nL own G bs cy) {n : Nat} (hR : RmOK Rm n) (hn : 1 ≤ n) {idx : Nat} (hl : Cond.methodLink own idx Lib.Math.min.name ∈ wsL_law) (hrest : (rest.map fun v => v.category).sum ≤ 8) {lv : List (Nat × Value)} (hl2 : lv_has ls nL lv) (hcs : cells ≤ Rm.cells ∧ slots ≤ Rm.slots) {x y v : Int32} (hv : (if y < x then y else x) = v) (hdg : decode cc pc = .ok (.invokestatic idx, 3))
    (kk : W p l e Rm s m args below meth c H locs cells slots Q (F0 m (pc + 3) ls (.int v :: rest))) : W p l e Rm s m args below meth c H locs cells slots Q (F0 m pc ls (.int y :: .int x :: rest)) := by
  obtain ⟨hx, hb, hml, hown, hts, hK, hE⟩ := X
  subst hv
  exact va_mmin hx hb (hml.trans hl2.1.symm) hown (hts _ hl) (hts _ WK_255) (hts _ WK_239) (hts _ WK_256) (by rw [hR.1]; exact hn) (by rw [hR.2]; omega) hcs.1 hcs.2 hdg kk
theorem r_max (X : Cx p s m args c cc nL own G bs cy) {n : Nat} (hR : RmOK Rm n) (hn : 1 ≤ n) {idx : Nat} (hl : Cond.methodLink own idx Lib.Math.max.name ∈ wsL_law) (hrest : (rest.map fun v => v.category).sum ≤ 8) {lv : List (Nat × Value)} (hl2 : lv_has ls nL lv) (hcs : cells ≤ Rm.cells ∧ slots ≤ Rm.slots) {x y v : Int32} (hv : (if x < y then y else x) = v) (hdg : decode cc pc = .ok (.invokestatic idx, 3))
    (kk : W p l e Rm s m args below meth c H locs cells slots Q (F0 m (pc + 3) ls (.int v :: rest))) : W p l e Rm s m args below meth c H locs cells slots Q (F0 m pc ls (.int y :: .int x :: rest)) := by
  obtain ⟨hx, hb, hml, hown, hts, hK, hE⟩ := X
  subst hv
  exact va_mmax hx hb (hml.trans hl2.1.symm) hown (hts _ hl) (hts _ WK_238) (hts _ WK_239) (hts _ WK_240) (by rw [hR.1]; exact hn) (by rw [hR.2]; omega) hcs.1 hcs.2 hdg kk
theorem r_ldc (X : Cx p s m args c cc nL own G bs cy) {idx : Nat} {v : Int32} (hl : Cond.constant own idx v ∈ wsL_law) (hdg : decode cc pc = .ok (.ldc idx, 2))
    (kk : W p l e Rm s m args below meth c H locs cells slots Q (F0 m (pc + 2) ls (.int v :: rest))) : W p l e Rm s m args below meth c H locs cells slots Q (F0 m pc ls rest) := lv_ldc X.1 X.2.1 X.2.2.2.1 (X.2.2.2.2.1 _ hl) hdg kk
theorem r_ldc2 (X : Cx p s m args c cc nL own G bs cy) {idx : Nat} {v : Int64} (hl : Cond.constantLong own idx v ∈ wsL_law) (hdg : decode cc pc = .ok (.ldc2_w idx, 3))
    (kk : W p l e Rm s m args below meth c H locs cells slots Q (F0 m (pc + 3) ls (.long v :: rest))) : W p l e Rm s m args below meth c H locs cells slots Q (F0 m pc ls rest) := lv_ldc2 X.1 X.2.1 X.2.2.2.1 (X.2.2.2.2.1 _ hl) hdg kk
-- rows over naturals
theorem n_iconst (hx : p.tables.exec = Jvm.exec) (hb : c.code = cc) {z : Int} {a : Nat} (hdg : decode cc pc = .ok (.iconst z, 1)) (hv : z = (a : Int))
    (kk : W p l e Rm s m args below meth c H locs cells slots Q (F0 m (pc + 1) ls (.int (nI a) :: rest))) : W p l e Rm s m args below meth c H locs cells slots Q (F0 m pc ls rest) := lv_iconst hx hb hdg (by subst hv; rfl) kk
theorem n_iadd (hx : p.tables.exec = Jvm.exec) (hb : c.code = cc) {a b : Nat} (hdg : decode cc pc = .ok (.iadd, 1))
    (kk : W p l e Rm s m args below meth c H locs cells slots Q (F0 m (pc + 1) ls (.int (nI (a + b)) :: rest))) : W p l e Rm s m args below meth c H locs cells slots Q (F0 m pc ls (.int (nI b) :: .int (nI a) :: rest)) := lv_iadd hx hb hdg (by rw [nI_add]; exact kk)
theorem n_imul (hx : p.tables.exec = Jvm.exec) (hb : c.code = cc) {a b : Nat} (hdg : decode cc pc = .ok (.imul, 1))
    (kk : W p l e Rm s m args below meth c H locs cells slots Q (F0 m (pc + 1) ls (.int (nI (a * b)) :: rest))) : W p l e Rm s m args below meth c H locs cells slots Q (F0 m pc ls (.int (nI b) :: .int (nI a) :: rest)) := lv_imul hx hb hdg (by rw [nI_mul]; exact kk)
theorem n_isub (hx : p.tables.exec = Jvm.exec) (hb : c.code = cc) {a b : Nat} (hdg : decode cc pc = .ok (.isub, 1)) (h : b ≤ a)
    (kk : W p l e Rm s m args below meth c H locs cells slots Q (F0 m (pc + 1) ls (.int (nI (a - b)) :: rest))) : W p l e Rm s m args below meth c H locs cells slots Q (F0 m pc ls (.int (nI b) :: .int (nI a) :: rest)) := lv_isub hx hb hdg (by rw [nI_sub h]; exact kk)
theorem n_icmp_lt (hx : p.tables.exec = Jvm.exec) (hb : c.code = cc) {a b : Nat} (ha : a < 2 ^ 31) (hb2 : b < 2 ^ 31) {off : Int} {tgt : Nat} (hdg : decode cc pc = .ok (.if_icmp .lt off, 3)) (ht : (pc : Int) + off = (tgt : Int))
    (kt : a < b → W p l e Rm s m args below meth c H locs cells slots Q (F0 m tgt ls rest)) (kf : b ≤ a → W p l e Rm s m args below meth c H locs cells slots Q (F0 m (pc + 3) ls rest)) : W p l e Rm s m args below meth c H locs cells slots Q (F0 m pc ls (.int (nI b) :: .int (nI a) :: rest)) :=
  lv_icmp_lt hx hb hdg ht (fun q => kt ((nI_ltI ha hb2).mp q)) (fun q => kf (Nat.not_lt.mp (fun z => q ((nI_ltI ha hb2).mpr z))))
theorem n_icmp_ge (hx : p.tables.exec = Jvm.exec) (hb : c.code = cc) {a b : Nat} (ha : a < 2 ^ 31) (hb2 : b < 2 ^ 31) {off : Int} {tgt : Nat} (hdg : decode cc pc = .ok (.if_icmp .ge off, 3)) (ht : (pc : Int) + off = (tgt : Int))
    (kt : b ≤ a → W p l e Rm s m args below meth c H locs cells slots Q (F0 m tgt ls rest)) (kf : a < b → W p l e Rm s m args below meth c H locs cells slots Q (F0 m (pc + 3) ls rest)) : W p l e Rm s m args below meth c H locs cells slots Q (F0 m pc ls (.int (nI b) :: .int (nI a) :: rest)) :=
  lv_icmp_ge hx hb hdg ht (fun q => kt ((nI_leI hb2 ha).mp q)) (fun q => kf (Nat.not_le.mp (fun z => q ((nI_leI hb2 ha).mpr z))))
theorem n_icmp_gt (hx : p.tables.exec = Jvm.exec) (hb : c.code = cc) {a b : Nat} (ha : a < 2 ^ 31) (hb2 : b < 2 ^ 31) {off : Int} {tgt : Nat} (hdg : decode cc pc = .ok (.if_icmp .gt off, 3)) (ht : (pc : Int) + off = (tgt : Int))
    (kt : b < a → W p l e Rm s m args below meth c H locs cells slots Q (F0 m tgt ls rest)) (kf : a ≤ b → W p l e Rm s m args below meth c H locs cells slots Q (F0 m (pc + 3) ls rest)) : W p l e Rm s m args below meth c H locs cells slots Q (F0 m pc ls (.int (nI b) :: .int (nI a) :: rest)) :=
  lv_icmp_gt hx hb hdg ht (fun q => kt ((nI_ltI hb2 ha).mp q)) (fun q => kf (Nat.not_lt.mp (fun z => q ((nI_ltI hb2 ha).mpr z))))
theorem n_icmp_le (hx : p.tables.exec = Jvm.exec) (hb : c.code = cc) {a b : Nat} (ha : a < 2 ^ 31) (hb2 : b < 2 ^ 31) {off : Int} {tgt : Nat} (hdg : decode cc pc = .ok (.if_icmp .le off, 3)) (ht : (pc : Int) + off = (tgt : Int))
    (kt : a ≤ b → W p l e Rm s m args below meth c H locs cells slots Q (F0 m tgt ls rest)) (kf : b < a → W p l e Rm s m args below meth c H locs cells slots Q (F0 m (pc + 3) ls rest)) : W p l e Rm s m args below meth c H locs cells slots Q (F0 m pc ls (.int (nI b) :: .int (nI a) :: rest)) :=
  lv_icmp_le hx hb hdg ht (fun q => kt ((nI_leI ha hb2).mp q)) (fun q => kf (Nat.not_le.mp (fun z => q ((nI_leI ha hb2).mpr z))))
theorem n_icmp_eq (hx : p.tables.exec = Jvm.exec) (hb : c.code = cc) {a b : Nat} (ha : a < 2 ^ 31) (hb2 : b < 2 ^ 31) {off : Int} {tgt : Nat} (hdg : decode cc pc = .ok (.if_icmp .eq off, 3)) (ht : (pc : Int) + off = (tgt : Int))
    (kt : a = b → W p l e Rm s m args below meth c H locs cells slots Q (F0 m tgt ls rest)) (kf : a ≠ b → W p l e Rm s m args below meth c H locs cells slots Q (F0 m (pc + 3) ls rest)) : W p l e Rm s m args below meth c H locs cells slots Q (F0 m pc ls (.int (nI b) :: .int (nI a) :: rest)) :=
  lv_icmp_eq hx hb hdg ht (fun q => kt (nI_inj ha hb2 q)) (fun q => kf (fun z => q (by rw [z])))
theorem n_icmp_ne (hx : p.tables.exec = Jvm.exec) (hb : c.code = cc) {a b : Nat} (ha : a < 2 ^ 31) (hb2 : b < 2 ^ 31) {off : Int} {tgt : Nat} (hdg : decode cc pc = .ok (.if_icmp .ne off, 3)) (ht : (pc : Int) + off = (tgt : Int))
    (kt : a ≠ b → W p l e Rm s m args below meth c H locs cells slots Q (F0 m tgt ls rest)) (kf : a = b → W p l e Rm s m args below meth c H locs cells slots Q (F0 m (pc + 3) ls rest)) : W p l e Rm s m args below meth c H locs cells slots Q (F0 m pc ls (.int (nI b) :: .int (nI a) :: rest)) :=
  lv_icmp_ne hx hb hdg ht (fun q => kt (fun z => q (by rw [z]))) (fun q => kf (by by_cases z : a = b; exact z; exact absurd (fun h => z (nI_inj ha hb2 h)) (fun h => h (by simpa using q))))
theorem z_if_eq (hx : p.tables.exec = Jvm.exec) (hb : c.code = cc) {b : Bool} {off : Int} {tgt : Nat} (hdg : decode cc pc = .ok (.ifCond .eq off, 3)) (ht : (pc : Int) + off = (tgt : Int))
    (kt : b = false → W p l e Rm s m args below meth c H locs cells slots Q (F0 m tgt ls rest)) (kf : b = true → W p l e Rm s m args below meth c H locs cells slots Q (F0 m (pc + 3) ls rest)) : W p l e Rm s m args below meth c H locs cells slots Q (F0 m pc ls (.int (bI b) :: rest)) :=
  lv_if_eq hx hb hdg ht (fun q => kt (by cases b; rfl; exact absurd q (by decide))) (fun q => kf (by cases b; exact absurd (by decide) q; rfl))
theorem z_if_ne (hx : p.tables.exec = Jvm.exec) (hb : c.code = cc) {b : Bool} {off : Int} {tgt : Nat} (hdg : decode cc pc = .ok (.ifCond .ne off, 3)) (ht : (pc : Int) + off = (tgt : Int))
    (kt : b = true → W p l e Rm s m args below meth c H locs cells slots Q (F0 m tgt ls rest)) (kf : b = false → W p l e Rm s m args below meth c H locs cells slots Q (F0 m (pc + 3) ls rest)) : W p l e Rm s m args below meth c H locs cells slots Q (F0 m pc ls (.int (bI b) :: rest)) :=
  lv_if_ne hx hb hdg ht (fun q => kt (by cases b; exact absurd (by decide) q; rfl)) (fun q => kf (by cases b; rfl; exact absurd q (by decide)))
end CC
section EE
variable {l : Launch} {G : va_G} {bs : Nat} {cy : Nat → ClassId} {own : String} {y : MethodName} {cc : ByteArray} {nL n : Nat} {av : List Value} {I : CI} {L : CL} {R : CR}
/-- a method's entry: its walk, from its first instruction, with its locals held -/
theorem MTi.of {Q : Int32 → CI → CL → CR → Prop} (hy : plainName own = true) (ho : y.cls = own) (hlen : (lg_sl av).length ≤ nL)
    (body : ∀ (p : Program) (e : Env) (s : State) (m : MethodId) (args : Array Value) (below : List Frame) (meth : Method) (c : Code) (Qf : State → Prop), Cx p s m args c cc nL own G bs cy → Wd G bs cy I L R s.heap → va_S (Aq bs) s.heap s.heap [] →
      (∀ {pc : Nat} {ls : Array Slot} {H : Heap} {locs : List Loc} {v : Int32} {I' : CI} {L' : CL} {R' : CR}, decode cc pc = .ok (.ireturn, 1) → Wd G bs cy I' L' R' H → va_S (Aq bs) s.heap H locs → Q v I' L' R' → W p l e (rmL n 0 0) s m args below meth c H locs 0 0 Qf (F0 m pc ls [.int v])) →
      ∀ ls : Array Slot, lv_has ls nL (lv_args 0 av) → W p l e (rmL n 0 0) s m args below meth c s.heap [] 0 0 Qf (F0 m 0 ls [])) : MTi l G bs cy (y, cc, nL, some .int) n av I L R Q := by
  refine Met.ofW (cc := cc) (maxL := nL) (ret := some .int) (by rw [ho]; exact hy) rfl ?_
  intro p e s m args below meth c s₁ B hml hv
  obtain ⟨rfl, hW, hK, hE⟩ := hv
  have hts := atoms_spec (ws := mws (y, cc, nL, some .int)) B.pre
  have hown : s.vm.findClass own = some m.cls := ho ▸ findClass_of_methodNamed B.named
  have hlocks := B.notSynchronized
  rw [lg_entry_eq]
  exact body p e s m _ below meth c _ ⟨B.exec, B.bytes, hml, hown, fun w hw => hts w (List.mem_cons_of_mem _ hw), hK, hE⟩ hW va_S.rf
    (fun {pc ls H locs v I' L' R'} hdg hW' hS' hQ => W.iret (v := v) B.exec B.bytes B.returns (fun t ht _ => ⟨⟨v, (I', L', R'), rfl, hQ, by show Wd _ _ _ _ _ _ t.heap; rw [ht]; exact hW'⟩, hS'.F ht⟩) hS'.2.2 hdg hlocks) _ (lv_entry av hlen)
theorem MTz.of {Q : Int32 → CI → CL → CR → Prop} (hy : plainName own = true) (ho : y.cls = own) (hlen : (lg_sl av).length ≤ nL)
    (body : ∀ (p : Program) (e : Env) (s : State) (m : MethodId) (args : Array Value) (below : List Frame) (meth : Method) (c : Code) (Qf : State → Prop), Cx p s m args c cc nL own G bs cy → Wd G bs cy I L R s.heap → va_S (Aq bs) s.heap s.heap [] →
      (∀ {pc : Nat} {ls : Array Slot} {H : Heap} {locs : List Loc} {v : Bool} {v9 : Int32} {I' : CI} {L' : CL} {R' : CR}, decode cc pc = .ok (.ireturn, 1) → Wd G bs cy I' L' R' H → va_S (Aq bs) s.heap H locs → v9 = bI v → Q (bI v) I' L' R' → W p l e (rmL n 0 0) s m args below meth c H locs 0 0 Qf (F0 m pc ls [.int v9])) →
      ∀ ls : Array Slot, lv_has ls nL (lv_args 0 av) → W p l e (rmL n 0 0) s m args below meth c s.heap [] 0 0 Qf (F0 m 0 ls [])) : MTi l G bs cy (y, cc, nL, some .boolean) n av I L R Q := by
  refine Met.ofW (cc := cc) (maxL := nL) (ret := some .boolean) (by rw [ho]; exact hy) rfl ?_
  intro p e s m args below meth c s₁ B hml hv
  obtain ⟨rfl, hW, hK, hE⟩ := hv
  have hts := atoms_spec (ws := mws (y, cc, nL, some .boolean)) B.pre
  have hown : s.vm.findClass own = some m.cls := ho ▸ findClass_of_methodNamed B.named
  have hlocks := B.notSynchronized
  rw [lg_entry_eq]
  exact body p e s m _ below meth c _ ⟨B.exec, B.bytes, hml, hown, fun w hw => hts w (List.mem_cons_of_mem _ hw), hK, hE⟩ hW va_S.rf
    (fun {pc ls H locs v v9 I' L' R'} hdg hW' hS' hv9 hQ => by
      subst hv9
      exact W.zret (v := bI v) B.exec B.bytes B.returns (by cases v <;> rfl) (fun t ht _ => ⟨⟨bI v, (I', L', R'), rfl, hQ, by show Wd _ _ _ _ _ _ t.heap; rw [ht]; exact hW'⟩, hS'.F ht⟩) hS'.2.2 hdg hlocks) _ (lv_entry av hlen)
theorem MTl.of {Q : Int64 → CI → CL → CR → Prop} (hy : plainName own = true) (ho : y.cls = own) (hlen : (lg_sl av).length ≤ nL)
    (body : ∀ (p : Program) (e : Env) (s : State) (m : MethodId) (args : Array Value) (below : List Frame) (meth : Method) (c : Code) (Qf : State → Prop), Cx p s m args c cc nL own G bs cy → Wd G bs cy I L R s.heap → va_S (Aq bs) s.heap s.heap [] →
      (∀ {pc : Nat} {ls : Array Slot} {H : Heap} {locs : List Loc} {v : Int64} {I' : CI} {L' : CL} {R' : CR}, decode cc pc = .ok (.lreturn, 1) → Wd G bs cy I' L' R' H → va_S (Aq bs) s.heap H locs → Q v I' L' R' → W p l e (rmL n 0 0) s m args below meth c H locs 0 0 Qf (F0 m pc ls [.long v])) →
      ∀ ls : Array Slot, lv_has ls nL (lv_args 0 av) → W p l e (rmL n 0 0) s m args below meth c s.heap [] 0 0 Qf (F0 m 0 ls [])) : MTl l G bs cy (y, cc, nL, some .long) n av I L R Q := by
  refine Met.ofW (cc := cc) (maxL := nL) (ret := some .long) (by rw [ho]; exact hy) rfl ?_
  intro p e s m args below meth c s₁ B hml hv
  obtain ⟨rfl, hW, hK, hE⟩ := hv
  have hts := atoms_spec (ws := mws (y, cc, nL, some .long)) B.pre
  have hown : s.vm.findClass own = some m.cls := ho ▸ findClass_of_methodNamed B.named
  have hlocks := B.notSynchronized
  rw [lg_entry_eq]
  exact body p e s m _ below meth c _ ⟨B.exec, B.bytes, hml, hown, fun w hw => hts w (List.mem_cons_of_mem _ hw), hK, hE⟩ hW va_S.rf
    (fun {pc ls H locs v I' L' R'} hdg hW' hS' hQ => W.lret (v := v) B.exec B.bytes B.returns (fun t ht _ => ⟨⟨v, (I', L', R'), rfl, hQ, by show Wd _ _ _ _ _ _ t.heap; rw [ht]; exact hW'⟩, hS'.F ht⟩) hS'.2.2 hdg hlocks) _ (lv_entry av hlen)
theorem MTv.of {Q : CI → CL → CR → Prop} (hy : plainName own = true) (ho : y.cls = own) (hlen : (lg_sl av).length ≤ nL)
    (body : ∀ (p : Program) (e : Env) (s : State) (m : MethodId) (args : Array Value) (below : List Frame) (meth : Method) (c : Code) (Qf : State → Prop), Cx p s m args c cc nL own G bs cy → Wd G bs cy I L R s.heap → va_S (Aq bs) s.heap s.heap [] →
      (∀ {pc : Nat} {ls : Array Slot} {H : Heap} {locs : List Loc} {I' : CI} {L' : CL} {R' : CR}, decode cc pc = .ok (.return_, 1) → Wd G bs cy I' L' R' H → va_S (Aq bs) s.heap H locs → Q I' L' R' → W p l e (rmL n 0 0) s m args below meth c H locs 0 0 Qf (F0 m pc ls [])) →
      ∀ ls : Array Slot, lv_has ls nL (lv_args 0 av) → W p l e (rmL n 0 0) s m args below meth c s.heap [] 0 0 Qf (F0 m 0 ls [])) : MTv l G bs cy (y, cc, nL, none) n av I L R Q := by
  refine Met.ofW (cc := cc) (maxL := nL) (ret := none) (by rw [ho]; exact hy) rfl ?_
  intro p e s m args below meth c s₁ B hml hv
  obtain ⟨rfl, hW, hK, hE⟩ := hv
  have hts := atoms_spec (ws := mws (y, cc, nL, none)) B.pre
  have hown : s.vm.findClass own = some m.cls := ho ▸ findClass_of_methodNamed B.named
  have hlocks := B.notSynchronized
  rw [lg_entry_eq]
  exact body p e s m _ below meth c _ ⟨B.exec, B.bytes, hml, hown, fun w hw => hts w (List.mem_cons_of_mem _ hw), hK, hE⟩ hW va_S.rf
    (fun {pc ls H locs I' L' R'} hdg hW' hS' hQ => W.vret B.exec B.bytes B.returns (fun t ht _ => ⟨⟨(I', L', R'), rfl, hQ, by show Wd _ _ _ _ _ _ t.heap; rw [ht]; exact hW'⟩, hS'.F ht⟩) hS'.2.2 hdg hlocks) _ (lv_entry av hlen)
end EE
section C3
variable {p : Program} {l : Launch} {e : Env} {Rm : Room} {s : State} {m : MethodId} {args : Array Value} {below : List Frame} {meth : Method} {c : Code} {H : Heap} {locs : List Loc} {cells slots : Nat} {Q : State → Prop}
variable {cc : ByteArray} {pc nL : Nat} {ls : Array Slot} {rest : List Value} {own : String} {G : va_G} {bs : Nat} {cy : Nat → ClassId} {I : CI} {L : CL} {R : CR} {H0 : Heap} {k : Nat}

theorem c_if_lt (hx : p.tables.exec = Jvm.exec) (hb : c.code = cc) {x y : Int64} {off : Int} {tgt : Nat} (hdg : decode cc pc = .ok (.ifCond .lt off, 3)) (ht : (pc : Int) + off = (tgt : Int))
    (kt : x < y → W p l e Rm s m args below meth c H locs cells slots Q (F0 m tgt ls rest)) (kf : ¬ x < y → W p l e Rm s m args below meth c H locs cells slots Q (F0 m (pc + 3) ls rest)) : W p l e Rm s m args below meth c H locs cells slots Q (F0 m pc ls (.int (lg_cmp x y) :: rest)) :=
  lv_if_lt hx hb hdg ht (fun q => kt ((lg_cmp_lt x y).mp q)) (fun q => kf (fun z => q ((lg_cmp_lt x y).mpr z)))
theorem c_if_ge (hx : p.tables.exec = Jvm.exec) (hb : c.code = cc) {x y : Int64} {off : Int} {tgt : Nat} (hdg : decode cc pc = .ok (.ifCond .ge off, 3)) (ht : (pc : Int) + off = (tgt : Int))
    (kt : y ≤ x → W p l e Rm s m args below meth c H locs cells slots Q (F0 m tgt ls rest)) (kf : ¬ y ≤ x → W p l e Rm s m args below meth c H locs cells slots Q (F0 m (pc + 3) ls rest)) : W p l e Rm s m args below meth c H locs cells slots Q (F0 m pc ls (.int (lg_cmp x y) :: rest)) :=
  lv_if_ge hx hb hdg ht (fun q => kt ((lg_cmp_ge x y).mp q)) (fun q => kf (fun z => q ((lg_cmp_ge x y).mpr z)))
theorem c_if_gt (hx : p.tables.exec = Jvm.exec) (hb : c.code = cc) {x y : Int64} {off : Int} {tgt : Nat} (hdg : decode cc pc = .ok (.ifCond .gt off, 3)) (ht : (pc : Int) + off = (tgt : Int))
    (kt : y < x → W p l e Rm s m args below meth c H locs cells slots Q (F0 m tgt ls rest)) (kf : ¬ y < x → W p l e Rm s m args below meth c H locs cells slots Q (F0 m (pc + 3) ls rest)) : W p l e Rm s m args below meth c H locs cells slots Q (F0 m pc ls (.int (lg_cmp x y) :: rest)) :=
  lv_if_gt hx hb hdg ht (fun q => kt ((lg_cmp_gt x y).mp q)) (fun q => kf (fun z => q ((lg_cmp_gt x y).mpr z)))
theorem c_if_le (hx : p.tables.exec = Jvm.exec) (hb : c.code = cc) {x y : Int64} {off : Int} {tgt : Nat} (hdg : decode cc pc = .ok (.ifCond .le off, 3)) (ht : (pc : Int) + off = (tgt : Int))
    (kt : x ≤ y → W p l e Rm s m args below meth c H locs cells slots Q (F0 m tgt ls rest)) (kf : ¬ x ≤ y → W p l e Rm s m args below meth c H locs cells slots Q (F0 m (pc + 3) ls rest)) : W p l e Rm s m args below meth c H locs cells slots Q (F0 m pc ls (.int (lg_cmp x y) :: rest)) :=
  lv_if_le hx hb hdg ht (fun q => kt ((lg_cmp_le x y).mp q)) (fun q => kf (fun z => q ((lg_cmp_le x y).mpr z)))
theorem c_if_eq (hx : p.tables.exec = Jvm.exec) (hb : c.code = cc) {x y : Int64} {off : Int} {tgt : Nat} (hdg : decode cc pc = .ok (.ifCond .eq off, 3)) (ht : (pc : Int) + off = (tgt : Int))
    (kt : x = y → W p l e Rm s m args below meth c H locs cells slots Q (F0 m tgt ls rest)) (kf : ¬ x = y → W p l e Rm s m args below meth c H locs cells slots Q (F0 m (pc + 3) ls rest)) : W p l e Rm s m args below meth c H locs cells slots Q (F0 m pc ls (.int (lg_cmp x y) :: rest)) :=
  lv_if_eq hx hb hdg ht (fun q => kt ((lg_cmp_eq x y).mp q)) (fun q => kf (fun z => q ((lg_cmp_eq x y).mpr z)))
theorem c_if_ne (hx : p.tables.exec = Jvm.exec) (hb : c.code = cc) {x y : Int64} {off : Int} {tgt : Nat} (hdg : decode cc pc = .ok (.ifCond .ne off, 3)) (ht : (pc : Int) + off = (tgt : Int))
    (kt : ¬ x = y → W p l e Rm s m args below meth c H locs cells slots Q (F0 m tgt ls rest)) (kf : x = y → W p l e Rm s m args below meth c H locs cells slots Q (F0 m (pc + 3) ls rest)) : W p l e Rm s m args below meth c H locs cells slots Q (F0 m pc ls (.int (lg_cmp x y) :: rest)) :=
  lv_if_ne hx hb hdg ht (fun q => kt (fun z => q ((lg_cmp_eq x y).mpr z))) (fun q => kf ((lg_cmp_eq x y).mp q))
theorem n_if_eq (hx : p.tables.exec = Jvm.exec) (hb : c.code = cc) {a : Nat} (ha : a < 2 ^ 31) {off : Int} {tgt : Nat} (hdg : decode cc pc = .ok (.ifCond .eq off, 3)) (ht : (pc : Int) + off = (tgt : Int))
    (kt : a = 0 → W p l e Rm s m args below meth c H locs cells slots Q (F0 m tgt ls rest)) (kf : a ≠ 0 → W p l e Rm s m args below meth c H locs cells slots Q (F0 m (pc + 3) ls rest)) : W p l e Rm s m args below meth c H locs cells slots Q (F0 m pc ls (.int (nI a) :: rest)) :=
  lv_if_eq hx hb hdg ht (fun q => kt (nI_inj ha (by decide) (q.trans nI_0.symm))) (fun q => kf (fun z => q (by rw [z]; exact nI_0)))
theorem n_if_gt (hx : p.tables.exec = Jvm.exec) (hb : c.code = cc) {a : Nat} (ha : a < 2 ^ 31) {off : Int} {tgt : Nat} (hdg : decode cc pc = .ok (.ifCond .gt off, 3)) (ht : (pc : Int) + off = (tgt : Int))
    (kt : 0 < a → W p l e Rm s m args below meth c H locs cells slots Q (F0 m tgt ls rest)) (kf : a = 0 → W p l e Rm s m args below meth c H locs cells slots Q (F0 m (pc + 3) ls rest)) : W p l e Rm s m args below meth c H locs cells slots Q (F0 m pc ls (.int (nI a) :: rest)) :=
  lv_if_gt hx hb hdg ht (fun q => kt (by rcases Nat.eq_zero_or_pos a with z | z; exact absurd q (by rw [z]; decide); exact z)) (fun q => kf (by rcases Nat.eq_zero_or_pos a with z | z; exact z; exact absurd ((nI_ltI (by decide) ha).mpr z) q))
theorem n_if_le (hx : p.tables.exec = Jvm.exec) (hb : c.code = cc) {a : Nat} (ha : a < 2 ^ 31) {off : Int} {tgt : Nat} (hdg : decode cc pc = .ok (.ifCond .le off, 3)) (ht : (pc : Int) + off = (tgt : Int))
    (kt : a = 0 → W p l e Rm s m args below meth c H locs cells slots Q (F0 m tgt ls rest)) (kf : 0 < a → W p l e Rm s m args below meth c H locs cells slots Q (F0 m (pc + 3) ls rest)) : W p l e Rm s m args below meth c H locs cells slots Q (F0 m pc ls (.int (nI a) :: rest)) :=
  lv_if_le hx hb hdg ht (fun q => kt (by rcases Nat.eq_zero_or_pos a with z | z; exact z; exact absurd q (nI_nle z ha))) (fun q => kf (by rcases Nat.eq_zero_or_pos a with z | z; exact absurd (by rw [z]; decide) q; exact z))
theorem n_if_ne (hx : p.tables.exec = Jvm.exec) (hb : c.code = cc) {a : Nat} (ha : a < 2 ^ 31) {off : Int} {tgt : Nat} (hdg : decode cc pc = .ok (.ifCond .ne off, 3)) (ht : (pc : Int) + off = (tgt : Int))
    (kt : a ≠ 0 → W p l e Rm s m args below meth c H locs cells slots Q (F0 m tgt ls rest)) (kf : a = 0 → W p l e Rm s m args below meth c H locs cells slots Q (F0 m (pc + 3) ls rest)) : W p l e Rm s m args below meth c H locs cells slots Q (F0 m pc ls (.int (nI a) :: rest)) :=
  lv_if_ne hx hb hdg ht (fun q => kt (fun z => q (by rw [z]; exact nI_0))) (fun q => kf (nI_inj ha (by decide) (q.trans nI_0.symm)))
theorem n_if_ge (hx : p.tables.exec = Jvm.exec) (hb : c.code = cc) {a : Nat} (ha : a < 2 ^ 31) {off : Int} {tgt : Nat} (hdg : decode cc pc = .ok (.ifCond .ge off, 3)) (ht : (pc : Int) + off = (tgt : Int))
    (kt : 0 ≤ a → W p l e Rm s m args below meth c H locs cells slots Q (F0 m tgt ls rest)) (kf : False → W p l e Rm s m args below meth c H locs cells slots Q (F0 m (pc + 3) ls rest)) : W p l e Rm s m args below meth c H locs cells slots Q (F0 m pc ls (.int (nI a) :: rest)) :=
  lv_if_ge hx hb hdg ht (fun q => kt (Nat.zero_le a)) (fun q => kf (q (nI_pos' ha)))
theorem n_if_lt (hx : p.tables.exec = Jvm.exec) (hb : c.code = cc) {a : Nat} (ha : a < 2 ^ 31) {off : Int} {tgt : Nat} (hdg : decode cc pc = .ok (.ifCond .lt off, 3)) (ht : (pc : Int) + off = (tgt : Int))
    (kt : False → W p l e Rm s m args below meth c H locs cells slots Q (F0 m tgt ls rest)) (kf : 0 ≤ a → W p l e Rm s m args below meth c H locs cells slots Q (F0 m (pc + 3) ls rest)) : W p l e Rm s m args below meth c H locs cells slots Q (F0 m pc ls (.int (nI a) :: rest)) :=
  lv_if_lt hx hb hdg ht (fun q => kt (nI_pos ha q)) (fun q => kf (Nat.zero_le a))
theorem r_ldcw (X : Cx p s m args c cc nL own G bs cy) {idx : Nat} {v : Int32} (hl : Cond.constant own idx v ∈ wsL_law) (hdg : decode cc pc = .ok (.ldc_w idx, 3))
    (kk : W p l e Rm s m args below meth c H locs cells slots Q (F0 m (pc + 3) ls (.int v :: rest))) : W p l e Rm s m args below meth c H locs cells slots Q (F0 m pc ls rest) := lv_ldcw X.1 X.2.1 X.2.2.2.1 (X.2.2.2.2.1 _ hl) hdg kk
end C3
theorem pn_RX0 : plainName RX0 = true := by decide +kernel
theorem pn_RX1 : plainName RX1 = true := by decide +kernel
theorem pn_RX2 : plainName RX2 = true := by decide +kernel
theorem pn_RX3 : plainName RX3 = true := by decide +kernel
theorem pn_RX4 : plainName RX4 = true := by decide +kernel
theorem pn_RX5 : plainName RX5 = true := by decide +kernel
theorem pn_RX6 : plainName RX6 = true := by decide +kernel
theorem pn_RX7 : plainName RX7 = true := by decide +kernel
theorem pn_RX8 : plainName RX8 = true := by decide +kernel
theorem pn_RX9 : plainName RX9 = true := by decide +kernel
theorem pn_RX10 : plainName RX10 = true := by decide +kernel
theorem pn_RX11 : plainName RX11 = true := by decide +kernel
theorem pn_RX12 : plainName RX12 = true := by decide +kernel
theorem pn_RL : plainName RL = true := by decide +kernel
theorem pn_RJ0 : plainName RJ0 = true := by decide +kernel
theorem pn_RJ1 : plainName RJ1 = true := by decide +kernel
theorem pn_RJ2 : plainName RJ2 = true := by decide +kernel
theorem pn_RJ3 : plainName RJ3 = true := by decide +kernel
theorem pn_RJ4 : plainName RJ4 = true := by decide +kernel
theorem pn_RJ5 : plainName RJ5 = true := by decide +kernel
theorem pn_RJ6 : plainName RJ6 = true := by decide +kernel
theorem pn_RJ7 : plainName RJ7 = true := by decide +kernel
theorem pn_RJ8 : plainName RJ8 = true := by decide +kernel
end
section
/-! the law's own cells: places 67 to 82 -/
theorem wl_w {bs : Nat} {cy : Nat → ClassId} {I : CI} {L : CL} {R : CR} : (wl bs cy I L R)[67]? = some (ad bs 67, .inr (12, wfs bs (I 67) (R 67))) := by
  rw [wl_atL ⟨by decide, by decide⟩]
  rfl
theorem wl_arrL {bs : Nat} {cy : Nat → ClassId} {I : CI} {L : CL} {R : CR} {k ty n : Nat} (hk : shp k = .inr (ty, n)) (hN : 67 ≤ k ∧ k < NT) (hty : ty ≠ 9) : (wl bs cy I L R)[k]? = some (ad bs k, .inl (cy ty, n, entA bs ty (I k) (L k))) := by
  rw [wl_atL hN, hk]
  show some (ad bs k, if ty = 9 then _ else _) = _
  rw [if_neg hty]
section LR9
variable {p : Program} {l : Launch} {e : Env} {Rm : Room} {s : State} {m : MethodId} {args : Array Value} {below : List Frame} {meth : Method} {c : Code} {H : Heap} {locs : List Loc} {cells slots : Nat} {Q : State → Prop}
variable {cc : ByteArray} {pc nL : Nat} {ls : Array Slot} {rest : List Value} {own : String} {G : va_G} {bs : Nat} {cy : Nat → ClassId} {I : CI} {L : CL} {R : CR} {H0 : Heap} {k : Nat}
theorem rL_get (X : Cx p s m args c cc nL own G bs cy) (hW : Wd G bs cy I L R H) {index j : Nat} (hF : FI own index 12 j) {v : Value} (hv : (wfs bs (I 67) (R 67))[j]? = some v) (hdg : decode cc pc = .ok (.getfield index, 3))
    (kk : W p l e Rm s m args below meth c H locs cells slots Q (F0 m (pc + 3) ls (v :: rest))) : W p l e Rm s m args below meth c H locs cells slots Q (F0 m pc ls (.ref (ad bs 67) :: rest)) := by
  obtain ⟨hx, hb, hml, hown, hts, hK, -⟩ := X
  obtain ⟨C, T, N, hc, hC, hj, hin, hl⟩ := hF
  exact va_get hx hb hts hin hown hK hW 67 wl_w hc j hj (hts _ hl) (fun x hx2 => by rw [hC] at hx2; exact hx2) hv hdg kk
theorem rL_put (X : Cx p s m args c cc nL own G bs cy) (hW : Wd G bs cy I L R H) (hS : va_S (Aq bs) H0 H locs) {index j : Nat} (hF : FI own index 12 j) {v : Value} {ty : FieldType}
    (hfin : ((vwCl.getD 12 ("", TX0, 0)).2.1 j).2.2.2 = false) (hd : parseFieldDescriptor ((vwCl.getD 12 ("", TX0, 0)).2.1 j).2.2.1 = some ty) (hn : narrow ty v = v) (hfit : fits ty v = true) {I' : CI} {R' : CR}
    (hI : ∀ a, a ≠ 67 → I' a = I a) (hR : ∀ a, a ≠ 67 → R' a = R a) (hset : (wfs bs (I 67) (R 67)).set j v = wfs bs (I' 67) (R' 67)) (hj18 : j < 18) (hdg : decode cc pc = .ok (.putfield index, 3))
    (kk : ∀ (H1 : Heap) (locs1 : List Loc), Wd G bs cy I' L R' H1 → va_S (Aq bs) H0 H1 locs1 → W p l e Rm s m args below meth c H1 locs1 cells slots Q (F0 m (pc + 3) ls rest)) : W p l e Rm s m args below meth c H locs cells slots Q (F0 m pc ls (v :: .ref (ad bs 67) :: rest)) := by
  obtain ⟨hx, hb, hml, hown, hts, hK, hE⟩ := X
  obtain ⟨C, T, N, hc, hC, hj, hin, hl⟩ := hF
  have hg : vwCl.getD 12 ("", TX0, 0) = (C, T, N) := by rw [List.getD_eq_getElem?_getD, hc]; rfl
  have hnm := cls_nm 12 (by decide)
  have hty := cls_ty 12 (by decide)
  rw [hg] at hfin hd hnm hty
  dsimp only at hfin hd hnm hty
  refine va_put hx hb hts hin (fun a => (parseFieldDescriptor (T a).2.2.1).getD .int) (fun a ha => ?_) hnm hown hK hW (wl_D hE.2.2.2.1) hS 67 wl_w hc j hj (hts _ hl) (fun x hx2 => by rw [hC] at hx2; exact hx2) hfin hd hn hfit (Nat.lt_of_lt_of_le hj18 (Nat.le_of_eq rfl)) hdg (fun H1 locs1 hP _ hS1 => kk H1 locs1 ?_ hS1)
  · have h2 := hty a ha
    cases h3 : parseFieldDescriptor (T a).2.2.1 with
    | none => rw [h3] at h2; cases h2
    | some z => rfl
  · rw [hset] at hP
    rw [wl_setL (e := (.inr (12, wfs bs (I' 67) (R' 67)) : va_E)) (L' := L) ⟨by decide, by decide⟩ hI (fun _ _ => rfl) hR rfl] at hP
    exact hP
theorem rL_puti (X : Cx p s m args c cc nL own G bs cy) (hW : Wd G bs cy I L R H) (hS : va_S (Aq bs) H0 H locs) {index j : Nat} (hF : FI own index 12 j) {v : Int32}
    (hfin : ((vwCl.getD 12 ("", TX0, 0)).2.1 j).2.2.2 = false) (hd : parseFieldDescriptor ((vwCl.getD 12 ("", TX0, 0)).2.1 j).2.2.1 = some .int) (hset : (wfs bs (I 67) (R 67)).set j (.int v) = wfs bs (upd (I 67) j v) (R 67)) (hj18 : j < 18) (hdg : decode cc pc = .ok (.putfield index, 3))
    (kk : ∀ (H1 : Heap) (locs1 : List Loc), Wd G bs cy (u2 I 67 j v) L R H1 → va_S (Aq bs) H0 H1 locs1 → W p l e Rm s m args below meth c H1 locs1 cells slots Q (F0 m (pc + 3) ls rest)) : W p l e Rm s m args below meth c H locs cells slots Q (F0 m pc ls (.int v :: .ref (ad bs 67) :: rest)) :=
  rL_put X hW hS hF hfin hd rfl rfl (I' := u2 I 67 j v) (R' := R) (fun a h => u2_ne h) (fun _ _ => rfl) (by rw [u2_eq]; exact hset) hj18 hdg kk
theorem rL_puta (X : Cx p s m args c cc nL own G bs cy) (hW : Wd G bs cy I L R H) (hS : va_S (Aq bs) H0 H locs) {index : Nat} (hF : FI own index 12 0) {a : Nat} (hdg : decode cc pc = .ok (.putfield index, 3))
    (kk : ∀ (H1 : Heap) (locs1 : List Loc), Wd G bs cy I L (u2R R 67 0 a) H1 → va_S (Aq bs) H0 H1 locs1 → W p l e Rm s m args below meth c H1 locs1 cells slots Q (F0 m (pc + 3) ls rest)) : W p l e Rm s m args below meth c H locs cells slots Q (F0 m pc ls (.ref a :: .ref (ad bs 67) :: rest)) :=
  rL_put X hW hS hF (ty := .array .int) (by decide +kernel) (by decide +kernel) rfl rfl (I' := I) (R' := u2R R 67 0 a) (fun _ _ => rfl) (fun a h => u2R_ne h) rfl (by decide) hdg kk
theorem rL_ald (X : Cx p s m args c cc nL own G bs cy) (hW : Wd G bs cy I L R H) {n : Nat} (hk : shp k = .inr (0, n)) (hN : 67 ≤ k ∧ k < NT) {x : Int32} {j : Nat} (hx : x = nI j) (hj : j < n) (hn : n < 2 ^ 31) {v : Int32} (hv : I k j = v) (hdg : decode cc pc = .ok (.iaload, 1))
    (kk : W p l e Rm s m args below meth c H locs cells slots Q (F0 m (pc + 1) ls (.int v :: rest))) : W p l e Rm s m args below meth c H locs cells slots Q (F0 m pc ls (.int x :: .ref (ad bs k) :: rest)) := by
  subst hx; subst hv
  refine va_iald X.1 X.2.1 X.2.2.2.2.2.1 hW k 0 (wl_arrL hk hN (by decide)) rfl (vp_in_nI hj hn) hdg ?_
  rw [nI_clamp (by omega)]
  exact kk
theorem rL_ast (X : Cx p s m args c cc nL own G bs cy) (hW : Wd G bs cy I L R H) (hS : va_S (Aq bs) H0 H locs) {n : Nat} (hk : shp k = .inr (0, n)) (hN : 67 ≤ k ∧ k < NT) {x : Int32} {j : Nat} (hx : x = nI j) (hj : j < n) (hn : n < 2 ^ 31) {v : Int32} (hdg : decode cc pc = .ok (.iastore, 1))
    (kk : ∀ (H1 : Heap) (locs1 : List Loc), Wd G bs cy (u2 I k j v) L R H1 → va_S (Aq bs) H0 H1 locs1 → W p l e Rm s m args below meth c H1 locs1 cells slots Q (F0 m (pc + 1) ls rest)) : W p l e Rm s m args below meth c H locs cells slots Q (F0 m pc ls (.int v :: .int x :: .ref (ad bs k) :: rest)) := by
  subst hx
  refine va_iast X.1 X.2.1 X.2.2.2.2.2.1 hW (wl_D X.2.2.2.2.2.2.2.2.2.1) hS k 0 (wl_arrL hk hN (by decide)) rfl (vp_in_nI hj hn) hdg (fun H1 locs1 hP _ hS1 => kk H1 locs1 ?_ hS1)
  rw [nI_clamp (by omega), wl_setL hN (I' := u2 I k j v) (L' := L) (R' := R) (fun a h => u2_ne h) (fun _ _ => rfl) (fun _ _ => rfl) (by rw [hk, u2_eq]; rfl)] at hP
  exact hP
theorem rL_aald (X : Cx p s m args c cc nL own G bs cy) (hW : Wd G bs cy I L R H) {x : Int32} {j : Nat} (hx : x = nI j) (hj : j < 5) (hdg : decode cc pc = .ok (.aaload, 1))
    (kk : W p l e Rm s m args below meth c H locs cells slots Q (F0 m (pc + 1) ls (.ref (ad bs (78 + j)) :: rest))) : W p l e Rm s m args below meth c H locs cells slots Q (F0 m pc ls (.int x :: .ref (ad bs 77) :: rest)) := by
  subst hx
  have hin := vp_in_nI hj (show 5 < 2 ^ 31 by decide)
  have e2 : (nI j).toNatClampNeg = j := nI_clamp (by omega)
  exact W.aald (v := va_rf (some (ad bs (78 + j)))) (ty := .array .int) X.1 X.2.1 (hW 77 _ (wl_arrL (k := 77) (ty := 5) (n := 5) rfl ⟨by decide, by decide⟩ (by decide))) ((X.2.2.2.2.2.1.2 5 _ rfl).1 5 (fun j => va_rf (some (ad bs (78 + j))))) rfl (fun q => by cases q) (by show ¬ (nI j < 0 ∨ (arrV _ _ _).slots.size ≤ _); rw [arrV_size]; exact hin) (by rw [e2]; show (arrV _ _ _).slots[_]? = _; rw [arrV_read _ _ hj]) rfl rfl hdg kk
theorem rL_sld (X : Cx p s m args c cc nL own G bs cy) (hS : va_S (Aq bs) s.heap H locs) {j : Nat} (hj : j < cy 71) (hdg : decode cc pc = .ok (.iaload, 1))
    (kk : W p l e Rm s m args below meth c H locs cells slots Q (F0 m (pc + 1) ls (.int (nI (cy (100 + j))) :: rest))) : W p l e Rm s m args below meth c H locs cells slots Q (F0 m pc ls (.int (nI j) :: .ref (cy 70) :: rest)) := by
  obtain ⟨hx, hb, hml, hown, hts, hK, hE⟩ := X
  have hE8 := hE.2.2.2.2.2.2.2.2.2.2.2.2
  have h9 : (cy 71 : Nat) < 2147483648 := hE8.2
  have hj' : j < 2147483648 := Nat.lt_trans hj h9
  exact va_ti hx hb (hE8.1.narrow (fun _ => agq)) hS (vp_in_nI hj h9) (by rw [nI_clamp hj']) hdg kk
theorem rL_slen (X : Cx p s m args c cc nL own G bs cy) (hS : va_S (Aq bs) s.heap H locs) (hdg : decode cc pc = .ok (.arraylength, 1))
    (kk : W p l e Rm s m args below meth c H locs cells slots Q (F0 m (pc + 1) ls (.int (nI (cy 71)) :: rest))) : W p l e Rm s m args below meth c H locs cells slots Q (F0 m pc ls (.ref (cy 70) :: rest)) := by
  obtain ⟨hx, hb, hml, hown, hts, hK, hE⟩ := X
  have hE8 := hE.2.2.2.2.2.2.2.2.2.2.2.2
  exact va_tlen hx hb (hE8.1.narrow (fun _ => agq)) hS rfl hdg kk
theorem recvL (X : Cx p s m args c cc nL own G bs cy) (hW : Wd G bs cy I L R H) : ∃ cellB : Cell, H[ad bs 67]? = some cellB ∧ cellB.vm.isStatics = false ∧ s.vm.findClass RL = some cellB.cls :=
  va_recv X.2.2.2.2.2.1 hW (show vwCl[12]? = some (RL, TL, 18) from rfl) (q0 := 67) wl_w
theorem callOi (X : Cx p s m args c cc nL own G bs cy) (hW : Wd G bs cy I L R H) (hS : va_S (Aq bs) s.heap H locs) {n : Nat} (hR : RmOK Rm n) {μ : MI} {n' : Nat} {As : List Value} {Q' : Int32 → CI → CL → CR → Prop} (hM : MTi l G bs cy μ n' (.ref (ad bs 67) :: As) I L R Q') (hn : n' + 1 ≤ n) {na idx : Nat} (hu : UV μ RL na) (hl : Cond.methodLink own idx μ.1 ∈ wsL_law)
    (hA : As.length = na) {st0 : List Value} (hst : st0 = As.reverse ++ .ref (ad bs 67) :: rest) (hrest : (rest.map fun v => v.category).sum ≤ 8) {lv : List (Nat × Value)} (hl2 : lv_has ls nL lv) (hcs : cells ≤ Rm.cells ∧ slots ≤ Rm.slots) (hdg : decode cc pc = .ok (.invokevirtual idx, 3))
    (kk : ∀ (r : Int32) (I' : CI) (L' : CL) (R' : CR) (H1 : Heap) (locs1 : List Loc), Q' r I' L' R' → Wd G bs cy I' L' R' H1 → va_S (Aq bs) s.heap H1 locs1 → W p l e Rm s m args below meth c H1 locs1 cells slots Q (F0 m (pc + 3) ls (.int r :: rest))) : W p l e Rm s m args below meth c H locs cells slots Q (F0 m pc ls st0) := by
  obtain ⟨hx, hb, hml, hown, hts, hK, hE⟩ := id X
  subst hst
  exact va_calli (va_runV (As := As) (rest := rest) ⟨hx, hb, hml, hown, hts⟩ hM (cw_UV hts hu hl hR hn) ⟨PcM_blind, recvL X hW, fun U hU hW2 => ⟨rfl, by rw [hU]; exact hW, va_K.moved hW2.alike hK, by rw [hU]; exact hE.to hW2 hS.2.1⟩⟩ rfl hA hl2.1 rfl (lv_room hrest) hdg hcs) hS (fun q _ h => h) (fun q h => h)
    (fun r u t H1 locs1 ht hvm hp hB hz hk1 hS1 => kk r u.1 u.2.1 u.2.2 H1 locs1 hp (by rw [← ht]; exact hB) hS1)
end LR9
end
