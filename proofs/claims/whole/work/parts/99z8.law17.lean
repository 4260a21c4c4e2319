/-! what the law stands on at its start -/
set_option maxRecDepth 20000 in
theorem wsL_law_in0 : ∀ w ∈ wsL_law0, w ∈ lw_tbl := fun w h => (goodIn_p wsL_law0 [131, 134, 139, 145, 163, 180, 198, 213, 228, 233, 236, 327, 347, 353, 374, 1413, 1418, 464, 468, 473, 477, 1551, 1556, 816, 886, 588, 592, 596, 603, 600, 892, 896, 901, 905, 909, 913, 917, 922, 926, 930, 934, 939, 943, 946, 957, 961, 965, 969, 973, 977, 981, 985, 989, 993, 997, 1001, 1005, 1009, 659, 1016, 1020, 1024, 689, 1029, 1560, 1563, 1567, 1571, 1574, 1580, 1585, 1589, 1595, 1599, 1602, 1605, 1610, 1613, 1616, 1619, 1623, 1632, 1636, 1640, 1644, 1648, 1652, 1656, 1660, 1664, 1668, 1672, 1676, 1680, 1684, 1688, 1692, 1547, 1540, 481, 1697, 485, 1701, 1037, 1041, 1061, 617, 1705, 1709, 1713, 1717, 1721, 1725, 1729, 1733, 1737, 1741, 1070, 1074, 1746, 1081, 1085, 1750, 1092, 497, 501, 1754, 1758, 1762, 489, 493, 1766, 1770, 1100, 1774, 1108, 1778, 1153, 1115, 1783, 1122, 611, 621, 629, 1787, 1791, 1795, 1133, 1137, 1799, 1803, 1146, 1150, 1807, 1810, 1160, 1814, 1818, 1167, 1822, 1174, 530, 1826, 1830, 1182, 1186, 571, 1834, 1838, 1842, 1846, 1850, 1195, 554, 526, 1854, 1858, 1202, 1862, 1865, 1209, 1869, 1216, 645, 1873, 1877, 506, 510, 1881, 1224, 522, 534, 1885, 1889, 1893, 1232, 1236, 546, 1897, 1901, 1905, 1245, 542, 1909, 1913, 1252, 518, 1917, 1921, 514, 1925, 538, 1929, 550, 1933, 1259, 1937, 558, 562, 566, 1941, 1945, 1949, 575, 1953, 1267, 637, 641, 648, 1957, 1961, 1965, 1275, 1969, 1282, 1973, 1289, 1293, 1977, 1981, 1301, 1985, 1308, 1989, 1315, 1319, 1993, 1326, 668, 672, 676, 683, 1997, 2002, 1334, 2006, 1341, 2010, 1348, 2015, 1355, 1358, 2019, 2024, 2028, 1366, 2032, 1373, 2037, 1381, 2041, 1389, 2046, 580, 584, 607, 625, 633, 655, 663, 2050, 2054, 2058, 2062, 2066, 2070, 2074, 2078, 2082, 2086, 693, 697, 705, 711, 2143, 2126, 2130, 2134, 719, 723, 727, 731, 735, 739, 1544, 743, 2122, 747, 751, 2139, 755, 759, 2090, 2094, 1396, 2098, 763, 2102, 767, 771, 2106, 775, 2110, 779, 2114, 784, 2118, 789, 793, 798, 802, 808, 2147, 2151, 2155, 1403, 1408, 2159] (by decide +kernel) (by decide +kernel) w h).1
theorem wsL_law_x0 : ∀ w ∈ (vx_atS RX11 107 "java/lang/IllegalArgumentException" ["java/lang/RuntimeException", "java/lang/Exception"]).filter goodWord, w ∈ lw_tbl := by decide +kernel
theorem wsL_law_x1 : ∀ w ∈ (vx_atS RX11 166 "java/lang/IndexOutOfBoundsException" ["java/lang/RuntimeException", "java/lang/Exception"]).filter goodWord, w ∈ lw_tbl := by decide +kernel
theorem wsL_law_in : ∀ w ∈ wsL_law, w ∈ lw_tbl := fun w h => (List.mem_append.mp h).elim (fun h => (List.mem_append.mp h).elim (fun h => wsL_law_in0 w h) (fun h => wsL_law_x0 w h)) (fun h => wsL_law_x1 w h)
theorem nest_in : ∀ w ∈ nestL, w ∈ lw_tbl := by decide +kernel
abbrev lwG : List Cond := flatC (Jvm.Cond.and given_1 narrow_1)
theorem str_in : ∀ q ∈ strL, Cond.stringRef RX11 q.1 q.2 ∈ lw_tbl ∧ Cond.exactly (.string RX11 q.1) "java/lang/String" ∈ lwG := by decide +kernel
theorem kw_in : ∀ j, j < 48 → (Cond.eq (.elem (.field (.string RX12 147) "java/lang/String" "value" "[B") (.int (Int32.ofNat j))) (.int (kwB.getD j 0))) ∈ lwG := by decide +kernel
theorem kw_ex : Cond.exactly (.string RX12 147) "java/lang/String" ∈ lwG ∧ Cond.eq (.field (.string RX12 147) "java/lang/String" "coder" "B") (.int 0) ∈ lwG ∧ Cond.arrayOf (.field (.string RX12 147) "java/lang/String" "value" "[B") .byte ∈ lwG ∧ Cond.eq (.length (.field (.string RX12 147) "java/lang/String" "value" "[B")) (.int (Int32.ofNat 48)) ∈ lwG ∧ Cond.stringRef RX12 147 KWT ∈ lw_tbl := by decide +kernel
theorem st_in : (Cond.laysStatic Bundle.tN "UNASSIGNED_STACK" Bundle.steD ∈ lw_tbl ∧ Cond.laysStatic Bundle.tN "SUPPRESSED_SENTINEL" Bundle.listD ∈ lw_tbl ∧ Cond.laysStatic "java/lang/String" "COMPACT_STRINGS" "Z" ∈ lw_tbl ∧ Cond.laysStatic "jdk/internal/util/Preconditions" "SIOOBE_FORMATTER" "Ljava/util/function/BiFunction;" ∈ lw_tbl) ∧ (Cond.initialized Bundle.tN ∈ lw_tbl ∧ Cond.initialized "java/lang/String" ∈ lw_tbl ∧ Cond.initialized "jdk/internal/util/Preconditions" ∈ lw_tbl) ∧ Cond.arrayOver (.array .int) ∈ lw_tbl := by decide +kernel
theorem sg_in : Cond.isRef (.static Bundle.tN "UNASSIGNED_STACK" Bundle.steD) ∈ lwG ∧ Cond.isRef (.static Bundle.tN "SUPPRESSED_SENTINEL" Bundle.listD) ∈ lwG ∧ Cond.eq (.static "java/lang/String" "COMPACT_STRINGS" "Z") (.int 1) ∈ lwG ∧ Cond.isRef (.static "jdk/internal/util/Preconditions" "SIOOBE_FORMATTER" "Ljava/util/function/BiFunction;") ∈ lwG ∧ Cond.not (.castable IAE IOE) ∈ lwG := by decide +kernel
theorem arr_of {s : State} {args : Array Value} {ty : FieldType} (h : (Cond.arrayClass ty).before args s = true) (hno : ∀ C, ty ≠ .object C) : ∃ cA, ArrOfT s cA ty ∧ va_RA s cA ty := by
  obtain ⟨cA, kA, comp, h1, h2, h3⟩ := Cond.arrayClass_spec h
  refine ⟨cA, fun n z => ⟨fun k h => by cases h, kA, h2, comp, h3⟩, ?_⟩
  cases ty with
  | object C => exact absurd rfl (hno C)
  | _ => exact h1
set_option maxHeartbeats 400000 in
set_option maxRecDepth 100000 in
theorem law_X {p : Program} {s : State} {m : MethodId} {meth : Method} {c : Code} {b N : Nat} {xs : Nat → Int32} (hN : N ≤ 3072) (C0 : lw_At p s m meth c b N xs) : ∃ (G : va_G) (cy : Nat → ClassId), LX p s m #[Value.ref b] c G s.heap.size cy b N xs ∧ va_AOA .int s := by
  obtain ⟨hx, hb, hr, hml, hown, hts, hX, hbl, hlocks, hgv⟩ := C0
  have hf : ∀ w ∈ lwG, w.before #[Value.ref b] s = true := flat_of_before _ hgv
  have hA : ∀ a : Nat, a < s.heap.size → ¬ Aq s.heap.size a := fun a h => Nat.not_le.mpr h
  have htw : ∀ w ∈ wsL_law, w.before #[Value.ref b] s = true := fun w h => hts w (wsL_law_in w h)
  have hcl : ∀ k : Nat, ∃ q : ClassId × (Nat → Nat), ∀ r : vw_C, vwCl[k]? = some r → u_Kn s r.1 r.2.1 r.2.2 q.1 q.2 := by
    intro k
    match k with
    | 0 =>
      obtain ⟨cC, iS, h⟩ := u_known (C := RX0) (T := TX0) (N := 1) (n := 1) htw inlX0 (htw _ (inR_1 _ (List.mem_of_getElem? (i := 15) rfl)))
      exact ⟨(cC, iS), fun r hr => by cases hr; exact h⟩
    | 1 =>
      obtain ⟨cC, iS, h⟩ := u_known (C := RX1) (T := TX1) (N := 16) (n := 16) htw inlX1 (htw _ (inR_2 _ (List.mem_of_getElem? (i := 17) rfl)))
      exact ⟨(cC, iS), fun r hr => by cases hr; exact h⟩
    | 2 =>
      obtain ⟨cC, iS, h⟩ := u_known (C := RX2) (T := TX2) (N := 3) (n := 3) htw inlX2 (htw _ (inR_2 _ (List.mem_of_getElem? (i := 3) rfl)))
      exact ⟨(cC, iS), fun r hr => by cases hr; exact h⟩
    | 3 =>
      obtain ⟨cC, iS, h⟩ := u_known (C := RX3) (T := TX3) (N := 4) (n := 4) htw inlX3 (htw _ (inR_6 _ (List.mem_of_getElem? (i := 7) rfl)))
      exact ⟨(cC, iS), fun r hr => by cases hr; exact h⟩
    | 4 =>
      obtain ⟨cC, iS, h⟩ := u_known (C := RX4) (T := TX4) (N := 2) (n := 2) htw inlX4 (htw _ (inR_2 _ (List.mem_of_getElem? (i := 7) rfl)))
      exact ⟨(cC, iS), fun r hr => by cases hr; exact h⟩
    | 5 =>
      obtain ⟨cC, iS, h⟩ := u_known (C := RX5) (T := TX5) (N := 6) (n := 6) htw inlX5 (htw _ (inR_3 _ (List.mem_of_getElem? (i := 4) rfl)))
      exact ⟨(cC, iS), fun r hr => by cases hr; exact h⟩
    | 6 =>
      obtain ⟨cC, iS, h⟩ := u_known (C := RX6) (T := TX6) (N := 4) (n := 4) htw inlX6 (htw _ (inR_2 _ (List.mem_of_getElem? (i := 20) rfl)))
      exact ⟨(cC, iS), fun r hr => by cases hr; exact h⟩
    | 7 =>
      obtain ⟨cC, iS, h⟩ := u_known (C := RX7) (T := TX7) (N := 2) (n := 2) htw inlX7 (htw _ (inR_1 _ (List.mem_of_getElem? (i := 23) rfl)))
      exact ⟨(cC, iS), fun r hr => by cases hr; exact h⟩
    | 8 =>
      obtain ⟨cC, iS, h⟩ := u_known (C := RX8) (T := TX8) (N := 2) (n := 2) htw inlX8 (htw _ (inR_1 _ (List.mem_of_getElem? (i := 19) rfl)))
      exact ⟨(cC, iS), fun r hr => by cases hr; exact h⟩
    | 9 =>
      obtain ⟨cC, iS, h⟩ := u_known (C := RX9) (T := TX9) (N := 2) (n := 2) htw inlX9 (htw _ (inR_2 _ (List.mem_of_getElem? (i := 14) rfl)))
      exact ⟨(cC, iS), fun r hr => by cases hr; exact h⟩
    | 10 =>
      obtain ⟨cC, iS, h⟩ := u_known (C := RX10) (T := TX10) (N := 7) (n := 7) htw inlX10 (htw _ (inR_6 _ (List.mem_of_getElem? (i := 13) rfl)))
      exact ⟨(cC, iS), fun r hr => by cases hr; exact h⟩
    | 11 =>
      obtain ⟨cC, iS, h⟩ := u_known (C := RX11) (T := TX11) (N := 13) (n := 13) htw inlX11 (htw _ (inR_1 _ (List.mem_of_getElem? (i := 1) rfl)))
      exact ⟨(cC, iS), fun r hr => by cases hr; exact h⟩
    | 12 =>
      obtain ⟨cC, iS, h⟩ := u_known (C := RX12) (T := TX12) (N := 39) (n := 39) htw inlX12 (htw _ (inR_1 _ (List.mem_of_getElem? (i := 4) rfl)))
      exact ⟨(cC, iS), fun r hr => by cases hr; exact h⟩
    | k + 13 => exact ⟨(0, fun _ => 0), fun r hr => by simp [vwCl] at hr⟩
  obtain ⟨gg, hgg⟩ := Classical.axiomOfChoice hcl
  obtain ⟨ci, hi1, hi2⟩ := arr_of (htw _ AC_int) (fun C h => by cases h)
  obtain ⟨cb, hb1, hb2⟩ := arr_of (htw _ AC_byte) (fun C h => by cases h)
  obtain ⟨cl, hl1, hl2⟩ := arr_of (htw _ AC_long) (fun C h => by cases h)
  obtain ⟨cd, hd1, hd2⟩ := arr_of (htw _ AC_double) (fun C h => by cases h)
  have hov := hts _ st_in.2.2
  obtain ⟨comp, ca, kA, g1, g2, g3, g4⟩ := Cond.arrayOver_specA (t := .int) hov
  obtain ⟨adK, adV, hS1, hS2⟩ := vk_Sof (args := #[Value.ref b]) (s := s) (N := 1) (tm := fun _ => .string RX12 147) (len := [48]) (byt := [kwB]) (A := Aq s.heap.size)
    (fun i hi => by have e : i = 0 := by omega
                    subst e; decide) (fun i _ => hf _ kw_ex.1) (fun i _ => hf _ kw_ex.2.1) (fun i _ => hf _ kw_ex.2.2.1)
    (fun i hi => by have e : i = 0 := by omega
                    subst e; exact hf _ kw_ex.2.2.2.1)
    (fun i hi j hj => by have e : i = 0 := by omega
                         subst e; exact hf _ (kw_in j hj))
    (fun i j hi hj h => absurd (show i = j by omega) h) hA
  refine ⟨(fun k => (gg k).1, fun k => (gg k).2), fun k => match k with
    | 0 => ci
    | 1 => cb
    | 2 => cl
    | 3 => cd
    | 4 => ca
    | 10 => adK 0
    | 11 => adV 0
    | _ => 0, ⟨⟨hx, hb, hml, hown, htw, ⟨fun k r hr => hgg k r hr, ?_⟩, ?_⟩, hX, hbl, hbl, va_Nc.of (hf _ sg_in.2.2.2.2), hN⟩, va_AOA.of hov⟩
  · intro k q hq
    match k with
    | 0 => cases hq; exact ⟨hi1, hi2⟩
    | 1 => cases hq; exact ⟨hb1, hb2⟩
    | 2 => cases hq; exact ⟨hl1, hl2⟩
    | 3 => cases hq; exact ⟨hd1, hd2⟩
    | 4 => cases hq; exact ⟨fun n z => ⟨fun k h => by cases h, kA, g2, comp, g3⟩, g4⟩
    | k + 5 => simp [tyL] at hq
  · refine ⟨⟨fun w hw => va_Nw.of (nest_ok w hw).1 (hts w (nest_in w hw)), fun q hq => ?_⟩, vx_Zqof (hts _ st_in.1.1) (hts _ st_in.2.1.1) (hf _ sg_in.1) hA, vx_Zqof (hts _ st_in.1.2.1) (hts _ st_in.2.1.1) (hf _ sg_in.2.1) hA, vk_R.of (hts _ kw_ex.2.2.2.2) (hS2 0 (by decide)), ?_, va_Zof (hts _ st_in.1.2.2.1) (hts _ st_in.2.1.2.1) (va_eqt (hf _ sg_in.2.2.1)) hA, va_Zqof (hts _ st_in.1.2.2.2) (hts _ st_in.2.1.2.2) (hf _ sg_in.2.2.2.1) hA⟩
    · obtain ⟨h1, h2⟩ := str_in q hq
      obtain ⟨a, c9, cA, kA, q1, -⟩ := Cond.exactly_spec (args := #[Value.ref b]) (first := s) (o := none) (s := s) (idx := []) (hf _ h2)
      exact ⟨a, vk_R.of (hts _ h1) q1⟩
    · refine ⟨fun i hi => ?_, fun i j hi hj _ => by omega⟩
      have e : i = 0 := by omega
      subst e
      exact hS1.1 0 (by decide)
