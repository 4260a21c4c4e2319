/-! the law's body decoded: cases 16 to 31 -/
theorem DK_16 : DpB1 1169 210 212 2129 := ⟨by decide +kernel, by decide +kernel, by decide +kernel, by decide +kernel, by decide +kernel, by decide +kernel⟩
theorem DK_17 : DpB2 1225 213 215 2061 := ⟨by decide +kernel, by decide +kernel, by decide +kernel, by decide +kernel, by decide +kernel, by decide +kernel, by decide +kernel, by decide +kernel⟩
theorem DK_18 : DpB2 1293 216 218 1993 := ⟨by decide +kernel, by decide +kernel, by decide +kernel, by decide +kernel, by decide +kernel, by decide +kernel, by decide +kernel, by decide +kernel⟩
theorem DK_19 : DpB2 1361 219 221 1925 := ⟨by decide +kernel, by decide +kernel, by decide +kernel, by decide +kernel, by decide +kernel, by decide +kernel, by decide +kernel, by decide +kernel⟩
theorem DK_20 : DpB2 1429 222 224 1857 := ⟨by decide +kernel, by decide +kernel, by decide +kernel, by decide +kernel, by decide +kernel, by decide +kernel, by decide +kernel, by decide +kernel⟩
theorem DK_21 : DpB1 1497 225 227 1801 := ⟨by decide +kernel, by decide +kernel, by decide +kernel, by decide +kernel, by decide +kernel, by decide +kernel⟩
theorem DK_22 : DpB1 1553 228 230 1745 := ⟨by decide +kernel, by decide +kernel, by decide +kernel, by decide +kernel, by decide +kernel, by decide +kernel⟩
theorem DK_23 : DpA0 1609 231 234 1734 := ⟨by decide +kernel, by decide +kernel, by decide +kernel⟩
theorem DK_24 : DpB2 1622 235 237 1664 := ⟨by decide +kernel, by decide +kernel, by decide +kernel, by decide +kernel, by decide +kernel, by decide +kernel, by decide +kernel, by decide +kernel⟩
theorem DK_25 : DpB2 1690 238 240 1596 := ⟨by decide +kernel, by decide +kernel, by decide +kernel, by decide +kernel, by decide +kernel, by decide +kernel, by decide +kernel, by decide +kernel⟩
theorem DK_26 : DpB1 1758 241 243 1540 := ⟨by decide +kernel, by decide +kernel, by decide +kernel, by decide +kernel, by decide +kernel, by decide +kernel⟩
theorem DK_27 : DpB1 1814 244 246 1484 := ⟨by decide +kernel, by decide +kernel, by decide +kernel, by decide +kernel, by decide +kernel, by decide +kernel⟩
theorem DK_28 : DpA0 1870 247 250 1473 := ⟨by decide +kernel, by decide +kernel, by decide +kernel⟩
theorem DK_29 : DpA0 1883 251 254 1460 := ⟨by decide +kernel, by decide +kernel, by decide +kernel⟩
theorem DK_30 : DpA0 1896 255 258 1447 := ⟨by decide +kernel, by decide +kernel, by decide +kernel⟩
theorem DK_31 : DpB1 1909 259 261 1389 := ⟨by decide +kernel, by decide +kernel, by decide +kernel, by decide +kernel, by decide +kernel, by decide +kernel⟩
