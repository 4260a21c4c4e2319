/-! the law's body decoded: cases 0 to 15 -/
theorem DK_0 : DpA5 316 148 152 2967 := ⟨by decide +kernel, by decide +kernel, by decide +kernel, by decide +kernel, by decide +kernel, by decide +kernel, by decide +kernel, by decide +kernel, by decide +kernel, by decide +kernel, by decide +kernel, by decide +kernel, by decide +kernel⟩
theorem DK_1 : DpB1 389 153 158 2909 := ⟨by decide +kernel, by decide +kernel, by decide +kernel, by decide +kernel, by decide +kernel, by decide +kernel⟩
theorem DK_2 : DpA0 445 163 166 2898 := ⟨by decide +kernel, by decide +kernel, by decide +kernel⟩
theorem DK_3 : DpA0 458 167 170 2885 := ⟨by decide +kernel, by decide +kernel, by decide +kernel⟩
theorem DK_4 : DpB2 471 171 174 2815 := ⟨by decide +kernel, by decide +kernel, by decide +kernel, by decide +kernel, by decide +kernel, by decide +kernel, by decide +kernel, by decide +kernel⟩
theorem DK_5 : DpB2 539 175 177 2747 := ⟨by decide +kernel, by decide +kernel, by decide +kernel, by decide +kernel, by decide +kernel, by decide +kernel, by decide +kernel, by decide +kernel⟩
theorem DK_6 : DpB2 607 178 180 2679 := ⟨by decide +kernel, by decide +kernel, by decide +kernel, by decide +kernel, by decide +kernel, by decide +kernel, by decide +kernel, by decide +kernel⟩
theorem DK_7 : DpB1 675 181 183 2623 := ⟨by decide +kernel, by decide +kernel, by decide +kernel, by decide +kernel, by decide +kernel, by decide +kernel⟩
theorem DK_8 : DpA0 731 184 187 2612 := ⟨by decide +kernel, by decide +kernel, by decide +kernel⟩
theorem DK_9 : DpB1 744 188 190 2554 := ⟨by decide +kernel, by decide +kernel, by decide +kernel, by decide +kernel, by decide +kernel, by decide +kernel⟩
theorem DK_10 : DpB1 800 191 193 2498 := ⟨by decide +kernel, by decide +kernel, by decide +kernel, by decide +kernel, by decide +kernel, by decide +kernel⟩
theorem DK_12 : DpB1 933 198 200 2365 := ⟨by decide +kernel, by decide +kernel, by decide +kernel, by decide +kernel, by decide +kernel, by decide +kernel⟩
theorem DK_13 : DpB1 989 201 203 2309 := ⟨by decide +kernel, by decide +kernel, by decide +kernel, by decide +kernel, by decide +kernel, by decide +kernel⟩
theorem DK_14 : DpB1 1045 204 206 2253 := ⟨by decide +kernel, by decide +kernel, by decide +kernel, by decide +kernel, by decide +kernel, by decide +kernel⟩
theorem DK_15 : DpB2 1101 207 209 2185 := ⟨by decide +kernel, by decide +kernel, by decide +kernel, by decide +kernel, by decide +kernel, by decide +kernel, by decide +kernel, by decide +kernel⟩
