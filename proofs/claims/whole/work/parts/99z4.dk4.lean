/-! the law's body decoded: cases 48 to 63 -/
theorem DK_48 : DpB2 2947 314 316 339 := ⟨by decide +kernel, by decide +kernel, by decide +kernel, by decide +kernel, by decide +kernel, by decide +kernel, by decide +kernel, by decide +kernel⟩
theorem DK_49 : DpB2 3015 317 319 271 := ⟨by decide +kernel, by decide +kernel, by decide +kernel, by decide +kernel, by decide +kernel, by decide +kernel, by decide +kernel, by decide +kernel⟩
theorem DK_50 : DpA0 3083 320 323 260 := ⟨by decide +kernel, by decide +kernel, by decide +kernel⟩
theorem DK_51 : DpA0 3096 324 327 247 := ⟨by decide +kernel, by decide +kernel, by decide +kernel⟩
theorem DK_52 : DpA0 3109 328 331 234 := ⟨by decide +kernel, by decide +kernel, by decide +kernel⟩
theorem DK_53 : DpA0 3122 332 335 221 := ⟨by decide +kernel, by decide +kernel, by decide +kernel⟩
theorem DK_54 : DpA0 3135 336 339 208 := ⟨by decide +kernel, by decide +kernel, by decide +kernel⟩
theorem DK_55 : DpA0 3148 340 343 195 := ⟨by decide +kernel, by decide +kernel, by decide +kernel⟩
theorem DK_56 : DpB1 3161 344 346 137 := ⟨by decide +kernel, by decide +kernel, by decide +kernel, by decide +kernel, by decide +kernel, by decide +kernel⟩
theorem DK_57 : DpA0 3217 347 350 126 := ⟨by decide +kernel, by decide +kernel, by decide +kernel⟩
theorem DK_58 : DpA0 3230 351 354 113 := ⟨by decide +kernel, by decide +kernel, by decide +kernel⟩
theorem DK_59 : DpA0 3243 355 358 100 := ⟨by decide +kernel, by decide +kernel, by decide +kernel⟩
theorem DK_60 : DpA0 3256 359 362 87 := ⟨by decide +kernel, by decide +kernel, by decide +kernel⟩
theorem DK_61 : DpA0 3269 363 366 74 := ⟨by decide +kernel, by decide +kernel, by decide +kernel⟩
theorem DK_62 : DpA0 3282 367 370 61 := ⟨by decide +kernel, by decide +kernel, by decide +kernel⟩
theorem DK_63 : DpB1 3295 371 373 3 := ⟨by decide +kernel, by decide +kernel, by decide +kernel, by decide +kernel, by decide +kernel, by decide +kernel⟩
