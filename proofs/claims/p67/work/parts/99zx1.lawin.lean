/-! the law's words are the tables', but six: of private methods of a superclass -/
def sel6 : List Cond := [Cond.selects RJ4 ⟨"java/lang/AbstractStringBuilder", "appendNull", "()Ljava/lang/AbstractStringBuilder;"⟩ yJ5_appendNull_278bc, Cond.selects RJ4 ⟨"java/lang/AbstractStringBuilder", "ensureCapacityInternal", "(I)V"⟩ yJ5_ensureCapacityInternal_d00df, Cond.selects RJ4 ⟨"java/lang/AbstractStringBuilder", "newCapacity", "(I)I"⟩ yJ5_newCapacity_0f7a4, Cond.selects RJ4 ⟨"java/lang/AbstractStringBuilder", "putStringAt", "(ILjava/lang/String;)V"⟩ yJ5_putStringAt_47b60, Cond.selects RJ4 ⟨"java/lang/AbstractStringBuilder", "inflateIfNeededFor", "(Ljava/lang/String;)V"⟩ yJ5_inflateIfNeededFor_a7421, Cond.selects RJ4 ⟨"java/lang/AbstractStringBuilder", "inflate", "()V"⟩ yJ5_inflate_da8c8]
def lw_t2 : List Cond := lw_tbl ++ sel6
theorem in_pl {big ws : List Cond} (pc pn : List Nat) (hc : ws.filter k2_isCode = pc.filterMap (fun i => big[i]?)) (hn : ws.filter (fun w => !k2_isCode w) = pn.filterMap (fun i => big[i]?)) : ∀ w ∈ ws, w ∈ big := by
  intro w hw
  by_cases h : k2_isCode w = true
  · have h1 : w ∈ ws.filter k2_isCode := List.mem_filter.mpr ⟨hw, h⟩
    rw [hc] at h1
    obtain ⟨i, -, hi⟩ := List.mem_filterMap.mp h1
    exact List.mem_of_getElem? hi
  · have h1 : w ∈ ws.filter (fun w => !k2_isCode w) := List.mem_filter.mpr ⟨hw, by simp [h]⟩
    rw [hn] at h1
    obtain ⟨i, -, hi⟩ := List.mem_filterMap.mp h1
    exact List.mem_of_getElem? hi
set_option maxRecDepth 20000 in
theorem in_wsL_law0_r1 : ∀ w ∈ wsL_law0_r1, w ∈ lw_t2 := in_pl [593, 70] [589, 590, 33, 596, 63, 64, 34, 602, 612, 598, 603, 1180, 591, 592, 594, 69, 89, 604, 605, 606, 607, 608] rfl (by decide +kernel)
set_option maxRecDepth 20000 in
theorem in_wsL_law0_r2 : ∀ w ∈ wsL_law0_r2, w ∈ lw_t2 := in_pl [67] [609, 610, 611, 595, 65, 66, 68, 71, 72, 35, 339, 94, 95, 37, 340, 108, 78, 36, 341, 110, 111, 38, 342] rfl (by decide +kernel)
set_option maxRecDepth 20000 in
theorem in_wsL_law0_r3 : ∀ w ∈ wsL_law0_r3, w ∈ lw_t2 := in_pl [] [128, 129, 39, 343, 348, 141, 349, 142, 143, 40, 157, 158, 41, 239, 240, 43, 337, 344, 345, 346, 347, 259, 260, 44] rfl (by decide +kernel)
set_option maxRecDepth 20000 in
theorem in_wsL_law0_r4 : ∀ w ∈ wsL_law0_r4, w ∈ lw_t2 := in_pl [75, 81, 98, 114, 132] [338, 74, 76, 77, 90, 80, 82, 83, 97, 99, 100, 102, 113, 115, 116, 118, 119, 131, 133] rfl (by decide +kernel)
set_option maxRecDepth 20000 in
theorem in_wsL_law0_r5 : ∀ w ∈ wsL_law0_r5, w ∈ lw_t2 := in_pl [146, 161, 166] [140, 134, 145, 147, 148, 159, 160, 162, 189, 190, 192, 194, 196, 198, 200, 201, 202, 204, 163, 164, 165] rfl (by decide +kernel)
set_option maxRecDepth 20000 in
theorem in_wsL_law0_r6 : ∀ w ∈ wsL_law0_r6, w ∈ lw_t2 := in_pl [169, 243, 263] [170, 174, 177, 180, 182, 186, 167, 168, 42, 241, 242, 244, 247, 248, 249, 246, 245, 261, 262, 264, 265] rfl (by decide +kernel)
set_option maxRecDepth 20000 in
theorem in_wsL_law0_r7 : ∀ w ∈ wsL_law0_r7, w ∈ lw_t2 := in_pl [269, 290] [266, 45, 319, 285, 323, 286, 287, 46, 318, 320, 321, 268, 270, 284, 271, 272, 273, 288, 289, 291, 292, 906] rfl (by decide +kernel)
set_option maxRecDepth 20000 in
theorem in_wsL_law0_r8 : ∀ w ∈ wsL_law0_r8, w ∈ lw_t2 := in_pl [909, 899, 902, 905, 914] [908, 25, 599, 600, 601, 910, 911, 48, 896, 898, 24, 597, 900, 901, 903, 904, 912, 913, 915] rfl (by decide +kernel)
set_option maxRecDepth 20000 in
theorem in_wsL_law0_r9 : ∀ w ∈ wsL_law0_r9, w ∈ lw_t2 := in_pl [917, 922, 925, 944, 947] [916, 47, 918, 919, 927, 928, 920, 921, 50, 923, 924, 926, 941, 942, 943, 945, 1222, 939, 946] rfl (by decide +kernel)
set_option maxRecDepth 20000 in
theorem in_wsL_law0_r10 : ∀ w ∈ wsL_law0_r10, w ∈ lw_t2 := in_pl [951, 955, 959, 962] [930, 948, 1223, 1231, 950, 952, 1224, 1232, 954, 956, 1225, 1233, 958, 970, 960, 961, 51, 963, 964, 52] rfl (by decide +kernel)
set_option maxRecDepth 20000 in
theorem in_wsL_law0_r11 : ∀ w ∈ wsL_law0_r11, w ∈ lw_t2 := in_pl [965, 969, 973, 538] [966, 967, 968, 971, 972, 974, 975, 976, 977, 978, 980, 981, 537, 982, 530, 529, 53, 983, 985, 986] rfl (by decide +kernel)
set_option maxRecDepth 20000 in
theorem in_wsL_law0_r12 : ∀ w ∈ wsL_law0_r12, w ∈ lw_t2 := in_pl [987, 990, 993, 694, 996, 999, 1002] [984, 988, 989, 699, 991, 992, 692, 693, 994, 995, 49, 681, 997, 998, 54, 1000, 1001] rfl (by decide +kernel)
set_option maxRecDepth 20000 in
theorem in_wsL_law0_r13 : ∀ w ∈ wsL_law0_r13, w ∈ lw_t2 := in_pl [657, 661, 1007, 1011] [701, 703, 1003, 655, 656, 1111, 658, 659, 660, 662, 1112, 1004, 1226, 1234, 1006, 1008, 1227, 1235, 1010, 1012] rfl (by decide +kernel)
set_option maxRecDepth 20000 in
theorem in_wsL_law0_r14 : ∀ w ∈ wsL_law0_r14, w ∈ lw_t2 := in_pl [1016, 1019, 1022, 1025, 1028, 1031] [1013, 1228, 1236, 1015, 1017, 1018, 55, 1020, 1021, 1023, 1024, 1026, 1027, 1029, 1030, 1032, 1033, 1034] rfl (by decide +kernel)
set_option maxRecDepth 20000 in
theorem in_wsL_law0_r15 : ∀ w ∈ wsL_law0_r15, w ∈ lw_t2 := in_pl [1035, 1041, 1044, 1047, 1050, 1057] [1036, 1037, 1038, 1039, 1040, 1042, 1229, 1043, 1045, 1046, 57, 1048, 1049, 1051, 1053, 1055, 1056, 1058] rfl (by decide +kernel)
set_option maxRecDepth 20000 in
theorem in_wsL_law0_r16 : ∀ w ∈ wsL_law0_r16, w ∈ lw_t2 := in_pl [1060, 1068, 1073, 1076, 1082] [1059, 1061, 1062, 1065, 1066, 1067, 1069, 1070, 1071, 1072, 1074, 1075, 1077, 929, 1078, 1080, 1081, 1079, 1083] rfl (by decide +kernel)
set_option maxRecDepth 20000 in
theorem in_wsL_law0_r17 : ∀ w ∈ wsL_law0_r17, w ∈ lw_t2 := in_pl [1088, 1090, 1094, 1097, 1100, 1103, 1106] [1085, 1084, 1086, 1087, 1089, 1084, 1091, 1092, 1093, 1095, 1096, 1098, 1099, 1101, 1102, 1104, 1105] rfl (by decide +kernel)
set_option maxRecDepth 20000 in
theorem in_wsL_law0_r18 : ∀ w ∈ wsL_law0_r18, w ∈ lw_t2 := in_pl [698, 1110, 1126, 1129, 1132, 1135, 691] [696, 697, 1107, 1108, 1109, 1123, 1124, 1125, 1127, 1230, 1128, 1130, 1131, 1133, 1134, 689, 690] rfl (by decide +kernel)
set_option maxRecDepth 20000 in
theorem in_wsL_law0_r19 : ∀ w ∈ wsL_law0_r19, w ∈ lw_t2 := in_pl [680, 685, 1139, 653, 666, 670] [695, 679, 683, 684, 1136, 1138, 26, 651, 652, 654, 664, 665, 667, 668, 669, 671, 672, 673] rfl (by decide +kernel)
set_option maxRecDepth 20000 in
theorem in_wsL_law0_r20 : ∀ w ∈ wsL_law0_r20, w ∈ lw_t2 := in_pl [674, 677, 688, 708, 712, 717] [675, 676, 678, 686, 687, 705, 706, 707, 713, 709, 710, 711, 150, 714, 715, 716, 718, 719] rfl (by decide +kernel)
set_option maxRecDepth 20000 in
theorem in_wsL_law0_r21 : ∀ w ∈ wsL_law0_r21, w ∈ lw_t2 := in_pl [721, 725, 745, 750, 584] [720, 722, 723, 724, 726, 61, 887, 742, 743, 744, 322, 746, 747, 748, 749, 581, 582, 583, 543] rfl (by decide +kernel)
set_option maxRecDepth 20000 in
theorem in_wsL_law0_r22 : ∀ w ∈ wsL_law0_r22, w ∈ lw_t2 := in_pl [546, 480, 754, 758] [544, 545, 547, 477, 478, 479, 751, 752, 753, 274, 755, 756, 757, 759, 293, 294, 296, 297, 760, 761] rfl (by decide +kernel)
set_option maxRecDepth 20000 in
theorem in_wsL_law0_r23 : ∀ w ∈ wsL_law0_r23, w ∈ lw_t2 := in_pl [763, 767, 771, 775] [762, 764, 766, 5, 301, 768, 770, 6, 299, 772, 774, 7, 780, 797, 809, 810, 811, 812, 813, 776] rfl (by decide +kernel)
set_option maxRecDepth 20000 in
theorem in_wsL_law0_r24 : ∀ w ∈ wsL_law0_r24, w ∈ lw_t2 := in_pl [779, 784, 788, 792, 796, 801] [778, 8, 781, 783, 9, 785, 787, 10, 789, 791, 11, 793, 795, 12, 798, 800, 13, 815] rfl (by decide +kernel)
set_option maxRecDepth 20000 in
theorem in_wsL_law0_r25 : ∀ w ∈ wsL_law0_r25, w ∈ lw_t2 := in_pl [805, 808, 819, 823, 827, 831] [802, 804, 14, 806, 807, 814, 816, 817, 818, 820, 821, 822, 824, 825, 826, 828, 830, 15] rfl (by decide +kernel)
set_option maxRecDepth 20000 in
theorem in_wsL_law0_r26 : ∀ w ∈ wsL_law0_r26, w ∈ lw_t2 := in_pl [835, 839, 843, 847, 851, 855] [832, 834, 16, 836, 838, 17, 840, 841, 842, 844, 845, 846, 848, 850, 18, 852, 853, 854] rfl (by decide +kernel)
set_option maxRecDepth 20000 in
theorem in_wsL_law0_r27 : ∀ w ∈ wsL_law0_r27, w ∈ lw_t2 := in_pl [859, 863, 867, 871, 542] [856, 858, 19, 860, 862, 20, 864, 866, 21, 868, 870, 22, 872, 873, 540, 541, 874, 875, 876] rfl (by decide +kernel)
set_option maxRecDepth 20000 in
theorem in_wsL_law0_r28 : ∀ w ∈ wsL_law0_r28, w ∈ lw_t2 := in_pl [878, 882, 886, 891, 895, 380] [877, 879, 880, 881, 883, 884, 885, 888, 890, 23, 892, 893, 894, 120, 377, 378, 379, 381] rfl (by decide +kernel)
set_option maxRecDepth 20000 in
theorem in_wsL_law0_r29 : ∀ w ∈ wsL_law0_r29, w ∈ lw_t2 := in_pl [384, 388, 1157, 1161, 1165] [382, 383, 385, 386, 387, 1220, 1154, 1156, 27, 1175, 1158, 1160, 28, 1162, 1164, 29, 1166, 1168, 30] rfl (by decide +kernel)
set_option maxRecDepth 20000 in
theorem in_wsL_law0_r30 : ∀ w ∈ wsL_law0_r30, w ∈ lw_t2 := in_pl [1169, 1173, 392, 396, 466] [613, 1170, 1172, 31, 1174, 389, 390, 391, 393, 395, 0, 397, 62, 463, 465, 2, 468, 470, 3] rfl (by decide +kernel)
set_option maxRecDepth 20000 in
theorem in_wsL_law0_r31 : ∀ w ∈ wsL_law0_r31, w ∈ lw_t2 := in_pl [471, 476, 484, 488, 491, 498] [473, 474, 475, 481, 482, 483, 485, 486, 487, 489, 490, 492, 493, 494, 495, 496, 497, 499] rfl (by decide +kernel)
set_option maxRecDepth 20000 in
theorem in_wsL_law0_r32 : ∀ w ∈ wsL_law0_r32, w ∈ lw_t2 := in_pl [502, 506, 510, 514, 519, 523] [500, 501, 503, 504, 505, 507, 508, 509, 511, 512, 513, 515, 516, 518, 4, 520, 521, 522] rfl (by decide +kernel)
set_option maxRecDepth 20000 in
theorem in_wsL_law0_r33 : ∀ w ∈ wsL_law0_r33, w ∈ lw_t2 := in_pl [527, 534, 551, 555] [536, 524, 525, 526, 528, 531, 532, 533, 535, 539, 548, 549, 550, 560, 552, 553, 554, 556, 557, 558] rfl (by decide +kernel)
set_option maxRecDepth 20000 in
theorem in_wsL_law0_r34 : ∀ w ∈ wsL_law0_r34, w ∈ lw_t2 := in_pl [559, 1179, 1184, 1188, 1192, 1196] [1176, 1178, 32, 1181, 1182, 1183, 1185, 1186, 1187, 1189, 1190, 1191, 1193, 1194, 1195, 1197, 1198, 1199] rfl (by decide +kernel)
set_option maxRecDepth 20000 in
theorem in_wsL_law0_r35 : ∀ w ∈ wsL_law0_r35, w ∈ lw_t2 := in_pl [1200, 1204, 1208, 1152, 1213, 1218] [1201, 1202, 1203, 1205, 1206, 1207, 1209, 1149, 1150, 1151, 1153, 1210, 1211, 1212, 1214, 1215, 1216, 1217] rfl (by decide +kernel)
set_option maxRecDepth 20000 in
theorem in_wsL_law0_r36 : ∀ w ∈ wsL_law0_r36, w ∈ lw_t2 := in_pl [564, 568, 572, 576, 580] [1219, 561, 562, 563, 565, 566, 567, 569, 570, 571, 573, 574, 575, 577, 578, 579, 585, 586, 587] rfl (by decide +kernel)
set_option maxRecDepth 20000 in
theorem in_wsL_law0_r37 : ∀ w ∈ wsL_law0_r37, w ∈ lw_t2 := in_pl [588] [1145, 1146, 1147, 1148] rfl (by decide +kernel)
