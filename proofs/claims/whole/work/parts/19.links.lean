/-! links -/
def ur_LP_X0_0 : List (Nat × ur_L4) := [(382, 1, 6, 0, 0), (383, 7, 10, 0, 0), (1113, 13, 12, 1103515245, 0), (1114, 15, 12, 12345, 0), (1115, 17, 12, 2147483648, 0), (1116, 19, 12, 65536, 0)]
theorem ur_LC_X0_0 : ur_LP_X0_0.all (fun z => ur_ckL ur_GN 267 RX0 z.1 z.2) = true := by decide +kernel
def ur_LP_X0 : List (Nat × ur_L4) := ur_LP_X0_0
def ur_L_X0 : List ur_L4 := ur_LP_X0.map (fun z => z.2)
theorem ur_LO_X0 : ∀ q ∈ ur_L_X0, ur_PL ur_GN RX0 q := by
  intro q hq
  obtain ⟨z, hz, rfl⟩ := List.mem_map.mp hq
  refine ur_ckL_t ur_allM (pos := z.1) ?_
  have h : ur_LP_X0.all (fun z => ur_ckL ur_GN 267 RX0 z.1 z.2) = true := by
    unfold ur_LP_X0
    simp only [List.all_append, ur_LC_X0_0, Bool.and_self]
  exact List.all_eq_true.mp h z hz
def ur_LP_X1_0 : List (Nat × ur_L4) := [(181, 3, 6, 0, 0), (204, 9, 10, 64, 0), (205, 15, 10, 65, 0), (208, 19, 10, 66, 0), (211, 22, 10, 67, 0), (212, 25, 10, 68, 0), (215, 28, 10, 69, 0), (218, 31, 10, 70, 0), (182, 34, 13, 2, 0), (184, 36, 3, 674, 0), (220, 37, 10, 71, 0), (225, 41, 10, 74, 0), (230, 45, 10, 76, 0), (662, 48, 0, 101, 0), (223, 52, 10, 73, 0), (666, 55, 1, 4357, 0), (877, 59, 0, 229, 0), (483, 63, 1, 8484, 0), (191, 69, 10, 130, 0), (222, 72, 10, 72, 0), (227, 76, 10, 75, 0), (479, 79, 0, 354, 0), (486, 82, 0, 2338, 0), (147, 87, 10, 516, 0), (616, 90, 0, 423, 0), (646, 94, 0, 517, 0), (669, 98, 0, 581, 0), (677, 101, 0, 645, 0), (620, 104, 0, 2469, 0), (637, 107, 0, 2501, 0), (157, 110, 10, 519, 0), (624, 113, 0, 2370, 0), (151, 116, 10, 517, 0), (625, 120, 0, 453, 0), (642, 123, 0, 2535, 0), (154, 127, 10, 518, 0), (629, 130, 0, 293, 0), (633, 134, 0, 325, 0), (650, 137, 0, 485, 0), (654, 140, 0, 551, 0)]
theorem ur_LC_X1_0 : ur_LP_X1_0.all (fun z => ur_ckL ur_GN 267 RX1 z.1 z.2) = true := by decide +kernel
def ur_LP_X1_1 : List (Nat × ur_L4) := [(658, 143, 0, 165, 0), (673, 146, 0, 618, 0), (681, 150, 0, 713, 0)]
theorem ur_LC_X1_1 : ur_LP_X1_1.all (fun z => ur_ckL ur_GN 267 RX1 z.1 z.2) = true := by decide +kernel
def ur_LP_X1 : List (Nat × ur_L4) := ur_LP_X1_0 ++ ur_LP_X1_1
def ur_L_X1 : List ur_L4 := ur_LP_X1.map (fun z => z.2)
theorem ur_LO_X1 : ∀ q ∈ ur_L_X1, ur_PL ur_GN RX1 q := by
  intro q hq
  obtain ⟨z, hz, rfl⟩ := List.mem_map.mp hq
  refine ur_ckL_t ur_allM (pos := z.1) ?_
  have h : ur_LP_X1.all (fun z => ur_ckL ur_GN 267 RX1 z.1 z.2) = true := by
    unfold ur_LP_X1
    simp only [List.all_append, ur_LC_X1_0, ur_LC_X1_1, Bool.and_self]
  exact List.all_eq_true.mp h z hz
def ur_LP_X2_0 : List (Nat × ur_L4) := [(187, 3, 6, 0, 0), (188, 9, 10, 128, 0), (189, 15, 10, 129, 0), (685, 18, 0, 775, 0), (697, 22, 0, 713, 0), (144, 26, 10, 516, 0), (702, 32, 1, 739, 0), (692, 36, 0, 2370, 0), (698, 39, 0, 836, 0), (152, 43, 10, 518, 0), (0, 46, 19, 2, 0), (148, 48, 10, 517, 0), (690, 52, 1, 4389, 0), (691, 56, 0, 2469, 0), (693, 60, 0, 807, 0), (190, 63, 10, 130, 0), (192, 66, 10, 131, 0), (831, 69, 0, 964, 0), (835, 72, 0, 995, 0), (839, 76, 0, 900, 0), (843, 79, 1, 935, 0)]
theorem ur_LC_X2_0 : ur_LP_X2_0.all (fun z => ur_ckL ur_GN 267 RX2 z.1 z.2) = true := by decide +kernel
def ur_LP_X2 : List (Nat × ur_L4) := ur_LP_X2_0
def ur_L_X2 : List ur_L4 := ur_LP_X2.map (fun z => z.2)
theorem ur_LO_X2 : ∀ q ∈ ur_L_X2, ur_PL ur_GN RX2 q := by
  intro q hq
  obtain ⟨z, hz, rfl⟩ := List.mem_map.mp hq
  refine ur_ckL_t ur_allM (pos := z.1) ?_
  have h : ur_LP_X2.all (fun z => ur_ckL ur_GN 267 RX2 z.1 z.2) = true := by
    unfold ur_LP_X2
    simp only [List.all_append, ur_LC_X2_0, Bool.and_self]
  exact List.all_eq_true.mp h z hz
def ur_LP_X3_0 : List (Nat × ur_L4) := [(357, 3, 6, 0, 0), (358, 9, 10, 192, 0), (359, 15, 10, 193, 0), (361, 18, 10, 194, 0), (302, 21, 10, 327, 0), (1033, 27, 0, 1479, 0), (229, 31, 10, 76, 0), (1034, 36, 0, 1349, 0), (1035, 40, 0, 1607, 0), (1036, 44, 0, 1707, 0), (1037, 48, 1, 8099, 0), (362, 54, 10, 195, 0), (1038, 57, 11, 0, 2147483647), (364, 58, 10, 196, 0), (1039, 61, 0, 1098, 0), (1043, 65, 0, 1124, 0), (1048, 69, 1, 4357, 0), (1047, 73, 5, 0, 0)]
theorem ur_LC_X3_0 : ur_LP_X3_0.all (fun z => ur_ckL ur_GN 267 RX3 z.1 z.2) = true := by decide +kernel
def ur_LP_X3 : List (Nat × ur_L4) := ur_LP_X3_0
def ur_L_X3 : List ur_L4 := ur_LP_X3.map (fun z => z.2)
theorem ur_LO_X3 : ∀ q ∈ ur_L_X3, ur_PL ur_GN RX3 q := by
  intro q hq
  obtain ⟨z, hz, rfl⟩ := List.mem_map.mp hq
  refine ur_ckL_t ur_allM (pos := z.1) ?_
  have h : ur_LP_X3.all (fun z => ur_ckL ur_GN 267 RX3 z.1 z.2) = true := by
    unfold ur_LP_X3
    simp only [List.all_append, ur_LC_X3_0, Bool.and_self]
  exact List.all_eq_true.mp h z hz
def ur_LP_X4_0 : List (Nat × ur_L4) := [(392, 1, 6, 0, 0), (393, 7, 13, 5, 0), (394, 9, 3, 1250, 0), (399, 10, 10, 256, 0), (395, 16, 13, 6, 0), (396, 18, 3, 1986, 0), (400, 19, 10, 257, 0), (397, 23, 13, 7, 0), (398, 25, 3, 2178, 0), (401, 26, 10, 258, 0), (1125, 30, 0, 1316, 0), (1126, 34, 0, 2020, 0), (1131, 37, 0, 2244, 0), (402, 40, 10, 259, 0)]
theorem ur_LC_X4_0 : ur_LP_X4_0.all (fun z => ur_ckL ur_GN 267 RX4 z.1 z.2) = true := by decide +kernel
def ur_LP_X4 : List (Nat × ur_L4) := ur_LP_X4_0
def ur_L_X4 : List ur_L4 := ur_LP_X4.map (fun z => z.2)
theorem ur_LO_X4 : ∀ q ∈ ur_L_X4, ur_PL ur_GN RX4 q := by
  intro q hq
  obtain ⟨z, hz, rfl⟩ := List.mem_map.mp hq
  refine ur_ckL_t ur_allM (pos := z.1) ?_
  have h : ur_LP_X4.all (fun z => ur_ckL ur_GN 267 RX4 z.1 z.2) = true := by
    unfold ur_LP_X4
    simp only [List.all_append, ur_LC_X4_0, Bool.and_self]
  exact List.all_eq_true.mp h z hz
def ur_LP_X5_0 : List (Nat × ur_L4) := [(288, 3, 6, 0, 0), (289, 9, 10, 320, 0), (291, 15, 10, 321, 0), (293, 18, 10, 322, 0), (294, 21, 10, 323, 0), (296, 24, 10, 324, 0), (219, 27, 10, 70, 0), (713, 32, 5, 0, 0), (716, 38, 1, 8484, 0), (298, 44, 10, 325, 0), (300, 48, 10, 326, 0), (303, 51, 10, 327, 0), (305, 54, 10, 328, 0), (231, 57, 10, 76, 0), (777, 60, 0, 1349, 0), (813, 64, 0, 1447, 0), (814, 68, 1, 8067, 0), (775, 74, 0, 133, 0), (776, 77, 0, 101, 0), (210, 80, 10, 66, 0), (781, 83, 1, 4357, 0), (771, 87, 0, 1513, 0), (782, 91, 0, 165, 0), (796, 94, 0, 1545, 0), (214, 97, 10, 68, 0), (217, 100, 10, 69, 0), (805, 103, 0, 1607, 0), (809, 107, 0, 1479, 0), (822, 110, 0, 1641, 0), (823, 113, 0, 1707, 0), (221, 117, 10, 71, 0), (207, 121, 10, 65, 0), (827, 124, 0, 875, 0), (846, 130, 8, 0, 0), (847, 135, 7, 0, 0), (860, 138, 0, 1735, 0), (869, 141, 0, 195, 0), (873, 145, 0, 263, 0), (885, 148, 0, 1799, 0), (886, 151, 1, 8099, 0)]
theorem ur_LC_X5_0 : ur_LP_X5_0.all (fun z => ur_ckL ur_GN 267 RX5 z.1 z.2) = true := by decide +kernel
def ur_LP_X5_1 : List (Nat × ur_L4) := [(900, 154, 0, 1895, 0), (904, 157, 0, 1927, 0), (920, 160, 0, 1577, 0), (921, 163, 0, 1673, 0), (922, 167, 0, 1767, 0), (923, 170, 0, 1831, 0), (924, 173, 0, 1861, 0)]
theorem ur_LC_X5_1 : ur_LP_X5_1.all (fun z => ur_ckL ur_GN 267 RX5 z.1 z.2) = true := by decide +kernel
def ur_LP_X5 : List (Nat × ur_L4) := ur_LP_X5_0 ++ ur_LP_X5_1
def ur_L_X5 : List ur_L4 := ur_LP_X5.map (fun z => z.2)
theorem ur_LO_X5 : ∀ q ∈ ur_L_X5, ur_PL ur_GN RX5 q := by
  intro q hq
  obtain ⟨z, hz, rfl⟩ := List.mem_map.mp hq
  refine ur_ckL_t ur_allM (pos := z.1) ?_
  have h : ur_LP_X5.all (fun z => ur_ckL ur_GN 267 RX5 z.1 z.2) = true := by
    unfold ur_LP_X5
    simp only [List.all_append, ur_LC_X5_0, ur_LC_X5_1, Bool.and_self]
  exact List.all_eq_true.mp h z hz
def ur_LP_X6_0 : List (Nat × ur_L4) := [(265, 3, 6, 0, 0), (266, 9, 10, 384, 0), (268, 15, 10, 385, 0), (270, 18, 10, 386, 0), (272, 21, 10, 387, 0), (1130, 25, 5, 0, 0), (726, 31, 0, 2338, 0), (145, 36, 10, 516, 0), (727, 39, 0, 2087, 0), (156, 43, 10, 519, 0), (731, 46, 0, 2469, 0), (732, 50, 0, 2370, 0), (733, 53, 0, 2119, 0), (738, 56, 0, 2151, 0), (744, 59, 0, 2501, 0), (150, 62, 10, 517, 0), (737, 66, 0, 325, 0), (742, 72, 0, 485, 0), (743, 76, 0, 293, 0)]
theorem ur_LC_X6_0 : ur_LP_X6_0.all (fun z => ur_ckL ur_GN 267 RX6 z.1 z.2) = true := by decide +kernel
def ur_LP_X6 : List (Nat × ur_L4) := ur_LP_X6_0
def ur_L_X6 : List ur_L4 := ur_LP_X6.map (fun z => z.2)
theorem ur_LO_X6 : ∀ q ∈ ur_L_X6, ur_PL ur_GN RX6 q := by
  intro q hq
  obtain ⟨z, hz, rfl⟩ := List.mem_map.mp hq
  refine ur_ckL_t ur_allM (pos := z.1) ?_
  have h : ur_LP_X6.all (fun z => ur_ckL ur_GN 267 RX6 z.1 z.2) = true := by
    unfold ur_LP_X6
    simp only [List.all_append, ur_LC_X6_0, Bool.and_self]
  exact List.all_eq_true.mp h z hz
def ur_LP_X7_0 : List (Nat × ur_L4) := [(331, 3, 6, 0, 0), (332, 9, 10, 448, 0), (334, 15, 10, 449, 0), (338, 18, 10, 451, 0), (336, 22, 10, 450, 0), (1135, 25, 5, 0, 0)]
theorem ur_LC_X7_0 : ur_LP_X7_0.all (fun z => ur_ckL ur_GN 267 RX7 z.1 z.2) = true := by decide +kernel
def ur_LP_X7 : List (Nat × ur_L4) := ur_LP_X7_0
def ur_L_X7 : List ur_L4 := ur_LP_X7.map (fun z => z.2)
theorem ur_LO_X7 : ∀ q ∈ ur_L_X7, ur_PL ur_GN RX7 q := by
  intro q hq
  obtain ⟨z, hz, rfl⟩ := List.mem_map.mp hq
  refine ur_ckL_t ur_allM (pos := z.1) ?_
  have h : ur_LP_X7.all (fun z => ur_ckL ur_GN 267 RX7 z.1 z.2) = true := by
    unfold ur_LP_X7
    simp only [List.all_append, ur_LC_X7_0, Bool.and_self]
  exact List.all_eq_true.mp h z hz
def ur_LP_X8_0 : List (Nat × ur_L4) := [(138, 3, 6, 0, 0), (139, 9, 10, 512, 0), (141, 15, 10, 513, 0), (142, 19, 10, 514, 0), (155, 22, 10, 519, 0), (490, 25, 0, 2370, 0), (143, 28, 10, 515, 0), (146, 31, 10, 516, 0), (494, 34, 0, 2402, 0), (552, 37, 0, 2434, 0), (0, 40, 19, 1, 0), (557, 42, 0, 8197, 0), (149, 48, 10, 517, 0), (498, 52, 12, 32, 0), (0, 54, 19, 0, 0), (500, 56, 1, 4389, 0), (153, 60, 10, 518, 0), (641, 63, 0, 2469, 0)]
theorem ur_LC_X8_0 : ur_LP_X8_0.all (fun z => ur_ckL ur_GN 267 RX8 z.1 z.2) = true := by decide +kernel
def ur_LP_X8 : List (Nat × ur_L4) := ur_LP_X8_0
def ur_L_X8 : List ur_L4 := ur_LP_X8.map (fun z => z.2)
theorem ur_LO_X8 : ∀ q ∈ ur_L_X8, ur_PL ur_GN RX8 q := by
  intro q hq
  obtain ⟨z, hz, rfl⟩ := List.mem_map.mp hq
  refine ur_ckL_t ur_allM (pos := z.1) ?_
  have h : ur_LP_X8.all (fun z => ur_ckL ur_GN 267 RX8 z.1 z.2) = true := by
    unfold ur_LP_X8
    simp only [List.all_append, ur_LC_X8_0, Bool.and_self]
  exact List.all_eq_true.mp h z hz
def ur_LP_X9_0 : List (Nat × ur_L4) := [(130, 3, 6, 0, 0), (133, 9, 13, 8, 0), (135, 11, 3, 2274, 0), (413, 12, 10, 576, 0), (176, 16, 13, 1, 0), (178, 18, 3, 66, 0), (414, 19, 10, 577, 0), (415, 23, 10, 578, 0), (260, 26, 13, 6, 0), (262, 28, 3, 1986, 0), (416, 29, 10, 579, 0), (417, 33, 10, 580, 0), (283, 36, 13, 5, 0), (285, 38, 3, 1250, 0), (418, 39, 10, 581, 0), (419, 43, 10, 582, 0), (326, 46, 13, 7, 0), (328, 48, 3, 2178, 0), (420, 49, 10, 583, 0), (283, 36, 14, 4, 0), (421, 53, 10, 584, 0), (350, 57, 14, 5, 0), (424, 59, 10, 587, 0), (352, 63, 13, 3, 0), (354, 65, 3, 1026, 0), (425, 66, 10, 588, 0), (377, 70, 13, 0, 0), (379, 72, 3, 2, 0), (426, 73, 10, 589, 0), (427, 77, 10, 590, 0), (350, 57, 13, 4, 0), (389, 81, 3, 1154, 0), (463, 82, 0, 2628, 0), (140, 86, 10, 513, 0), (467, 90, 0, 2308, 0), (475, 94, 0, 389, 0), (705, 98, 0, 2690, 0), (709, 101, 0, 1284, 0), (273, 105, 10, 387, 0), (339, 108, 10, 451, 0)]
theorem ur_LC_X9_0 : ur_LP_X9_0.all (fun z => ur_ckL ur_GN 267 RX9 z.1 z.2) = true := by decide +kernel
def ur_LP_X9_1 : List (Nat × ur_L4) := [(423, 109, 10, 586, 0), (403, 112, 10, 259, 0), (722, 116, 0, 2055, 0), (749, 119, 0, 101, 0), (224, 123, 10, 73, 0), (750, 126, 1, 4357, 0), (206, 130, 10, 65, 0), (209, 133, 10, 66, 0), (301, 136, 10, 326, 0), (751, 139, 0, 1447, 0), (759, 143, 0, 133, 0), (213, 146, 10, 68, 0), (216, 149, 10, 69, 0), (290, 152, 10, 320, 0), (292, 155, 10, 321, 0), (295, 158, 10, 323, 0), (299, 161, 10, 325, 0), (767, 164, 0, 1545, 0), (783, 168, 0, 2978, 0), (792, 171, 0, 1577, 0), (801, 174, 0, 1641, 0), (818, 177, 0, 1673, 0), (852, 181, 0, 1735, 0), (856, 185, 0, 1767, 0), (865, 188, 0, 1799, 0), (881, 191, 0, 1831, 0), (896, 194, 0, 1861, 0), (422, 198, 10, 585, 0), (787, 201, 0, 1316, 0), (791, 205, 8, 0, 0), (267, 210, 10, 384, 0), (269, 213, 10, 385, 0), (271, 216, 10, 386, 0), (916, 219, 0, 1963, 0), (304, 223, 10, 327, 0), (925, 226, 0, 1413, 0), (933, 229, 0, 165, 0), (934, 232, 0, 1479, 0), (939, 235, 0, 3141, 0), (951, 239, 0, 1349, 0)]
theorem ur_LC_X9_1 : ur_LP_X9_1.all (fun z => ur_ckL ur_GN 267 RX9 z.1 z.2) = true := by decide +kernel
def ur_LP_X9_2 : List (Nat × ur_L4) := [(956, 242, 0, 1381, 0), (964, 245, 0, 3301, 0), (226, 248, 10, 74, 0), (972, 251, 0, 3365, 0), (980, 254, 0, 1707, 0), (993, 258, 0, 195, 0), (989, 262, 0, 3427, 0), (985, 265, 0, 3461, 0), (994, 268, 0, 263, 0), (999, 271, 0, 229, 0), (1008, 274, 0, 3623, 0), (1012, 278, 1, 8035, 0), (1019, 283, 1, 8099, 0), (1028, 286, 0, 3109, 0), (1029, 289, 0, 1066, 0), (365, 293, 10, 196, 0), (363, 296, 10, 195, 0), (360, 297, 10, 193, 0), (232, 300, 10, 76, 0), (297, 303, 10, 324, 0), (1065, 306, 0, 3879, 0), (1069, 309, 1, 8484, 0), (1070, 315, 7, 0, 0), (1079, 318, 0, 2217, 0), (333, 321, 10, 448, 0), (335, 322, 10, 449, 0), (1087, 325, 0, 3911, 0), (337, 328, 10, 450, 0), (1095, 331, 0, 4003, 0), (1100, 334, 11, 0, 1000000), (1152, 335, 1, 4131, 0), (1216, 341, 1, 4169, 0), (1219, 345, 1, 4203, 0), (384, 349, 10, 0, 0), (1105, 353, 0, 4258, 0), (1109, 356, 0, 37, 0), (1121, 359, 0, 1192, 0), (1136, 363, 0, 1224, 0), (228, 366, 10, 75, 0), (306, 369, 10, 328, 0)]
theorem ur_LC_X9_2 : ur_LP_X9_2.all (fun z => ur_ckL ur_GN 267 RX9 z.1 z.2) = true := by decide +kernel
def ur_LP_X9_3 : List (Nat × ur_L4) := [(503, 372, 0, 8131, 0), (513, 376, 0, 8165, 0), (551, 380, 12, 32, 0)]
theorem ur_LC_X9_3 : ur_LP_X9_3.all (fun z => ur_ckL ur_GN 267 RX9 z.1 z.2) = true := by decide +kernel
def ur_LP_X9 : List (Nat × ur_L4) := ur_LP_X9_0 ++ ur_LP_X9_1 ++ ur_LP_X9_2 ++ ur_LP_X9_3
def ur_L_X9 : List ur_L4 := ur_LP_X9.map (fun z => z.2)
theorem ur_LO_X9 : ∀ q ∈ ur_L_X9, ur_PL ur_GN RX9 q := by
  intro q hq
  obtain ⟨z, hz, rfl⟩ := List.mem_map.mp hq
  refine ur_ckL_t ur_allM (pos := z.1) ?_
  have h : ur_LP_X9.all (fun z => ur_ckL ur_GN 267 RX9 z.1 z.2) = true := by
    unfold ur_LP_X9
    simp only [List.all_append, ur_LC_X9_0, ur_LC_X9_1, ur_LC_X9_2, ur_LC_X9_3, Bool.and_self]
  exact List.all_eq_true.mp h z hz
def ur_LP_X10_0 : List (Nat × ur_L4) := [(1227, 1, 6, 0, 0), (1234, 7, 10, 642, 0), (1242, 13, 10, 650, 0), (1243, 16, 10, 651, 0), (1244, 20, 10, 652, 0), (1245, 23, 10, 653, 0), (1246, 26, 10, 654, 0), (1247, 29, 10, 655, 0), (1248, 32, 10, 656, 0), (1249, 35, 10, 657, 0), (1250, 38, 10, 658, 0), (1251, 41, 10, 659, 0), (1252, 44, 10, 660, 0), (1254, 47, 10, 662, 0), (1255, 50, 10, 663, 0), (1256, 54, 10, 664, 0), (1257, 57, 10, 665, 0), (1258, 60, 10, 666, 0), (1259, 63, 10, 667, 0), (1260, 66, 10, 668, 0), (1261, 69, 10, 669, 0), (1262, 72, 10, 670, 0), (1263, 75, 10, 671, 0), (1264, 78, 10, 672, 0), (1265, 81, 10, 673, 0), (1268, 84, 10, 676, 0), (1269, 87, 10, 677, 0), (1270, 90, 10, 678, 0), (1271, 93, 10, 679, 0), (1272, 96, 10, 680, 0), (1273, 99, 10, 681, 0), (1274, 102, 10, 682, 0), (1275, 105, 10, 683, 0), (1276, 108, 10, 684, 0), (1277, 111, 10, 685, 0), (1278, 114, 10, 686, 0), (1279, 117, 10, 687, 0), (1280, 120, 10, 688, 0), (1281, 123, 10, 689, 0), (1283, 126, 10, 691, 0)]
theorem ur_LC_X10_0 : ur_LP_X10_0.all (fun z => ur_ckL ur_GN 267 RX10 z.1 z.2) = true := by decide +kernel
def ur_LP_X10_1 : List (Nat × ur_L4) := [(1284, 129, 10, 692, 0), (1286, 132, 10, 694, 0), (1287, 135, 10, 695, 0), (1228, 138, 0, 5634, 0), (1232, 141, 10, 640, 0), (1413, 145, 12, 255, 0), (1233, 147, 10, 641, 0), (1235, 150, 10, 643, 0), (1236, 153, 10, 644, 0), (1237, 156, 10, 645, 0), (1239, 159, 10, 647, 0), (1240, 163, 10, 648, 0), (1238, 166, 10, 646, 0), (1430, 169, 0, 4613, 0), (1434, 173, 12, 27, 0), (1435, 175, 12, 96, 0), (1241, 177, 10, 649, 0), (1253, 180, 10, 661, 0), (1523, 183, 12, 271277, 0), (1524, 185, 12, 10815598, 0), (1525, 187, 12, 13385674, 0), (1526, 189, 12, 286624, 0), (1519, 191, 0, 4803, 0), (1473, 195, 12, 10631, 0), (1437, 197, 0, 4677, 0), (1495, 201, 0, 4709, 0), (1445, 205, 0, 4741, 0), (1527, 208, 0, 4772, 0), (1426, 212, 0, 4642, 0), (1474, 215, 12, 1111, 0), (1475, 217, 12, 423, 0), (1632, 219, 0, 4900, 0), (1628, 222, 0, 4868, 0), (1636, 225, 0, 4932, 0), (1436, 228, 12, 365647, 0), (1457, 230, 12, 309142174, 0), (1458, 232, 12, 4555648, 0), (1459, 234, 12, 90090, 0), (1460, 236, 12, 232608281, 0), (1461, 238, 12, 923, 0)]
theorem ur_LC_X10_1 : ur_LP_X10_1.all (fun z => ur_ckL ur_GN 267 RX10 z.1 z.2) = true := by decide +kernel
def ur_LP_X10_2 : List (Nat × ur_L4) := [(1462, 240, 12, 257, 0), (1463, 242, 12, 10492462, 0), (1464, 244, 12, 453773, 0), (1465, 246, 12, 380237, 0), (1466, 248, 12, 10415990, 0), (1467, 250, 12, 55175, 0), (1468, 252, 12, 191610176, 0), (1469, 254, 12, 4137608, 0), (1470, 256, 12, 459437, 0), (1471, 258, 12, 1758676, 0), (1472, 260, 12, 287991491, 0), (1488, 262, 1, 4487, 0), (1266, 266, 10, 674, 0), (1453, 269, 0, 4995, 0), (1476, 273, 0, 5029, 0), (1480, 276, 0, 5061, 0), (1267, 279, 10, 675, 0), (1449, 282, 0, 5155, 0), (1484, 285, 0, 5097, 0), (1491, 289, 0, 5123, 0), (1503, 292, 0, 5189, 0), (1515, 295, 0, 4835, 0), (1422, 298, 0, 5346, 0), (1441, 301, 0, 5221, 0), (1499, 305, 0, 5251, 0), (1507, 308, 0, 5283, 0), (1511, 311, 0, 5315, 0), (1535, 314, 1, 5412, 0), (1538, 318, 1, 5444, 0), (1418, 322, 0, 5379, 0), (1531, 325, 0, 5474, 0), (1282, 328, 10, 690, 0), (1545, 331, 0, 5539, 0), (1549, 334, 0, 5574, 0), (1557, 338, 0, 5733, 0), (1589, 341, 0, 5827, 0), (1585, 344, 0, 5859, 0), (1581, 347, 0, 5925, 0), (1624, 350, 0, 4965, 0), (1640, 353, 1, 4519, 0)]
theorem ur_LC_X10_2 : ur_LP_X10_2.all (fun z => ur_ckL ur_GN 267 RX10 z.1 z.2) = true := by decide +kernel
def ur_LP_X10_3 : List (Nat × ur_L4) := [(1608, 357, 0, 6085, 0), (1612, 360, 0, 5957, 0), (1620, 363, 0, 6057, 0), (1561, 366, 0, 6021, 0), (1671, 369, 0, 6311, 0), (1663, 373, 0, 5893, 0), (1686, 376, 1, 6371, 0), (1569, 379, 0, 5765, 0), (1597, 382, 1, 5512, 0), (1577, 386, 0, 6181, 0), (1593, 389, 0, 6498, 0), (1604, 392, 0, 6119, 0), (1616, 396, 0, 6151, 0), (1647, 399, 0, 6213, 0), (1651, 402, 0, 6244, 0), (1659, 405, 0, 6341, 0), (1667, 408, 0, 6277, 0), (1675, 411, 1, 4547, 0), (1682, 414, 0, 6403, 0), (1697, 417, 0, 6757, 0), (1701, 420, 0, 6723, 0), (1709, 423, 0, 5797, 0), (1717, 426, 0, 6853, 0), (1733, 429, 0, 5987, 0), (1741, 432, 0, 7013, 0), (1769, 435, 0, 7237, 0), (1781, 438, 0, 7333, 0), (1285, 441, 10, 693, 0), (1793, 444, 0, 7438, 0), (1821, 448, 0, 7618, 0), (1825, 451, 0, 7685, 0), (1833, 454, 0, 7715, 0), (1834, 457, 7, 0, 0), (1839, 462, 12, 10, 0), (1840, 464, 12, 1000000, 0), (1845, 466, 1, 7819, 0), (1288, 470, 10, 696, 0), (1860, 473, 12, 1103515245, 0), (1861, 475, 12, 12345, 0), (1862, 477, 12, 2147483648, 0)]
theorem ur_LC_X10_3 : ur_LP_X10_3.all (fun z => ur_ckL ur_GN 267 RX10 z.1 z.2) = true := by decide +kernel
def ur_LP_X10_4 : List (Nat × ur_L4) := [(1863, 479, 12, 65536, 0), (1856, 481, 0, 7877, 0), (1852, 484, 0, 7906, 0), (1868, 487, 0, 5606, 0)]
theorem ur_LC_X10_4 : ur_LP_X10_4.all (fun z => ur_ckL ur_GN 267 RX10 z.1 z.2) = true := by decide +kernel
def ur_LP_X10 : List (Nat × ur_L4) := ur_LP_X10_0 ++ ur_LP_X10_1 ++ ur_LP_X10_2 ++ ur_LP_X10_3 ++ ur_LP_X10_4
def ur_L_X10 : List ur_L4 := ur_LP_X10.map (fun z => z.2)
theorem ur_LO_X10 : ∀ q ∈ ur_L_X10, ur_PL ur_GN RX10 q := by
  intro q hq
  obtain ⟨z, hz, rfl⟩ := List.mem_map.mp hq
  refine ur_ckL_t ur_allM (pos := z.1) ?_
  have h : ur_LP_X10.all (fun z => ur_ckL ur_GN 267 RX10 z.1 z.2) = true := by
    unfold ur_LP_X10
    simp only [List.all_append, ur_LC_X10_0, ur_LC_X10_1, ur_LC_X10_2, ur_LC_X10_3, ur_LC_X10_4, Bool.and_self]
  exact List.all_eq_true.mp h z hz
def ur_LP_J6_0 : List (Nat × ur_L4) := [(817, 264, 11, 0, 65536), (889, 265, 11, 0, 1431655765), (890, 266, 11, 0, 858993459), (891, 267, 11, 0, 252645135)]
theorem ur_LC_J6_0 : ur_LP_J6_0.all (fun z => ur_ckL ur_GN 267 RJ6 z.1 z.2) = true := by decide +kernel
def ur_LP_J6 : List (Nat × ur_L4) := ur_LP_J6_0
def ur_L_J6 : List ur_L4 := ur_LP_J6.map (fun z => z.2)
theorem ur_LO_J6 : ∀ q ∈ ur_L_J6, ur_PL ur_GN RJ6 q := by
  intro q hq
  obtain ⟨z, hz, rfl⟩ := List.mem_map.mp hq
  refine ur_ckL_t ur_allM (pos := z.1) ?_
  have h : ur_LP_J6.all (fun z => ur_ckL ur_GN 267 RJ6 z.1 z.2) = true := by
    unfold ur_LP_J6
    simp only [List.all_append, ur_LC_J6_0, Bool.and_self]
  exact List.all_eq_true.mp h z hz
def ur_LP_J0_0 : List (Nat × ur_L4) := [(1892, 9, 15, 0, 0), (507, 335, 0, 8259, 0), (517, 492, 0, 8291, 0), (521, 495, 1, 8357, 0), (561, 633, 0, 8231, 0), (565, 505, 0, 8131, 0), (566, 637, 1, 8425, 0), (511, 38, 17, 0, 0), (1893, 15, 16, 0, 0), (527, 1053, 18, 0, 0), (529, 1059, 1, 8519, 0)]
theorem ur_LC_J0_0 : ur_LP_J0_0.all (fun z => ur_ckL ur_GN 267 RJ0 z.1 z.2) = true := by decide +kernel
def ur_LP_J0 : List (Nat × ur_L4) := ur_LP_J0_0
def ur_L_J0 : List ur_L4 := ur_LP_J0.map (fun z => z.2)
theorem ur_LO_J0 : ∀ q ∈ ur_L_J0, ur_PL ur_GN RJ0 q := by
  intro q hq
  obtain ⟨z, hz, rfl⟩ := List.mem_map.mp hq
  refine ur_ckL_t ur_allM (pos := z.1) ?_
  have h : ur_LP_J0.all (fun z => ur_ckL ur_GN 267 RJ0 z.1 z.2) = true := by
    unfold ur_LP_J0
    simp only [List.all_append, ur_LC_J0_0, Bool.and_self]
  exact List.all_eq_true.mp h z hz
def ur_LP_J1_0 : List (Nat × ur_L4) := [(524, 9, 1, 8324, 0), (569, 88, 1, 8387, 0), (572, 92, 7, 0, 0), (575, 38, 8, 0, 0), (578, 95, 1, 8457, 0)]
theorem ur_LC_J1_0 : ur_LP_J1_0.all (fun z => ur_ckL ur_GN 267 RJ1 z.1 z.2) = true := by decide +kernel
def ur_LP_J1 : List (Nat × ur_L4) := ur_LP_J1_0
def ur_L_J1 : List ur_L4 := ur_LP_J1.map (fun z => z.2)
theorem ur_LO_J1 : ∀ q ∈ ur_L_J1, ur_PL ur_GN RJ1 q := by
  intro q hq
  obtain ⟨z, hz, rfl⟩ := List.mem_map.mp hq
  refine ur_ckL_t ur_allM (pos := z.1) ?_
  have h : ur_LP_J1.all (fun z => ur_ckL ur_GN 267 RJ1 z.1 z.2) = true := by
    unfold ur_LP_J1
    simp only [List.all_append, ur_LC_J1_0, Bool.and_self]
  exact List.all_eq_true.mp h z hz
theorem ur_w0 : ur_W0 := ⟨⟨ur_wp_t (pos := 715) (by decide +kernel), ur_wp_t (pos := 714) (by decide +kernel), ur_wp_t (pos := 119) (by decide +kernel)⟩, ⟨ur_wp_t (pos := 131) (by decide +kernel), ur_wp_t (pos := 132) (by decide +kernel)⟩, ur_wp_t (pos := 203) (by decide +kernel), ur_wp_t (pos := 202) (by decide +kernel), ur_wp_t (pos := 1404) (by decide +kernel), ur_wp_t (pos := 175) (by decide +kernel), ur_wp_t (pos := 573) (by decide +kernel), ur_wp_t (pos := 117) (by decide +kernel), ur_wp_t (pos := 574) (by decide +kernel), ur_wp_t (pos := 576) (by decide +kernel), ur_wp_t (pos := 577) (by decide +kernel)⟩
