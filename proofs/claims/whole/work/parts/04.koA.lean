set_option maxRecDepth 100000 in
theorem vm_ko_J_compare : vm_KO k_J_compare prog_11_method_40_code "java/lang/Integer" false (some .int) := vm_KO_of [] (by decide +kernel) (by decide +kernel) (by decide +kernel) (by decide +kernel)
set_option maxRecDepth 100000 in
theorem vm_ko_J_bitCount : vm_KO k_J_bitCount prog_11_method_49_code "java/lang/Integer" false (some .int) := vm_KO_of [561, 562, 562, 563] (by decide +kernel) (by decide +kernel) (by decide +kernel) (by decide +kernel)
set_option maxRecDepth 100000 in
theorem vm_ko_SY_soundAt : vm_KO k_SY_soundAt prog_4_method_2_code "GateSayings$Saying" false (some .int) := vm_KO_of [] (by decide +kernel) (by decide +kernel) (by decide +kernel) (by decide +kernel)
set_option maxRecDepth 100000 in
theorem vm_ko_SY_withSound : vm_KO k_SY_withSound prog_4_method_3_code "GateSayings$Saying" false (some .int) := vm_KO_of [] (by decide +kernel) (by decide +kernel) (by decide +kernel) (by decide +kernel)
set_option maxRecDepth 100000 in
theorem vm_ko_SY_gapAt : vm_KO k_SY_gapAt prog_4_method_4_code "GateSayings$Saying" false (some .int) := vm_KO_of [458, 401, 59, 402, 458, 401, 59, 402, 459, 428, 51, 429] (by decide +kernel) (by decide +kernel) (by decide +kernel) (by decide +kernel)
set_option maxRecDepth 100000 in
theorem vm_ko_SY_firstDifference : vm_KO k_SY_firstDifference prog_4_method_5_code "GateSayings$Saying" false (some .int) := vm_KO_of [455, 456, 59, 457] (by decide +kernel) (by decide +kernel) (by decide +kernel) (by decide +kernel)
set_option maxRecDepth 100000 in
theorem vm_ko_SY_widestDifference : vm_KO k_SY_widestDifference prog_4_method_6_code "GateSayings$Saying" false (some .int) := vm_KO_of [455, 456, 59, 457, 455, 456, 59, 457] (by decide +kernel) (by decide +kernel) (by decide +kernel) (by decide +kernel)
set_option maxRecDepth 100000 in
theorem vm_ko_SY_nearer : vm_KO k_SY_nearer prog_4_method_7_code "GateSayings$Saying" false (some .int) := vm_KO_of [458, 401, 59, 402, 458, 401, 59, 402, 463, 464, 62, 465, 466, 320, 59, 321] (by decide +kernel) (by decide +kernel) (by decide +kernel) (by decide +kernel)
set_option maxRecDepth 100000 in
theorem vm_ko_SY_misheard : vm_KO k_SY_misheard prog_4_method_8_code "GateSayings$Saying" false (some .int) := vm_KO_of [458, 401, 59, 402, 466, 320, 59, 321] (by decide +kernel) (by decide +kernel) (by decide +kernel) (by decide +kernel)
set_option maxRecDepth 100000 in
theorem vm_ko_TN_init : vm_KO k_TN_init prog_7_method_1_code "GateSayings$Town" true none := vm_KO_of [94, 69, 70, 138, 95, 138, 98, 138, 101, 138, 103, 138, 107] (by decide +kernel) (by decide +kernel) (by decide +kernel) (by decide +kernel)
set_option maxRecDepth 100000 in
theorem vm_ko_TN_clear : vm_KO k_TN_clear prog_7_method_2_code "GateSayings$Town" false none := vm_KO_of [109, 112, 115, 117] (by decide +kernel) (by decide +kernel) (by decide +kernel) (by decide +kernel)
set_option maxRecDepth 100000 in
theorem vm_ko_TN_copyFrom : vm_KO k_TN_copyFrom prog_7_method_3_code "GateSayings$Town" false none := vm_KO_of [95, 95, 381, 383, 382, 61, 98, 98, 381, 383, 382, 61, 101, 101, 381, 383, 382, 61, 103, 103, 381, 383, 382, 61, 107, 107, 381, 383, 382, 61, 109, 109, 112, 112, 115, 115, 117, 117] (by decide +kernel) (by decide +kernel) (by decide +kernel) (by decide +kernel)
set_option maxRecDepth 100000 in
theorem vm_ko_TN_isGate : vm_KO k_TN_isGate prog_7_method_4_code "GateSayings$Town" false (some .boolean) := vm_KO_of [109] (by decide +kernel) (by decide +kernel) (by decide +kernel) (by decide +kernel)
set_option maxRecDepth 100000 in
theorem vm_ko_TN_isPerson : vm_KO k_TN_isPerson prog_7_method_5_code "GateSayings$Town" false (some .boolean) := vm_KO_of [112] (by decide +kernel) (by decide +kernel) (by decide +kernel) (by decide +kernel)
set_option maxRecDepth 100000 in
theorem vm_ko_TN_addGate : vm_KO k_TN_addGate prog_7_method_6_code "GateSayings$Town" false (some .boolean) := vm_KO_of [109, 95, 109, 98, 109, 101, 109, 109, 109] (by decide +kernel) (by decide +kernel) (by decide +kernel) (by decide +kernel)
set_option maxRecDepth 100000 in
theorem vm_ko_TN_addPerson : vm_KO k_TN_addPerson prog_7_method_7_code "GateSayings$Town" false (some .boolean) := vm_KO_of [112, 103, 112, 107, 112, 112, 112] (by decide +kernel) (by decide +kernel) (by decide +kernel) (by decide +kernel)
set_option maxRecDepth 100000 in
theorem vm_ko_TN_weight : vm_KO k_TN_weight prog_7_method_8_code "GateSayings$Town" false (some .int) := vm_KO_of [] (by decide +kernel) (by decide +kernel) (by decide +kernel) (by decide +kernel)
set_option maxRecDepth 100000 in
theorem vm_ko_TN_distanceAt : vm_KO k_TN_distanceAt prog_7_method_9_code "GateSayings$Town" false (some .int) := vm_KO_of [424, 425, 49, 426, 101, 419, 401, 59, 402, 427, 428, 51, 429] (by decide +kernel) (by decide +kernel) (by decide +kernel) (by decide +kernel)
set_option maxRecDepth 100000 in
theorem vm_ko_TN_distance : vm_KO k_TN_distance prog_7_method_10_code "GateSayings$Town" false (some .int) := vm_KO_of [419, 401, 59, 402, 420, 421, 422, 49, 423] (by decide +kernel) (by decide +kernel) (by decide +kernel) (by decide +kernel)
set_option maxRecDepth 100000 in
theorem vm_ko_TN_admits : vm_KO k_TN_admits prog_7_method_11_code "GateSayings$Town" false (some .boolean) := vm_KO_of [95, 451, 416, 417, 49, 418, 98] (by decide +kernel) (by decide +kernel) (by decide +kernel) (by decide +kernel)
set_option maxRecDepth 100000 in
theorem vm_ko_TN_visit : vm_KO k_TN_visit prog_7_method_12_code "GateSayings$Town" false (some .boolean) := vm_KO_of [103, 101, 447, 448, 449, 49, 450, 117, 117, 115, 115, 107, 101, 452, 453, 59, 454, 460, 461, 59, 462, 103, 467, 468, 59, 469, 460, 461, 59, 462] (by decide +kernel) (by decide +kernel) (by decide +kernel) (by decide +kernel)
set_option maxRecDepth 100000 in
theorem vm_ko_TN_converse : vm_KO k_TN_converse prog_7_method_13_code "GateSayings$Town" false none := vm_KO_of [103, 103, 103, 467, 468, 59, 469, 460, 461, 59, 462] (by decide +kernel) (by decide +kernel) (by decide +kernel) (by decide +kernel)
set_option maxRecDepth 100000 in
theorem vm_ko_TN_settled : vm_KO k_TN_settled prog_7_method_14_code "GateSayings$Town" false (some .int) := vm_KO_of [112, 107] (by decide +kernel) (by decide +kernel) (by decide +kernel) (by decide +kernel)
set_option maxRecDepth 100000 in
theorem vm_ko_TN_farTogether : vm_KO k_TN_farTogether prog_7_method_15_code "GateSayings$Town" false (some .int) := vm_KO_of [109, 95, 420, 421, 422, 49, 423] (by decide +kernel) (by decide +kernel) (by decide +kernel) (by decide +kernel)
set_option maxRecDepth 100000 in
theorem vm_ko_TN_middleSound : vm_KO k_TN_middleSound prog_7_method_16_code "GateSayings$Town" false (some .int) := vm_KO_of [526, 527, 528, 49, 529, 526, 527, 528, 49, 529] (by decide +kernel) (by decide +kernel) (by decide +kernel) (by decide +kernel)
set_option maxRecDepth 100000 in
theorem vm_ko_TN_differsEverywhere : vm_KO k_TN_differsEverywhere prog_7_method_17_code "GateSayings$Town" false (some .boolean) := vm_KO_of [109, 101, 101] (by decide +kernel) (by decide +kernel) (by decide +kernel) (by decide +kernel)
set_option maxRecDepth 100000 in
theorem vm_ko_SH_init : vm_KO k_SH_init prog_6_method_1_code "GateSayings$Shelf" true none := vm_KO_of [144, 69, 70, 145, 146, 51, 147, 148, 151, 151, 151, 148, 90, 49, 92, 49, 93] (by decide +kernel) (by decide +kernel) (by decide +kernel) (by decide +kernel)
set_option maxRecDepth 100000 in
theorem vm_ko_SH_clear : vm_KO k_SH_clear prog_6_method_2_code "GateSayings$Shelf" false none := vm_KO_of [152] (by decide +kernel) (by decide +kernel) (by decide +kernel) (by decide +kernel)
set_option maxRecDepth 100000 in
theorem vm_ko_SH_put : vm_KO k_SH_put prog_6_method_3_code "GateSayings$Shelf" false none := vm_KO_of [152, 151, 438, 440, 6, 50, 441, 151, 152, 442, 378, 379, 49, 380, 152, 152] (by decide +kernel) (by decide +kernel) (by decide +kernel) (by decide +kernel)
set_option maxRecDepth 100000 in
theorem vm_ko_SH_takeInto : vm_KO k_SH_takeInto prog_6_method_4_code "GateSayings$Shelf" false (some .boolean) := vm_KO_of [152, 151, 152, 442, 378, 379, 49, 380, 152, 152] (by decide +kernel) (by decide +kernel) (by decide +kernel) (by decide +kernel)
set_option maxRecDepth 100000 in
theorem vm_ko_SH_dropOldest : vm_KO k_SH_dropOldest prog_6_method_5_code "GateSayings$Shelf" false none := vm_KO_of [151, 151, 151, 151, 151, 151, 151, 152] (by decide +kernel) (by decide +kernel) (by decide +kernel) (by decide +kernel)
set_option maxRecDepth 100000 in
theorem vm_ko_SC_init : vm_KO k_SC_init prog_5_method_1_code "GateSayings$Script" true none := vm_KO_of [76, 69, 70, 88, 77] (by decide +kernel) (by decide +kernel) (by decide +kernel) (by decide +kernel)
set_option maxRecDepth 100000 in
theorem vm_ko_SC_append : vm_KO k_SC_append prog_5_method_2_code "GateSayings$Script" false (some .boolean) := vm_KO_of [79, 77, 79, 79, 79] (by decide +kernel) (by decide +kernel) (by decide +kernel) (by decide +kernel)
set_option maxRecDepth 100000 in
theorem vm_ko_SC_readInto : vm_KO k_SC_readInto prog_5_method_3_code "GateSayings$Script" false (some .int) := vm_KO_of [292, 293, 294, 49, 295, 80, 80, 79, 80, 296, 298, 0, 48, 299, 80, 326, 328, 5, 48, 329] (by decide +kernel) (by decide +kernel) (by decide +kernel) (by decide +kernel)
set_option maxRecDepth 100000 in
theorem vm_ko_SC_readGate : vm_KO k_SC_readGate prog_5_method_4_code "GateSayings$Script" false (some .boolean) := vm_KO_of [300, 302, 1, 48, 303, 304, 306, 2, 48, 307, 313, 47, 314, 300, 302, 1, 48, 303, 304, 306, 2, 48, 307, 313, 47, 314, 300, 302, 1, 48, 303, 315, 317, 4, 48, 318, 300, 302, 1, 48, 303, 322, 323, 324, 49, 325] (by decide +kernel) (by decide +kernel) (by decide +kernel) (by decide +kernel)
set_option maxRecDepth 100000 in
theorem vm_ko_SC_readPerson : vm_KO k_SC_readPerson prog_5_method_5_code "GateSayings$Script" false (some .boolean) := vm_KO_of [300, 302, 1, 48, 303, 315, 317, 4, 48, 318, 300, 302, 1, 48, 303, 330, 331, 332, 49, 333] (by decide +kernel) (by decide +kernel) (by decide +kernel) (by decide +kernel)
set_option maxRecDepth 100000 in
theorem vm_ko_SC_takes : vm_KO k_SC_takes prog_5_method_6_code "GateSayings$Script" false (some .boolean) := vm_KO_of [80, 79, 77, 80, 80, 80] (by decide +kernel) (by decide +kernel) (by decide +kernel) (by decide +kernel)
set_option maxRecDepth 100000 in
theorem vm_ko_SC_takeFigure : vm_KO k_SC_takeFigure prog_5_method_7_code "GateSayings$Script" false (some .int) := vm_KO_of [80, 79, 77, 80, 313, 47, 314, 80, 80, 77, 80] (by decide +kernel) (by decide +kernel) (by decide +kernel) (by decide +kernel)
set_option maxRecDepth 100000 in
theorem vm_ko_SC_takeNumber : vm_KO k_SC_takeNumber prog_5_method_8_code "GateSayings$Script" false (some .int) := vm_KO_of [308, 310, 3, 48, 311, 308, 310, 3, 48, 311] (by decide +kernel) (by decide +kernel) (by decide +kernel) (by decide +kernel)
set_option maxRecDepth 100000 in
theorem vm_ko_SC_takeSaying : vm_KO k_SC_takeSaying prog_5_method_9_code "GateSayings$Script" false (some .int) := vm_KO_of [308, 310, 3, 48, 311, 313, 47, 314, 319, 320, 59, 321] (by decide +kernel) (by decide +kernel) (by decide +kernel) (by decide +kernel)
set_option maxRecDepth 100000 in
theorem vm_ko_WI_init : vm_KO k_WI_init prog_8_method_1_code "GateSayings$Witness" true none := vm_KO_of [164, 69, 70, 138, 165, 138, 166, 189, 167, 138, 168, 138, 169] (by decide +kernel) (by decide +kernel) (by decide +kernel) (by decide +kernel)
set_option maxRecDepth 100000 in
theorem vm_ko_WI_clear : vm_KO k_WI_clear prog_8_method_2_code "GateSayings$Witness" false none := vm_KO_of [170, 172] (by decide +kernel) (by decide +kernel) (by decide +kernel) (by decide +kernel)
set_option maxRecDepth 100000 in
theorem vm_ko_WI_noteSeen : vm_KO k_WI_noteSeen prog_8_method_3_code "GateSayings$Witness" false (some .boolean) := vm_KO_of [170, 165, 170, 166, 170, 167, 170, 170, 170] (by decide +kernel) (by decide +kernel) (by decide +kernel) (by decide +kernel)
set_option maxRecDepth 100000 in
theorem vm_ko_WI_noteHeard : vm_KO k_WI_noteHeard prog_8_method_4_code "GateSayings$Witness" false (some .boolean) := vm_KO_of [172, 168, 172, 169, 172, 172, 172] (by decide +kernel) (by decide +kernel) (by decide +kernel) (by decide +kernel)
set_option maxRecDepth 100000 in
theorem vm_ko_WI_fits : vm_KO k_WI_fits prog_8_method_5_code "GateSayings$Witness" false (some .boolean) := vm_KO_of [170, 165, 166, 588, 408, 409, 49, 410, 105, 589, 416, 417, 49, 418, 167] (by decide +kernel) (by decide +kernel) (by decide +kernel) (by decide +kernel)
set_option maxRecDepth 100000 in
theorem vm_ko_WI_misses : vm_KO k_WI_misses prog_8_method_6_code "GateSayings$Witness" false (some .int) := vm_KO_of [172, 168, 610, 401, 59, 402, 169] (by decide +kernel) (by decide +kernel) (by decide +kernel) (by decide +kernel)
set_option maxRecDepth 100000 in
theorem vm_ko_BS_init : vm_KO k_BS_init prog_2_method_1_code "GateSayings$BestSearch" true none := vm_KO_of [195, 69, 70, 196, 138, 198] (by decide +kernel) (by decide +kernel) (by decide +kernel) (by decide +kernel)
set_option maxRecDepth 100000 in
theorem vm_ko_BS_run : vm_KO k_BS_run prog_2_method_2_code "GateSayings$BestSearch" false none := vm_KO_of [199, 201, 505, 506, 53, 507] (by decide +kernel) (by decide +kernel) (by decide +kernel) (by decide +kernel)
set_option maxRecDepth 100000 in
theorem vm_ko_BS_descend : vm_KO k_BS_descend prog_2_method_3_code "GateSayings$BestSearch" false none := vm_KO_of [508, 510, 8, 53, 511, 199, 199, 201, 512, 514, 9, 53, 515, 517, 320, 59, 321, 505, 506, 53, 507] (by decide +kernel) (by decide +kernel) (by decide +kernel) (by decide +kernel)
set_option maxRecDepth 100000 in
theorem vm_ko_BS_spend : vm_KO k_BS_spend prog_2_method_4_code "GateSayings$BestSearch" false none := vm_KO_of [110, 198, 198, 96, 516, 421, 422, 49, 423] (by decide +kernel) (by decide +kernel) (by decide +kernel) (by decide +kernel)
set_option maxRecDepth 100000 in
theorem vm_ko_BS_inReach : vm_KO k_BS_inReach prog_2_method_5_code "GateSayings$BestSearch" false (some .int) := vm_KO_of [110, 198, 99] (by decide +kernel) (by decide +kernel) (by decide +kernel) (by decide +kernel)
set_option maxRecDepth 100000 in
theorem vm_ko_LS_init : vm_KO k_LS_init prog_3_method_1_code "GateSayings$LessonSearch" true none := vm_KO_of [215, 69, 70, 138, 216, 234, 217] (by decide +kernel) (by decide +kernel) (by decide +kernel) (by decide +kernel)
def k_LS_run_0 : List vm_E := [(0, .aload_n 0, 1, 0, 0, 0, 0), (1, .bipush (-4), 3, 0, 0, (-4), 0), (3, .putfield 21, 6, 1, 3, 0, 0), (6, .aload_n 0, 7, 0, 0, 0, 0), (7, .bipush (-4), 9, 0, 0, (-4), 0), (9, .putfield 25, 12, 1, 4, 0, 0), (12, .aload_n 0, 13, 0, 0, 0, 0), (13, .invokevirtual 28, 16, 55, 1, 0, 0), (16, .aload_n 0, 17, 0, 0, 0, 0), (17, .aload_n 1, 18, 1, 0, 0, 0), (18, .getfield 31, 21, 4, 3, 0, 0), (21, .iload_n 2, 22, 2, 0, 0, 0), (22, .iaload, 23, 0, 0, 0, 0), (23, .iconst 0, 24, 0, 0, 0, 0), (24, .invokevirtual 36, 27, 54, 3, 0, 0), (27, .iconst 0, 28, 0, 0, 0, 0), (28, .istore 4, 30, 4, 0, 0, 0), (30, .iconst 0, 31, 0, 0, 0, 0), (31, .istore 5, 33, 5, 0, 0, 0), (33, .iload 5, 35, 5, 0, 0, 0), (35, .bipush 30, 37, 0, 0, 30, 0), (37, .if_icmp .gt 124, 40, 161, 0, 0, 0), (40, .aload_n 0, 41, 0, 0, 0, 0), (41, .getfield 40, 44, 1, 2, 0, 0), (44, .istore 6, 46, 6, 0, 0, 0), (46, .iload 4, 48, 4, 0, 0, 0), (48, .istore 7, 50, 7, 0, 0, 0), (50, .iload 7, 52, 7, 0, 0, 0), (52, .iload 6, 54, 6, 0, 0, 0), (54, .if_icmp .ge 57, 57, 111, 0, 0, 0), (57, .aload_n 1, 58, 1, 0, 0, 0), (58, .aload_n 0, 59, 0, 0, 0, 0), (59, .getfield 11, 62, 1, 0, 0, 0), (62, .iload 7, 64, 7, 0, 0, 0), (64, .iaload, 65, 0, 0, 0, 0), (65, .iconst 3, 66, 0, 0, 3, 0), (66, .ishr, 67, 0, 0, 0, 0), (67, .iload_n 3, 68, 3, 0, 0, 0), (68, .invokevirtual 43, 71, 19, 3, 0, 0), (71, .ifCond .eq 34, 74, 105, 0, 0, 0)]
set_option maxRecDepth 100000 in
theorem vm_ko_LS_run_0 : vm_KO k_LS_run_0 prog_3_method_2_code "GateSayings$LessonSearch" false none := vm_KO_of [219, 221, 539, 541, 10, 54, 542, 104, 543, 545, 11, 54, 546, 218, 216, 547, 448, 449, 49, 450] (by decide +kernel) (by decide +kernel) (by decide +kernel) (by decide +kernel)
def k_LS_run_1 : List vm_E := [(74, .aload_n 0, 75, 0, 0, 0, 0), (75, .iload 5, 77, 5, 0, 0, 0), (77, .putfield 21, 80, 1, 3, 0, 0), (80, .aload_n 0, 81, 0, 0, 0, 0), (81, .iload 5, 83, 5, 0, 0, 0), (83, .ifCond .ne 8, 86, 91, 0, 0, 0), (86, .bipush (-4), 88, 0, 0, (-4), 0), (88, .goto 13, 91, 101, 0, 0, 0), (91, .aload_n 0, 92, 0, 0, 0, 0), (92, .getfield 11, 95, 1, 0, 0, 0), (95, .iload 7, 97, 7, 0, 0, 0), (97, .iaload, 98, 0, 0, 0, 0), (98, .bipush 7, 100, 0, 0, 7, 0), (100, .iand, 101, 0, 0, 0, 0), (101, .putfield 25, 104, 1, 4, 0, 0), (104, .return_, 105, 0, 0, 0, 0), (105, .iinc 7 1, 108, 7, 0, 1, 0), (108, .goto (-58), 111, 50, 0, 0, 0), (111, .iload 4, 113, 4, 0, 0, 0), (113, .istore 7, 115, 7, 0, 0, 0), (115, .iload 7, 117, 7, 0, 0, 0), (117, .iload 6, 119, 6, 0, 0, 0), (119, .if_icmp .ge 32, 122, 151, 0, 0, 0), (122, .aload_n 0, 123, 0, 0, 0, 0), (123, .aload_n 1, 124, 1, 0, 0, 0), (124, .iload_n 2, 125, 2, 0, 0, 0), (125, .aload_n 0, 126, 0, 0, 0, 0), (126, .getfield 11, 129, 1, 0, 0, 0), (129, .iload 7, 131, 7, 0, 0, 0), (131, .iaload, 132, 0, 0, 0, 0), (132, .iload 5, 134, 5, 0, 0, 0), (134, .ifCond .ne 7, 137, 141, 0, 0, 0), (137, .iconst 1, 138, 0, 0, 1, 0), (138, .goto 4, 141, 142, 0, 0, 0), (141, .iconst 0, 142, 0, 0, 0, 0), (142, .invokevirtual 47, 145, 53, 5, 0, 0), (145, .iinc 7 1, 148, 7, 0, 1, 0), (148, .goto (-33), 151, 115, 0, 0, 0), (151, .iload 6, 153, 6, 0, 0, 0), (153, .istore 4, 155, 4, 0, 0, 0)]
set_option maxRecDepth 100000 in
theorem vm_ko_LS_run_1 : vm_KO k_LS_run_1 prog_3_method_2_code "GateSayings$LessonSearch" false none := vm_KO_of [219, 216, 221, 216, 548, 550, 12, 54, 551] (by decide +kernel) (by decide +kernel) (by decide +kernel) (by decide +kernel)
def k_LS_run_2 : List vm_E := [(155, .iinc 5 1, 158, 5, 0, 1, 0), (158, .goto (-125), 161, 33, 0, 0, 0), (161, .return_, 162, 0, 0, 0, 0)]
set_option maxRecDepth 100000 in
theorem vm_ko_LS_run_2 : vm_KO k_LS_run_2 prog_3_method_2_code "GateSayings$LessonSearch" false none := vm_KO_of [] (by decide +kernel) (by decide +kernel) (by decide +kernel) (by decide +kernel)
set_option maxRecDepth 100000 in
theorem vm_ka_LS_run : k_LS_run = k_LS_run_0 ++ (k_LS_run_1 ++ (k_LS_run_2)) := rfl
theorem vm_ko_LS_run : vm_KO k_LS_run prog_3_method_2_code "GateSayings$LessonSearch" false none := by
  rw [vm_ka_LS_run]
  exact vm_KO_app vm_ko_LS_run_0 (vm_KO_app vm_ko_LS_run_1 (vm_ko_LS_run_2))
set_option maxRecDepth 100000 in
theorem vm_ko_LS_goOn : vm_KO k_LS_goOn prog_3_method_3_code "GateSayings$LessonSearch" false none := vm_KO_of [113, 104, 552, 468, 59, 469, 553, 461, 59, 462, 543, 545, 11, 54, 546] (by decide +kernel) (by decide +kernel) (by decide +kernel) (by decide +kernel)
set_option maxRecDepth 100000 in
theorem vm_ko_LS_reach : vm_KO k_LS_reach prog_3_method_4_code "GateSayings$LessonSearch" false none := vm_KO_of [217, 218, 217, 217, 216, 218, 218, 218] (by decide +kernel) (by decide +kernel) (by decide +kernel) (by decide +kernel)
set_option maxRecDepth 100000 in
theorem vm_ko_LS_forgetAll : vm_KO k_LS_forgetAll prog_3_method_5_code "GateSayings$LessonSearch" false none := vm_KO_of [218, 217, 217] (by decide +kernel) (by decide +kernel) (by decide +kernel) (by decide +kernel)
def k_G_init_0 : List vm_E := [(0, .aload_n 0, 1, 0, 0, 0, 0), (1, .invokespecial 1, 4, 903, 1, 0, 0), (4, .aload_n 0, 5, 0, 0, 0, 0), (5, .new 7, 8, 2, 3, 0, 0), (8, .dup, 9, 0, 0, 0, 0), (9, .invokespecial 9, 12, 31, 1, 0, 0), (12, .putfield 10, 15, 6, 0, 0, 0), (15, .aload_n 0, 16, 0, 0, 0, 0), (16, .new 16, 19, 4, 9, 0, 0), (19, .dup, 20, 0, 0, 0, 0), (20, .invokespecial 18, 23, 9, 1, 0, 0), (23, .putfield 19, 26, 6, 1, 0, 0), (26, .aload_n 0, 27, 0, 0, 0, 0), (27, .new 16, 30, 4, 9, 0, 0), (30, .dup, 31, 0, 0, 0, 0), (31, .invokespecial 18, 34, 9, 1, 0, 0), (34, .putfield 23, 37, 6, 2, 0, 0), (37, .aload_n 0, 38, 0, 0, 0, 0), (38, .new 26, 41, 3, 2, 0, 0), (41, .dup, 42, 0, 0, 0, 0), (42, .bipush 8, 44, 0, 0, 8, 0), (44, .invokespecial 28, 47, 26, 2, 0, 0), (47, .putfield 31, 50, 6, 3, 0, 0), (50, .aload_n 0, 51, 0, 0, 0, 0), (51, .new 26, 54, 3, 2, 0, 0), (54, .dup, 55, 0, 0, 0, 0), (55, .iconst 2, 56, 0, 0, 2, 0), (56, .invokespecial 28, 59, 26, 2, 0, 0), (59, .putfield 35, 62, 6, 4, 0, 0), (62, .aload_n 0, 63, 0, 0, 0, 0), (63, .new 38, 66, 5, 7, 0, 0), (66, .dup, 67, 0, 0, 0, 0), (67, .invokespecial 40, 70, 40, 1, 0, 0), (70, .putfield 41, 73, 6, 5, 0, 0), (73, .aload_n 0, 74, 0, 0, 0, 0), (74, .new 45, 77, 0, 3, 0, 0), (77, .dup, 78, 0, 0, 0, 0), (78, .invokespecial 47, 81, 46, 1, 0, 0), (81, .putfield 48, 84, 6, 6, 0, 0), (84, .aload_n 0, 85, 0, 0, 0, 0)]
set_option maxRecDepth 100000 in
theorem vm_ko_G_init_0 : vm_KO k_G_init_0 prog_1_method_1_code "GateSayings" true none := vm_KO_of [68, 69, 70, 71, 72, 48, 74, 48, 75, 334, 89, 90, 49, 92, 49, 93, 335, 89, 90, 49, 92, 49, 93, 336, 139, 140, 50, 141, 142, 50, 143, 337, 139, 140, 50, 141, 142, 50, 143, 338, 159, 160, 52, 162, 52, 163, 339, 190, 191, 53, 193, 53, 194, 340] (by decide +kernel) (by decide +kernel) (by decide +kernel) (by decide +kernel)
def k_G_init_1 : List vm_E := [(85, .new 52, 88, 1, 5, 0, 0), (88, .dup, 89, 0, 0, 0, 0), (89, .invokespecial 54, 92, 51, 1, 0, 0), (92, .putfield 55, 95, 6, 7, 0, 0), (95, .iconst 0, 96, 0, 0, 0, 0), (96, .istore_n 1, 97, 1, 0, 0, 0), (97, .iload_n 1, 98, 1, 0, 0, 0), (98, .ldc 59, 100, 906, 0, 0, 0), (100, .invokevirtual 61, 103, 904, 1, 0, 0), (103, .if_icmp .ge 23, 106, 126, 0, 0, 0), (106, .aload_n 0, 107, 0, 0, 0, 0), (107, .getfield 10, 110, 6, 0, 0, 0), (110, .ldc 59, 112, 906, 0, 0, 0), (112, .iload_n 1, 113, 1, 0, 0, 0), (113, .invokevirtual 67, 116, 905, 2, 0, 0), (116, .invokevirtual 71, 119, 32, 2, 0, 0), (119, .pop, 120, 0, 0, 0, 0), (120, .iinc 1 1, 123, 1, 0, 1, 0), (123, .goto (-26), 126, 97, 0, 0, 0), (126, .aload_n 0, 127, 0, 0, 0, 0), (127, .getfield 10, 130, 6, 0, 0, 0), (130, .aload_n 0, 131, 0, 0, 0, 0), (131, .getfield 19, 134, 6, 1, 0, 0), (134, .invokevirtual 75, 137, 33, 2, 0, 0), (137, .pop, 138, 0, 0, 0, 0), (138, .aload_n 0, 139, 0, 0, 0, 0), (139, .getfield 10, 142, 6, 0, 0, 0), (142, .iconst 0, 143, 0, 0, 0, 0), (143, .putfield 79, 146, 2, 1, 0, 0), (146, .return_, 147, 0, 0, 0, 0)]
set_option maxRecDepth 100000 in
theorem vm_ko_G_init_1 : vm_KO k_G_init_1 prog_1_method_1_code "GateSayings" true none := vm_KO_of [210, 211, 54, 213, 54, 214, 341, 236, 237, 238, 55, 334, 246, 247, 248, 55, 284, 285, 286, 48, 287, 334, 335, 288, 289, 290, 48, 291, 334, 78] (by decide +kernel) (by decide +kernel) (by decide +kernel) (by decide +kernel)
set_option maxRecDepth 100000 in
theorem vm_ka_G_init : k_G_init = k_G_init_0 ++ (k_G_init_1) := rfl
theorem vm_ko_G_init : vm_KO k_G_init prog_1_method_1_code "GateSayings" true none := by
  rw [vm_ka_G_init]
  exact vm_KO_app vm_ko_G_init_0 (vm_ko_G_init_1)
set_option maxRecDepth 100000 in
theorem vm_ko_G_write : vm_KO k_G_write prog_1_method_2_code "GateSayings" false (some .int) := vm_KO_of [364, 313, 47, 314, 334, 284, 285, 286, 48, 287, 334, 78] (by decide +kernel) (by decide +kernel) (by decide +kernel) (by decide +kernel)
set_option maxRecDepth 100000 in
theorem vm_ko_G_wipe : vm_KO k_G_wipe prog_1_method_3_code "GateSayings" false (some .int) := vm_KO_of [334, 78, 334, 78] (by decide +kernel) (by decide +kernel) (by decide +kernel) (by decide +kernel)
set_option maxRecDepth 100000 in
theorem vm_ko_G_fault : vm_KO k_G_fault prog_1_method_4_code "GateSayings" false (some .int) := vm_KO_of [334, 336, 288, 289, 290, 48, 291] (by decide +kernel) (by decide +kernel) (by decide +kernel) (by decide +kernel)
set_option maxRecDepth 100000 in
theorem vm_ko_G_lay : vm_KO k_G_lay prog_1_method_5_code "GateSayings" false (some .int) := vm_KO_of [334, 336, 288, 289, 290, 48, 291, 336, 111, 336, 114, 335, 336, 377, 378, 379, 49, 380, 339, 384, 385, 386, 52, 387, 337, 388, 389, 390, 50, 391, 338, 388, 389, 390, 50, 391, 335, 114] (by decide +kernel) (by decide +kernel) (by decide +kernel) (by decide +kernel)
set_option maxRecDepth 100000 in
theorem vm_ko_G_gate : vm_KO k_G_gate prog_1_method_6_code "GateSayings" false (some .int) := vm_KO_of [335, 396, 397, 398, 49, 399, 364, 313, 47, 314, 335, 97, 335, 100, 335, 102, 400, 401, 59, 402] (by decide +kernel) (by decide +kernel) (by decide +kernel) (by decide +kernel)
set_option maxRecDepth 100000 in
theorem vm_ko_G_person : vm_KO k_G_person prog_1_method_7_code "GateSayings" false (some .int) := vm_KO_of [335, 407, 408, 409, 49, 410, 364, 313, 47, 314, 335, 108, 335, 106, 400, 401, 59, 402] (by decide +kernel) (by decide +kernel) (by decide +kernel) (by decide +kernel)
set_option maxRecDepth 100000 in
theorem vm_ko_G_far : vm_KO k_G_far prog_1_method_8_code "GateSayings" false (some .int) := vm_KO_of [335, 407, 408, 409, 49, 410, 335, 396, 397, 398, 49, 399, 335, 335, 106, 335, 97, 415, 416, 417, 49, 418] (by decide +kernel) (by decide +kernel) (by decide +kernel) (by decide +kernel)
set_option maxRecDepth 100000 in
theorem vm_ko_G_ask : vm_KO k_G_ask prog_1_method_9_code "GateSayings" false (some .int) := vm_KO_of [335, 407, 408, 409, 49, 410, 335, 396, 397, 398, 49, 399, 337, 335, 434, 435, 436, 50, 437, 335, 443, 444, 445, 49, 446] (by decide +kernel) (by decide +kernel) (by decide +kernel) (by decide +kernel)
set_option maxRecDepth 100000 in
theorem vm_ko_G_talk : vm_KO k_G_talk prog_1_method_10_code "GateSayings" false (some .int) := vm_KO_of [335, 407, 408, 409, 49, 410, 335, 407, 408, 409, 49, 410, 335, 106, 474, 476, 7, 47, 477] (by decide +kernel) (by decide +kernel) (by decide +kernel) (by decide +kernel)
set_option maxRecDepth 100000 in
theorem vm_ko_G_listen : vm_KO k_G_listen prog_1_method_11_code "GateSayings" false (some .int) := vm_KO_of [335, 396, 397, 398, 49, 399, 335, 396, 397, 398, 49, 399, 335, 102, 474, 476, 7, 47, 477] (by decide +kernel) (by decide +kernel) (by decide +kernel) (by decide +kernel)
set_option maxRecDepth 100000 in
theorem vm_ko_G_undo : vm_KO k_G_undo prog_1_method_12_code "GateSayings" false (some .int) := vm_KO_of [337, 335, 488, 489, 490, 50, 491, 337, 153] (by decide +kernel) (by decide +kernel) (by decide +kernel) (by decide +kernel)
set_option maxRecDepth 100000 in
theorem vm_ko_G_opens : vm_KO k_G_opens prog_1_method_13_code "GateSayings" false (some .int) := vm_KO_of [335, 407, 408, 409, 49, 410, 335, 111, 335, 335, 106, 496, 448, 449, 49, 450] (by decide +kernel) (by decide +kernel) (by decide +kernel) (by decide +kernel)
set_option maxRecDepth 100000 in
theorem vm_ko_G_best : vm_KO k_G_best prog_1_method_14_code "GateSayings" false (some .int) := vm_KO_of [364, 313, 47, 314, 340, 335, 501, 502, 503, 53, 504, 340, 200, 340, 202, 400, 401, 59, 402] (by decide +kernel) (by decide +kernel) (by decide +kernel) (by decide +kernel)
set_option maxRecDepth 100000 in
theorem vm_ko_G_middle : vm_KO k_G_middle prog_1_method_15_code "GateSayings" false (some .int) := vm_KO_of [364, 313, 47, 314, 335, 522, 523, 524, 49, 525, 335, 335, 522, 523, 524, 49, 525, 530, 527, 528, 49, 529] (by decide +kernel) (by decide +kernel) (by decide +kernel) (by decide +kernel)
set_option maxRecDepth 100000 in
theorem vm_ko_G_lessons : vm_KO k_G_lessons prog_1_method_16_code "GateSayings" false (some .int) := vm_KO_of [335, 407, 408, 409, 49, 410, 335, 396, 397, 398, 49, 399, 364, 313, 47, 314, 341, 335, 535, 536, 537, 54, 538, 341, 220, 341, 222] (by decide +kernel) (by decide +kernel) (by decide +kernel) (by decide +kernel)
set_option maxRecDepth 100000 in
theorem vm_ko_G_apart : vm_KO k_G_apart prog_1_method_17_code "GateSayings" false (some .int) := vm_KO_of [364, 313, 47, 314, 558, 559, 62, 560, 335, 564, 565, 566, 49, 567] (by decide +kernel) (by decide +kernel) (by decide +kernel) (by decide +kernel)
def k_G_crosses_0 : List vm_E := [(0, .aload_n 0, 1, 0, 0, 0, 0), (1, .getfield 19, 4, 6, 1, 0, 0), (4, .iload_n 1, 5, 1, 0, 0, 0), (5, .invokevirtual 120, 8, 13, 2, 0, 0), (8, .ifCond .eq 30, 11, 38, 0, 0, 0), (11, .aload_n 0, 12, 0, 0, 0, 0), (12, .getfield 19, 15, 6, 1, 0, 0), (15, .iload_n 2, 16, 2, 0, 0, 0), (16, .invokevirtual 100, 19, 12, 2, 0, 0), (19, .ifCond .eq 19, 22, 38, 0, 0, 0), (22, .aload_n 0, 23, 0, 0, 0, 0), (23, .getfield 19, 26, 6, 1, 0, 0), (26, .iload_n 3, 27, 3, 0, 0, 0), (27, .invokevirtual 100, 30, 12, 2, 0, 0), (30, .ifCond .eq 8, 33, 38, 0, 0, 0), (33, .iload_n 2, 34, 2, 0, 0, 0), (34, .iload_n 3, 35, 3, 0, 0, 0), (35, .if_icmp .ne 5, 38, 40, 0, 0, 0), (38, .iconst (-1), 39, 0, 0, (-1), 0), (39, .ireturn, 40, 0, 0, 0, 0), (40, .aload_n 0, 41, 0, 0, 0, 0), (41, .getfield 23, 44, 6, 2, 0, 0), (44, .aload_n 0, 45, 0, 0, 0, 0), (45, .getfield 19, 48, 6, 1, 0, 0), (48, .invokevirtual 92, 51, 11, 2, 0, 0), (51, .iconst 0, 52, 0, 0, 0, 0), (52, .istore 4, 54, 4, 0, 0, 0), (54, .iload 4, 56, 4, 0, 0, 0), (56, .bipush 60, 58, 0, 0, 60, 0), (58, .if_icmp .ge 59, 61, 117, 0, 0, 0), (61, .aload_n 0, 62, 0, 0, 0, 0), (62, .getfield 23, 65, 6, 2, 0, 0), (65, .getfield 111, 68, 4, 2, 0, 0), (68, .iload_n 2, 69, 2, 0, 0, 0), (69, .iaload, 70, 0, 0, 0, 0), (70, .aload_n 0, 71, 0, 0, 0, 0), (71, .getfield 23, 74, 6, 2, 0, 0), (74, .getfield 111, 77, 4, 2, 0, 0), (77, .iload_n 3, 78, 3, 0, 0, 0), (78, .iaload, 79, 0, 0, 0, 0)]
set_option maxRecDepth 100000 in
theorem vm_ko_G_crosses_0 : vm_KO k_G_crosses_0 prog_1_method_18_code "GateSayings" false (some .int) := vm_KO_of [335, 407, 408, 409, 49, 410, 335, 396, 397, 398, 49, 399, 335, 396, 397, 398, 49, 399, 336, 335, 377, 378, 379, 49, 380, 336, 102, 336, 102] (by decide +kernel) (by decide +kernel) (by decide +kernel) (by decide +kernel)
def k_G_crosses_1 : List vm_E := [(79, .if_icmp .ne 6, 82, 85, 0, 0, 0), (82, .iload 4, 84, 4, 0, 0, 0), (84, .ireturn, 85, 0, 0, 0, 0), (85, .aload_n 0, 86, 0, 0, 0, 0), (86, .getfield 23, 89, 6, 2, 0, 0), (89, .iload_n 1, 90, 1, 0, 0, 0), (90, .iload 4, 92, 4, 0, 0, 0), (92, .iconst 2, 93, 0, 0, 2, 0), (93, .irem, 94, 0, 0, 0, 0), (94, .ifCond .ne 7, 97, 101, 0, 0, 0), (97, .iload_n 2, 98, 2, 0, 0, 0), (98, .goto 4, 101, 102, 0, 0, 0), (101, .iload_n 3, 102, 3, 0, 0, 0), (102, .invokevirtual 136, 105, 20, 3, 0, 0), (105, .ifCond .ne 6, 108, 111, 0, 0, 0), (108, .bipush (-4), 110, 0, 0, (-4), 0), (110, .ireturn, 111, 0, 0, 0, 0), (111, .iinc 4 1, 114, 4, 0, 1, 0), (114, .goto (-60), 117, 54, 0, 0, 0), (117, .aload_n 0, 118, 0, 0, 0, 0), (118, .getfield 23, 121, 6, 2, 0, 0), (121, .getfield 111, 124, 4, 2, 0, 0), (124, .iload_n 2, 125, 2, 0, 0, 0), (125, .iaload, 126, 0, 0, 0, 0), (126, .aload_n 0, 127, 0, 0, 0, 0), (127, .getfield 23, 130, 6, 2, 0, 0), (130, .getfield 111, 133, 4, 2, 0, 0), (133, .iload_n 3, 134, 3, 0, 0, 0), (134, .iaload, 135, 0, 0, 0, 0), (135, .if_icmp .ne 8, 138, 143, 0, 0, 0), (138, .bipush 60, 140, 0, 0, 60, 0), (140, .goto 5, 143, 145, 0, 0, 0), (143, .bipush (-4), 145, 0, 0, (-4), 0), (145, .ireturn, 146, 0, 0, 0, 0)]
set_option maxRecDepth 100000 in
theorem vm_ko_G_crosses_1 : vm_KO k_G_crosses_1 prog_1_method_18_code "GateSayings" false (some .int) := vm_KO_of [336, 443, 444, 445, 49, 446, 336, 102, 336, 102] (by decide +kernel) (by decide +kernel) (by decide +kernel) (by decide +kernel)
set_option maxRecDepth 100000 in
theorem vm_ka_G_crosses : k_G_crosses = k_G_crosses_0 ++ (k_G_crosses_1) := rfl
theorem vm_ko_G_crosses : vm_KO k_G_crosses prog_1_method_18_code "GateSayings" false (some .int) := by
  rw [vm_ka_G_crosses]
  exact vm_KO_app vm_ko_G_crosses_0 (vm_ko_G_crosses_1)
set_option maxRecDepth 100000 in
theorem vm_ko_G_seen : vm_KO k_G_seen prog_1_method_19_code "GateSayings" false (some .int) := vm_KO_of [335, 407, 408, 409, 49, 410, 335, 396, 397, 398, 49, 399, 364, 313, 47, 314, 339, 576, 577, 578, 52, 579, 339, 171] (by decide +kernel) (by decide +kernel) (by decide +kernel) (by decide +kernel)
set_option maxRecDepth 100000 in
theorem vm_ko_G_kinds : vm_KO k_G_kinds prog_1_method_20_code "GateSayings" false (some .int) := vm_KO_of [335, 396, 397, 398, 49, 399, 339, 335, 335, 100, 584, 585, 586, 52, 587] (by decide +kernel) (by decide +kernel) (by decide +kernel) (by decide +kernel)
set_option maxRecDepth 100000 in
theorem vm_ko_G_ears : vm_KO k_G_ears prog_1_method_21_code "GateSayings" false (some .int) := vm_KO_of [335, 396, 397, 398, 49, 399, 364, 313, 47, 314, 339, 335, 335, 97, 584, 585, 586, 52, 587] (by decide +kernel) (by decide +kernel) (by decide +kernel) (by decide +kernel)
set_option maxRecDepth 100000 in
theorem vm_ko_G_heard : vm_KO k_G_heard prog_1_method_22_code "GateSayings" false (some .int) := vm_KO_of [364, 313, 47, 314, 364, 313, 47, 314, 339, 598, 599, 600, 52, 601, 339, 173] (by decide +kernel) (by decide +kernel) (by decide +kernel) (by decide +kernel)
set_option maxRecDepth 100000 in
theorem vm_ko_G_from : vm_KO k_G_from prog_1_method_23_code "GateSayings" false (some .int) := vm_KO_of [335, 111, 339, 335, 102, 606, 607, 608, 52, 609] (by decide +kernel) (by decide +kernel) (by decide +kernel) (by decide +kernel)
set_option maxRecDepth 100000 in
theorem vm_ko_G_nearest : vm_KO k_G_nearest prog_1_method_24_code "GateSayings" false (some .int) := vm_KO_of [364, 313, 47, 314, 335, 111, 339, 335, 102, 606, 607, 608, 52, 609] (by decide +kernel) (by decide +kernel) (by decide +kernel) (by decide +kernel)
set_option maxRecDepth 100000 in
theorem vm_ko_G_forget : vm_KO k_G_forget prog_1_method_25_code "GateSayings" false (some .int) := vm_KO_of [339, 171, 339, 173, 339, 384, 385, 386, 52, 387] (by decide +kernel) (by decide +kernel) (by decide +kernel) (by decide +kernel)
def k_G_likely_0 : List vm_E := [(0, .aload_n 0, 1, 0, 0, 0, 0), (1, .getfield 19, 4, 6, 1, 0, 0), (4, .iload_n 1, 5, 1, 0, 0, 0), (5, .invokevirtual 120, 8, 13, 2, 0, 0), (8, .ifCond .eq 34, 11, 42, 0, 0, 0), (11, .aload_n 0, 12, 0, 0, 0, 0), (12, .getfield 19, 15, 6, 1, 0, 0), (15, .iload_n 2, 16, 2, 0, 0, 0), (16, .invokevirtual 100, 19, 12, 2, 0, 0), (19, .ifCond .eq 23, 22, 42, 0, 0, 0), (22, .iload_n 3, 23, 3, 0, 0, 0), (23, .iconst 0, 24, 0, 0, 0, 0), (24, .bipush 10, 26, 0, 0, 10, 0), (26, .invokestatic 82, 29, 86, 3, 0, 0), (29, .ifCond .eq 13, 32, 42, 0, 0, 0), (32, .iload 4, 34, 4, 0, 0, 0), (34, .iconst 0, 35, 0, 0, 0, 0), (35, .iconst 1, 36, 0, 0, 1, 0), (36, .invokestatic 82, 39, 86, 3, 0, 0), (39, .ifCond .ne 5, 42, 44, 0, 0, 0), (42, .iconst (-1), 43, 0, 0, (-1), 0), (43, .ireturn, 44, 0, 0, 0, 0), (44, .iconst 0, 45, 0, 0, 0, 0), (45, .istore 5, 47, 5, 0, 0, 0), (47, .iconst 0, 48, 0, 0, 0, 0), (48, .istore 6, 50, 6, 0, 0, 0), (50, .iconst 0, 51, 0, 0, 0, 0), (51, .istore 7, 53, 7, 0, 0, 0), (53, .iload 7, 55, 7, 0, 0, 0), (55, .bipush 32, 57, 0, 0, 32, 0), (57, .if_icmp .ge 56, 60, 113, 0, 0, 0), (60, .iload 7, 62, 7, 0, 0, 0), (62, .iload_n 3, 63, 3, 0, 0, 0), (63, .invokestatic 207, 66, 88, 2, 0, 0), (66, .istore 8, 68, 8, 0, 0, 0), (68, .iload 6, 70, 6, 0, 0, 0), (70, .iload 8, 72, 8, 0, 0, 0), (72, .iadd, 73, 0, 0, 0, 0), (73, .istore 6, 75, 6, 0, 0, 0), (75, .aload_n 0, 76, 0, 0, 0, 0)]
set_option maxRecDepth 100000 in
theorem vm_ko_G_likely_0 : vm_KO k_G_likely_0 prog_1_method_26_code "GateSayings" false (some .int) := vm_KO_of [335, 407, 408, 409, 49, 410, 335, 396, 397, 398, 49, 399, 364, 313, 47, 314, 364, 313, 47, 314, 623, 624, 47, 625] (by decide +kernel) (by decide +kernel) (by decide +kernel) (by decide +kernel)
def k_G_likely_1 : List vm_E := [(76, .getfield 19, 79, 6, 1, 0, 0), (79, .aload_n 0, 80, 0, 0, 0, 0), (80, .getfield 19, 83, 6, 1, 0, 0), (83, .getfield 126, 86, 4, 3, 0, 0), (86, .iload_n 1, 87, 1, 0, 0, 0), (87, .iaload, 88, 0, 0, 0, 0), (88, .iload 7, 90, 7, 0, 0, 0), (90, .invokestatic 210, 93, 8, 2, 0, 0), (93, .iload_n 2, 94, 2, 0, 0, 0), (94, .invokevirtual 151, 97, 19, 3, 0, 0), (97, .ifCond .eq 10, 100, 107, 0, 0, 0), (100, .iload 5, 102, 5, 0, 0, 0), (102, .iload 8, 104, 8, 0, 0, 0), (104, .iadd, 105, 0, 0, 0, 0), (105, .istore 5, 107, 5, 0, 0, 0), (107, .iinc 7 1, 110, 7, 0, 1, 0), (110, .goto (-57), 113, 53, 0, 0, 0), (113, .iload 5, 115, 5, 0, 0, 0), (115, .iload 6, 117, 6, 0, 0, 0), (117, .invokestatic 213, 120, 89, 2, 0, 0), (120, .istore 7, 122, 7, 0, 0, 0), (122, .iload 7, 124, 7, 0, 0, 0), (124, .iconst 1, 125, 0, 0, 1, 0), (125, .if_icmp .ge 16, 128, 141, 0, 0, 0), (128, .iload 4, 130, 4, 0, 0, 0), (130, .ifCond .ne 8, 133, 138, 0, 0, 0), (133, .iload 5, 135, 5, 0, 0, 0), (135, .goto 5, 138, 140, 0, 0, 0), (138, .iload 6, 140, 6, 0, 0, 0), (140, .ireturn, 141, 0, 0, 0, 0), (141, .iload 4, 143, 4, 0, 0, 0), (143, .ifCond .ne 11, 146, 154, 0, 0, 0), (146, .iload 5, 148, 5, 0, 0, 0), (148, .iload 7, 150, 7, 0, 0, 0), (150, .idiv, 151, 0, 0, 0, 0), (151, .goto 8, 154, 159, 0, 0, 0), (154, .iload 6, 156, 6, 0, 0, 0), (156, .iload 7, 158, 7, 0, 0, 0), (158, .idiv, 159, 0, 0, 0, 0), (159, .ireturn, 160, 0, 0, 0, 0)]
set_option maxRecDepth 100000 in
theorem vm_ko_G_likely_1 : vm_KO k_G_likely_1 prog_1_method_26_code "GateSayings" false (some .int) := vm_KO_of [335, 335, 106, 626, 627, 59, 628, 496, 448, 449, 49, 450, 629, 630, 47, 631] (by decide +kernel) (by decide +kernel) (by decide +kernel) (by decide +kernel)
set_option maxRecDepth 100000 in
theorem vm_ka_G_likely : k_G_likely = k_G_likely_0 ++ (k_G_likely_1) := rfl
theorem vm_ko_G_likely : vm_KO k_G_likely prog_1_method_26_code "GateSayings" false (some .int) := by
  rw [vm_ka_G_likely]
  exact vm_KO_app vm_ko_G_likely_0 (vm_ko_G_likely_1)
set_option maxRecDepth 100000 in
theorem vm_ko_G_year : vm_KO k_G_year prog_1_method_27_code "GateSayings" false (some .int) := vm_KO_of [364, 313, 47, 314, 364, 313, 47, 314, 364, 313, 47, 314, 336, 335, 377, 378, 379, 49, 380, 336, 636, 637, 47, 638, 643, 644, 47, 645, 336, 116, 335, 116, 336, 118, 335, 118, 336, 650, 651, 652, 49, 653] (by decide +kernel) (by decide +kernel) (by decide +kernel) (by decide +kernel)
set_option maxRecDepth 100000 in
theorem vm_ko_G_keep : vm_KO k_G_keep prog_1_method_28_code "GateSayings" false (some .int) := vm_KO_of [338, 153, 338, 335, 434, 435, 436, 50, 437, 338, 153] (by decide +kernel) (by decide +kernel) (by decide +kernel) (by decide +kernel)
set_option maxRecDepth 100000 in
theorem vm_ko_G_back : vm_KO k_G_back prog_1_method_29_code "GateSayings" false (some .int) := vm_KO_of [338, 335, 488, 489, 490, 50, 491, 337, 388, 389, 390, 50, 391, 338, 153] (by decide +kernel) (by decide +kernel) (by decide +kernel) (by decide +kernel)
set_option maxRecDepth 100000 in
theorem vm_ko_G_count : vm_KO k_G_count prog_1_method_30_code "GateSayings" false (some .int) := vm_KO_of [335, 111, 335, 114, 335, 116, 335, 118, 335, 650, 651, 652, 49, 653, 339, 171, 339, 173, 337, 153, 338, 153, 334, 78] (by decide +kernel) (by decide +kernel) (by decide +kernel) (by decide +kernel)
set_option maxRecDepth 100000 in
theorem vm_ko_G_within : vm_KO k_G_within prog_1_method_31_code "GateSayings" false (some .boolean) := vm_KO_of [] (by decide +kernel) (by decide +kernel) (by decide +kernel) (by decide +kernel)
set_option maxRecDepth 100000 in
theorem vm_ko_G_follow : vm_KO k_G_follow prog_1_method_32_code "GateSayings" false (some .int) := vm_KO_of [478, 468, 59, 469, 337, 335, 434, 435, 436, 50, 437, 479, 461, 59, 462] (by decide +kernel) (by decide +kernel) (by decide +kernel) (by decide +kernel)
set_option maxRecDepth 100000 in
theorem vm_ko_G_chance : vm_KO k_G_chance prog_1_method_33_code "GateSayings" false (some .int) := vm_KO_of [] (by decide +kernel) (by decide +kernel) (by decide +kernel) (by decide +kernel)
set_option maxRecDepth 100000 in
theorem vm_ko_G_commonDivisor : vm_KO k_G_commonDivisor prog_1_method_34_code "GateSayings" false (some .int) := vm_KO_of [] (by decide +kernel) (by decide +kernel) (by decide +kernel) (by decide +kernel)
set_option maxRecDepth 100000 in
theorem vm_ko_G_draw : vm_KO k_G_draw prog_1_method_35_code "GateSayings" false (some .int) := vm_KO_of [639, 640, 641, 642] (by decide +kernel) (by decide +kernel) (by decide +kernel) (by decide +kernel)
set_option maxRecDepth 100000 in
theorem vm_ko_G_liveOnce : vm_KO k_G_liveOnce prog_1_method_36_code "GateSayings" false none := vm_KO_of [114, 111, 114, 111, 443, 444, 445, 49, 446, 114, 646, 647, 648, 49, 649] (by decide +kernel) (by decide +kernel) (by decide +kernel) (by decide +kernel)
