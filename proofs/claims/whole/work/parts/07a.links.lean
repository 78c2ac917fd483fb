/-! ===== link rows ===== -/
def fl_L : List (Nat × Nat × Nat) := [(10, 0, 0), (19, 0, 1), (26, 0, 2), (33, 0, 3), (42, 0, 4), (46, 0, 5), (68, 1, 6), (79, 1, 2), (82, 1, 7), (88, 5, 8), (91, 2, 4), (94, 2, 5), (115, 3, 0), (119, 5, 0), (124, 3, 2), (128, 4, 2), (133, 2, 0), (143, 5, 1), (152, 5, 3), (155, 5, 4), (161, 5, 7)]
set_option maxRecDepth 20000 in
theorem fl_L_ok : am_flok "ProofLedger" fl_L := am_flok_of _ [447, 448, 449, 450, 451, 452, 130, 123, 133, 271, 168, 170, 223, 256, 231, 202, 159, 259, 262, 264, 268] (by decide +kernel)
def cn_L : List (Nat × Nat) := [(7, 1), (16, 2), (23, 3), (30, 5), (37, 6)]
set_option maxRecDepth 20000 in
theorem cn_L_ok : am_cnok "ProofLedger" cn_L := am_cnok_of _ [113, 152, 186, 249, 292] (by decide +kernel)
def kl_L : List (Nat × Nat) := [(122, 18446744073709551615)]
set_option maxRecDepth 20000 in
theorem kl_L_ok : am_klok "ProofLedger" kl_L := am_klok_of _ [864] (by decide +kernel)
def pl_L : List (Nat × Nat) := [(1, 0)]
set_option maxRecDepth 20000 in
theorem pl_L_ok : am_plok "ProofLedger" pl_L := am_plok_of _ [110] (by decide +kernel)
def fl_Assertions : List (Nat × Nat × Nat) := [(9, 5, 0), (15, 5, 1), (20, 5, 2), (23, 5, 3), (26, 5, 4), (29, 5, 5), (32, 5, 6), (36, 5, 7), (39, 5, 8)]
set_option maxRecDepth 20000 in
theorem fl_Assertions_ok : am_flok "ProofLedger$Assertions" fl_Assertions := am_flok_of _ [255, 257, 260, 261, 263, 265, 266, 267, 269] (by decide +kernel)
def cn_Assertions : List (Nat × Nat) := []
set_option maxRecDepth 20000 in
theorem cn_Assertions_ok : am_cnok "ProofLedger$Assertions" cn_Assertions := am_cnok_of _ [] (by decide +kernel)
def kl_Assertions : List (Nat × Nat) := []
set_option maxRecDepth 20000 in
theorem kl_Assertions_ok : am_klok "ProofLedger$Assertions" kl_Assertions := am_klok_of _ [] (by decide +kernel)
def pl_Assertions : List (Nat × Nat) := [(1, 0), (43, 2)]
set_option maxRecDepth 20000 in
theorem pl_Assertions_ok : am_plok "ProofLedger$Assertions" pl_Assertions := am_plok_of _ [254, 741] (by decide +kernel)
def fl_Context : List (Nat × Nat × Nat) := [(11, 7, 3), (17, 7, 5), (21, 7, 7), (24, 7, 8), (27, 7, 9), (30, 7, 10), (33, 7, 0), (37, 7, 1), (40, 7, 2), (43, 7, 6), (51, 7, 4)]
set_option maxRecDepth 20000 in
theorem fl_Context_ok : am_flok "ProofLedger$Context" fl_Context := am_flok_of _ [310, 313, 317, 318, 319, 320, 304, 306, 308, 316, 311] (by decide +kernel)
def cn_Context : List (Nat × Nat) := []
set_option maxRecDepth 20000 in
theorem cn_Context_ok : am_cnok "ProofLedger$Context" cn_Context := am_cnok_of _ [] (by decide +kernel)
def kl_Context : List (Nat × Nat) := [(75, 18446744073709551615)]
set_option maxRecDepth 20000 in
theorem kl_Context_ok : am_klok "ProofLedger$Context" kl_Context := am_klok_of _ [791] (by decide +kernel)
def pl_Context : List (Nat × Nat) := [(3, 0)]
set_option maxRecDepth 20000 in
theorem pl_Context_ok : am_plok "ProofLedger$Context" pl_Context := am_plok_of _ [303] (by decide +kernel)
def fl_Expressions : List (Nat × Nat × Nat) := [(7, 4, 0), (13, 4, 1), (17, 4, 2), (20, 4, 3), (24, 4, 4)]
set_option maxRecDepth 20000 in
theorem fl_Expressions_ok : am_flok "ProofLedger$Expressions" fl_Expressions := am_flok_of _ [198, 199, 200, 203, 206] (by decide +kernel)
def cn_Expressions : List (Nat × Nat) := []
set_option maxRecDepth 20000 in
theorem cn_Expressions_ok : am_cnok "ProofLedger$Expressions" cn_Expressions := am_cnok_of _ [] (by decide +kernel)
def kl_Expressions : List (Nat × Nat) := []
set_option maxRecDepth 20000 in
theorem kl_Expressions_ok : am_klok "ProofLedger$Expressions" kl_Expressions := am_klok_of _ [] (by decide +kernel)
def pl_Expressions : List (Nat × Nat) := [(1, 0), (27, 1)]
set_option maxRecDepth 20000 in
theorem pl_Expressions_ok : am_plok "ProofLedger$Expressions" pl_Expressions := am_plok_of _ [197, 734] (by decide +kernel)
def fl_Letters : List (Nat × Nat × Nat) := [(9, 9, 0), (15, 9, 1), (21, 9, 2), (30, 9, 5), (34, 9, 3), (42, 9, 4), (45, 4, 4), (48, 9, 6), (51, 9, 8), (55, 9, 9), (58, 1, 3), (63, 1, 4), (66, 1, 0), (84, 9, 7), (92, 8, 7), (102, 8, 4)]
set_option maxRecDepth 20000 in
theorem fl_Letters_ok : am_flok "ProofLedger$Letters" fl_Letters := am_flok_of _ [387, 388, 389, 392, 390, 391, 210, 393, 395, 397, 124, 127, 120, 394, 361, 357] (by decide +kernel)
def cn_Letters : List (Nat × Nat) := [(25, 4)]
set_option maxRecDepth 20000 in
theorem cn_Letters_ok : am_cnok "ProofLedger$Letters" cn_Letters := am_cnok_of _ [385] (by decide +kernel)
def kl_Letters : List (Nat × Nat) := []
set_option maxRecDepth 20000 in
theorem kl_Letters_ok : am_klok "ProofLedger$Letters" kl_Letters := am_klok_of _ [] (by decide +kernel)
def pl_Letters : List (Nat × Nat) := [(3, 0)]
set_option maxRecDepth 20000 in
theorem pl_Letters_ok : am_plok "ProofLedger$Letters" pl_Letters := am_plok_of _ [384] (by decide +kernel)
def fl_Names : List (Nat × Nat × Nat) := [(11, 2, 0), (15, 2, 1), (19, 2, 2), (22, 2, 3), (26, 2, 4), (29, 2, 5)]
set_option maxRecDepth 20000 in
theorem fl_Names_ok : am_flok "ProofLedger$Names" fl_Names := am_flok_of _ [158, 160, 163, 165, 167, 169] (by decide +kernel)
def cn_Names : List (Nat × Nat) := []
set_option maxRecDepth 20000 in
theorem cn_Names_ok : am_cnok "ProofLedger$Names" cn_Names := am_cnok_of _ [] (by decide +kernel)
def kl_Names : List (Nat × Nat) := []
set_option maxRecDepth 20000 in
theorem kl_Names_ok : am_klok "ProofLedger$Names" kl_Names := am_klok_of _ [] (by decide +kernel)
def pl_Names : List (Nat × Nat) := [(3, 0)]
set_option maxRecDepth 20000 in
theorem pl_Names_ok : am_plok "ProofLedger$Names" pl_Names := am_plok_of _ [157] (by decide +kernel)
def fl_Proof : List (Nat × Nat × Nat) := [(9, 8, 0), (15, 8, 1), (19, 8, 2), (23, 8, 3), (32, 8, 4), (36, 8, 5), (41, 8, 6), (45, 4, 4), (49, 8, 7), (64, 3, 2), (71, 3, 3), (85, 3, 4), (110, 3, 1), (124, 4, 2), (127, 2, 1), (140, 5, 1), (149, 4, 3)]
set_option maxRecDepth 20000 in
theorem fl_Proof_ok : am_flok "ProofLedger$Proof" fl_Proof := am_flok_of _ [352, 353, 354, 355, 356, 358, 359, 207, 360, 230, 233, 236, 226, 201, 161, 258, 204] (by decide +kernel)
def cn_Proof : List (Nat × Nat) := [(27, 4)]
set_option maxRecDepth 20000 in
theorem cn_Proof_ok : am_cnok "ProofLedger$Proof" cn_Proof := am_cnok_of _ [350] (by decide +kernel)
def kl_Proof : List (Nat × Nat) := []
set_option maxRecDepth 20000 in
theorem kl_Proof_ok : am_klok "ProofLedger$Proof" kl_Proof := am_klok_of _ [] (by decide +kernel)
def pl_Proof : List (Nat × Nat) := [(3, 0)]
set_option maxRecDepth 20000 in
theorem pl_Proof_ok : am_plok "ProofLedger$Proof" pl_Proof := am_plok_of _ [349] (by decide +kernel)
def fl_Reader : List (Nat × Nat × Nat) := [(9, 6, 0), (15, 6, 1), (19, 6, 2), (26, 6, 3), (35, 6, 4), (44, 6, 5), (53, 3, 2), (59, 4, 4), (65, 5, 8), (69, 6, 6), (72, 7, 6), (104, 1, 5), (155, 6, 7), (158, 6, 8), (168, 2, 1), (176, 7, 0), (179, 7, 1), (185, 7, 4), (188, 2, 3), (198, 3, 1), (221, 3, 4), (227, 3, 3), (231, 4, 3), (239, 7, 2), (242, 7, 5), (275, 2, 2), (277, 9, 8), (284, 3, 0)]
set_option maxRecDepth 20000 in
theorem fl_Reader_ok : am_flok "ProofLedger$Reader" fl_Reader := am_flok_of _ [419, 420, 421, 422, 423, 424, 229, 209, 270, 425, 315, 128, 426, 427, 162, 305, 307, 312, 166, 227, 237, 234, 205, 309, 314, 164, 396, 224] (by decide +kernel)
def cn_Reader : List (Nat × Nat) := [(23, 7), (30, 8), (39, 9)]
set_option maxRecDepth 20000 in
theorem cn_Reader_ok : am_cnok "ProofLedger$Reader" cn_Reader := am_cnok_of _ [298, 344, 379] (by decide +kernel)
def kl_Reader : List (Nat × Nat) := [(251, 40), (255, 63), (266, 41)]
set_option maxRecDepth 20000 in
theorem kl_Reader_ok : am_klok "ProofLedger$Reader" kl_Reader := am_klok_of _ [702, 707, 805] (by decide +kernel)
def pl_Reader : List (Nat × Nat) := [(3, 0)]
set_option maxRecDepth 20000 in
theorem pl_Reader_ok : am_plok "ProofLedger$Reader" pl_Reader := am_plok_of _ [297] (by decide +kernel)
def fl_Statements : List (Nat × Nat × Nat) := [(11, 3, 0), (15, 3, 1), (24, 3, 2), (28, 3, 3), (31, 3, 4), (34, 4, 4)]
set_option maxRecDepth 20000 in
theorem fl_Statements_ok : am_flok "ProofLedger$Statements" fl_Statements := am_flok_of _ [222, 225, 228, 232, 235, 208] (by decide +kernel)
def cn_Statements : List (Nat × Nat) := [(19, 4)]
set_option maxRecDepth 20000 in
theorem cn_Statements_ok : am_cnok "ProofLedger$Statements" cn_Statements := am_cnok_of _ [192] (by decide +kernel)
def kl_Statements : List (Nat × Nat) := []
set_option maxRecDepth 20000 in
theorem kl_Statements_ok : am_klok "ProofLedger$Statements" kl_Statements := am_klok_of _ [] (by decide +kernel)
def pl_Statements : List (Nat × Nat) := [(3, 0)]
set_option maxRecDepth 20000 in
theorem pl_Statements_ok : am_plok "ProofLedger$Statements" pl_Statements := am_plok_of _ [191] (by decide +kernel)
def fl_Text : List (Nat × Nat × Nat) := [(11, 1, 0), (15, 1, 1), (19, 1, 2), (22, 1, 4), (25, 1, 7), (37, 1, 3), (40, 1, 5), (44, 1, 6)]
set_option maxRecDepth 20000 in
theorem fl_Text_ok : am_flok "ProofLedger$Text" fl_Text := am_flok_of _ [119, 121, 122, 126, 132, 125, 129, 131] (by decide +kernel)
def cn_Text : List (Nat × Nat) := []
set_option maxRecDepth 20000 in
theorem cn_Text_ok : am_cnok "ProofLedger$Text" cn_Text := am_cnok_of _ [] (by decide +kernel)
def kl_Text : List (Nat × Nat) := [(47, 128)]
set_option maxRecDepth 20000 in
theorem kl_Text_ok : am_klok "ProofLedger$Text" kl_Text := am_klok_of _ [530] (by decide +kernel)
def pl_Text : List (Nat × Nat) := [(3, 0)]
set_option maxRecDepth 20000 in
theorem pl_Text_ok : am_plok "ProofLedger$Text" pl_Text := am_plok_of _ [118] (by decide +kernel)
def fl_W : List (Nat × Nat × Nat) := []
set_option maxRecDepth 20000 in
theorem fl_W_ok : am_flok "ProofLedgerLaw" fl_W := am_flok_of _ [] (by decide +kernel)
def cn_W : List (Nat × Nat) := [(7, 0), (10, 10)]
set_option maxRecDepth 20000 in
theorem cn_W_ok : am_cnok "ProofLedgerLaw" cn_W := am_cnok_of _ [105, 909] (by decide +kernel)
def kl_W : List (Nat × Nat) := [(13, 4294967295)]
set_option maxRecDepth 20000 in
theorem kl_W_ok : am_klok "ProofLedgerLaw" kl_W := am_klok_of _ [1366] (by decide +kernel)
def pl_W : List (Nat × Nat) := []
set_option maxRecDepth 20000 in
theorem pl_W_ok : am_plok "ProofLedgerLaw" pl_W := am_plok_of _ [] (by decide +kernel)
def fl_M : List (Nat × Nat × Nat) := [(7, 10, 0), (13, 10, 2), (16, 10, 3), (19, 10, 7), (23, 10, 9), (27, 10, 10), (30, 10, 11), (34, 10, 12), (37, 10, 13), (40, 10, 16), (43, 10, 17), (46, 10, 18), (49, 10, 19), (52, 10, 20), (55, 10, 21), (58, 10, 22), (61, 10, 24), (64, 10, 25), (67, 10, 26), (70, 10, 28), (73, 10, 29), (76, 10, 30), (79, 10, 31), (82, 10, 32), (85, 10, 33), (88, 10, 34), (91, 10, 35), (94, 10, 36), (97, 10, 37), (100, 10, 38), (103, 10, 39), (106, 10, 41), (109, 10, 42), (112, 10, 43), (115, 10, 44), (118, 10, 46), (121, 10, 47), (124, 10, 49), (127, 10, 50), (130, 10, 52), (133, 10, 1), (138, 10, 4), (147, 10, 6), (150, 10, 5), (173, 10, 8), (184, 10, 15), (187, 10, 14), (207, 10, 23), (210, 10, 40), (226, 10, 27), (256, 10, 45), (259, 10, 48), (262, 10, 51), (311, 10, 53), (317, 10, 54), (320, 10, 55), (323, 10, 56)]
set_option maxRecDepth 20000 in
theorem fl_M_ok : am_flok "ProofLedgerModel" fl_M := am_flok_of _ [915, 917, 918, 922, 924, 925, 926, 927, 928, 931, 932, 933, 934, 935, 936, 937, 939, 940, 941, 943, 944, 945, 946, 947, 948, 949, 950, 951, 952, 953, 954, 956, 957, 958, 959, 961, 962, 964, 965, 967, 916, 919, 921, 920, 923, 930, 929, 938, 955, 942, 960, 963, 966, 968, 969, 970, 971] (by decide +kernel)
def cn_M : List (Nat × Nat) := []
set_option maxRecDepth 20000 in
theorem cn_M_ok : am_cnok "ProofLedgerModel" cn_M := am_cnok_of _ [] (by decide +kernel)
def kl_M : List (Nat × Nat) := [(136, 255), (145, 128), (368, 18446744073709551615)]
set_option maxRecDepth 20000 in
theorem kl_M_ok : am_klok "ProofLedgerModel" kl_M := am_klok_of _ [1091, 1136, 1333] (by decide +kernel)
def pl_M : List (Nat × Nat) := [(1, 0)]
set_option maxRecDepth 20000 in
theorem pl_M_ok : am_plok "ProofLedgerModel" pl_M := am_plok_of _ [914] (by decide +kernel)
def fl_java_lang_Long : List (Nat × Nat × Nat) := []
set_option maxRecDepth 20000 in
theorem fl_java_lang_Long_ok : am_flok "java/lang/Long" fl_java_lang_Long := am_flok_of _ [] (by decide +kernel)
def cn_java_lang_Long : List (Nat × Nat) := []
set_option maxRecDepth 20000 in
theorem cn_java_lang_Long_ok : am_cnok "java/lang/Long" cn_java_lang_Long := am_cnok_of _ [] (by decide +kernel)
def kl_java_lang_Long : List (Nat × Nat) := [(314, 6148914691236517205), (316, 3689348814741910323), (318, 1085102592571150095)]
set_option maxRecDepth 20000 in
theorem kl_java_lang_Long_ok : am_klok "java/lang/Long" kl_java_lang_Long := am_klok_of _ [747, 748, 749] (by decide +kernel)
def pl_java_lang_Long : List (Nat × Nat) := []
set_option maxRecDepth 20000 in
theorem pl_java_lang_Long_ok : am_plok "java/lang/Long" pl_java_lang_Long := am_plok_of _ [] (by decide +kernel)
def fl_java_util_Arrays : List (Nat × Nat × Nat) := []
set_option maxRecDepth 20000 in
theorem fl_java_util_Arrays_ok : am_flok "java/util/Arrays" fl_java_util_Arrays := am_flok_of _ [] (by decide +kernel)
def cn_java_util_Arrays : List (Nat × Nat) := []
set_option maxRecDepth 20000 in
theorem cn_java_util_Arrays_ok : am_cnok "java/util/Arrays" cn_java_util_Arrays := am_cnok_of _ [] (by decide +kernel)
def kl_java_util_Arrays : List (Nat × Nat) := []
set_option maxRecDepth 20000 in
theorem kl_java_util_Arrays_ok : am_klok "java/util/Arrays" kl_java_util_Arrays := am_klok_of _ [] (by decide +kernel)
def pl_java_util_Arrays : List (Nat × Nat) := []
set_option maxRecDepth 20000 in
theorem pl_java_util_Arrays_ok : am_plok "java/util/Arrays" pl_java_util_Arrays := am_plok_of _ [] (by decide +kernel)
