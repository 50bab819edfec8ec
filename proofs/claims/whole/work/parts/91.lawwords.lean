/-! the law: its words, its code -/
def R_law : String := "LetterNeedlesLaw"
/-- a call of the law: pool index, callee, parameters -/
def lw_sw (q : Nat × Nat × Nat) : List Cond := [.methodLink R_law q.1 (am_y q.2.1), .instanceMethod (am_y q.2.1), .selects (am_y q.2.1).cls (am_y q.2.1) (am_y q.2.1), .initialized (am_y q.2.1).cls]
def lw_ms0 : List (Nat × Nat × Nat) := [(13, 71, 1), (17, 134, 1), (18, 72, 0), (22, 135, 0), (23, 73, 0), (26, 136, 0), (27, 74, 0), (30, 137, 0), (31, 75, 2), (35, 138, 2), (36, 76, 2), (39, 139, 2), (40, 77, 2), (43, 140, 2)]
set_option maxRecDepth 20000 in
theorem lw_ms0_g : GoodIn lw_tbl (lw_ms0.flatMap lw_sw) := goodIn_r _ [427, 428, 429, 51, 972, 973, 974, 64, 431, 432, 433, 51, 976, 977, 978, 64, 435, 436, 437, 51, 980, 981, 982, 64, 443, 444, 445, 51, 984, 848, 849, 64, 451, 452, 453, 51, 985, 986, 987, 64, 456, 457, 458, 51, 992, 993, 994, 64, 463, 464, 465, 51, 996, 997, 998, 64] (by decide +kernel) (by decide +kernel)
def lw_ms1 : List (Nat × Nat × Nat) := [(44, 78, 1), (47, 150, 1), (48, 79, 1), (51, 151, 1), (52, 80, 1), (55, 152, 1), (56, 81, 1), (59, 153, 1), (60, 82, 1), (63, 157, 1), (64, 83, 2), (67, 159, 2), (68, 84, 0), (71, 160, 0)]
set_option maxRecDepth 20000 in
theorem lw_ms1_g : GoodIn lw_tbl (lw_ms1.flatMap lw_sw) := goodIn_r _ [479, 480, 481, 51, 1004, 1005, 1006, 64, 525, 526, 527, 51, 1039, 1040, 1041, 64, 535, 536, 537, 51, 1046, 1047, 1048, 64, 539, 540, 541, 51, 1050, 1051, 1052, 64, 543, 544, 545, 51, 1054, 1055, 1056, 64, 555, 556, 557, 51, 1067, 1068, 1069, 64, 566, 567, 568, 51, 1074, 1075, 1076, 64] (by decide +kernel) (by decide +kernel)
def lw_ms2 : List (Nat × Nat × Nat) := [(72, 85, 0), (75, 161, 0), (76, 86, 4), (80, 166, 4), (81, 87, 2), (84, 167, 2), (85, 88, 1), (88, 170, 1), (89, 89, 1), (92, 171, 1), (93, 90, 3), (97, 172, 3), (98, 91, 4), (101, 173, 4)]
set_option maxRecDepth 20000 in
theorem lw_ms2_g : GoodIn lw_tbl (lw_ms2.flatMap lw_sw) := goodIn_r _ [574, 575, 576, 51, 1078, 1079, 1080, 64, 579, 580, 581, 51, 1082, 1083, 1084, 64, 602, 603, 604, 51, 1101, 1102, 1103, 64, 610, 611, 612, 51, 1105, 1106, 1107, 64, 620, 621, 622, 51, 1117, 1118, 1119, 64, 624, 625, 626, 51, 1121, 1122, 1123, 64, 632, 633, 634, 51, 1128, 1129, 1130, 64] (by decide +kernel) (by decide +kernel)
def lw_ms3 : List (Nat × Nat × Nat) := [(102, 92, 2), (105, 175, 2), (106, 93, 2), (109, 177, 2), (110, 94, 0), (113, 178, 0), (114, 95, 1), (117, 180, 1), (118, 96, 1), (121, 181, 1), (122, 97, 0), (125, 182, 0), (126, 98, 1), (129, 183, 1)]
set_option maxRecDepth 20000 in
theorem lw_ms3_g : GoodIn lw_tbl (lw_ms3.flatMap lw_sw) := goodIn_r _ [636, 637, 638, 51, 1132, 1133, 1134, 64, 669, 670, 671, 51, 1140, 1141, 1142, 64, 677, 678, 679, 51, 1144, 1145, 1146, 64, 698, 699, 700, 51, 1152, 1153, 1154, 64, 716, 717, 718, 51, 1161, 1162, 1163, 64, 724, 725, 726, 51, 1165, 1166, 1167, 64, 734, 735, 736, 51, 1169, 1170, 1171, 64] (by decide +kernel) (by decide +kernel)
def lw_ms4 : List (Nat × Nat × Nat) := [(130, 99, 2), (133, 186, 2), (134, 100, 3), (137, 190, 3), (138, 101, 3), (141, 191, 3), (142, 102, 3), (145, 193, 3), (146, 103, 0), (149, 194, 0), (150, 104, 0), (153, 195, 0), (154, 105, 1), (157, 197, 1)]
set_option maxRecDepth 20000 in
theorem lw_ms4_g : GoodIn lw_tbl (lw_ms4.flatMap lw_sw) := goodIn_r _ [738, 739, 740, 51, 1173, 1174, 1175, 64, 770, 771, 772, 51, 1185, 1186, 1187, 64, 789, 790, 791, 51, 1200, 1201, 1202, 64, 793, 794, 795, 51, 1204, 1205, 1206, 64, 807, 808, 809, 51, 1214, 1215, 1216, 64, 815, 816, 817, 51, 1218, 1219, 1220, 64, 823, 824, 825, 51, 1222, 1223, 1224, 64] (by decide +kernel) (by decide +kernel)
def lw_ms : List (Nat × Nat × Nat) := lw_ms0 ++ (lw_ms1 ++ (lw_ms2 ++ (lw_ms3 ++ (lw_ms4))))
theorem lw_ms_g : GoodIn lw_tbl (lw_ms.flatMap lw_sw) := am_appF lw_ms0_g (am_appF lw_ms1_g (am_appF lw_ms2_g (am_appF lw_ms3_g (lw_ms4_g))))
theorem lw_in {q : Nat × Nat × Nat} (h : q ∈ lw_ms) {w : Cond} (hw : w ∈ lw_sw q) : w ∈ lw_tbl := (lw_ms_g w (List.mem_flatMap.mpr ⟨q, h, hw⟩)).1
def lw_msk (q : Nat × Nat × Nat) : Bool := (am_y q.2.1).cls != "java/lang/invoke/MethodHandle" && (am_y q.2.1).cls != "java/lang/invoke/VarHandle" && decide ((parseMethodDescriptor (am_y q.2.1).desc).map (fun d => d.parameters.length) = some q.2.2)
set_option maxRecDepth 20000 in
theorem lw_ms_ok : lw_ms.all lw_msk = true := by decide +kernel
theorem lw_pl (ws : List Cond) (ps : List Nat) (hp : ws = ps.filterMap (fun i => lw_tbl[i]?)) : ∀ w ∈ ws, w ∈ lw_tbl := by
  intro w hw
  rw [hp] at hw
  obtain ⟨i, -, hi⟩ := List.mem_filterMap.mp hw
  exact List.mem_of_getElem? hi
def lw_nw (q : Nat × Nat × Nat × Nat × Nat) : Cond := .methodLinkNest (am_nm q.1) q.2.1 (am_y q.2.2.1) RX8
set_option maxRecDepth 20000 in
theorem lw_nest : ∀ w ∈ (am_ms.filter (fun q => q.2.2.2.1 == 4 || q.2.2.2.1 == 5)).map lw_nw, w ∈ lw_tbl := lw_pl _ [668, 229, 504, 380, 162, 352, 349, 711, 78, 93, 111, 183, 210, 224, 245] (by decide +kernel)
def lw_fw (q : Nat × Nat × Nat × Bool) : Cond := .fieldLinkNest (am_nm q.1) q.2.1 RX8 (am_sn q.2.2.1) "[I" RX8
set_option maxRecDepth 20000 in
theorem lw_fnest : ∀ w ∈ (am_ss.filter (fun q => q.2.2.2)).map lw_fw, w ∈ lw_tbl := lw_pl _ [657, 502, 523, 381] (by decide +kernel)
def lw_ow : List Cond := [.arrayOver (.object RX3), .laysStatic RX8 "POINTING" "[I", .laysStatic RX8 "LETTER_BETWEEN" "[I", .laysStatic RX8 "SPELLING" "[I", .laysStatic "java/lang/String" "COMPACT_STRINGS" "Z", .laysStatic "jdk/internal/util/Preconditions" "SIOOBE_FORMATTER" "Ljava/util/function/BiFunction;", .stringRef RX8 68 am_str, .initialized "LetterNeedles", .initialized "LetterNeedlesModel", .initialized "java/lang/String", .initialized "jdk/internal/util/Preconditions", .classLink R_law 7 RX8, .classLink R_law 10 RX9, .instantiable RX0 4, .instantiable RX1 4, .instantiable RX2 2, .instantiable RX3 7, .instantiable RX4 3, .instantiable RX5 5, .instantiable RX6 2, .instantiable RX7 6, .instantiable RX8 9, .instantiable RX9 29, .methodLink R_law 9 yX8_init, .instanceMethod yX8_init, .methodLink R_law 12 yX9_init, .instanceMethod yX9_init]
set_option maxRecDepth 20000 in
theorem lw_ow_in : ∀ w ∈ lw_ow, w ∈ lw_tbl := lw_pl _ [161, 503, 524, 382, 274, 290, 264, 51, 64, 60, 62, 68, 831, 244, 223, 209, 110, 92, 155, 77, 182, 69, 832, 70, 71, 833, 834] (by decide +kernel)
theorem lw_o {k : Nat} {w : Cond} (h : lw_ow[k]? = some w) : w ∈ lw_tbl := lw_ow_in w (List.mem_of_getElem? h)
-- 0 .arrayOver (.object RX3)
-- 1 .laysStatic RX8 "POINTING" "[I"
-- 2 .laysStatic RX8 "LETTER_BETWEEN" "[I"
-- 3 .laysStatic RX8 "SPELLING" "[I"
-- 4 .laysStatic "java/lang/String" "COMPACT_STRINGS" "Z"
-- 5 .laysStatic "jdk/internal/util/Preconditions" "SIOOBE_FORMATTER" "Ljava/util/function/BiFunction;"
-- 6 .stringRef RX8 68 am_str
-- 7 .initialized "LetterNeedles"
-- 8 .initialized "LetterNeedlesModel"
-- 9 .initialized "java/lang/String"
-- 10 .initialized "jdk/internal/util/Preconditions"
-- 11 .classLink R_law 7 RX8
-- 12 .classLink R_law 10 RX9
-- 13 .instantiable RX0 4
-- 14 .instantiable RX1 4
-- 15 .instantiable RX2 2
-- 16 .instantiable RX3 7
-- 17 .instantiable RX4 3
-- 18 .instantiable RX5 5
-- 19 .instantiable RX6 2
-- 20 .instantiable RX7 6
-- 21 .instantiable RX8 9
-- 22 .instantiable RX9 29
-- 23 .methodLink R_law 9 yX8_init
-- 24 .instanceMethod yX8_init
-- 25 .methodLink R_law 12 yX9_init
-- 26 .instanceMethod yX9_init
/-- an instruction of the law -/
def lw_dk (q : Nat × Instr × Nat) : Bool := match decode code q.1 with
  | .ok (i, n) => decide (i = q.2.1) && n == q.2.2
  | _ => false
theorem lw_dk_d {q : Nat × Instr × Nat} (h : lw_dk q = true) : decode code q.1 = .ok (q.2.1, q.2.2) := by
  unfold lw_dk at h
  split at h
  · rename_i i n hd
    simp only [Bool.and_eq_true, decide_eq_true_eq, beq_iff_eq] at h
    rw [hd, h.1, h.2]
  · cases h
/-- an argument of a call: the script behind the place -/
def lw_ab (pc j : Nat) : List (Nat × Instr × Nat) := [(pc, .aload_n 0, 1), (pc + 1, .iload_n 3, 1), (pc + 2, .iconst j, 1), (pc + 3, .iadd, 1), (pc + 4, .iaload, 1)]
/-- a case of the law: first place, parameters, both calls -/
def lw_bk (q : Nat × Nat × Nat × Nat) : List (Nat × Instr × Nat) := [(q.1, .aload_n 1, 1), (q.1 + 1 + 5 * q.2.1, .invokevirtual q.2.2.1, 3), (q.1 + 1 + 5 * q.2.1 + 3, .aload_n 2, 1), (q.1 + 1 + 5 * q.2.1 + 3 + 1 + 5 * q.2.1, .invokevirtual q.2.2.2, 3), (q.1 + 1 + 5 * q.2.1 + 3 + 1 + 5 * q.2.1 + 3, .if_icmp .eq (1123 - ((q.1 + 1 + 5 * q.2.1 + 3 + 1 + 5 * q.2.1 + 3 : Nat) : Int)), 3)]
def lw_bc (q : Nat × Nat × Nat × Nat) : Bool := (lw_bk q).all lw_dk && (List.range q.2.1).all (fun j => (lw_ab (q.1 + 1 + 5 * j) (j + 1)).all lw_dk && (lw_ab (q.1 + 1 + 5 * q.2.1 + 3 + 1 + 5 * j) (j + 1)).all lw_dk)
def lw_cs0 : List (Nat × Nat × Nat × Nat) := [(188, 1, 13, 17), (211, 0, 18, 22), (224, 0, 23, 26), (237, 0, 27, 30), (250, 2, 31, 35), (283, 2, 36, 39), (316, 2, 40, 43)]
set_option maxRecDepth 20000 in
theorem lw_cs0_ok : lw_cs0.all lw_bc = true := by decide +kernel
def lw_cs1 : List (Nat × Nat × Nat × Nat) := [(349, 1, 44, 47), (372, 1, 48, 51), (395, 1, 52, 55), (418, 1, 56, 59), (441, 1, 60, 63), (464, 2, 64, 67), (497, 0, 68, 71)]
set_option maxRecDepth 20000 in
theorem lw_cs1_ok : lw_cs1.all lw_bc = true := by decide +kernel
def lw_cs2 : List (Nat × Nat × Nat × Nat) := [(510, 0, 72, 75), (523, 4, 76, 80), (576, 2, 81, 84), (609, 1, 85, 88), (632, 1, 89, 92), (655, 3, 93, 97), (698, 4, 98, 101)]
set_option maxRecDepth 20000 in
theorem lw_cs2_ok : lw_cs2.all lw_bc = true := by decide +kernel
def lw_cs3 : List (Nat × Nat × Nat × Nat) := [(751, 2, 102, 105), (784, 2, 106, 109), (817, 0, 110, 113), (830, 1, 114, 117), (853, 1, 118, 121), (876, 0, 122, 125), (889, 1, 126, 129)]
set_option maxRecDepth 20000 in
theorem lw_cs3_ok : lw_cs3.all lw_bc = true := by decide +kernel
def lw_cs4 : List (Nat × Nat × Nat × Nat) := [(912, 2, 130, 133), (945, 3, 134, 137), (988, 3, 138, 141), (1031, 3, 142, 145), (1074, 0, 146, 149), (1087, 0, 150, 153), (1100, 1, 154, 157)]
set_option maxRecDepth 20000 in
theorem lw_cs4_ok : lw_cs4.all lw_bc = true := by decide +kernel
def lw_hd : List (Nat × Instr × Nat) := [(0, .new 7, 3), (3, .dup, 1), (4, .invokespecial 9, 3), (7, .astore_n 1, 1), (8, .new 10, 3), (11, .dup, 1), (12, .invokespecial 12, 3), (15, .astore_n 2, 1), (16, .iconst 0, 1), (17, .istore_n 3, 1), (18, .iload_n 3, 1), (19, .aload_n 0, 1), (20, .arraylength, 1), (21, .iconst 5, 1), (22, .isub, 1), (23, .if_icmp .gt 1106, 3), (26, .aload_n 0, 1), (27, .iload_n 3, 1), (28, .iaload, 1), (29, .bipush 63, 2), (31, .iand, 1), (32, .tableswitch 1091 0 34 #[156, 179, 192, 205, 218, 251, 284, 317, 340, 363, 386, 409, 432, 465, 478, 491, 544, 577, 600, 623, 666, 719, 752, 785, 798, 821, 844, 857, 880, 913, 956, 999, 1042, 1055, 1068], 156), (1123, .iinc 3 5, 3), (1126, .goto (-1108), 3), (1129, .iconst 1, 1), (1130, .ireturn, 1)]
set_option maxRecDepth 20000 in
theorem lw_hd_ok : lw_hd.all lw_dk = true := by decide +kernel
theorem lw_h (k : Nat) {pc n : Nat} {i : Instr} (h : lw_hd[k]? = some (pc, i, n)) : decode code pc = .ok (i, n) := lw_dk_d (q := (pc, i, n)) (List.all_eq_true.mp lw_hd_ok _ (List.mem_of_getElem? h))
-- lw_h 0: 0 .new 7
-- lw_h 1: 3 .dup
-- lw_h 2: 4 .invokespecial 9
-- lw_h 3: 7 .astore_n 1
-- lw_h 4: 8 .new 10
-- lw_h 5: 11 .dup
-- lw_h 6: 12 .invokespecial 12
-- lw_h 7: 15 .astore_n 2
-- lw_h 8: 16 .iconst 0
-- lw_h 9: 17 .istore_n 3
-- lw_h 10: 18 .iload_n 3
-- lw_h 11: 19 .aload_n 0
-- lw_h 12: 20 .arraylength
-- lw_h 13: 21 .iconst 5
-- lw_h 14: 22 .isub
-- lw_h 15: 23 .if_icmp .gt 1106
-- lw_h 16: 26 .aload_n 0
-- lw_h 17: 27 .iload_n 3
-- lw_h 18: 28 .iaload
-- lw_h 19: 29 .bipush 63
-- lw_h 20: 31 .iand
-- lw_h 21: 32 .tableswitch 1091 0 34 #[156, 179, 192, 205, 218, 251, 284, 
-- lw_h 22: 1123 .iinc 3 5
-- lw_h 23: 1126 .goto (-1108)
-- lw_h 24: 1129 .iconst 1
-- lw_h 25: 1130 .ireturn
