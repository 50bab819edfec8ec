def am_y (k : Nat) : MethodName := (am_tab.getD k m_X0_init).1
def am_fw (q : Nat × Nat × Nat × Nat × FieldType × Bool) : Cond := .fieldLink (am_nm q.1) q.2.1 (am_cl q.2.2.1).1 ((am_cl q.2.2.1).2.1 q.2.2.2.1).2.1 ((am_cl q.2.2.1).2.1 q.2.2.2.1).2.2.1
def am_sw (q : Nat × Nat × Nat × Nat × Nat) : List Cond := match q.2.2.2.1 with
  | 0 => [.methodLink (am_nm q.1) q.2.1 (am_y q.2.2.1), .instanceMethod (am_y q.2.2.1), .selects (am_y q.2.2.1).cls (am_y q.2.2.1) (am_y q.2.2.1), .initialized (am_y q.2.2.1).cls]
  | 1 => [.methodLink (am_nm q.1) q.2.1 (am_y q.2.2.1), .static (am_y q.2.2.1), .initialized (am_y q.2.2.1).cls]
  | 2 => [.methodLink (am_nm q.1) q.2.1 (am_y q.2.2.1), .instanceMethod (am_y q.2.2.1), .initialized (am_y q.2.2.1).cls]
  | 4 => [.static (am_y q.2.2.1), .initialized (am_y q.2.2.1).cls]
  | 5 => [.instanceMethod (am_y q.2.2.1), .initialized (am_y q.2.2.1).cls]
  | 6 => [.methodLink (am_nm q.1) q.2.1 objectInit, .instanceMethod objectInit, .code objectInit ⟨#[0xb1]⟩ 1 none]
  | 9 => [.methodLink (am_nm q.1) q.2.1 Lib.Math.max.name, .static Lib.Math.max.name, .initialized "java/lang/Math", .code Lib.Math.max.name Lib.Math.max.code 2 (some .int)]
  | 10 => [.methodLink (am_nm q.1) q.2.1 Lib.Math.min.name, .static Lib.Math.min.name, .initialized "java/lang/Math", .code Lib.Math.min.name Lib.Math.min.code 2 (some .int)]
  | _ => []
def am_cw (m : aM) : Cond := .code m.1 m.2.2.1 m.2.2.2.1 m.2.2.2.2.1
def am_kw (q : Nat × Nat × (Int32 ⊕ Int64)) : Cond := match q.2.2 with
  | .inl v => .constant (am_nm q.1) q.2.1 v
  | .inr v => .constantLong (am_nm q.1) q.2.1 v
def am_nw (q : Nat × Nat × Nat) : List Cond := [.classLink (am_nm q.1) q.2.1 (am_cl q.2.2).1, .instantiable (am_cl q.2.2).1 (am_cl q.2.2).2.2, .initialized (am_cl q.2.2).1]
def am_uw (q : vw_C) : List Cond := u_ws q.1 q.2.1 q.2.2
theorem am_appM {α : Type} {big : List Cond} {f : α → Cond} {a b : List α} (ha : GoodIn big (a.map f)) (hb : GoodIn big (b.map f)) : GoodIn big ((a ++ b).map f) := by rw [List.map_append]; exact goodIn_app ha hb
theorem am_appF {α : Type} {big : List Cond} {f : α → List Cond} {a b : List α} (ha : GoodIn big (a.flatMap f)) (hb : GoodIn big (b.flatMap f)) : GoodIn big ((a ++ b).flatMap f) := by rw [List.flatMap_append]; exact goodIn_app ha hb
def am_fs0 : List (Nat × Nat × Nat × Nat × FieldType × Bool) := [(0, 9, 0, 0, .array .int, true), (0, 15, 0, 1, .array .int, true), (0, 18, 0, 2, .array .int, true), (0, 37, 0, 3, .int, false), (0, 46, 3, 0, .array .int, true), (0, 56, 3, 3, .array .int, true), (1, 12, 1, 0, .object "LetterNeedles$Line", true), (1, 18, 1, 1, .object "LetterNeedles$Line", true), (1, 21, 1, 2, .array .int, true), (1, 35, 1, 3, .int, false), (1, 77, 3, 4, .int, false), (2, 9, 2, 0, .array .int, true), (2, 15, 2, 1, .int, false), (3, 9, 3, 0, .array .int, true), (3, 15, 3, 1, .array .int, true), (3, 18, 3, 2, .array .int, true), (3, 21, 3, 3, .array .int, true), (3, 24, 3, 4, .int, false), (3, 28, 3, 5, .int, false), (3, 31, 3, 6, .int, false), (4, 9, 4, 0, .array .int, true), (4, 15, 4, 1, .array .int, true), (4, 18, 4, 2, .int, false), (5, 11, 5, 0, .array (.object "LetterNeedles$Line"), true), (5, 17, 5, 1, .array (.object "LetterNeedles$Line"), true)]
set_option maxRecDepth 20000 in
theorem am_fs0_g : GoodIn lw_tbl (am_fs0.map am_fw) := goodIn_r _ [249, 250, 251, 253, 116, 125, 230, 231, 232, 233, 127, 214, 215, 115, 120, 122, 124, 126, 131, 135, 97, 98, 99, 163, 164] (by decide +kernel) (by decide +kernel)
def am_fs1 : List (Nat × Nat × Nat × Nat × FieldType × Bool) := [(5, 21, 5, 3, .int, false), (5, 25, 5, 4, .int, false), (5, 28, 5, 2, .int, false), (6, 9, 6, 0, .array .char, true), (6, 15, 6, 1, .int, false), (6, 34, 3, 0, .array .int, true), (6, 40, 3, 4, .int, false), (6, 43, 3, 5, .int, false), (6, 46, 3, 6, .int, false), (7, 9, 7, 0, .array .int, true), (7, 15, 7, 1, .array .int, true), (7, 18, 7, 2, .array .byte, true), (7, 22, 7, 4, .array .int, true), (7, 25, 7, 5, .int, false), (7, 55, 7, 3, .boolean, false), (7, 71, 3, 4, .int, false), (7, 74, 3, 5, .int, false), (7, 77, 3, 6, .int, false), (7, 80, 3, 0, .array .int, true), (8, 10, 8, 0, .object "LetterNeedles$Script", true), (8, 19, 8, 1, .object "LetterNeedles$Messages", true), (8, 26, 8, 2, .object "LetterNeedles$Line", true), (8, 30, 8, 3, .object "LetterNeedles$Line", true), (8, 36, 8, 4, .object "LetterNeedles$Past", true), (8, 43, 8, 5, .object "LetterNeedles$Suspects", true)]
set_option maxRecDepth 20000 in
theorem am_fs1_g : GoodIn lw_tbl (am_fs1.map am_fw) := goodIn_r _ [166, 168, 165, 82, 83, 118, 129, 133, 137, 187, 188, 189, 191, 192, 190, 130, 134, 138, 119, 399, 400, 401, 402, 403, 404] (by decide +kernel) (by decide +kernel)
def am_fs2 : List (Nat × Nat × Nat × Nat × FieldType × Bool) := [(8, 50, 8, 6, .object "LetterNeedles$Hearing", true), (8, 57, 8, 7, .object "LetterNeedles$Contest", true), (8, 64, 8, 8, .object "LetterNeedles$Arrangement", true), (8, 94, 6, 1, .int, false), (8, 104, 4, 2, .int, false), (8, 111, 3, 0, .array .int, true), (8, 115, 3, 1, .array .int, true), (8, 118, 3, 2, .array .int, true), (8, 121, 3, 4, .int, false), (8, 128, 3, 5, .int, false), (8, 131, 3, 6, .int, false), (8, 167, 5, 3, .int, false), (8, 208, 0, 3, .int, false), (8, 211, 0, 2, .array .int, true), (8, 214, 7, 5, .int, false), (8, 230, 2, 1, .int, false), (8, 260, 5, 4, .int, false), (9, 7, 9, 0, .array .int, true), (9, 13, 9, 2, .array .int, true), (9, 16, 9, 4, .array .int, true), (9, 19, 9, 5, .array .int, true), (9, 22, 9, 6, .array .int, true), (9, 25, 9, 7, .array .int, true), (9, 28, 9, 8, .array .int, true), (9, 31, 9, 10, .array .int, true)]
set_option maxRecDepth 20000 in
theorem am_fs2_g : GoodIn lw_tbl (am_fs2.map am_fw) := goodIn_r _ [405, 406, 407, 84, 100, 117, 121, 123, 128, 132, 136, 167, 254, 252, 193, 216, 169, 884, 886, 888, 889, 890, 891, 892, 894] (by decide +kernel) (by decide +kernel)
def am_fs3 : List (Nat × Nat × Nat × Nat × FieldType × Bool) := [(9, 34, 9, 12, .array .int, true), (9, 37, 9, 14, .array .int, true), (9, 40, 9, 19, .array .int, true), (9, 43, 9, 20, .array .int, true), (9, 46, 9, 21, .array .int, true), (9, 49, 9, 22, .array .int, true), (9, 52, 9, 23, .array .int, true), (9, 55, 9, 24, .array .int, true), (9, 58, 9, 25, .array .int, true), (9, 61, 9, 26, .array .int, true), (9, 64, 9, 27, .array .int, true), (9, 67, 9, 28, .array .int, true), (9, 88, 9, 1, .int, false), (9, 94, 9, 3, .int, false), (9, 101, 9, 16, .int, false), (9, 107, 9, 17, .boolean, false), (9, 111, 9, 18, .int, false), (9, 138, 9, 9, .int, false), (9, 141, 9, 11, .int, false), (9, 144, 9, 13, .int, false), (9, 147, 9, 15, .int, false)]
set_option maxRecDepth 20000 in
theorem am_fs3_g : GoodIn lw_tbl (am_fs3.map am_fw) := goodIn_r _ [896, 898, 903, 904, 905, 906, 907, 908, 909, 910, 911, 912, 885, 887, 900, 901, 902, 893, 895, 897, 899] (by decide +kernel) (by decide +kernel)
set_option maxRecDepth 20000 in
theorem am_fs_eq : am_fs = am_fs0 ++ (am_fs1 ++ (am_fs2 ++ (am_fs3))) := by decide +kernel
theorem am_fs_g : GoodIn lw_tbl (am_fs.map am_fw) := by rw [am_fs_eq]; exact am_appM am_fs0_g (am_appM am_fs1_g (am_appM am_fs2_g (am_fs3_g)))
def am_ms0 : List (Nat × Nat × Nat × Nat × Nat) := [(0, 3, 0, 6, 0), (0, 21, 199, 1, 2), (0, 27, 22, 0, 1), (0, 33, 2, 0, 3), (0, 42, 4, 0, 3), (0, 49, 3, 1, 4), (0, 59, 24, 0, 1), (0, 63, 25, 1, 5), (0, 67, 198, 1, 1), (0, 72, 5, 0, 1), (0, 75, 111, 4, 2), (1, 3, 0, 6, 0), (1, 11, 16, 5, 0), (1, 25, 17, 0, 1), (1, 29, 199, 1, 2)]
set_option maxRecDepth 20000 in
theorem am_ms0_g : GoodIn lw_tbl (am_ms0.flatMap am_sw) := goodIn_r _ [248, 74, 75, 644, 645, 67, 647, 499, 500, 54, 648, 650, 13, 59, 659, 661, 14, 59, 652, 653, 59, 655, 513, 514, 54, 656, 517, 54, 663, 530, 66, 664, 666, 15, 59, 461, 51, 227, 74, 75, 112, 54, 746, 488, 489, 54, 747, 645, 67] (by decide +kernel) (by decide +kernel)
def am_ms1 : List (Nat × Nat × Nat × Nat × Nat) := [(1, 39, 10, 0, 3), (1, 43, 8, 0, 5), (1, 47, 9, 0, 2), (1, 51, 0, 10, 2), (1, 56, 0, 9, 2), (1, 59, 11, 0, 2), (1, 63, 29, 0, 0), (1, 67, 39, 0, 4), (1, 73, 30, 0, 1), (2, 3, 0, 6, 0), (2, 19, 36, 0, 1), (2, 25, 37, 0, 2), (3, 3, 0, 6, 0), (3, 34, 19, 0, 0), (3, 37, 21, 0, 2)]
set_option maxRecDepth 20000 in
theorem am_ms1_g : GoodIn lw_tbl (am_ms1.flatMap am_sw) := goodIn_r _ [752, 754, 18, 58, 762, 749, 750, 58, 763, 765, 20, 58, 768, 492, 65, 493, 769, 713, 65, 714, 756, 758, 19, 58, 767, 548, 549, 54, 761, 592, 593, 53, 760, 552, 553, 54, 213, 74, 75, 732, 472, 473, 53, 733, 476, 477, 53, 114, 74, 75, 618, 326, 327, 54, 619, 495, 496, 54] (by decide +kernel) (by decide +kernel)
def am_ms2 : List (Nat × Nat × Nat × Nat × Nat) := [(3, 41, 22, 0, 1), (3, 45, 24, 0, 1), (3, 49, 25, 1, 5), (3, 53, 27, 0, 0), (3, 60, 111, 4, 2), (3, 63, 26, 1, 1), (3, 66, 23, 0, 1), (3, 72, 32, 1, 3), (4, 3, 0, 6, 0), (4, 22, 106, 4, 3), (4, 29, 19, 0, 0), (4, 34, 37, 0, 2), (4, 38, 21, 0, 2), (5, 3, 0, 6, 0), (5, 20, 16, 5, 0)]
set_option maxRecDepth 20000 in
theorem am_ms2_g : GoodIn lw_tbl (am_ms2.flatMap am_sw) := goodIn_r _ [498, 499, 500, 54, 512, 513, 514, 54, 516, 517, 54, 519, 520, 521, 54, 461, 51, 505, 506, 54, 508, 510, 10, 54, 563, 564, 54, 96, 74, 75, 350, 51, 595, 326, 327, 54, 596, 476, 477, 53, 597, 495, 496, 54, 159, 74, 75, 112, 54] (by decide +kernel) (by decide +kernel)
def am_ms3 : List (Nat × Nat × Nat × Nat × Nat) := [(5, 31, 17, 0, 1), (5, 35, 0, 10, 2), (6, 3, 0, 6, 0), (6, 19, 55, 0, 1), (6, 23, 60, 0, 1), (6, 27, 53, 0, 4), (6, 31, 59, 0, 1), (6, 49, 54, 0, 3), (6, 53, 34, 0, 0), (6, 58, 35, 0, 1), (6, 62, 56, 0, 1), (6, 65, 57, 0, 2), (6, 69, 58, 0, 1), (6, 72, 107, 4, 1), (6, 76, 106, 4, 3)]
set_option maxRecDepth 20000 in
theorem am_ms3_g : GoodIn lw_tbl (am_ms3.flatMap am_sw) := goodIn_r _ [487, 488, 489, 54, 491, 492, 65, 493, 81, 74, 75, 333, 335, 1, 52, 337, 339, 2, 52, 364, 366, 7, 52, 345, 347, 4, 52, 368, 370, 8, 52, 372, 373, 374, 53, 376, 377, 378, 53, 341, 343, 3, 52, 356, 358, 5, 52, 360, 362, 6, 52, 353, 51, 350, 51] (by decide +kernel) (by decide +kernel)
def am_ms4 : List (Nat × Nat × Nat × Nat × Nat) := [(7, 3, 0, 6, 0), (7, 29, 68, 0, 1), (7, 33, 65, 0, 1), (7, 37, 67, 0, 2), (7, 41, 199, 1, 2), (7, 47, 111, 4, 2), (7, 50, 0, 9, 2), (7, 59, 18, 0, 0), (7, 64, 69, 1, 2), (7, 68, 20, 0, 2), (8, 1, 0, 6, 0), (8, 9, 47, 5, 0), (8, 18, 33, 5, 0), (8, 25, 16, 5, 0), (8, 35, 41, 2, 0)]
set_option maxRecDepth 20000 in
theorem am_ms4_g : GoodIn lw_tbl (am_ms4.flatMap am_sw) := goodIn_r _ [186, 74, 75, 685, 687, 16, 56, 694, 696, 17, 56, 706, 707, 708, 56, 710, 645, 67, 461, 51, 712, 713, 65, 714, 689, 322, 323, 54, 690, 691, 56, 693, 615, 616, 54, 73, 74, 75, 79, 52, 94, 53, 112, 54, 156, 157, 55] (by decide +kernel) (by decide +kernel)
def am_ms5 : List (Nat × Nat × Nat × Nat × Nat) := [(8, 42, 61, 5, 0), (8, 49, 12, 5, 0), (8, 56, 6, 5, 0), (8, 63, 0, 5, 0), (8, 70, 0, 7, 0), (8, 76, 0, 8, 1), (8, 80, 48, 0, 1), (8, 84, 112, 0, 0), (8, 87, 49, 0, 0), (8, 90, 106, 1, 3), (8, 97, 50, 0, 0), (8, 100, 51, 0, 0), (8, 107, 107, 1, 1), (8, 124, 111, 1, 2), (8, 134, 109, 0, 1)]
set_option maxRecDepth 20000 in
theorem am_ms5_g : GoodIn lw_tbl (am_ms5.flatMap am_sw) := goodIn_r _ [184, 56, 211, 57, 225, 58, 246, 59, 313, 314, 315, 52, 317, 319, 0, 51, 395, 396, 397, 52, 355, 350, 51, 439, 440, 441, 52, 447, 448, 449, 52, 455, 353, 51, 460, 461, 51, 467, 469, 9, 51] (by decide +kernel) (by decide +kernel)
def am_ms6 : List (Nat × Nat × Nat × Nat × Nat) := [(8, 137, 36, 0, 1), (8, 141, 37, 0, 2), (8, 144, 43, 0, 1), (8, 148, 21, 0, 2), (8, 151, 198, 1, 1), (8, 156, 29, 0, 0), (8, 159, 30, 0, 1), (8, 163, 31, 0, 2), (8, 170, 44, 0, 1), (8, 173, 27, 0, 0), (8, 176, 110, 0, 3), (8, 179, 17, 0, 1), (8, 182, 39, 0, 4), (8, 186, 38, 0, 5), (8, 190, 40, 0, 4)]
set_option maxRecDepth 20000 in
theorem am_ms6_g : GoodIn lw_tbl (am_ms6.flatMap am_sw) := goodIn_r _ [471, 472, 473, 53, 475, 476, 477, 53, 483, 484, 485, 55, 494, 495, 496, 54, 529, 530, 66, 547, 548, 549, 54, 551, 552, 553, 54, 559, 560, 561, 54, 570, 571, 572, 55, 578, 520, 521, 54, 583, 585, 11, 51, 590, 488, 489, 54, 591, 592, 593, 53, 598, 599, 600, 53, 606, 607, 608, 53] (by decide +kernel) (by decide +kernel)
def am_ms7 : List (Nat × Nat × Nat × Nat × Nat) := [(8, 194, 108, 1, 1), (8, 197, 20, 0, 2), (8, 200, 113, 0, 4), (8, 204, 1, 0, 2), (8, 217, 62, 0, 2), (8, 220, 64, 0, 1), (8, 224, 66, 0, 1), (8, 227, 67, 0, 2), (8, 233, 13, 0, 1), (8, 235, 15, 0, 2), (8, 239, 63, 0, 0), (8, 240, 14, 0, 0), (8, 241, 7, 0, 2), (8, 244, 8, 0, 5), (8, 248, 114, 0, 2)]
set_option maxRecDepth 20000 in
theorem am_ms7_g : GoodIn lw_tbl (am_ms7.flatMap am_sw) := goodIn_r _ [587, 588, 51, 614, 615, 616, 54, 628, 630, 12, 51, 640, 641, 642, 59, 673, 674, 675, 56, 681, 682, 683, 56, 702, 703, 704, 56, 715, 707, 708, 56, 720, 721, 722, 57, 728, 729, 730, 57, 387, 388, 389, 56, 391, 392, 393, 57, 742, 743, 744, 58, 748, 749, 750, 58, 774, 776, 21, 51] (by decide +kernel) (by decide +kernel)
def am_ms8 : List (Nat × Nat × Nat × Nat × Nat) := [(8, 251, 116, 1, 2), (8, 254, 118, 1, 2), (8, 257, 119, 0, 2), (8, 263, 45, 0, 1), (8, 266, 46, 0, 1), (8, 269, 28, 0, 0), (8, 272, 18, 0, 0), (8, 275, 19, 0, 0), (8, 278, 52, 0, 2), (8, 282, 42, 0, 0), (8, 287, 115, 1, 3), (8, 292, 117, 1, 2), (9, 1, 0, 6, 0), (9, 72, 124, 0, 2), (9, 84, 137, 0, 0)]
set_option maxRecDepth 20000 in
theorem am_ms8_g : GoodIn lw_tbl (am_ms8.flatMap am_sw) := goodIn_r _ [782, 783, 51, 797, 798, 51, 803, 805, 22, 51, 811, 812, 813, 55, 819, 820, 821, 55, 827, 828, 829, 54, 321, 322, 323, 54, 325, 326, 327, 54, 329, 330, 331, 52, 383, 384, 385, 55, 779, 780, 51, 786, 787, 51, 836, 74, 75, 838, 840, 23, 64, 847, 848, 849, 64] (by decide +kernel) (by decide +kernel)
def am_ms9 : List (Nat × Nat × Nat × Nat × Nat) := [(9, 97, 121, 1, 3), (9, 104, 127, 0, 0), (9, 114, 130, 1, 1), (9, 118, 129, 0, 1), (9, 122, 128, 0, 1), (9, 125, 131, 0, 0), (9, 128, 132, 0, 0), (9, 131, 133, 0, 0), (9, 134, 123, 1, 5), (9, 150, 126, 1, 1), (9, 154, 125, 0, 1), (9, 157, 141, 1, 1), (9, 160, 143, 0, 2), (9, 164, 142, 0, 2), (9, 168, 144, 0, 2)]
set_option maxRecDepth 20000 in
theorem am_ms9_g : GoodIn lw_tbl (am_ms9.flatMap am_sw) := goodIn_r _ [867, 868, 64, 859, 861, 26, 64, 878, 879, 64, 870, 872, 28, 64, 863, 865, 27, 64, 874, 876, 29, 64, 855, 857, 25, 64, 851, 853, 24, 64, 881, 882, 64, 989, 990, 64, 1000, 1002, 30, 64, 1020, 1021, 64, 1027, 1029, 35, 64, 1016, 1018, 33, 64, 1023, 1025, 34, 64] (by decide +kernel) (by decide +kernel)
def am_ms10 : List (Nat × Nat × Nat × Nat × Nat) := [(9, 171, 146, 0, 2), (9, 175, 148, 0, 0), (9, 178, 145, 0, 2), (9, 181, 147, 0, 1), (9, 185, 149, 1, 3), (9, 189, 154, 1, 2), (9, 192, 155, 1, 2), (9, 195, 156, 1, 2), (9, 198, 158, 1, 3), (9, 202, 163, 0, 0), (9, 205, 165, 1, 2), (9, 209, 162, 0, 0), (9, 212, 164, 0, 3), (9, 216, 168, 0, 2), (9, 220, 169, 0, 2)]
set_option maxRecDepth 20000 in
theorem am_ms10_g : GoodIn lw_tbl (am_ms10.flatMap am_sw) := goodIn_r _ [1035, 1037, 37, 64, 1008, 1010, 31, 64, 1012, 1014, 32, 64, 1031, 1033, 36, 64, 1043, 1044, 64, 1061, 1062, 64, 1058, 1059, 64, 1064, 1065, 64, 1071, 1072, 64, 1097, 1099, 40, 64, 1086, 1087, 64, 1089, 1091, 38, 64, 1093, 1095, 39, 64, 1113, 1115, 42, 64, 1109, 1111, 41, 64] (by decide +kernel) (by decide +kernel)
def am_ms11 : List (Nat × Nat × Nat × Nat × Nat) := [(9, 223, 122, 1, 1), (9, 226, 174, 0, 0), (9, 230, 176, 0, 2), (9, 233, 178, 0, 0), (9, 236, 179, 0, 2), (9, 239, 184, 0, 3), (9, 242, 185, 0, 2), (9, 247, 187, 1, 2), (9, 250, 188, 0, 2), (9, 253, 189, 1, 2), (9, 262, 192, 1, 2), (9, 265, 196, 0, 0)]
set_option maxRecDepth 20000 in
theorem am_ms11_g : GoodIn lw_tbl (am_ms11.flatMap am_sw) := goodIn_r _ [1125, 1126, 64, 1136, 1138, 43, 64, 1148, 1150, 44, 64, 1156, 1145, 1146, 64, 1157, 1159, 45, 64, 1177, 1179, 46, 64, 1181, 1183, 47, 64, 1197, 1198, 64, 1189, 1191, 48, 64, 1193, 1194, 64, 1208, 1209, 64, 1226, 1228, 49, 64] (by decide +kernel) (by decide +kernel)
set_option maxRecDepth 20000 in
theorem am_ms_eq : am_ms = am_ms0 ++ (am_ms1 ++ (am_ms2 ++ (am_ms3 ++ (am_ms4 ++ (am_ms5 ++ (am_ms6 ++ (am_ms7 ++ (am_ms8 ++ (am_ms9 ++ (am_ms10 ++ (am_ms11))))))))))) := by decide +kernel
theorem am_ms_g : GoodIn lw_tbl (am_ms.flatMap am_sw) := by rw [am_ms_eq]; exact am_appF am_ms0_g (am_appF am_ms1_g (am_appF am_ms2_g (am_appF am_ms3_g (am_appF am_ms4_g (am_appF am_ms5_g (am_appF am_ms6_g (am_appF am_ms7_g (am_appF am_ms8_g (am_appF am_ms9_g (am_appF am_ms10_g (am_ms11_g)))))))))))
def am_tab0 : List (aM) := [m_X0_init, m_X0_find, m_X0_noteShown, m_X0_standsBehind, m_X0_fillFrom, m_X0_keepIfBetter, m_X1_init, m_X1_beginFor, m_X1_outcome, m_X1_mendableBehind, m_X1_endOf, m_X1_layOut, m_X2_init, m_X2_add, m_X2_empty, m_X2_isLike, m_X3_init, m_X3_copyFrom, m_X3_makeWhole, m_X3_rest]
set_option maxRecDepth 20000 in
theorem am_tab0_g : GoodIn lw_tbl (am_tab0.map am_cw) := goodIn_r _ [247, 643, 651, 654, 662, 667, 226, 745, 751, 766, 755, 759, 212, 723, 394, 731, 113, 490, 324, 328] (by decide +kernel) (by decide +kernel)
def am_tab1 : List (aM) := [m_X3_sendFromRest, m_X3_sendFor, m_X3_carrySign, m_X3_shareFrom, m_X3_aheadOf, m_X3_standing, m_X3_otherWay, m_X3_readSign, m_X3_notUpright, m_X3_mendableWires, m_X3_mendAll, m_X3_swapNeedles, m_X3_swapIn, m_X4_init, m_X4_begin, m_X4_spell, m_X4_lengthOf, m_X4_signOf, m_X4_readOn, m_X4_rightOn]
set_option maxRecDepth 20000 in
theorem am_tab1_g : GoodIn lw_tbl (am_tab1.map am_cw) := goodIn_r _ [617, 497, 501, 511, 515, 518, 507, 522, 830, 550, 554, 562, 565, 95, 375, 379, 474, 478, 601, 594] (by decide +kernel) (by decide +kernel)
def am_tab2 : List (aM) := [m_X4_isAllRightOn, m_X5_init, m_X5_empty, m_X5_remember, m_X5_undoOn, m_X5_keepLine, m_X5_backOn, m_X6_init, m_X6_append, m_X6_empty, m_X6_firstFault, m_X6_tellsMessage, m_X6_tell, m_X6_tellItem, m_X6_tellMessage, m_X6_itemEnd, m_X6_needleEnd, m_X6_wireEnd, m_X6_messageEnd, m_X6_figureAt]
set_option maxRecDepth 20000 in
theorem am_tab2_g : GoodIn lw_tbl (am_tab2.map am_cw) := goodIn_r _ [609, 158, 386, 486, 573, 814, 822, 80, 316, 398, 442, 450, 332, 367, 371, 336, 344, 359, 363, 348] (by decide +kernel) (by decide +kernel)
def am_tab3 : List (aM) := [m_X6_letterAt, m_X7_init, m_X7_add, m_X7_empty, m_X7_possible, m_X7_agrees, m_X7_bestSign, m_X7_greatestPart, m_X7_workOutReadings, m_X7_makeWrong, m_X8_init, m_X8_write, m_X8_wipe, m_X8_fault, m_X8_lay, m_X8_needle, m_X8_wire, m_X8_spelt, m_X8_send, m_X8_cut]
set_option maxRecDepth 20000 in
theorem am_tab3_g : GoodIn lw_tbl (am_tab3.map am_cw) := goodIn_r _ [340, 185, 676, 390, 684, 697, 705, 709, 688, 692, 72, 430, 434, 438, 446, 454, 459, 466, 482, 528] (by decide +kernel) (by decide +kernel)
def am_tab4 : List (aM) := [m_X8_turn, m_X8_touch, m_X8_mend, m_X8_change, m_X8_undo, m_X8_reads, m_X8_said, m_X8_pace, m_X8_clear, m_X8_like, m_X8_mending, m_X8_changing, m_X8_order, m_X8_see, m_X8_canBe, m_X8_tries, m_X8_hear, m_X8_fits, m_X8_forget, m_X8_duel]
set_option maxRecDepth 20000 in
theorem am_tab4_g : GoodIn lw_tbl (am_tab4.map am_cw) := goodIn_r _ [538, 542, 546, 558, 569, 577, 582, 605, 613, 623, 627, 635, 639, 672, 680, 701, 719, 727, 737, 741] (by decide +kernel) (by decide +kernel)
def am_tab5 : List (aM) := [m_X8_odds, m_X8_mean, m_X8_day, m_X8_keep, m_X8_back, m_X8_count, m_X8_within, m_X8_isPlace, m_X8_isBeats, m_X8_isMessage, m_X8_isSaying, m_X8_bitAt, m_X8_layScript, m_X8_isAllRightMended, m_X8_slackChances, m_X8_slackShare, m_X8_lowestTerms, m_X8_commonDivisor, m_X8_drawOf, m_X8_doDrawn]
set_option maxRecDepth 20000 in
theorem am_tab5_g : GoodIn lw_tbl (am_tab5.map am_cw) := goodIn_r _ [773, 792, 796, 810, 818, 826, 351, 354, 589, 470, 586, 462, 320, 631, 777, 781, 784, 788, 799, 806] (by decide +kernel) (by decide +kernel)
def am_tab6 : List (aM) := [m_X9_init, m_X9_in, m_X9_bits, m_X9_bring, m_X9_tells, m_X9_isMessage, m_X9_isPlace, m_X9_here, m_X9_figure, m_X9_sign, m_X9_signOf, m_X9_readMessage, m_X9_readItem, m_X9_reading, m_X9_write, m_X9_wipe, m_X9_fault, m_X9_lay, m_X9_needle, m_X9_wire]
set_option maxRecDepth 20000 in
theorem am_tab6_g : GoodIn lw_tbl (am_tab6.map am_cw) := goodIn_r _ [835, 869, 1127, 883, 841, 1003, 991, 862, 866, 873, 880, 877, 858, 854, 975, 979, 983, 850, 988, 995] (by decide +kernel) (by decide +kernel)
def am_tab7 : List (aM) := [m_X9_spelt, m_X9_other, m_X9_carries, m_X9_stiff, m_X9_stands, m_X9_beat, m_X9_isSign, m_X9_readOf, m_X9_notes, m_X9_sum, m_X9_send, m_X9_cut, m_X9_turn, m_X9_touch, m_X9_touches, m_X9_mayMend, m_X9_mends, m_X9_mend, m_X9_changes, m_X9_change]
set_option maxRecDepth 20000 in
theorem am_tab7_g : GoodIn lw_tbl (am_tab7.map am_cw) := goodIn_r _ [999, 1022, 1019, 1030, 1026, 1015, 1038, 1034, 1011, 1045, 1007, 1042, 1049, 1053, 1063, 1060, 1066, 1057, 1073, 1070] (by decide +kernel) (by decide +kernel)
def am_tab8 : List (aM) := [m_X9_undo, m_X9_reads, m_X9_asItIs, m_X9_rests, m_X9_says, m_X9_isPace, m_X9_said, m_X9_pace, m_X9_sent, m_X9_clearOf, m_X9_clear, m_X9_like, m_X9_mending, m_X9_changing, m_X9_nextOrder, m_X9_order, m_X9_readBy, m_X9_see, m_X9_canBe, m_X9_greatest]
set_option maxRecDepth 20000 in
theorem am_tab8_g : GoodIn lw_tbl (am_tab8.map am_cw) := goodIn_r _ [1077, 1081, 1092, 1100, 1096, 1088, 1085, 1104, 1116, 1112, 1108, 1120, 1124, 1131, 1139, 1135, 1151, 1143, 1147, 1160] (by decide +kernel) (by decide +kernel)
def am_tab9 : List (aM) := [m_X9_tries, m_X9_hear, m_X9_fits, m_X9_forget, m_X9_worthOf, m_X9_chosen, m_X9_duel, m_X9_divisor, m_X9_likely, m_X9_part, m_X9_odds, m_X9_mean, m_X9_draw, m_X9_day, m_X9_keep, m_X9_back, m_X9_notUpright, m_X9_count, m_J6_bitCount, m_J7_fill]
set_option maxRecDepth 20000 in
theorem am_tab9_g : GoodIn lw_tbl (am_tab9.map am_cw) := goodIn_r _ [1155, 1164, 1168, 1172, 1180, 1184, 1176, 1199, 1192, 1195, 1188, 1203, 1210, 1207, 1217, 1221, 1229, 1225, 531, 646] (by decide +kernel) (by decide +kernel)
set_option maxRecDepth 20000 in
theorem am_tab_eq : am_tab = am_tab0 ++ (am_tab1 ++ (am_tab2 ++ (am_tab3 ++ (am_tab4 ++ (am_tab5 ++ (am_tab6 ++ (am_tab7 ++ (am_tab8 ++ (am_tab9))))))))) := rfl
theorem am_tab_g : GoodIn lw_tbl (am_tab.map am_cw) := by rw [am_tab_eq]; exact am_appM am_tab0_g (am_appM am_tab1_g (am_appM am_tab2_g (am_appM am_tab3_g (am_appM am_tab4_g (am_appM am_tab5_g (am_appM am_tab6_g (am_appM am_tab7_g (am_appM am_tab8_g (am_tab9_g)))))))))
def am_ks0 : List (Nat × Nat × (Int32 ⊕ Int64)) := [(0, 41, .inl 1048575), (8, 291, .inl 100000), (8, 295, .inr 7919), (8, 297, .inr 6151), (8, 299, .inr 65521), (9, 70, .inr 7940176207992992556), (9, 76, .inr 3619603493795221845), (9, 78, .inr 4704930455205270348), (9, 80, .inr 5716553677576948801), (9, 82, .inr 5522747), (9, 92, .inr 255), (9, 246, .inl 100000), (9, 256, .inr 7919), (9, 258, .inr 6151), (9, 260, .inr 65521), (10, 265, .inl 1431655765), (10, 266, .inl 858993459), (10, 267, .inl 252645135)]
set_option maxRecDepth 20000 in
theorem am_ks0_g : GoodIn lw_tbl (am_ks0.map am_kw) := goodIn_r _ [658, 785, 800, 801, 802, 837, 843, 844, 845, 846, 842, 1196, 1211, 1212, 1213, 532, 533, 534] (by decide +kernel) (by decide +kernel)
set_option maxRecDepth 20000 in
theorem am_ks_eq : am_ks = am_ks0 := by decide +kernel
theorem am_ks_g : GoodIn lw_tbl (am_ks.map am_kw) := by rw [am_ks_eq]; exact am_ks0_g
def am_cs0 : List (Nat × Nat × Nat) := [(1, 9, 3), (5, 9, 3), (8, 7, 6), (8, 16, 4), (8, 23, 3), (8, 33, 5), (8, 40, 7), (8, 47, 2), (8, 54, 1), (8, 61, 0)]
set_option maxRecDepth 20000 in
theorem am_cs0_g : GoodIn lw_tbl (am_cs0.flatMap am_nw) := goodIn_r _ [228, 110, 54, 160, 110, 54, 76, 77, 52, 91, 92, 53, 109, 110, 54, 154, 155, 55, 181, 182, 56, 208, 209, 57, 222, 223, 58, 243, 244, 59] (by decide +kernel) (by decide +kernel)
set_option maxRecDepth 20000 in
theorem am_cs_eq : am_cs = am_cs0 := by decide +kernel
theorem am_cs_g : GoodIn lw_tbl (am_cs.flatMap am_nw) := by rw [am_cs_eq]; exact am_cs0_g
set_option maxRecDepth 20000 in
theorem am_u0_g : GoodIn lw_tbl (u_ws RX0 TX0 4) := goodIn_r _ [255, 257, 259, 261] (by decide +kernel) (by decide +kernel)
set_option maxRecDepth 20000 in
theorem am_u1_g : GoodIn lw_tbl (u_ws RX1 TX1 4) := goodIn_r _ [234, 236, 238, 240] (by decide +kernel) (by decide +kernel)
set_option maxRecDepth 20000 in
theorem am_u2_g : GoodIn lw_tbl (u_ws RX2 TX2 2) := goodIn_r _ [217, 219] (by decide +kernel) (by decide +kernel)
set_option maxRecDepth 20000 in
theorem am_u3_g : GoodIn lw_tbl (u_ws RX3 TX3 7) := goodIn_r _ [139, 141, 143, 145, 147, 149, 151] (by decide +kernel) (by decide +kernel)
set_option maxRecDepth 20000 in
theorem am_u4_g : GoodIn lw_tbl (u_ws RX4 TX4 3) := goodIn_r _ [101, 103, 105] (by decide +kernel) (by decide +kernel)
set_option maxRecDepth 20000 in
theorem am_u5_g : GoodIn lw_tbl (u_ws RX5 TX5 5) := goodIn_r _ [170, 172, 174, 176, 178] (by decide +kernel) (by decide +kernel)
set_option maxRecDepth 20000 in
theorem am_u6_g : GoodIn lw_tbl (u_ws RX6 TX6 2) := goodIn_r _ [85, 87] (by decide +kernel) (by decide +kernel)
set_option maxRecDepth 20000 in
theorem am_u7_g : GoodIn lw_tbl (u_ws RX7 TX7 6) := goodIn_r _ [194, 196, 198, 200, 202, 204] (by decide +kernel) (by decide +kernel)
set_option maxRecDepth 20000 in
theorem am_u8_g : GoodIn lw_tbl (u_ws RX8 TX8 9) := goodIn_r _ [408, 410, 412, 414, 416, 418, 420, 422, 424] (by decide +kernel) (by decide +kernel)
set_option maxRecDepth 20000 in
theorem am_u9_g : GoodIn lw_tbl (u_ws RX9 TX9 29) := goodIn_r _ [913, 915, 917, 919, 921, 923, 925, 927, 929, 931, 933, 935, 937, 939, 941, 943, 945, 947, 949, 951, 953, 955, 957, 959, 961, 963, 965, 967, 969] (by decide +kernel) (by decide +kernel)
theorem am_uw_g : GoodIn lw_tbl (vwCl.flatMap am_uw) := by
  simp only [vwCl, List.flatMap_cons, List.flatMap_nil, List.append_nil, am_uw]
  exact goodIn_app am_u0_g (goodIn_app am_u1_g (goodIn_app am_u2_g (goodIn_app am_u3_g (goodIn_app am_u4_g (goodIn_app am_u5_g (goodIn_app am_u6_g (goodIn_app am_u7_g (goodIn_app am_u8_g (am_u9_g)))))))))
def am_xw : List Cond := [.arrayClass .int, .arrayClass .char, .arrayClass .byte, .fieldLink RX8 284 RX8 "POINTING" "[I", .initialized RX8, .initialized RJ0, .initialized RJ1, .initialized RJ3, .methodLink RX8 70 yJ0_length_8abf5, .instanceMethod yJ0_length_8abf5, .selects RJ0 yJ0_length_8abf5 yJ0_length_8abf5, .code yJ0_length_8abf5 cJ0_length_8abf5 1 (some .int), .methodLink RX8 76 yJ0_charAt_5068e, .instanceMethod yJ0_charAt_5068e, .selects RJ0 yJ0_charAt_5068e yJ0_charAt_5068e, .code yJ0_charAt_5068e cJ0_charAt_5068e 2 (some .char), .methodLink RJ0 335 yJ0_coder_7d493, .instanceMethod yJ0_coder_7d493, .selects RJ0 yJ0_coder_7d493 yJ0_coder_7d493, .code yJ0_coder_7d493 cJ0_coder_7d493 1 (some .byte), .methodLink RJ0 492 yJ0_isLatin1_aae02, .instanceMethod yJ0_isLatin1_aae02, .selects RJ0 yJ0_isLatin1_aae02 yJ0_isLatin1_aae02, .code yJ0_isLatin1_aae02 cJ0_isLatin1_aae02 1 (some .boolean), .methodLink RJ0 495 yJ1_charAt_3b067, .static yJ1_charAt_3b067, .code yJ1_charAt_3b067 cJ1_charAt_3b067 2 (some .char), .methodLink RJ1 9 yJ0_checkIndex_df160, .static yJ0_checkIndex_df160, .code yJ0_checkIndex_df160 cJ0_checkIndex_df160 2 none, .methodLink RJ0 1059 yJ3_checkIndex_8e157, .static yJ3_checkIndex_8e157, .code yJ3_checkIndex_8e157 cJ3_checkIndex_8e157 3 (some .int), .fieldLink RJ0 9 "java/lang/String" "value" "[B", .fieldLink RJ0 38 "java/lang/String" "COMPACT_STRINGS" "Z", .fieldLink RJ0 15 "java/lang/String" "coder" "B", .fieldLink RJ0 1053 "jdk/internal/util/Preconditions" "SIOOBE_FORMATTER" "Ljava/util/function/BiFunction;"]
theorem am_xw_g : GoodIn lw_tbl am_xw := goodIn_r _ [108, 90, 207, 778, 51, 60, 61, 62, 265, 266, 267, 268, 275, 276, 277, 278, 269, 270, 271, 272, 279, 280, 281, 282, 283, 284, 285, 286, 287, 288, 291, 292, 293, 1230, 273, 1231, 289] (by decide +kernel) (by decide +kernel)
/-- all words that the machine's instructions need (those of nest mates apart) -/
def am_G : List Cond := am_fs.map am_fw ++ (am_ms.flatMap am_sw ++ (am_tab.map am_cw ++ (am_ks.map am_kw ++ (am_cs.flatMap am_nw ++ (vwCl.flatMap am_uw ++ am_xw)))))
theorem am_G_g : GoodIn lw_tbl am_G := goodIn_app am_fs_g (goodIn_app am_ms_g (goodIn_app am_tab_g (goodIn_app am_ks_g (goodIn_app am_cs_g (goodIn_app am_uw_g am_xw_g)))))
theorem am_in_fs {q} (h : q ∈ am_fs) : am_fw q ∈ am_G := List.mem_append_left _ (List.mem_map_of_mem h)
theorem am_in_ms {q} (h : q ∈ am_ms) {w : Cond} (hw : w ∈ am_sw q) : w ∈ am_G := List.mem_append_right _ (List.mem_append_left _ (List.mem_flatMap.mpr ⟨q, h, hw⟩))
theorem am_in_tab {q} (h : q ∈ am_tab) : am_cw q ∈ am_G := List.mem_append_right _ (List.mem_append_right _ (List.mem_append_left _ (List.mem_map_of_mem h)))
theorem am_in_ks {q} (h : q ∈ am_ks) : am_kw q ∈ am_G := List.mem_append_right _ (List.mem_append_right _ (List.mem_append_right _ (List.mem_append_left _ (List.mem_map_of_mem h))))
theorem am_in_cs {q} (h : q ∈ am_cs) {w : Cond} (hw : w ∈ am_nw q) : w ∈ am_G := List.mem_append_right _ (List.mem_append_right _ (List.mem_append_right _ (List.mem_append_right _ (List.mem_append_left _ (List.mem_flatMap.mpr ⟨q, h, hw⟩)))))
theorem am_in_uw {q} (h : q ∈ vwCl) {w : Cond} (hw : w ∈ am_uw q) : w ∈ am_G := List.mem_append_right _ (List.mem_append_right _ (List.mem_append_right _ (List.mem_append_right _ (List.mem_append_right _ (List.mem_append_left _ (List.mem_flatMap.mpr ⟨q, h, hw⟩))))))
theorem am_in_xw {w : Cond} (h : w ∈ am_xw) : w ∈ am_G := List.mem_append_right _ (List.mem_append_right _ (List.mem_append_right _ (List.mem_append_right _ (List.mem_append_right _ (List.mem_append_right _ h)))))
theorem am_G_self : GoodIn am_G am_G := fun w h => ⟨h, (am_G_g w h).2⟩
theorem am_G_cons {m : aM} (h : m ∈ am_tab) : GoodIn am_G (am_cw m :: am_G) := fun w hw => (List.mem_cons.mp hw).elim (fun e => by rw [e]; exact am_G_self _ (am_in_tab h)) (am_G_self w)
