def am_y (k : Nat) : MethodName := (am_tab.getD k m_X0_init).1
def am_fw (q : Nat × Nat × Nat × Nat × FieldType × Bool) : Cond := .fieldLink (am_nm q.1) q.2.1 (am_cl q.2.2.1).1 ((am_cl q.2.2.1).2.1 q.2.2.2.1).2.1 ((am_cl q.2.2.1).2.1 q.2.2.2.1).2.2.1
def am_sw (q : Nat × Nat × Nat × Nat × Nat) : List Cond := match q.2.2.2.1 with
  | 0 => [.methodLink (am_nm q.1) q.2.1 (am_y q.2.2.1), .instanceMethod (am_y q.2.2.1), .selects (am_y q.2.2.1).cls (am_y q.2.2.1) (am_y q.2.2.1), .initialized (am_y q.2.2.1).cls]
  | 1 => [.methodLink (am_nm q.1) q.2.1 (am_y q.2.2.1), .static (am_y q.2.2.1), .initialized (am_y q.2.2.1).cls]
  | 2 => [.methodLink (am_nm q.1) q.2.1 (am_y q.2.2.1), .instanceMethod (am_y q.2.2.1), .initialized (am_y q.2.2.1).cls]
  | 4 => [.static (am_y q.2.2.1), .initialized (am_y q.2.2.1).cls]
  | 5 => [.instanceMethod (am_y q.2.2.1), .initialized (am_y q.2.2.1).cls]
  | 6 => [.methodLink (am_nm q.1) q.2.1 objectInit, .instanceMethod objectInit, .code objectInit ⟨#[0xb1]⟩ 1 none]
  | 9 => [.methodLink (am_nm q.1) q.2.1 Lib.Math.max.name, .static Lib.Math.max.name, .initialized "java/lang/Math", .code Lib.Math.max.name Lib.Math.max.code 2 (some .int)]
  | 10 => [.methodLink (am_nm q.1) q.2.1 Lib.Math.min.name, .static Lib.Math.min.name, .initialized "java/lang/Math", .code Lib.Math.min.name Lib.Math.min.code 2 (some .int)]
  | _ => []
def am_cw (m : aM) : Cond := .code m.1 m.2.2.1 m.2.2.2.1 m.2.2.2.2.1
def am_kw (q : Nat × Nat × (Int32 ⊕ Int64)) : Cond := match q.2.2 with
  | .inl v => .constant (am_nm q.1) q.2.1 v
  | .inr v => .constantLong (am_nm q.1) q.2.1 v
def am_nw (q : Nat × Nat × Nat) : List Cond := [.classLink (am_nm q.1) q.2.1 (am_cl q.2.2).1, .instantiable (am_cl q.2.2).1 (am_cl q.2.2).2.2, .initialized (am_cl q.2.2).1]
def am_uw (q : vw_C) : List Cond := u_ws q.1 q.2.1 q.2.2
theorem am_appM {α : Type} {big : List Cond} {f : α → Cond} {a b : List α} (ha : GoodIn big (a.map f)) (hb : GoodIn big (b.map f)) : GoodIn big ((a ++ b).map f) := by rw [List.map_append]; exact goodIn_app ha hb
theorem am_appF {α : Type} {big : List Cond} {f : α → List Cond} {a b : List α} (ha : GoodIn big (a.flatMap f)) (hb : GoodIn big (b.flatMap f)) : GoodIn big ((a ++ b).flatMap f) := by rw [List.flatMap_append]; exact goodIn_app ha hb
def am_fs0 : List (Nat × Nat × Nat × Nat × FieldType × Bool) := [(0, 9, 0, 0, .array .int, true), (0, 15, 0, 1, .array .int, true), (0, 18, 0, 2, .array .int, true), (0, 37, 0, 3, .int, false), (0, 46, 3, 0, .array .int, true), (0, 56, 3, 3, .array .int, true), (1, 9, 1, 3, .array .int, true), (1, 15, 1, 0, .object "LetterNeedles$Line", true), (1, 19, 1, 1, .object "LetterNeedles$Line", true), (1, 22, 1, 2, .object "LetterNeedles$Messages", true), (1, 32, 1, 4, .int, false), (1, 79, 3, 4, .int, false), (2, 9, 2, 0, .array .int, true), (2, 15, 2, 1, .int, false), (3, 9, 3, 0, .array .int, true), (3, 15, 3, 1, .array .int, true), (3, 18, 3, 2, .array .int, true), (3, 21, 3, 3, .array .int, true), (3, 24, 3, 4, .int, false), (3, 28, 3, 5, .int, false), (3, 31, 3, 6, .int, false), (4, 9, 4, 0, .array .int, true), (4, 15, 4, 1, .array .int, true), (4, 18, 4, 2, .int, false), (5, 11, 5, 0, .array (.object "LetterNeedles$Line"), true)]
set_option maxRecDepth 20000 in
theorem am_fs0_g : GoodIn lw_tbl (am_fs0.map am_fw) := goodIn_r _ [250, 251, 252, 254, 116, 125, 231, 228, 229, 230, 232, 127, 214, 215, 115, 120, 122, 124, 126, 131, 135, 97, 98, 99, 163] (by decide +kernel) (by decide +kernel)
def am_fs1 : List (Nat × Nat × Nat × Nat × FieldType × Bool) := [(5, 17, 5, 1, .array (.object "LetterNeedles$Line"), true), (5, 21, 5, 3, .int, false), (5, 25, 5, 4, .int, false), (5, 28, 5, 2, .int, false), (6, 9, 6, 0, .array .char, true), (6, 15, 6, 1, .int, false), (6, 34, 3, 0, .array .int, true), (6, 40, 3, 4, .int, false), (6, 43, 3, 5, .int, false), (6, 46, 3, 6, .int, false), (7, 9, 7, 0, .array .int, true), (7, 15, 7, 1, .array .int, true), (7, 18, 7, 2, .array .byte, true), (7, 22, 7, 4, .array .int, true), (7, 25, 7, 5, .int, false), (7, 55, 7, 3, .boolean, false), (7, 71, 3, 4, .int, false), (7, 74, 3, 5, .int, false), (7, 77, 3, 6, .int, false), (7, 80, 3, 0, .array .int, true), (8, 10, 8, 0, .object "LetterNeedles$Script", true), (8, 19, 8, 1, .object "LetterNeedles$Messages", true), (8, 26, 8, 2, .object "LetterNeedles$Line", true), (8, 30, 8, 3, .object "LetterNeedles$Line", true), (8, 36, 8, 4, .object "LetterNeedles$Past", true)]
set_option maxRecDepth 20000 in
theorem am_fs1_g : GoodIn lw_tbl (am_fs1.map am_fw) := goodIn_r _ [164, 166, 168, 165, 82, 83, 118, 129, 133, 137, 187, 188, 189, 191, 192, 190, 130, 134, 138, 119, 400, 401, 402, 403, 404] (by decide +kernel) (by decide +kernel)
def am_fs2 : List (Nat × Nat × Nat × Nat × FieldType × Bool) := [(8, 43, 8, 5, .object "LetterNeedles$Suspects", true), (8, 50, 8, 6, .object "LetterNeedles$Hearing", true), (8, 59, 8, 7, .object "LetterNeedles$Contest", true), (8, 66, 8, 8, .object "LetterNeedles$Arrangement", true), (8, 96, 6, 1, .int, false), (8, 106, 4, 2, .int, false), (8, 113, 3, 0, .array .int, true), (8, 117, 3, 1, .array .int, true), (8, 120, 3, 2, .array .int, true), (8, 123, 3, 4, .int, false), (8, 130, 3, 5, .int, false), (8, 133, 3, 6, .int, false), (8, 169, 5, 3, .int, false), (8, 210, 0, 3, .int, false), (8, 213, 0, 2, .array .int, true), (8, 216, 7, 5, .int, false), (8, 232, 2, 1, .int, false), (8, 262, 5, 4, .int, false), (9, 7, 9, 0, .array .int, true), (9, 13, 9, 2, .array .int, true), (9, 16, 9, 4, .array .int, true), (9, 19, 9, 5, .array .int, true), (9, 22, 9, 6, .array .int, true), (9, 25, 9, 7, .array .int, true), (9, 28, 9, 8, .array .int, true)]
set_option maxRecDepth 20000 in
theorem am_fs2_g : GoodIn lw_tbl (am_fs2.map am_fw) := goodIn_r _ [405, 406, 407, 408, 84, 100, 117, 121, 123, 128, 132, 136, 167, 255, 253, 193, 216, 169, 885, 887, 889, 890, 891, 892, 893] (by decide +kernel) (by decide +kernel)
def am_fs3 : List (Nat × Nat × Nat × Nat × FieldType × Bool) := [(9, 31, 9, 10, .array .int, true), (9, 34, 9, 12, .array .int, true), (9, 37, 9, 14, .array .int, true), (9, 40, 9, 19, .array .int, true), (9, 43, 9, 20, .array .int, true), (9, 46, 9, 21, .array .int, true), (9, 49, 9, 22, .array .int, true), (9, 52, 9, 23, .array .int, true), (9, 55, 9, 24, .array .int, true), (9, 58, 9, 25, .array .int, true), (9, 61, 9, 26, .array .int, true), (9, 64, 9, 27, .array .int, true), (9, 67, 9, 28, .array .int, true), (9, 88, 9, 1, .int, false), (9, 94, 9, 3, .int, false), (9, 101, 9, 16, .int, false), (9, 107, 9, 17, .boolean, false), (9, 111, 9, 18, .int, false), (9, 138, 9, 9, .int, false), (9, 141, 9, 11, .int, false), (9, 144, 9, 13, .int, false), (9, 147, 9, 15, .int, false)]
set_option maxRecDepth 20000 in
theorem am_fs3_g : GoodIn lw_tbl (am_fs3.map am_fw) := goodIn_r _ [895, 897, 899, 904, 905, 906, 907, 908, 909, 910, 911, 912, 913, 886, 888, 901, 902, 903, 894, 896, 898, 900] (by decide +kernel) (by decide +kernel)
set_option maxRecDepth 20000 in
theorem am_fs_eq : am_fs = am_fs0 ++ (am_fs1 ++ (am_fs2 ++ (am_fs3))) := by decide +kernel
theorem am_fs_g : GoodIn lw_tbl (am_fs.map am_fw) := by rw [am_fs_eq]; exact am_appM am_fs0_g (am_appM am_fs1_g (am_appM am_fs2_g (am_fs3_g)))
def am_ms0 : List (Nat × Nat × Nat × Nat × Nat) := [(0, 3, 0, 6, 0), (0, 21, 199, 1, 2), (0, 27, 22, 0, 1), (0, 33, 2, 0, 3), (0, 42, 4, 0, 3), (0, 49, 3, 1, 4), (0, 59, 24, 0, 1), (0, 63, 25, 1, 5), (0, 67, 198, 1, 1), (0, 72, 5, 0, 1), (0, 75, 111, 4, 2), (1, 3, 0, 6, 0), (1, 26, 199, 1, 2), (1, 36, 10, 0, 2), (1, 40, 8, 0, 4)]
set_option maxRecDepth 20000 in
theorem am_ms0_g : GoodIn lw_tbl (am_ms0.flatMap am_sw) := goodIn_r _ [249, 74, 75, 645, 646, 67, 648, 500, 501, 54, 649, 651, 13, 59, 660, 662, 14, 59, 653, 654, 59, 656, 514, 515, 54, 657, 518, 54, 664, 531, 66, 665, 667, 15, 59, 462, 51, 227, 74, 75, 747, 646, 67, 752, 754, 18, 58, 763, 749, 750, 58] (by decide +kernel) (by decide +kernel)
def am_ms1 : List (Nat × Nat × Nat × Nat × Nat) := [(1, 44, 9, 0, 2), (1, 47, 0, 10, 2), (1, 52, 0, 9, 2), (1, 55, 11, 0, 2), (1, 59, 29, 0, 0), (1, 65, 39, 0, 4), (1, 71, 17, 0, 1), (1, 75, 30, 0, 1), (2, 3, 0, 6, 0), (2, 19, 36, 0, 1), (2, 25, 37, 0, 2), (3, 3, 0, 6, 0), (3, 34, 19, 0, 0), (3, 37, 21, 0, 2), (3, 41, 22, 0, 1)]
set_option maxRecDepth 20000 in
theorem am_ms1_g : GoodIn lw_tbl (am_ms1.flatMap am_sw) := goodIn_r _ [764, 766, 20, 58, 769, 493, 65, 494, 770, 714, 65, 715, 756, 758, 19, 58, 768, 549, 550, 54, 762, 593, 594, 53, 760, 489, 490, 54, 761, 553, 554, 54, 213, 74, 75, 733, 473, 474, 53, 734, 477, 478, 53, 114, 74, 75, 619, 327, 328, 54, 620, 496, 497, 54, 499, 500, 501, 54] (by decide +kernel) (by decide +kernel)
def am_ms2 : List (Nat × Nat × Nat × Nat × Nat) := [(3, 45, 24, 0, 1), (3, 49, 25, 1, 5), (3, 53, 27, 0, 0), (3, 60, 111, 4, 2), (3, 63, 26, 1, 1), (3, 66, 23, 0, 1), (3, 72, 32, 1, 3), (4, 3, 0, 6, 0), (4, 22, 106, 4, 3), (4, 29, 19, 0, 0), (4, 34, 37, 0, 2), (4, 38, 21, 0, 2), (5, 3, 0, 6, 0), (5, 20, 16, 5, 0), (5, 31, 17, 0, 1)]
set_option maxRecDepth 20000 in
theorem am_ms2_g : GoodIn lw_tbl (am_ms2.flatMap am_sw) := goodIn_r _ [513, 514, 515, 54, 517, 518, 54, 520, 521, 522, 54, 462, 51, 506, 507, 54, 509, 511, 10, 54, 564, 565, 54, 96, 74, 75, 351, 51, 596, 327, 328, 54, 597, 477, 478, 53, 598, 496, 497, 54, 159, 74, 75, 112, 54, 488, 489, 490, 54] (by decide +kernel) (by decide +kernel)
def am_ms3 : List (Nat × Nat × Nat × Nat × Nat) := [(5, 35, 0, 10, 2), (6, 3, 0, 6, 0), (6, 19, 55, 0, 1), (6, 23, 60, 0, 1), (6, 27, 53, 0, 4), (6, 31, 59, 0, 1), (6, 49, 54, 0, 3), (6, 53, 34, 0, 0), (6, 58, 35, 0, 1), (6, 62, 56, 0, 1), (6, 65, 57, 0, 2), (6, 69, 58, 0, 1), (6, 72, 107, 4, 1), (6, 76, 106, 4, 3), (7, 3, 0, 6, 0)]
set_option maxRecDepth 20000 in
theorem am_ms3_g : GoodIn lw_tbl (am_ms3.flatMap am_sw) := goodIn_r _ [492, 493, 65, 494, 81, 74, 75, 334, 336, 1, 52, 338, 340, 2, 52, 365, 367, 7, 52, 346, 348, 4, 52, 369, 371, 8, 52, 373, 374, 375, 53, 377, 378, 379, 53, 342, 344, 3, 52, 357, 359, 5, 52, 361, 363, 6, 52, 354, 51, 351, 51, 186, 74, 75] (by decide +kernel) (by decide +kernel)
def am_ms4 : List (Nat × Nat × Nat × Nat × Nat) := [(7, 29, 68, 0, 1), (7, 33, 65, 0, 1), (7, 37, 67, 0, 2), (7, 41, 199, 1, 2), (7, 47, 111, 4, 2), (7, 50, 0, 9, 2), (7, 59, 18, 0, 0), (7, 64, 69, 1, 2), (7, 68, 20, 0, 2), (8, 1, 0, 6, 0), (8, 9, 47, 5, 0), (8, 18, 33, 5, 0), (8, 25, 16, 5, 0), (8, 35, 41, 2, 0), (8, 42, 61, 5, 0)]
set_option maxRecDepth 20000 in
theorem am_ms4_g : GoodIn lw_tbl (am_ms4.flatMap am_sw) := goodIn_r _ [686, 688, 16, 56, 695, 697, 17, 56, 707, 708, 709, 56, 711, 646, 67, 462, 51, 713, 714, 65, 715, 690, 323, 324, 54, 691, 692, 56, 694, 616, 617, 54, 73, 74, 75, 79, 52, 94, 53, 112, 54, 156, 157, 55, 184, 56] (by decide +kernel) (by decide +kernel)
def am_ms5 : List (Nat × Nat × Nat × Nat × Nat) := [(8, 49, 12, 5, 0), (8, 56, 6, 2, 3), (8, 65, 0, 5, 0), (8, 72, 0, 7, 0), (8, 78, 0, 8, 1), (8, 82, 48, 0, 1), (8, 86, 112, 0, 0), (8, 89, 49, 0, 0), (8, 92, 106, 1, 3), (8, 99, 50, 0, 0), (8, 102, 51, 0, 0), (8, 109, 107, 1, 1), (8, 126, 111, 1, 2), (8, 136, 109, 0, 1), (8, 139, 36, 0, 1)]
set_option maxRecDepth 20000 in
theorem am_ms5_g : GoodIn lw_tbl (am_ms5.flatMap am_sw) := goodIn_r _ [211, 57, 224, 225, 58, 247, 59, 314, 315, 316, 52, 318, 320, 0, 51, 396, 397, 398, 52, 356, 351, 51, 440, 441, 442, 52, 448, 449, 450, 52, 456, 354, 51, 461, 462, 51, 468, 470, 9, 51, 472, 473, 474, 53] (by decide +kernel) (by decide +kernel)
def am_ms6 : List (Nat × Nat × Nat × Nat × Nat) := [(8, 143, 37, 0, 2), (8, 146, 43, 0, 1), (8, 150, 21, 0, 2), (8, 153, 198, 1, 1), (8, 158, 29, 0, 0), (8, 161, 30, 0, 1), (8, 165, 31, 0, 2), (8, 172, 44, 0, 1), (8, 175, 27, 0, 0), (8, 178, 110, 0, 3), (8, 181, 17, 0, 1), (8, 184, 39, 0, 4), (8, 188, 38, 0, 5), (8, 192, 40, 0, 4), (8, 196, 108, 1, 1)]
set_option maxRecDepth 20000 in
theorem am_ms6_g : GoodIn lw_tbl (am_ms6.flatMap am_sw) := goodIn_r _ [476, 477, 478, 53, 484, 485, 486, 55, 495, 496, 497, 54, 530, 531, 66, 548, 549, 550, 54, 552, 553, 554, 54, 560, 561, 562, 54, 571, 572, 573, 55, 579, 521, 522, 54, 584, 586, 11, 51, 591, 489, 490, 54, 592, 593, 594, 53, 599, 600, 601, 53, 607, 608, 609, 53, 588, 589, 51] (by decide +kernel) (by decide +kernel)
def am_ms7 : List (Nat × Nat × Nat × Nat × Nat) := [(8, 199, 20, 0, 2), (8, 202, 113, 0, 4), (8, 206, 1, 0, 2), (8, 219, 62, 0, 2), (8, 222, 64, 0, 1), (8, 226, 66, 0, 1), (8, 229, 67, 0, 2), (8, 235, 13, 0, 1), (8, 237, 15, 0, 2), (8, 241, 63, 0, 0), (8, 242, 14, 0, 0), (8, 243, 7, 0, 1), (8, 246, 8, 0, 4), (8, 250, 114, 0, 2), (8, 253, 116, 1, 2)]
set_option maxRecDepth 20000 in
theorem am_ms7_g : GoodIn lw_tbl (am_ms7.flatMap am_sw) := goodIn_r _ [615, 616, 617, 54, 629, 631, 12, 51, 641, 642, 643, 59, 674, 675, 676, 56, 682, 683, 684, 56, 703, 704, 705, 56, 716, 708, 709, 56, 721, 722, 723, 57, 729, 730, 731, 57, 388, 389, 390, 56, 392, 393, 394, 57, 743, 744, 745, 58, 748, 749, 750, 58, 775, 777, 21, 51, 783, 784, 51] (by decide +kernel) (by decide +kernel)
def am_ms8 : List (Nat × Nat × Nat × Nat × Nat) := [(8, 256, 118, 1, 2), (8, 259, 119, 0, 2), (8, 265, 45, 0, 1), (8, 268, 46, 0, 1), (8, 271, 28, 0, 0), (8, 274, 18, 0, 0), (8, 277, 19, 0, 0), (8, 280, 52, 0, 2), (8, 284, 42, 0, 0), (8, 289, 115, 1, 3), (8, 294, 117, 1, 2), (9, 1, 0, 6, 0), (9, 72, 124, 0, 2), (9, 84, 137, 0, 0), (9, 97, 121, 1, 3)]
set_option maxRecDepth 20000 in
theorem am_ms8_g : GoodIn lw_tbl (am_ms8.flatMap am_sw) := goodIn_r _ [798, 799, 51, 804, 806, 22, 51, 812, 813, 814, 55, 820, 821, 822, 55, 828, 829, 830, 54, 322, 323, 324, 54, 326, 327, 328, 54, 330, 331, 332, 52, 384, 385, 386, 55, 780, 781, 51, 787, 788, 51, 837, 74, 75, 839, 841, 23, 64, 848, 849, 850, 64, 868, 869, 64] (by decide +kernel) (by decide +kernel)
def am_ms9 : List (Nat × Nat × Nat × Nat × Nat) := [(9, 104, 127, 0, 0), (9, 114, 130, 1, 1), (9, 118, 129, 0, 1), (9, 122, 128, 0, 1), (9, 125, 131, 0, 0), (9, 128, 132, 0, 0), (9, 131, 133, 0, 0), (9, 134, 123, 1, 5), (9, 150, 126, 1, 1), (9, 154, 125, 0, 1), (9, 157, 141, 1, 1), (9, 160, 143, 0, 2), (9, 164, 142, 0, 2), (9, 168, 144, 0, 2), (9, 171, 146, 0, 2)]
set_option maxRecDepth 20000 in
theorem am_ms9_g : GoodIn lw_tbl (am_ms9.flatMap am_sw) := goodIn_r _ [860, 862, 26, 64, 879, 880, 64, 871, 873, 28, 64, 864, 866, 27, 64, 875, 877, 29, 64, 856, 858, 25, 64, 852, 854, 24, 64, 882, 883, 64, 990, 991, 64, 1001, 1003, 30, 64, 1021, 1022, 64, 1028, 1030, 35, 64, 1017, 1019, 33, 64, 1024, 1026, 34, 64, 1036, 1038, 37, 64] (by decide +kernel) (by decide +kernel)
def am_ms10 : List (Nat × Nat × Nat × Nat × Nat) := [(9, 175, 148, 0, 0), (9, 178, 145, 0, 2), (9, 181, 147, 0, 1), (9, 185, 149, 1, 3), (9, 189, 154, 1, 2), (9, 192, 155, 1, 2), (9, 195, 156, 1, 2), (9, 198, 158, 1, 3), (9, 202, 163, 0, 0), (9, 205, 165, 1, 2), (9, 209, 162, 0, 0), (9, 212, 164, 0, 3), (9, 216, 168, 0, 2), (9, 220, 169, 0, 2), (9, 223, 122, 1, 1)]
set_option maxRecDepth 20000 in
theorem am_ms10_g : GoodIn lw_tbl (am_ms10.flatMap am_sw) := goodIn_r _ [1009, 1011, 31, 64, 1013, 1015, 32, 64, 1032, 1034, 36, 64, 1044, 1045, 64, 1062, 1063, 64, 1059, 1060, 64, 1065, 1066, 64, 1072, 1073, 64, 1098, 1100, 40, 64, 1087, 1088, 64, 1090, 1092, 38, 64, 1094, 1096, 39, 64, 1114, 1116, 42, 64, 1110, 1112, 41, 64, 1126, 1127, 64] (by decide +kernel) (by decide +kernel)
def am_ms11 : List (Nat × Nat × Nat × Nat × Nat) := [(9, 226, 174, 0, 0), (9, 230, 176, 0, 2), (9, 233, 178, 0, 0), (9, 236, 179, 0, 2), (9, 239, 184, 0, 3), (9, 242, 185, 0, 2), (9, 247, 187, 1, 2), (9, 250, 188, 0, 2), (9, 253, 189, 1, 2), (9, 262, 192, 1, 2), (9, 265, 196, 0, 0)]
set_option maxRecDepth 20000 in
theorem am_ms11_g : GoodIn lw_tbl (am_ms11.flatMap am_sw) := goodIn_r _ [1137, 1139, 43, 64, 1149, 1151, 44, 64, 1157, 1146, 1147, 64, 1158, 1160, 45, 64, 1178, 1180, 46, 64, 1182, 1184, 47, 64, 1198, 1199, 64, 1190, 1192, 48, 64, 1194, 1195, 64, 1209, 1210, 64, 1227, 1229, 49, 64] (by decide +kernel) (by decide +kernel)
set_option maxRecDepth 20000 in
theorem am_ms_eq : am_ms = am_ms0 ++ (am_ms1 ++ (am_ms2 ++ (am_ms3 ++ (am_ms4 ++ (am_ms5 ++ (am_ms6 ++ (am_ms7 ++ (am_ms8 ++ (am_ms9 ++ (am_ms10 ++ (am_ms11))))))))))) := by decide +kernel
theorem am_ms_g : GoodIn lw_tbl (am_ms.flatMap am_sw) := by rw [am_ms_eq]; exact am_appF am_ms0_g (am_appF am_ms1_g (am_appF am_ms2_g (am_appF am_ms3_g (am_appF am_ms4_g (am_appF am_ms5_g (am_appF am_ms6_g (am_appF am_ms7_g (am_appF am_ms8_g (am_appF am_ms9_g (am_appF am_ms10_g (am_ms11_g)))))))))))
def am_tab0 : List (aM) := [m_X0_init, m_X0_find, m_X0_noteShown, m_X0_standsBehind, m_X0_fillFrom, m_X0_keepIfBetter, m_X1_init, m_X1_beginFor, m_X1_outcome, m_X1_mendableBehind, m_X1_endOf, m_X1_layOut, m_X2_init, m_X2_add, m_X2_empty, m_X2_isLike, m_X3_init, m_X3_copyFrom, m_X3_makeWhole, m_X3_rest]
set_option maxRecDepth 20000 in
theorem am_tab0_g : GoodIn lw_tbl (am_tab0.map am_cw) := goodIn_r _ [248, 644, 652, 655, 663, 668, 226, 746, 751, 767, 755, 759, 212, 724, 395, 732, 113, 491, 325, 329] (by decide +kernel) (by decide +kernel)
def am_tab1 : List (aM) := [m_X3_sendFromRest, m_X3_sendFor, m_X3_carrySign, m_X3_shareFrom, m_X3_aheadOf, m_X3_standing, m_X3_otherWay, m_X3_readSign, m_X3_notUpright, m_X3_mendableWires, m_X3_mendAll, m_X3_swapNeedles, m_X3_swapIn, m_X4_init, m_X4_begin, m_X4_spell, m_X4_lengthOf, m_X4_signOf, m_X4_readOn, m_X4_rightOn]
set_option maxRecDepth 20000 in
theorem am_tab1_g : GoodIn lw_tbl (am_tab1.map am_cw) := goodIn_r _ [618, 498, 502, 512, 516, 519, 508, 523, 831, 551, 555, 563, 566, 95, 376, 380, 475, 479, 602, 595] (by decide +kernel) (by decide +kernel)
def am_tab2 : List (aM) := [m_X4_isAllRightOn, m_X5_init, m_X5_empty, m_X5_remember, m_X5_undoOn, m_X5_keepLine, m_X5_backOn, m_X6_init, m_X6_append, m_X6_empty, m_X6_firstFault, m_X6_tellsMessage, m_X6_tell, m_X6_tellItem, m_X6_tellMessage, m_X6_itemEnd, m_X6_needleEnd, m_X6_wireEnd, m_X6_messageEnd, m_X6_figureAt]
set_option maxRecDepth 20000 in
theorem am_tab2_g : GoodIn lw_tbl (am_tab2.map am_cw) := goodIn_r _ [610, 158, 387, 487, 574, 815, 823, 80, 317, 399, 443, 451, 333, 368, 372, 337, 345, 360, 364, 349] (by decide +kernel) (by decide +kernel)
def am_tab3 : List (aM) := [m_X6_letterAt, m_X7_init, m_X7_add, m_X7_empty, m_X7_possible, m_X7_agrees, m_X7_bestSign, m_X7_greatestPart, m_X7_workOutReadings, m_X7_makeWrong, m_X8_init, m_X8_write, m_X8_wipe, m_X8_fault, m_X8_lay, m_X8_needle, m_X8_wire, m_X8_spelt, m_X8_send, m_X8_cut]
set_option maxRecDepth 20000 in
theorem am_tab3_g : GoodIn lw_tbl (am_tab3.map am_cw) := goodIn_r _ [341, 185, 677, 391, 685, 698, 706, 710, 689, 693, 72, 431, 435, 439, 447, 455, 460, 467, 483, 529] (by decide +kernel) (by decide +kernel)
def am_tab4 : List (aM) := [m_X8_turn, m_X8_touch, m_X8_mend, m_X8_change, m_X8_undo, m_X8_reads, m_X8_said, m_X8_pace, m_X8_clear, m_X8_like, m_X8_mending, m_X8_changing, m_X8_order, m_X8_see, m_X8_canBe, m_X8_tries, m_X8_hear, m_X8_fits, m_X8_forget, m_X8_duel]
set_option maxRecDepth 20000 in
theorem am_tab4_g : GoodIn lw_tbl (am_tab4.map am_cw) := goodIn_r _ [539, 543, 547, 559, 570, 578, 583, 606, 614, 624, 628, 636, 640, 673, 681, 702, 720, 728, 738, 742] (by decide +kernel) (by decide +kernel)
def am_tab5 : List (aM) := [m_X8_odds, m_X8_mean, m_X8_day, m_X8_keep, m_X8_back, m_X8_count, m_X8_within, m_X8_isPlace, m_X8_isBeats, m_X8_isMessage, m_X8_isSaying, m_X8_bitAt, m_X8_layScript, m_X8_isAllRightMended, m_X8_slackChances, m_X8_slackShare, m_X8_lowestTerms, m_X8_commonDivisor, m_X8_drawOf, m_X8_doDrawn]
set_option maxRecDepth 20000 in
theorem am_tab5_g : GoodIn lw_tbl (am_tab5.map am_cw) := goodIn_r _ [774, 793, 797, 811, 819, 827, 352, 355, 590, 471, 587, 463, 321, 632, 778, 782, 785, 789, 800, 807] (by decide +kernel) (by decide +kernel)
def am_tab6 : List (aM) := [m_X9_init, m_X9_in, m_X9_bits, m_X9_bring, m_X9_tells, m_X9_isMessage, m_X9_isPlace, m_X9_here, m_X9_figure, m_X9_sign, m_X9_signOf, m_X9_readMessage, m_X9_readItem, m_X9_reading, m_X9_write, m_X9_wipe, m_X9_fault, m_X9_lay, m_X9_needle, m_X9_wire]
set_option maxRecDepth 20000 in
theorem am_tab6_g : GoodIn lw_tbl (am_tab6.map am_cw) := goodIn_r _ [836, 870, 1128, 884, 842, 1004, 992, 863, 867, 874, 881, 878, 859, 855, 976, 980, 984, 851, 989, 996] (by decide +kernel) (by decide +kernel)
def am_tab7 : List (aM) := [m_X9_spelt, m_X9_other, m_X9_carries, m_X9_stiff, m_X9_stands, m_X9_beat, m_X9_isSign, m_X9_readOf, m_X9_notes, m_X9_sum, m_X9_send, m_X9_cut, m_X9_turn, m_X9_touch, m_X9_touches, m_X9_mayMend, m_X9_mends, m_X9_mend, m_X9_changes, m_X9_change]
set_option maxRecDepth 20000 in
theorem am_tab7_g : GoodIn lw_tbl (am_tab7.map am_cw) := goodIn_r _ [1000, 1023, 1020, 1031, 1027, 1016, 1039, 1035, 1012, 1046, 1008, 1043, 1050, 1054, 1064, 1061, 1067, 1058, 1074, 1071] (by decide +kernel) (by decide +kernel)
def am_tab8 : List (aM) := [m_X9_undo, m_X9_reads, m_X9_asItIs, m_X9_rests, m_X9_says, m_X9_isPace, m_X9_said, m_X9_pace, m_X9_sent, m_X9_clearOf, m_X9_clear, m_X9_like, m_X9_mending, m_X9_changing, m_X9_nextOrder, m_X9_order, m_X9_readBy, m_X9_see, m_X9_canBe, m_X9_greatest]
set_option maxRecDepth 20000 in
theorem am_tab8_g : GoodIn lw_tbl (am_tab8.map am_cw) := goodIn_r _ [1078, 1082, 1093, 1101, 1097, 1089, 1086, 1105, 1117, 1113, 1109, 1121, 1125, 1132, 1140, 1136, 1152, 1144, 1148, 1161] (by decide +kernel) (by decide +kernel)
def am_tab9 : List (aM) := [m_X9_tries, m_X9_hear, m_X9_fits, m_X9_forget, m_X9_worthOf, m_X9_chosen, m_X9_duel, m_X9_divisor, m_X9_likely, m_X9_part, m_X9_odds, m_X9_mean, m_X9_draw, m_X9_day, m_X9_keep, m_X9_back, m_X9_notUpright, m_X9_count, m_J6_bitCount, m_J7_fill]
set_option maxRecDepth 20000 in
theorem am_tab9_g : GoodIn lw_tbl (am_tab9.map am_cw) := goodIn_r _ [1156, 1165, 1169, 1173, 1181, 1185, 1177, 1200, 1193, 1196, 1189, 1204, 1211, 1208, 1218, 1222, 1230, 1226, 532, 647] (by decide +kernel) (by decide +kernel)
set_option maxRecDepth 20000 in
theorem am_tab_eq : am_tab = am_tab0 ++ (am_tab1 ++ (am_tab2 ++ (am_tab3 ++ (am_tab4 ++ (am_tab5 ++ (am_tab6 ++ (am_tab7 ++ (am_tab8 ++ (am_tab9))))))))) := rfl
theorem am_tab_g : GoodIn lw_tbl (am_tab.map am_cw) := by rw [am_tab_eq]; exact am_appM am_tab0_g (am_appM am_tab1_g (am_appM am_tab2_g (am_appM am_tab3_g (am_appM am_tab4_g (am_appM am_tab5_g (am_appM am_tab6_g (am_appM am_tab7_g (am_appM am_tab8_g (am_tab9_g)))))))))
def am_ks0 : List (Nat × Nat × (Int32 ⊕ Int64)) := [(0, 41, .inl 1048575), (8, 293, .inl 100000), (8, 297, .inr 7919), (8, 299, .inr 6151), (8, 301, .inr 65521), (9, 70, .inr 7940176207992992556), (9, 76, .inr 3619603493795221845), (9, 78, .inr 4704930455205270348), (9, 80, .inr 5716553677576948801), (9, 82, .inr 5522747), (9, 92, .inr 255), (9, 246, .inl 100000), (9, 256, .inr 7919), (9, 258, .inr 6151), (9, 260, .inr 65521), (10, 265, .inl 1431655765), (10, 266, .inl 858993459), (10, 267, .inl 252645135)]
set_option maxRecDepth 20000 in
theorem am_ks0_g : GoodIn lw_tbl (am_ks0.map am_kw) := goodIn_r _ [659, 786, 801, 802, 803, 838, 844, 845, 846, 847, 843, 1197, 1212, 1213, 1214, 533, 534, 535] (by decide +kernel) (by decide +kernel)
set_option maxRecDepth 20000 in
theorem am_ks_eq : am_ks = am_ks0 := by decide +kernel
theorem am_ks_g : GoodIn lw_tbl (am_ks.map am_kw) := by rw [am_ks_eq]; exact am_ks0_g
def am_cs0 : List (Nat × Nat × Nat) := [(5, 9, 3), (8, 7, 6), (8, 16, 4), (8, 23, 3), (8, 33, 5), (8, 40, 7), (8, 47, 2), (8, 54, 1), (8, 63, 0)]
set_option maxRecDepth 20000 in
theorem am_cs0_g : GoodIn lw_tbl (am_cs0.flatMap am_nw) := goodIn_r _ [160, 110, 54, 76, 77, 52, 91, 92, 53, 109, 110, 54, 154, 155, 55, 181, 182, 56, 208, 209, 57, 222, 223, 58, 244, 245, 59] (by decide +kernel) (by decide +kernel)
set_option maxRecDepth 20000 in
theorem am_cs_eq : am_cs = am_cs0 := by decide +kernel
theorem am_cs_g : GoodIn lw_tbl (am_cs.flatMap am_nw) := by rw [am_cs_eq]; exact am_cs0_g
set_option maxRecDepth 20000 in
theorem am_u0_g : GoodIn lw_tbl (u_ws RX0 TX0 4) := goodIn_r _ [256, 258, 260, 262] (by decide +kernel) (by decide +kernel)
set_option maxRecDepth 20000 in
theorem am_u1_g : GoodIn lw_tbl (u_ws RX1 TX1 5) := goodIn_r _ [233, 235, 237, 239, 241] (by decide +kernel) (by decide +kernel)
set_option maxRecDepth 20000 in
theorem am_u2_g : GoodIn lw_tbl (u_ws RX2 TX2 2) := goodIn_r _ [217, 219] (by decide +kernel) (by decide +kernel)
set_option maxRecDepth 20000 in
theorem am_u3_g : GoodIn lw_tbl (u_ws RX3 TX3 7) := goodIn_r _ [139, 141, 143, 145, 147, 149, 151] (by decide +kernel) (by decide +kernel)
set_option maxRecDepth 20000 in
theorem am_u4_g : GoodIn lw_tbl (u_ws RX4 TX4 3) := goodIn_r _ [101, 103, 105] (by decide +kernel) (by decide +kernel)
set_option maxRecDepth 20000 in
theorem am_u5_g : GoodIn lw_tbl (u_ws RX5 TX5 5) := goodIn_r _ [170, 172, 174, 176, 178] (by decide +kernel) (by decide +kernel)
set_option maxRecDepth 20000 in
theorem am_u6_g : GoodIn lw_tbl (u_ws RX6 TX6 2) := goodIn_r _ [85, 87] (by decide +kernel) (by decide +kernel)
set_option maxRecDepth 20000 in
theorem am_u7_g : GoodIn lw_tbl (u_ws RX7 TX7 6) := goodIn_r _ [194, 196, 198, 200, 202, 204] (by decide +kernel) (by decide +kernel)
set_option maxRecDepth 20000 in
theorem am_u8_g : GoodIn lw_tbl (u_ws RX8 TX8 9) := goodIn_r _ [409, 411, 413, 415, 417, 419, 421, 423, 425] (by decide +kernel) (by decide +kernel)
set_option maxRecDepth 20000 in
theorem am_u9_g : GoodIn lw_tbl (u_ws RX9 TX9 29) := goodIn_r _ [914, 916, 918, 920, 922, 924, 926, 928, 930, 932, 934, 936, 938, 940, 942, 944, 946, 948, 950, 952, 954, 956, 958, 960, 962, 964, 966, 968, 970] (by decide +kernel) (by decide +kernel)
theorem am_uw_g : GoodIn lw_tbl (vwCl.flatMap am_uw) := by
  simp only [vwCl, List.flatMap_cons, List.flatMap_nil, List.append_nil, am_uw]
  exact goodIn_app am_u0_g (goodIn_app am_u1_g (goodIn_app am_u2_g (goodIn_app am_u3_g (goodIn_app am_u4_g (goodIn_app am_u5_g (goodIn_app am_u6_g (goodIn_app am_u7_g (goodIn_app am_u8_g (am_u9_g)))))))))
def am_xw : List Cond := [.arrayClass .int, .arrayClass .char, .arrayClass .byte, .fieldLink RX8 286 RX8 "POINTING" "[I", .initialized RX8, .initialized RJ0, .initialized RJ1, .initialized RJ3, .methodLink RX8 72 yJ0_length_8abf5, .instanceMethod yJ0_length_8abf5, .selects RJ0 yJ0_length_8abf5 yJ0_length_8abf5, .code yJ0_length_8abf5 cJ0_length_8abf5 1 (some .int), .methodLink RX8 78 yJ0_charAt_5068e, .instanceMethod yJ0_charAt_5068e, .selects RJ0 yJ0_charAt_5068e yJ0_charAt_5068e, .code yJ0_charAt_5068e cJ0_charAt_5068e 2 (some .char), .methodLink RJ0 335 yJ0_coder_7d493, .instanceMethod yJ0_coder_7d493, .selects RJ0 yJ0_coder_7d493 yJ0_coder_7d493, .code yJ0_coder_7d493 cJ0_coder_7d493 1 (some .byte), .methodLink RJ0 492 yJ0_isLatin1_aae02, .instanceMethod yJ0_isLatin1_aae02, .selects RJ0 yJ0_isLatin1_aae02 yJ0_isLatin1_aae02, .code yJ0_isLatin1_aae02 cJ0_isLatin1_aae02 1 (some .boolean), .methodLink RJ0 495 yJ1_charAt_3b067, .static yJ1_charAt_3b067, .code yJ1_charAt_3b067 cJ1_charAt_3b067 2 (some .char), .methodLink RJ1 9 yJ0_checkIndex_df160, .static yJ0_checkIndex_df160, .code yJ0_checkIndex_df160 cJ0_checkIndex_df160 2 none, .methodLink RJ0 1059 yJ3_checkIndex_8e157, .static yJ3_checkIndex_8e157, .code yJ3_checkIndex_8e157 cJ3_checkIndex_8e157 3 (some .int), .fieldLink RJ0 9 "java/lang/String" "value" "[B", .fieldLink RJ0 38 "java/lang/String" "COMPACT_STRINGS" "Z", .fieldLink RJ0 15 "java/lang/String" "coder" "B", .fieldLink RJ0 1053 "jdk/internal/util/Preconditions" "SIOOBE_FORMATTER" "Ljava/util/function/BiFunction;"]
theorem am_xw_g : GoodIn lw_tbl am_xw := goodIn_r _ [108, 90, 207, 779, 51, 60, 61, 62, 266, 267, 268, 269, 276, 277, 278, 279, 270, 271, 272, 273, 280, 281, 282, 283, 284, 285, 286, 287, 288, 289, 292, 293, 294, 1231, 274, 1232, 290] (by decide +kernel) (by decide +kernel)
/-- all words that the machine's instructions need (those of nest mates apart) -/
def am_G : List Cond := am_fs.map am_fw ++ (am_ms.flatMap am_sw ++ (am_tab.map am_cw ++ (am_ks.map am_kw ++ (am_cs.flatMap am_nw ++ (vwCl.flatMap am_uw ++ am_xw)))))
theorem am_G_g : GoodIn lw_tbl am_G := goodIn_app am_fs_g (goodIn_app am_ms_g (goodIn_app am_tab_g (goodIn_app am_ks_g (goodIn_app am_cs_g (goodIn_app am_uw_g am_xw_g)))))
theorem am_in_fs {q} (h : q ∈ am_fs) : am_fw q ∈ am_G := List.mem_append_left _ (List.mem_map_of_mem h)
theorem am_in_ms {q} (h : q ∈ am_ms) {w : Cond} (hw : w ∈ am_sw q) : w ∈ am_G := List.mem_append_right _ (List.mem_append_left _ (List.mem_flatMap.mpr ⟨q, h, hw⟩))
theorem am_in_tab {q} (h : q ∈ am_tab) : am_cw q ∈ am_G := List.mem_append_right _ (List.mem_append_right _ (List.mem_append_left _ (List.mem_map_of_mem h)))
theorem am_in_ks {q} (h : q ∈ am_ks) : am_kw q ∈ am_G := List.mem_append_right _ (List.mem_append_right _ (List.mem_append_right _ (List.mem_append_left _ (List.mem_map_of_mem h))))
theorem am_in_cs {q} (h : q ∈ am_cs) {w : Cond} (hw : w ∈ am_nw q) : w ∈ am_G := List.mem_append_right _ (List.mem_append_right _ (List.mem_append_right _ (List.mem_append_right _ (List.mem_append_left _ (List.mem_flatMap.mpr ⟨q, h, hw⟩)))))
theorem am_in_uw {q} (h : q ∈ vwCl) {w : Cond} (hw : w ∈ am_uw q) : w ∈ am_G := List.mem_append_right _ (List.mem_append_right _ (List.mem_append_right _ (List.mem_append_right _ (List.mem_append_right _ (List.mem_append_left _ (List.mem_flatMap.mpr ⟨q, h, hw⟩))))))
theorem am_in_xw {w : Cond} (h : w ∈ am_xw) : w ∈ am_G := List.mem_append_right _ (List.mem_append_right _ (List.mem_append_right _ (List.mem_append_right _ (List.mem_append_right _ (List.mem_append_right _ h)))))
theorem am_G_self : GoodIn am_G am_G := fun w h => ⟨h, (am_G_g w h).2⟩
theorem am_G_cons {m : aM} (h : m ∈ am_tab) : GoodIn am_G (am_cw m :: am_G) := fun w hw => (List.mem_cons.mp hw).elim (fun e => by rw [e]; exact am_G_self _ (am_in_tab h)) (am_G_self w)
