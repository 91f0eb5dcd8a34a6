def bt_0 : Mth := (⟨"FilterBench$Section", "<init>", "()V"⟩, prog_7_method_1_code, 1, none, 0, false, 5, 1, 20)
def bt_1 : Mth := (⟨"FilterBench$Place", "<init>", "()V"⟩, prog_5_method_1_code, 1, none, 0, false, 3, 1, 20)
def bt_2 : Mth := (⟨"FilterBench$Signal", "<init>", "()V"⟩, prog_8_method_1_code, 1, none, 0, false, 6, 1, 20)
def bt_3 : Mth := (⟨"FilterBench$Echoes", "<init>", "()V"⟩, prog_3_method_1_code, 1, none, 0, false, 1, 1, 20)
def bt_4 : Mth := (⟨"FilterBench$Bounds", "<init>", "()V"⟩, prog_2_method_1_code, 1, none, 0, false, 0, 1, 20)
def bt_5 : Mth := (⟨"FilterBench$Search", "<init>", "()V"⟩, prog_6_method_1_code, 1, none, 0, false, 4, 2, 40)
def bt_6 : Mth := (⟨"FilterBench$ExactFilter", "<init>", "()V"⟩, prog_4_method_1_code, 2, none, 0, false, 2, 2, 40)
def bt_7 : Mth := (⟨"FilterBench", "<init>", "()V"⟩, prog_1_method_1_code, 2, none, 0, false, 7, 3, 61)
def bt_8 : Mth := (⟨"FilterBenchModel", "<init>", "()V"⟩, prog_10_method_1_code, 1, none, 0, false, 8, 1, 20)
def bt_m (j : Nat) : Mth := match j with
  | 0 => bt_0
  | 1 => bt_1
  | 2 => bt_2
  | 3 => bt_3
  | 4 => bt_4
  | 5 => bt_5
  | 6 => bt_6
  | 7 => bt_7
  | _ => bt_8
def bl_0 : List (Nat × Ins) := [(0, .aload_n 0, 1, 0, 0, 0, 0, 0), (1, .invokespecial 3, 4, 1000, 0, 225, 0, 0), (4, .return_, 5, 0, 0, 0, 0, 0)]
def bl_1 : List (Nat × Ins) := [(0, .aload_n 0, 1, 0, 0, 0, 0, 0), (1, .invokespecial 3, 4, 1000, 0, 300, 0, 0), (4, .aload_n 0, 5, 0, 0, 0, 0, 0), (5, .bipush 9, 7, 0, 0, 0, 0, nI 9), (7, .newarray .long, 9, 1, 0, 0, 0, 0), (9, .putfield 9, 12, 3, 0, 301, 0, 0), (12, .return_, 13, 0, 0, 0, 0, 0)]
def bl_2 : List (Nat × Ins) := [(0, .aload_n 0, 1, 0, 0, 0, 0, 0), (1, .invokespecial 3, 4, 1000, 0, 200, 0, 0), (4, .aload_n 0, 5, 0, 0, 0, 0, 0), (5, .bipush 60, 7, 0, 0, 0, 0, nI 60), (7, .newarray .int, 9, 0, 0, 0, 0, 0), (9, .putfield 9, 12, 6, 0, 201, 0, 0), (12, .aload_n 0, 13, 0, 0, 0, 0, 0), (13, .bipush 60, 15, 0, 0, 0, 0, nI 60), (15, .newarray .int, 17, 0, 0, 0, 0, 0), (17, .putfield 15, 20, 6, 1, 203, 0, 0), (20, .aload_n 0, 21, 0, 0, 0, 0, 0), (21, .bipush 60, 23, 0, 0, 0, 0, nI 60), (23, .newarray .int, 25, 0, 0, 0, 0, 0), (25, .putfield 18, 28, 6, 2, 205, 0, 0), (28, .return_, 29, 0, 0, 0, 0, 0)]
def bl_3 : List (Nat × Ins) := [(0, .aload_n 0, 1, 0, 0, 0, 0, 0), (1, .invokespecial 3, 4, 1000, 0, 70, 0, 0), (4, .return_, 5, 0, 0, 0, 0, 0)]
def bl_4 : List (Nat × Ins) := [(0, .aload_n 0, 1, 0, 0, 0, 0, 0), (1, .invokespecial 3, 4, 1000, 0, 114, 0, 0), (4, .return_, 5, 0, 0, 0, 0, 0)]
def bl_5 : List (Nat × Ins) := [(0, .aload_n 0, 1, 0, 0, 0, 0, 0), (1, .invokespecial 3, 4, 1000, 0, 133, 0, 0), (4, .aload_n 0, 5, 0, 0, 0, 0, 0), (5, .bipush 6, 7, 0, 0, 0, 0, nI 6), (7, .newarray .int, 9, 0, 0, 0, 0, 0), (9, .putfield 9, 12, 4, 0, 140, 0, 0), (12, .aload_n 0, 13, 0, 0, 0, 0, 0), (13, .bipush 6, 15, 0, 0, 0, 0, nI 6), (15, .newarray .int, 17, 0, 0, 0, 0, 0), (17, .putfield 15, 20, 4, 1, 141, 0, 0), (20, .aload_n 0, 21, 0, 0, 0, 0, 0), (21, .bipush 7, 23, 0, 0, 0, 0, nI 7), (23, .bipush 25, 25, 0, 0, 0, 0, nI 25), (25, .multianewarray 18 2, 29, 6, 1, 134, 0, 0), (29, .putfield 20, 32, 4, 2, 143, 0, 0), (32, .aload_n 0, 33, 0, 0, 0, 0, 0), (33, .bipush 7, 35, 0, 0, 0, 0, nI 7), (35, .bipush 25, 37, 0, 0, 0, 0, nI 25), (37, .multianewarray 18 2, 41, 6, 1, 134, 0, 0), (41, .putfield 23, 44, 4, 3, 144, 0, 0), (44, .aload_n 0, 45, 0, 0, 0, 0, 0), (45, .bipush 7, 47, 0, 0, 0, 0, nI 7), (47, .bipush 25, 49, 0, 0, 0, 0, nI 25), (49, .multianewarray 26 2, 53, 7, 0, 136, 0, 0), (53, .putfield 28, 56, 4, 4, 145, 0, 0), (56, .aload_n 0, 57, 0, 0, 0, 0, 0), (57, .new 31, 60, 0, 138, 0, 0, 0), (60, .dup, 61, 0, 0, 0, 0, 0), (61, .invokespecial 33, 64, 4, 0, 139, 1, 0), (64, .putfield 34, 67, 4, 5, 146, 0, 0), (67, .return_, 68, 0, 0, 0, 0, 0)]
def bl_6 : List (Nat × Ins) := [(0, .aload_n 0, 1, 0, 0, 0, 0, 0), (1, .invokespecial 3, 4, 1000, 0, 193, 0, 0), (4, .aload_n 0, 5, 0, 0, 0, 0, 0), (5, .bipush 7, 7, 0, 0, 0, 0, nI 7), (7, .anewarray 9, 10, 5, 194, 0, 0, 0), (10, .putfield 11, 13, 2, 0, 214, 0, 0), (13, .aload_n 0, 14, 0, 0, 0, 0, 0), (14, .bipush 60, 16, 0, 0, 0, 0, nI 60), (16, .newarray .int, 18, 0, 0, 0, 0, 0), (18, .putfield 17, 21, 2, 1, 215, 0, 0), (21, .iconst 0, 22, 0, 0, 0, 0, nI 0), (22, .istore_n 1, 23, 1, 0, 0, 0, 0), (23, .iload_n 1, 24, 1, 0, 0, 0, 0), (24, .bipush 6, 26, 0, 0, 0, 0, nI 6), (26, .if_icmp .gt 22, 29, 48, 0, 0, 0, 0), (29, .aload_n 0, 30, 0, 0, 0, 0, 0), (30, .getfield 11, 33, 2, 0, 214, 0, 0), (33, .iload_n 1, 34, 1, 0, 0, 0, 0), (34, .new 9, 37, 6, 194, 0, 0, 0), (37, .dup, 38, 0, 0, 0, 0, 0), (38, .invokespecial 21, 41, 2, 0, 197, 1, 0), (41, .aastore, 42, 5, 6, 0, 0, 0), (42, .iinc 1 1, 45, 1, 0, 0, 0, nI 1), (45, .goto (-22), 48, 23, 0, 0, 0, 0), (48, .return_, 49, 0, 0, 0, 0, 0)]
def bl_7 : List (Nat × Ins) := [(0, .aload_n 0, 1, 0, 0, 0, 0, 0), (1, .invokespecial 3, 4, 1000, 0, 58, 0, 0), (4, .aload_n 0, 5, 0, 0, 0, 0, 0), (5, .bipush 6, 7, 0, 0, 0, 0, nI 6), (7, .anewarray 9, 10, 3, 61, 0, 0, 0), (10, .putfield 11, 13, 7, 0, 333, 0, 0), (13, .aload_n 0, 14, 0, 0, 0, 0, 0), (14, .bipush 6, 16, 0, 0, 0, 0, nI 6), (16, .anewarray 15, 19, 4, 63, 0, 0, 0), (19, .putfield 17, 22, 7, 1, 334, 0, 0), (22, .aload_n 0, 23, 0, 0, 0, 0, 0), (23, .iconst 5, 24, 0, 0, 0, 0, nI 5), (24, .newarray .long, 26, 1, 0, 0, 0, 0), (26, .putfield 21, 29, 7, 2, 335, 0, 0), (29, .aload_n 0, 30, 0, 0, 0, 0, 0), (30, .new 25, 33, 1, 65, 0, 0, 0), (33, .dup, 34, 0, 0, 0, 0, 0), (34, .invokespecial 27, 37, 3, 0, 67, 1, 0), (37, .putfield 28, 40, 7, 3, 336, 0, 0), (40, .aload_n 0, 41, 0, 0, 0, 0, 0), (41, .new 32, 44, 0, 109, 0, 0, 0), (44, .dup, 45, 0, 0, 0, 0, 0), (45, .invokespecial 34, 48, 4, 0, 111, 1, 0), (48, .putfield 35, 51, 7, 4, 337, 0, 0), (51, .aload_n 0, 52, 0, 0, 0, 0, 0), (52, .new 39, 55, 4, 128, 0, 0, 0), (55, .dup, 56, 0, 0, 0, 0, 0), (56, .invokespecial 41, 59, 5, 0, 130, 1, 0), (59, .putfield 42, 62, 7, 5, 338, 0, 0), (62, .aload_n 0, 63, 0, 0, 0, 0, 0), (63, .new 46, 66, 2, 188, 0, 0, 0), (66, .dup, 67, 0, 0, 0, 0, 0), (67, .invokespecial 48, 70, 6, 0, 190, 0, 0), (70, .putfield 49, 73, 7, 6, 339, 0, 0), (73, .aload_n 0, 74, 0, 0, 0, 0, 0), (74, .iconst 0, 75, 0, 0, 0, 0, nI 0), (75, .putfield 53, 78, 7, 7, 340, 0, 0), (78, .aload_n 0, 79, 0, 0, 0, 0, 0), (79, .iconst 0, 80, 0, 0, 0, 0, nI 0), (80, .putfield 57, 83, 7, 8, 341, 0, 0), (83, .aload_n 0, 84, 0, 0, 0, 0, 0), (84, .iconst 0, 85, 0, 0, 0, 0, nI 0), (85, .putfield 61, 88, 7, 9, 342, 0, 0), (88, .aload_n 0, 89, 0, 0, 0, 0, 0), (89, .iconst 0, 90, 0, 0, 0, 0, nI 0), (90, .putfield 64, 93, 7, 10, 343, 0, 0), (93, .aload_n 0, 94, 0, 0, 0, 0, 0), (94, .iconst 0, 95, 0, 0, 0, 0, nI 0), (95, .putfield 67, 98, 7, 11, 344, 0, 0), (98, .aload_n 0, 99, 0, 0, 0, 0, 0), (99, .iconst 0, 100, 0, 0, 0, 0, nI 0), (100, .putfield 70, 103, 7, 12, 345, 0, 0), (103, .aload_n 0, 104, 0, 0, 0, 0, 0), (104, .iconst 0, 105, 0, 0, 0, 0, nI 0), (105, .putfield 73, 108, 7, 13, 346, 0, 0), (108, .aload_n 0, 109, 0, 0, 0, 0, 0), (109, .iconst 0, 110, 0, 0, 0, 0, nI 0), (110, .putfield 76, 113, 7, 14, 347, 0, 0), (113, .aload_n 0, 114, 0, 0, 0, 0, 0), (114, .iconst 0, 115, 0, 0, 0, 0, nI 0), (115, .putfield 79, 118, 7, 15, 348, 0, 0), (118, .aload_n 0, 119, 0, 0, 0, 0, 0), (119, .lconst 0, 120, 0, 0, 0, 0, 0), (120, .putfield 82, 123, 7, 16, 349, 0, 0), (123, .iconst 0, 124, 0, 0, 0, 0, nI 0), (124, .istore_n 1, 125, 1, 0, 0, 0, 0), (125, .iload_n 1, 126, 1, 0, 0, 0, 0), (126, .bipush 6, 128, 0, 0, 0, 0, nI 6), (128, .if_icmp .ge 35, 131, 163, 0, 0, 0, 0), (131, .aload_n 0, 132, 0, 0, 0, 0, 0), (132, .getfield 11, 135, 7, 0, 333, 0, 0), (135, .iload_n 1, 136, 1, 0, 0, 0, 0), (136, .new 9, 139, 5, 61, 0, 0, 0), (139, .dup, 140, 0, 0, 0, 0, 0), (140, .invokespecial 86, 143, 0, 0, 222, 1, 0), (143, .aastore, 144, 3, 5, 0, 0, 0), (144, .aload_n 0, 145, 0, 0, 0, 0, 0), (145, .getfield 17, 148, 7, 1, 334, 0, 0), (148, .iload_n 1, 149, 1, 0, 0, 0, 0), (149, .new 15, 152, 3, 63, 0, 0, 0), (152, .dup, 153, 0, 0, 0, 0, 0), (153, .invokespecial 87, 156, 1, 0, 297, 1, 0), (156, .aastore, 157, 4, 3, 0, 0, 0), (157, .iinc 1 1, 160, 1, 0, 0, 0, nI 1), (160, .goto (-35), 163, 125, 0, 0, 0, 0), (163, .return_, 164, 0, 0, 0, 0, 0)]
def bl_8 : List (Nat × Ins) := [(0, .aload_n 0, 1, 0, 0, 0, 0, 0), (1, .invokespecial 1, 4, 1000, 0, 731, 0, 0), (4, .aload_n 0, 5, 0, 0, 0, 0, 0), (5, .bipush 30, 7, 0, 0, 0, 0, nI 30), (7, .newarray .int, 9, 0, 0, 0, 0, 0), (9, .putfield 7, 12, 8, 1, 733, 0, 0), (12, .aload_n 0, 13, 0, 0, 0, 0, 0), (13, .bipush 6, 15, 0, 0, 0, 0, nI 6), (15, .newarray .boolean, 17, 2, 0, 0, 0, 0), (17, .putfield 13, 20, 8, 2, 734, 0, 0), (20, .aload_n 0, 21, 0, 0, 0, 0, 0), (21, .bipush 30, 23, 0, 0, 0, 0, nI 30), (23, .newarray .long, 25, 1, 0, 0, 0, 0), (25, .putfield 17, 28, 8, 3, 735, 0, 0), (28, .aload_n 0, 29, 0, 0, 0, 0, 0), (29, .bipush 54, 31, 0, 0, 0, 0, nI 54), (31, .newarray .long, 33, 1, 0, 0, 0, 0), (33, .putfield 21, 36, 8, 9, 741, 0, 0), (36, .aload_n 0, 37, 0, 0, 0, 0, 0), (37, .bipush 6, 39, 0, 0, 0, 0, nI 6), (39, .newarray .int, 41, 0, 0, 0, 0, 0), (41, .putfield 24, 44, 8, 10, 742, 0, 0), (44, .aload_n 0, 45, 0, 0, 0, 0, 0), (45, .bipush 30, 47, 0, 0, 0, 0, nI 30), (47, .newarray .long, 49, 1, 0, 0, 0, 0), (49, .putfield 27, 52, 8, 11, 743, 0, 0), (52, .aload_n 0, 53, 0, 0, 0, 0, 0), (53, .iconst 5, 54, 0, 0, 0, 0, nI 5), (54, .newarray .long, 56, 1, 0, 0, 0, 0), (56, .putfield 30, 59, 8, 12, 744, 0, 0), (59, .aload_n 0, 60, 0, 0, 0, 0, 0), (60, .iconst 5, 61, 0, 0, 0, 0, nI 5), (61, .newarray .long, 63, 1, 0, 0, 0, 0), (63, .putfield 33, 66, 8, 13, 745, 0, 0), (66, .aload_n 0, 67, 0, 0, 0, 0, 0), (67, .sipush 1001, 70, 0, 0, 0, 0, nI 1001), (70, .newarray .long, 72, 1, 0, 0, 0, 0), (72, .putfield 36, 75, 8, 14, 746, 0, 0), (75, .aload_n 0, 76, 0, 0, 0, 0, 0), (76, .sipush 1001, 79, 0, 0, 0, 0, nI 1001), (79, .newarray .long, 81, 1, 0, 0, 0, 0), (81, .putfield 39, 84, 8, 15, 747, 0, 0), (84, .aload_n 0, 85, 0, 0, 0, 0, 0), (85, .sipush 1001, 88, 0, 0, 0, 0, nI 1001), (88, .newarray .long, 90, 1, 0, 0, 0, 0), (90, .putfield 42, 93, 8, 16, 748, 0, 0), (93, .aload_n 0, 94, 0, 0, 0, 0, 0), (94, .sipush 1001, 97, 0, 0, 0, 0, nI 1001), (97, .newarray .long, 99, 1, 0, 0, 0, 0), (99, .putfield 45, 102, 8, 17, 749, 0, 0), (102, .aload_n 0, 103, 0, 0, 0, 0, 0), (103, .bipush 6, 105, 0, 0, 0, 0, nI 6), (105, .newarray .int, 107, 0, 0, 0, 0, 0), (107, .putfield 48, 110, 8, 22, 753, 0, 0), (110, .aload_n 0, 111, 0, 0, 0, 0, 0), (111, .bipush 54, 113, 0, 0, 0, 0, nI 54), (113, .newarray .long, 115, 1, 0, 0, 0, 0), (115, .putfield 51, 118, 8, 23, 754, 0, 0), (118, .aload_n 0, 119, 0, 0, 0, 0, 0), (119, .bipush 6, 121, 0, 0, 0, 0, nI 6), (121, .newarray .int, 123, 0, 0, 0, 0, 0), (123, .putfield 54, 126, 8, 28, 759, 0, 0), (126, .aload_n 0, 127, 0, 0, 0, 0, 0), (127, .sipush 1584, 130, 0, 0, 0, 0, nI 1584), (130, .newarray .long, 132, 1, 0, 0, 0, 0), (132, .putfield 57, 135, 8, 30, 761, 0, 0), (135, .aload_n 0, 136, 0, 0, 0, 0, 0), (136, .bipush 66, 138, 0, 0, 0, 0, nI 66), (138, .newarray .long, 140, 1, 0, 0, 0, 0), (140, .putfield 60, 143, 8, 31, 762, 0, 0), (143, .aload_n 0, 144, 0, 0, 0, 0, 0), (144, .bipush 66, 146, 0, 0, 0, 0, nI 66), (146, .newarray .long, 148, 1, 0, 0, 0, 0), (148, .putfield 63, 151, 8, 32, 763, 0, 0), (151, .return_, 152, 0, 0, 0, 0, 0)]
def bl_l : List (List (Nat × Ins)) := [bl_0, bl_1, bl_2, bl_3, bl_4, bl_5, bl_6, bl_7, bl_8]
def fb_m (i pc : Nat) : Option Ins := (((bl_l[i]?).getD []).find? (fun q => q.1 == pc)).map (fun q => q.2)
set_option maxRecDepth 100000 in
theorem chb_0 : (bl_0.all (fun q => b_ok bt_m 9 0 q.1 q.2)) = true := by decide +kernel
set_option maxRecDepth 100000 in
theorem chb_1 : (bl_1.all (fun q => b_ok bt_m 9 1 q.1 q.2)) = true := by decide +kernel
set_option maxRecDepth 100000 in
theorem chb_2 : (bl_2.all (fun q => b_ok bt_m 9 2 q.1 q.2)) = true := by decide +kernel
set_option maxRecDepth 100000 in
theorem chb_3 : (bl_3.all (fun q => b_ok bt_m 9 3 q.1 q.2)) = true := by decide +kernel
set_option maxRecDepth 100000 in
theorem chb_4 : (bl_4.all (fun q => b_ok bt_m 9 4 q.1 q.2)) = true := by decide +kernel
set_option maxRecDepth 100000 in
theorem chb_5 : (bl_5.all (fun q => b_ok bt_m 9 5 q.1 q.2)) = true := by decide +kernel
set_option maxRecDepth 100000 in
theorem chb_6 : (bl_6.all (fun q => b_ok bt_m 9 6 q.1 q.2)) = true := by decide +kernel
set_option maxRecDepth 100000 in
theorem chb_7 : (bl_7.all (fun q => b_ok bt_m 9 7 q.1 q.2)) = true := by decide +kernel
set_option maxRecDepth 100000 in
theorem chb_8 : (bl_8.all (fun q => b_ok bt_m 9 8 q.1 q.2)) = true := by decide +kernel
theorem fb_ok : ∀ (i pc : Nat) (q : Ins), i < 9 → fb_m i pc = some q → b_ok bt_m 9 i pc q = true := by
  intro i pc q hi h
  have hall : ∀ (L : List (Nat × Ins)), bl_l[i]? = some L → (L.all (fun q => b_ok bt_m 9 i q.1 q.2)) = true := by
    intro L hL
    match i, hi, hL with
    | 0, _, hL => cases hL; exact chb_0
    | 1, _, hL => cases hL; exact chb_1
    | 2, _, hL => cases hL; exact chb_2
    | 3, _, hL => cases hL; exact chb_3
    | 4, _, hL => cases hL; exact chb_4
    | 5, _, hL => cases hL; exact chb_5
    | 6, _, hL => cases hL; exact chb_6
    | 7, _, hL => cases hL; exact chb_7
    | 8, _, hL => cases hL; exact chb_8
    | n + 9, hi, _ => omega
  unfold fb_m at h
  cases hL : bl_l[i]? with
  | none => rw [hL] at h; cases h
  | some L =>
    rw [hL, Option.getD_some] at h
    cases hq : L.find? (fun q => q.1 == pc) with
    | none => rw [hq] at h; cases h
    | some w =>
      rw [hq] at h
      cases h
      have h1 := List.mem_of_find?_eq_some hq
      have h2 := List.find?_some hq
      have h3 := List.all_eq_true.mp (hall L hL) w h1
      have h4 : w.1 = pc := by simpa using h2
      rw [h4] at h3
      exact h3
set_option maxRecDepth 20000 in
theorem bmk_0 : bm_ok bt_m 0 := ⟨gw_in (List.mem_of_getElem? (i := 224) (by first | rfl | decide +kernel)) rfl, gw_in (List.mem_of_getElem? (i := 47) (by first | rfl | decide +kernel)) rfl, by decide +kernel, ⟨by decide +kernel, by decide +kernel, by decide +kernel⟩, gw_in (List.mem_of_getElem? (i := 223) (by first | rfl | decide +kernel)) rfl, rfl, rfl, by decide⟩
set_option maxRecDepth 20000 in
theorem bmk_1 : bm_ok bt_m 1 := ⟨gw_in (List.mem_of_getElem? (i := 299) (by first | rfl | decide +kernel)) rfl, gw_in (List.mem_of_getElem? (i := 48) (by first | rfl | decide +kernel)) rfl, by decide +kernel, ⟨by decide +kernel, by decide +kernel, by decide +kernel⟩, gw_in (List.mem_of_getElem? (i := 298) (by first | rfl | decide +kernel)) rfl, rfl, rfl, by decide⟩
set_option maxRecDepth 20000 in
theorem bmk_2 : bm_ok bt_m 2 := ⟨gw_in (List.mem_of_getElem? (i := 199) (by first | rfl | decide +kernel)) rfl, gw_in (List.mem_of_getElem? (i := 46) (by first | rfl | decide +kernel)) rfl, by decide +kernel, ⟨by decide +kernel, by decide +kernel, by decide +kernel⟩, gw_in (List.mem_of_getElem? (i := 198) (by first | rfl | decide +kernel)) rfl, rfl, rfl, by decide⟩
set_option maxRecDepth 20000 in
theorem bmk_3 : bm_ok bt_m 3 := ⟨gw_in (List.mem_of_getElem? (i := 69) (by first | rfl | decide +kernel)) rfl, gw_in (List.mem_of_getElem? (i := 42) (by first | rfl | decide +kernel)) rfl, by decide +kernel, ⟨by decide +kernel, by decide +kernel, by decide +kernel⟩, gw_in (List.mem_of_getElem? (i := 68) (by first | rfl | decide +kernel)) rfl, rfl, rfl, by decide⟩
set_option maxRecDepth 20000 in
theorem bmk_4 : bm_ok bt_m 4 := ⟨gw_in (List.mem_of_getElem? (i := 113) (by first | rfl | decide +kernel)) rfl, gw_in (List.mem_of_getElem? (i := 43) (by first | rfl | decide +kernel)) rfl, by decide +kernel, ⟨by decide +kernel, by decide +kernel, by decide +kernel⟩, gw_in (List.mem_of_getElem? (i := 112) (by first | rfl | decide +kernel)) rfl, rfl, rfl, by decide⟩
set_option maxRecDepth 20000 in
theorem bmk_5 : bm_ok bt_m 5 := ⟨gw_in (List.mem_of_getElem? (i := 132) (by first | rfl | decide +kernel)) rfl, gw_in (List.mem_of_getElem? (i := 44) (by first | rfl | decide +kernel)) rfl, by decide +kernel, ⟨by decide +kernel, by decide +kernel, by decide +kernel⟩, gw_in (List.mem_of_getElem? (i := 131) (by first | rfl | decide +kernel)) rfl, rfl, rfl, by decide⟩
set_option maxRecDepth 20000 in
theorem bmk_6 : bm_ok bt_m 6 := ⟨gw_in (List.mem_of_getElem? (i := 192) (by first | rfl | decide +kernel)) rfl, gw_in (List.mem_of_getElem? (i := 45) (by first | rfl | decide +kernel)) rfl, by decide +kernel, ⟨by decide +kernel, by decide +kernel, by decide +kernel⟩, gw_in (List.mem_of_getElem? (i := 191) (by first | rfl | decide +kernel)) rfl, rfl, rfl, by decide⟩
set_option maxRecDepth 20000 in
theorem bmk_7 : bm_ok bt_m 7 := ⟨gw_in (List.mem_of_getElem? (i := 57) (by first | rfl | decide +kernel)) rfl, gw_in (List.mem_of_getElem? (i := 41) (by first | rfl | decide +kernel)) rfl, by decide +kernel, ⟨by decide +kernel, by decide +kernel, by decide +kernel⟩, gw_in (List.mem_of_getElem? (i := 56) (by first | rfl | decide +kernel)) rfl, rfl, rfl, by decide⟩
set_option maxRecDepth 20000 in
theorem bmk_8 : bm_ok bt_m 8 := ⟨gw_in (List.mem_of_getElem? (i := 730) (by first | rfl | decide +kernel)) rfl, gw_in (List.mem_of_getElem? (i := 49) (by first | rfl | decide +kernel)) rfl, by decide +kernel, ⟨by decide +kernel, by decide +kernel, by decide +kernel⟩, gw_in (List.mem_of_getElem? (i := 729) (by first | rfl | decide +kernel)) rfl, rfl, rfl, by decide⟩
theorem bm_all : ∀ j, j < 9 → bm_ok bt_m j := fun j => match j with
  | 0 => fun _ => bmk_0
  | 1 => fun _ => bmk_1
  | 2 => fun _ => bmk_2
  | 3 => fun _ => bmk_3
  | 4 => fun _ => bmk_4
  | 5 => fun _ => bmk_5
  | 6 => fun _ => bmk_6
  | 7 => fun _ => bmk_7
  | 8 => fun _ => bmk_8
  | n + 9 => fun h => absurd h (by omega)
set_option maxRecDepth 20000 in
theorem bw_1 : ∀ (ci : Nat) (r : vw_C), cls_m[ci]? = some r → Cond.instantiable r.1 r.2.2 ∈ gw_m ∧ Cond.initialized r.1 ∈ gw_m := by
  intro ci r h
  match ci, h with
  | 0, h => cases h; exact ⟨gw_in (List.mem_of_getElem? (i := 110) (by first | rfl | decide +kernel)) rfl, gw_in (List.mem_of_getElem? (i := 43) (by first | rfl | decide +kernel)) rfl⟩
  | 1, h => cases h; exact ⟨gw_in (List.mem_of_getElem? (i := 66) (by first | rfl | decide +kernel)) rfl, gw_in (List.mem_of_getElem? (i := 42) (by first | rfl | decide +kernel)) rfl⟩
  | 2, h => cases h; exact ⟨gw_in (List.mem_of_getElem? (i := 189) (by first | rfl | decide +kernel)) rfl, gw_in (List.mem_of_getElem? (i := 45) (by first | rfl | decide +kernel)) rfl⟩
  | 3, h => cases h; exact ⟨gw_in (List.mem_of_getElem? (i := 296) (by first | rfl | decide +kernel)) rfl, gw_in (List.mem_of_getElem? (i := 48) (by first | rfl | decide +kernel)) rfl⟩
  | 4, h => cases h; exact ⟨gw_in (List.mem_of_getElem? (i := 129) (by first | rfl | decide +kernel)) rfl, gw_in (List.mem_of_getElem? (i := 44) (by first | rfl | decide +kernel)) rfl⟩
  | 5, h => cases h; exact ⟨gw_in (List.mem_of_getElem? (i := 221) (by first | rfl | decide +kernel)) rfl, gw_in (List.mem_of_getElem? (i := 47) (by first | rfl | decide +kernel)) rfl⟩
  | 6, h => cases h; exact ⟨gw_in (List.mem_of_getElem? (i := 196) (by first | rfl | decide +kernel)) rfl, gw_in (List.mem_of_getElem? (i := 46) (by first | rfl | decide +kernel)) rfl⟩
  | 7, h => cases h; exact ⟨gw_in (List.mem_of_getElem? (i := 54) (by first | rfl | decide +kernel)) rfl, gw_in (List.mem_of_getElem? (i := 41) (by first | rfl | decide +kernel)) rfl⟩
  | 8, h => cases h; exact ⟨gw_in (List.mem_of_getElem? (i := 727) (by first | rfl | decide +kernel)) rfl, gw_in (List.mem_of_getElem? (i := 49) (by first | rfl | decide +kernel)) rfl⟩
  | n + 9, h => simp [cls_m] at h
set_option maxRecDepth 20000 in
theorem bw_2 : ∀ (t : Nat) (ty : FieldType), t ≤ 2 → aty_m[t]? = some ty → Cond.arrayClass ty ∈ gw_m := by
  intro t ty ht h
  match t, h, ht with
  | 0, h, _ => cases h; exact gw_in (List.mem_of_getElem? (i := 187) (by first | rfl | decide +kernel)) rfl
  | 1, h, _ => cases h; exact gw_in (List.mem_of_getElem? (i := 108) (by first | rfl | decide +kernel)) rfl
  | 2, h, _ => cases h; exact gw_in (List.mem_of_getElem? (i := 831) (by first | rfl | decide +kernel)) rfl
  | n + 3, _, ht => omega
set_option maxRecDepth 20000 in
theorem bw_m : bw_ok := ⟨bw_1, bw_2, gw_in (List.mem_of_getElem? (i := 59) (by first | rfl | decide +kernel)) rfl, gw_in (List.mem_of_getElem? (i := 60) (by first | rfl | decide +kernel)) rfl⟩
