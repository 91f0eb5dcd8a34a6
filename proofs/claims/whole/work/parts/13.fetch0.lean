theorem ft_0_0 : ft_m 0 0 = some (.iload_n 1, 1, 1, 0, 0, 0, 0) := by rfl
theorem ft_0_1 : ft_m 0 1 = some (.invokestatic 88, 4, 1, 0, 389, 0, 0) := by rfl
theorem ft_0_4 : ft_m 0 4 = some (.ifCond .eq 33, 7, 37, 0, 0, 0, 0) := by rfl
theorem ft_0_7 : ft_m 0 7 = some (.iload_n 2, 8, 2, 0, 0, 0, 0) := by rfl
theorem ft_0_8 : ft_m 0 8 = some (.invokestatic 88, 11, 1, 0, 389, 0, 0) := by rfl
theorem ft_0_11 : ft_m 0 11 = some (.ifCond .eq 26, 14, 37, 0, 0, 0, 0) := by rfl
theorem ft_0_14 : ft_m 0 14 = some (.iload_n 3, 15, 3, 0, 0, 0, 0) := by rfl
theorem ft_0_15 : ft_m 0 15 = some (.invokestatic 88, 18, 1, 0, 389, 0, 0) := by rfl
theorem ft_0_18 : ft_m 0 18 = some (.ifCond .eq 19, 21, 37, 0, 0, 0, 0) := by rfl
theorem ft_0_21 : ft_m 0 21 = some (.iload 4, 23, 4, 0, 0, 0, 0) := by rfl
theorem ft_0_23 : ft_m 0 23 = some (.invokestatic 88, 26, 1, 0, 389, 0, 0) := by rfl
theorem ft_0_26 : ft_m 0 26 = some (.ifCond .eq 11, 29, 37, 0, 0, 0, 0) := by rfl
theorem ft_0_29 : ft_m 0 29 = some (.iload 5, 31, 5, 0, 0, 0, 0) := by rfl
theorem ft_0_31 : ft_m 0 31 = some (.invokestatic 88, 34, 1, 0, 389, 0, 0) := by rfl
theorem ft_0_34 : ft_m 0 34 = some (.ifCond .ne 6, 37, 40, 0, 0, 0, 0) := by rfl
theorem ft_0_37 : ft_m 0 37 = some (.bipush (-2), 39, 0, 0, 0, 0, (-2)) := by rfl
theorem ft_0_39 : ft_m 0 39 = some (.ireturn, 40, 0, 0, 0, 0, 0) := by rfl
theorem ft_0_40 : ft_m 0 40 = some (.aload_n 0, 41, 0, 0, 0, 0, 0) := by rfl
theorem ft_0_41 : ft_m 0 41 = some (.getfield 53, 44, 7, 7, 340, 0, 0) := by rfl
theorem ft_0_44 : ft_m 0 44 = some (.bipush 6, 46, 0, 0, 0, 0, nI 6) := by rfl
theorem ft_0_46 : ft_m 0 46 = some (.if_icmp .lt 6, 49, 52, 0, 0, 0, 0) := by rfl
theorem ft_0_49 : ft_m 0 49 = some (.bipush (-3), 51, 0, 0, 0, 0, (-3)) := by rfl
theorem ft_0_51 : ft_m 0 51 = some (.ireturn, 52, 0, 0, 0, 0, 0) := by rfl
theorem ft_0_52 : ft_m 0 52 = some (.aload_n 0, 53, 0, 0, 0, 0, 0) := by rfl
theorem ft_0_53 : ft_m 0 53 = some (.getfield 11, 56, 7, 0, 333, 0, 0) := by rfl
theorem ft_0_56 : ft_m 0 56 = some (.aload_n 0, 57, 0, 0, 0, 0, 0) := by rfl
theorem ft_0_57 : ft_m 0 57 = some (.getfield 53, 60, 7, 7, 340, 0, 0) := by rfl
theorem ft_0_60 : ft_m 0 60 = some (.aaload, 61, 0, 0, 0, 0, 0) := by rfl
theorem ft_0_61 : ft_m 0 61 = some (.astore 6, 63, 6, 0, 0, 0, 0) := by rfl
theorem ft_0_63 : ft_m 0 63 = some (.aload 6, 65, 6, 0, 0, 0, 0) := by rfl
theorem ft_0_65 : ft_m 0 65 = some (.iload_n 1, 66, 1, 0, 0, 0, 0) := by rfl
theorem ft_0_66 : ft_m 0 66 = some (.iload_n 2, 67, 2, 0, 0, 0, 0) := by rfl
theorem ft_0_67 : ft_m 0 67 = some (.iload_n 3, 68, 3, 0, 0, 0, 0) := by rfl
theorem ft_0_68 : ft_m 0 68 = some (.iload 4, 70, 4, 0, 0, 0, 0) := by rfl
theorem ft_0_70 : ft_m 0 70 = some (.iload 5, 72, 5, 0, 0, 0, 0) := by rfl
theorem ft_0_72 : ft_m 0 72 = some (.invokevirtual 92, 75, 2, 0, 392, 0, 0) := by rfl
theorem ft_0_75 : ft_m 0 75 = some (.aload 6, 77, 6, 0, 0, 0, 0) := by rfl
theorem ft_0_77 : ft_m 0 77 = some (.aload_n 0, 78, 0, 0, 0, 0, 0) := by rfl
theorem ft_0_78 : ft_m 0 78 = some (.getfield 28, 81, 7, 3, 336, 0, 0) := by rfl
theorem ft_0_81 : ft_m 0 81 = some (.invokevirtual 96, 84, 3, 0, 399, 0, 0) := by rfl
theorem ft_0_84 : ft_m 0 84 = some (.aload_n 0, 85, 0, 0, 0, 0, 0) := by rfl
theorem ft_0_85 : ft_m 0 85 = some (.iconst 0, 86, 0, 0, 0, 0, nI 0) := by rfl
theorem ft_0_86 : ft_m 0 86 = some (.putfield 57, 89, 7, 8, 341, 0, 0) := by rfl
theorem ft_0_89 : ft_m 0 89 = some (.aload_n 0, 90, 0, 0, 0, 0, 0) := by rfl
theorem ft_0_90 : ft_m 0 90 = some (.dup, 91, 0, 0, 0, 0, 0) := by rfl
theorem ft_0_91 : ft_m 0 91 = some (.getfield 53, 94, 7, 7, 340, 0, 0) := by rfl
theorem ft_0_94 : ft_m 0 94 = some (.iconst 1, 95, 0, 0, 0, 0, nI 1) := by rfl
theorem ft_0_95 : ft_m 0 95 = some (.iadd, 96, 0, 0, 0, 0, 0) := by rfl
theorem ft_0_96 : ft_m 0 96 = some (.putfield 53, 99, 7, 7, 340, 0, 0) := by rfl
theorem ft_0_99 : ft_m 0 99 = some (.aload_n 0, 100, 0, 0, 0, 0, 0) := by rfl
theorem ft_0_100 : ft_m 0 100 = some (.getfield 53, 103, 7, 7, 340, 0, 0) := by rfl
theorem ft_0_103 : ft_m 0 103 = some (.iconst 1, 104, 0, 0, 0, 0, nI 1) := by rfl
theorem ft_0_104 : ft_m 0 104 = some (.isub, 105, 0, 0, 0, 0, 0) := by rfl
theorem ft_0_105 : ft_m 0 105 = some (.ireturn, 106, 0, 0, 0, 0, 0) := by rfl
theorem ft_1_0 : ft_m 1 0 = some (.iload_n 0, 1, 0, 0, 0, 0, 0) := by rfl
theorem ft_1_1 : ft_m 1 1 = some (.sipush (-32767), 4, 0, 0, 0, 0, (-32767)) := by rfl
theorem ft_1_4 : ft_m 1 4 = some (.if_icmp .lt 14, 7, 18, 0, 0, 0, 0) := by rfl
theorem ft_1_7 : ft_m 1 7 = some (.iload_n 0, 8, 0, 0, 0, 0, 0) := by rfl
theorem ft_1_8 : ft_m 1 8 = some (.sipush 32767, 11, 0, 0, 0, 0, nI 32767) := by rfl
theorem ft_1_11 : ft_m 1 11 = some (.if_icmp .gt 7, 14, 18, 0, 0, 0, 0) := by rfl
theorem ft_1_14 : ft_m 1 14 = some (.iconst 1, 15, 0, 0, 0, 0, nI 1) := by rfl
theorem ft_1_15 : ft_m 1 15 = some (.goto 4, 18, 19, 0, 0, 0, 0) := by rfl
theorem ft_1_18 : ft_m 1 18 = some (.iconst 0, 19, 0, 0, 0, 0, nI 0) := by rfl
theorem ft_1_19 : ft_m 1 19 = some (.ireturn, 20, 0, 0, 0, 0, 0) := by rfl
theorem ft_2_0 : ft_m 2 0 = some (.aload_n 0, 1, 0, 0, 0, 0, 0) := by rfl
theorem ft_2_1 : ft_m 2 1 = some (.iload_n 1, 2, 1, 0, 0, 0, 0) := by rfl
theorem ft_2_2 : ft_m 2 2 = some (.putfield 9, 5, 5, 0, 226, 0, 0) := by rfl
theorem ft_2_5 : ft_m 2 5 = some (.aload_n 0, 6, 0, 0, 0, 0, 0) := by rfl
theorem ft_2_6 : ft_m 2 6 = some (.iload_n 2, 7, 2, 0, 0, 0, 0) := by rfl
theorem ft_2_7 : ft_m 2 7 = some (.putfield 15, 10, 5, 1, 229, 0, 0) := by rfl
theorem ft_2_10 : ft_m 2 10 = some (.aload_n 0, 11, 0, 0, 0, 0, 0) := by rfl
theorem ft_2_11 : ft_m 2 11 = some (.iload_n 3, 12, 3, 0, 0, 0, 0) := by rfl
theorem ft_2_12 : ft_m 2 12 = some (.putfield 18, 15, 5, 2, 232, 0, 0) := by rfl
theorem ft_2_15 : ft_m 2 15 = some (.aload_n 0, 16, 0, 0, 0, 0, 0) := by rfl
theorem ft_2_16 : ft_m 2 16 = some (.iload 4, 18, 4, 0, 0, 0, 0) := by rfl
theorem ft_2_18 : ft_m 2 18 = some (.putfield 21, 21, 5, 3, 236, 0, 0) := by rfl
theorem ft_2_21 : ft_m 2 21 = some (.aload_n 0, 22, 0, 0, 0, 0, 0) := by rfl
theorem ft_2_22 : ft_m 2 22 = some (.iload 5, 24, 5, 0, 0, 0, 0) := by rfl
theorem ft_2_24 : ft_m 2 24 = some (.putfield 24, 27, 5, 4, 241, 0, 0) := by rfl
theorem ft_2_27 : ft_m 2 27 = some (.aload_n 0, 28, 0, 0, 0, 0, 0) := by rfl
theorem ft_2_28 : ft_m 2 28 = some (.iload_n 1, 29, 1, 0, 0, 0, 0) := by rfl
theorem ft_2_29 : ft_m 2 29 = some (.invokestatic 27, 32, 1001, 0, 396, 0, 0) := by rfl
theorem ft_2_32 : ft_m 2 32 = some (.iload_n 2, 33, 2, 0, 0, 0, 0) := by rfl
theorem ft_2_33 : ft_m 2 33 = some (.invokestatic 27, 36, 1001, 0, 396, 0, 0) := by rfl
theorem ft_2_36 : ft_m 2 36 = some (.iadd, 37, 0, 0, 0, 0, 0) := by rfl
theorem ft_2_37 : ft_m 2 37 = some (.iload_n 3, 38, 3, 0, 0, 0, 0) := by rfl
theorem ft_2_38 : ft_m 2 38 = some (.invokestatic 27, 41, 1001, 0, 396, 0, 0) := by rfl
theorem ft_2_41 : ft_m 2 41 = some (.iadd, 42, 0, 0, 0, 0, 0) := by rfl
theorem ft_2_42 : ft_m 2 42 = some (.i2l, 43, 0, 0, 0, 0, 0) := by rfl
theorem ft_2_43 : ft_m 2 43 = some (.putfield 33, 46, 5, 5, 245, 0, 0) := by rfl
theorem ft_2_46 : ft_m 2 46 = some (.aload_n 0, 47, 0, 0, 0, 0, 0) := by rfl
theorem ft_2_47 : ft_m 2 47 = some (.iload 4, 49, 4, 0, 0, 0, 0) := by rfl
theorem ft_2_49 : ft_m 2 49 = some (.invokestatic 27, 52, 1001, 0, 396, 0, 0) := by rfl
theorem ft_2_52 : ft_m 2 52 = some (.iload 5, 54, 5, 0, 0, 0, 0) := by rfl
theorem ft_2_54 : ft_m 2 54 = some (.invokestatic 27, 57, 1001, 0, 396, 0, 0) := by rfl
theorem ft_2_57 : ft_m 2 57 = some (.iadd, 58, 0, 0, 0, 0, 0) := by rfl
theorem ft_2_58 : ft_m 2 58 = some (.i2l, 59, 0, 0, 0, 0, 0) := by rfl
theorem ft_2_59 : ft_m 2 59 = some (.putfield 37, 62, 5, 6, 248, 0, 0) := by rfl
theorem ft_2_62 : ft_m 2 62 = some (.return_, 63, 0, 0, 0, 0, 0) := by rfl
theorem ft_3_0 : ft_m 3 0 = some (.aload_n 0, 1, 0, 0, 0, 0, 0) := by rfl
theorem ft_3_1 : ft_m 3 1 = some (.iconst 1, 2, 0, 0, 0, 0, nI 1) := by rfl
theorem ft_3_2 : ft_m 3 2 = some (.putfield 40, 5, 5, 7, 250, 0, 0) := by rfl
theorem ft_3_5 : ft_m 3 5 = some (.aload_n 1, 6, 1, 0, 0, 0, 0) := by rfl
theorem ft_3_6 : ft_m 3 6 = some (.aload_n 0, 7, 0, 0, 0, 0, 0) := by rfl
theorem ft_3_7 : ft_m 3 7 = some (.invokevirtual 44, 10, 4, 0, 403, 0, 0) := by rfl
theorem ft_3_10 : ft_m 3 10 = some (.iconst 1, 11, 0, 0, 0, 0, nI 1) := by rfl
theorem ft_3_11 : ft_m 3 11 = some (.istore_n 2, 12, 2, 0, 0, 0, 0) := by rfl
theorem ft_3_12 : ft_m 3 12 = some (.iload_n 2, 13, 2, 0, 0, 0, 0) := by rfl
theorem ft_3_13 : ft_m 3 13 = some (.sipush 1000, 16, 0, 0, 0, 0, nI 1000) := by rfl
theorem ft_3_16 : ft_m 3 16 = some (.if_icmp .gt 75, 19, 91, 0, 0, 0, 0) := by rfl
theorem ft_3_19 : ft_m 3 19 = some (.aload_n 1, 20, 1, 0, 0, 0, 0) := by rfl
theorem ft_3_20 : ft_m 3 20 = some (.invokevirtual 50, 23, 5, 0, 408, 0, 0) := by rfl
theorem ft_3_23 : ft_m 3 23 = some (.aload_n 1, 24, 1, 0, 0, 0, 0) := by rfl
theorem ft_3_24 : ft_m 3 24 = some (.invokevirtual 53, 27, 7, 0, 418, 0, 0) := by rfl
theorem ft_3_27 : ft_m 3 27 = some (.ifCond .eq 4, 30, 31, 0, 0, 0, 0) := by rfl
theorem ft_3_30 : ft_m 3 30 = some (.return_, 31, 0, 0, 0, 0, 0) := by rfl
theorem ft_3_31 : ft_m 3 31 = some (.iload_n 2, 32, 2, 0, 0, 0, 0) := by rfl
theorem ft_3_32 : ft_m 3 32 = some (.iconst 2, 33, 0, 0, 0, 0, nI 2) := by rfl
theorem ft_3_33 : ft_m 3 33 = some (.if_icmp .lt 52, 36, 85, 0, 0, 0, 0) := by rfl
theorem ft_3_36 : ft_m 3 36 = some (.aload_n 1, 37, 1, 0, 0, 0, 0) := by rfl
theorem ft_3_37 : ft_m 3 37 = some (.invokevirtual 57, 40, 8, 0, 423, 0, 0) := by rfl
theorem ft_3_40 : ft_m 3 40 = some (.ldc2_w 61, 43, 0, 0, 430, 2147483648, 0) := by rfl
theorem ft_3_43 : ft_m 3 43 = some (.lcmp, 44, 0, 0, 0, 0, 0) := by rfl
theorem ft_3_44 : ft_m 3 44 = some (.ifCond .gt 41, 47, 85, 0, 0, 0, 0) := by rfl
theorem ft_3_47 : ft_m 3 47 = some (.aload_n 0, 48, 0, 0, 0, 0, 0) := by rfl
theorem ft_3_48 : ft_m 3 48 = some (.iload_n 2, 49, 2, 0, 0, 0, 0) := by rfl
theorem ft_3_49 : ft_m 3 49 = some (.putfield 63, 52, 5, 8, 253, 0, 0) := by rfl
theorem ft_3_52 : ft_m 3 52 = some (.aload_n 0, 53, 0, 0, 0, 0, 0) := by rfl
theorem ft_3_53 : ft_m 3 53 = some (.aload_n 1, 54, 1, 0, 0, 0, 0) := by rfl
theorem ft_3_54 : ft_m 3 54 = some (.getfield 66, 57, 1, 9, 85, 1, 0) := by rfl
theorem ft_3_57 : ft_m 3 57 = some (.putfield 69, 60, 5, 9, 256, 0, 0) := by rfl
theorem ft_3_60 : ft_m 3 60 = some (.aload_n 0, 61, 0, 0, 0, 0, 0) := by rfl
theorem ft_3_61 : ft_m 3 61 = some (.aload_n 1, 62, 1, 0, 0, 0, 0) := by rfl
theorem ft_3_62 : ft_m 3 62 = some (.invokevirtual 57, 65, 8, 0, 423, 0, 0) := by rfl
theorem ft_3_65 : ft_m 3 65 = some (.putfield 72, 68, 5, 10, 259, 0, 0) := by rfl
theorem ft_3_68 : ft_m 3 68 = some (.aload_n 0, 69, 0, 0, 0, 0, 0) := by rfl
theorem ft_3_69 : ft_m 3 69 = some (.aload_n 0, 70, 0, 0, 0, 0, 0) := by rfl
theorem ft_3_70 : ft_m 3 70 = some (.invokevirtual 74, 73, 9, 0, 431, 0, 0) := by rfl
theorem ft_3_73 : ft_m 3 73 = some (.ifCond .ne 7, 76, 80, 0, 0, 0, 0) := by rfl
theorem ft_3_76 : ft_m 3 76 = some (.iconst 1, 77, 0, 0, 0, 0, nI 1) := by rfl
theorem ft_3_77 : ft_m 3 77 = some (.goto 4, 80, 81, 0, 0, 0, 0) := by rfl
theorem ft_3_80 : ft_m 3 80 = some (.iconst 0, 81, 0, 0, 0, 0, nI 0) := by rfl
theorem ft_3_81 : ft_m 3 81 = some (.putfield 40, 84, 5, 7, 250, 0, 0) := by rfl
theorem ft_3_84 : ft_m 3 84 = some (.return_, 85, 0, 0, 0, 0, 0) := by rfl
theorem ft_3_85 : ft_m 3 85 = some (.iinc 2 1, 88, 2, 0, 0, 0, nI 1) := by rfl
theorem ft_3_88 : ft_m 3 88 = some (.goto (-76), 91, 12, 0, 0, 0, 0) := by rfl
theorem ft_3_91 : ft_m 3 91 = some (.return_, 92, 0, 0, 0, 0, 0) := by rfl
theorem ft_4_0 : ft_m 4 0 = some (.aload_n 0, 1, 0, 0, 0, 0, 0) := by rfl
theorem ft_4_1 : ft_m 4 1 = some (.aload_n 1, 2, 1, 0, 0, 0, 0) := by rfl
theorem ft_4_2 : ft_m 4 2 = some (.getfield 9, 5, 5, 3, 235, 1, 0) := by rfl
theorem ft_4_5 : ft_m 4 5 = some (.i2l, 6, 0, 0, 0, 0, 0) := by rfl
theorem ft_4_6 : ft_m 4 6 = some (.putfield 15, 9, 1, 0, 71, 0, 0) := by rfl
theorem ft_4_9 : ft_m 4 9 = some (.aload_n 0, 10, 0, 0, 0, 0, 0) := by rfl
theorem ft_4_10 : ft_m 4 10 = some (.aload_n 1, 11, 1, 0, 0, 0, 0) := by rfl
theorem ft_4_11 : ft_m 4 11 = some (.getfield 20, 14, 5, 4, 240, 1, 0) := by rfl
theorem ft_4_14 : ft_m 4 14 = some (.i2l, 15, 0, 0, 0, 0, 0) := by rfl
theorem ft_4_15 : ft_m 4 15 = some (.putfield 23, 18, 1, 1, 72, 0, 0) := by rfl
theorem ft_4_18 : ft_m 4 18 = some (.aload_n 0, 19, 0, 0, 0, 0, 0) := by rfl
theorem ft_4_19 : ft_m 4 19 = some (.ldc2_w 25, 22, 0, 0, 407, 4294967296, 0) := by rfl
theorem ft_4_22 : ft_m 4 22 = some (.putfield 27, 25, 1, 2, 73, 0, 0) := by rfl
theorem ft_4_25 : ft_m 4 25 = some (.aload_n 0, 26, 0, 0, 0, 0, 0) := by rfl
theorem ft_4_26 : ft_m 4 26 = some (.lconst 0, 27, 0, 0, 0, 0, 0) := by rfl
theorem ft_4_27 : ft_m 4 27 = some (.putfield 30, 30, 1, 3, 75, 0, 0) := by rfl
theorem ft_4_30 : ft_m 4 30 = some (.aload_n 0, 31, 0, 0, 0, 0, 0) := by rfl
theorem ft_4_31 : ft_m 4 31 = some (.lconst 0, 32, 0, 0, 0, 0, 0) := by rfl
theorem ft_4_32 : ft_m 4 32 = some (.putfield 33, 35, 1, 4, 76, 0, 0) := by rfl
theorem ft_4_35 : ft_m 4 35 = some (.aload_n 0, 36, 0, 0, 0, 0, 0) := by rfl
theorem ft_4_36 : ft_m 4 36 = some (.ldc2_w 25, 39, 0, 0, 407, 4294967296, 0) := by rfl
theorem ft_4_39 : ft_m 4 39 = some (.putfield 36, 42, 1, 5, 78, 0, 0) := by rfl
theorem ft_4_42 : ft_m 4 42 = some (.aload_n 0, 43, 0, 0, 0, 0, 0) := by rfl
theorem ft_4_43 : ft_m 4 43 = some (.lconst 0, 44, 0, 0, 0, 0, 0) := by rfl
theorem ft_4_44 : ft_m 4 44 = some (.putfield 39, 47, 1, 6, 80, 0, 0) := by rfl
theorem ft_4_47 : ft_m 4 47 = some (.aload_n 0, 48, 0, 0, 0, 0, 0) := by rfl
theorem ft_4_48 : ft_m 4 48 = some (.ldc2_w 25, 51, 0, 0, 407, 4294967296, 0) := by rfl
theorem ft_4_51 : ft_m 4 51 = some (.putfield 42, 54, 1, 7, 81, 0, 0) := by rfl
theorem ft_4_54 : ft_m 4 54 = some (.aload_n 0, 55, 0, 0, 0, 0, 0) := by rfl
theorem ft_4_55 : ft_m 4 55 = some (.lconst 0, 56, 0, 0, 0, 0, 0) := by rfl
theorem ft_4_56 : ft_m 4 56 = some (.putfield 45, 59, 1, 8, 83, 0, 0) := by rfl
theorem ft_4_59 : ft_m 4 59 = some (.aload_n 0, 60, 0, 0, 0, 0, 0) := by rfl
theorem ft_4_60 : ft_m 4 60 = some (.lconst 0, 61, 0, 0, 0, 0, 0) := by rfl
theorem ft_4_61 : ft_m 4 61 = some (.putfield 48, 64, 1, 9, 84, 0, 0) := by rfl
theorem ft_4_64 : ft_m 4 64 = some (.return_, 65, 0, 0, 0, 0, 0) := by rfl
theorem ft_5_0 : ft_m 5 0 = some (.aload_n 0, 1, 0, 0, 0, 0, 0) := by rfl
theorem ft_5_1 : ft_m 5 1 = some (.dup, 2, 0, 0, 0, 0, 0) := by rfl
theorem ft_5_2 : ft_m 5 2 = some (.getfield 39, 5, 1, 6, 80, 0, 0) := by rfl
theorem ft_5_5 : ft_m 5 5 = some (.aload_n 0, 6, 0, 0, 0, 0, 0) := by rfl
theorem ft_5_6 : ft_m 5 6 = some (.getfield 36, 9, 1, 5, 78, 0, 0) := by rfl
theorem ft_5_9 : ft_m 5 9 = some (.ladd, 10, 0, 0, 0, 0, 0) := by rfl
theorem ft_5_10 : ft_m 5 10 = some (.putfield 39, 13, 1, 6, 80, 0, 0) := by rfl
theorem ft_5_13 : ft_m 5 13 = some (.aload_n 0, 14, 0, 0, 0, 0, 0) := by rfl
theorem ft_5_14 : ft_m 5 14 = some (.dup, 15, 0, 0, 0, 0, 0) := by rfl
theorem ft_5_15 : ft_m 5 15 = some (.getfield 48, 18, 1, 9, 84, 0, 0) := by rfl
theorem ft_5_18 : ft_m 5 18 = some (.aload_n 0, 19, 0, 0, 0, 0, 0) := by rfl
theorem ft_5_19 : ft_m 5 19 = some (.getfield 42, 22, 1, 7, 81, 0, 0) := by rfl
theorem ft_5_22 : ft_m 5 22 = some (.ladd, 23, 0, 0, 0, 0, 0) := by rfl
theorem ft_5_23 : ft_m 5 23 = some (.putfield 48, 26, 1, 9, 84, 0, 0) := by rfl
theorem ft_5_26 : ft_m 5 26 = some (.aload_n 0, 27, 0, 0, 0, 0, 0) := by rfl
theorem ft_5_27 : ft_m 5 27 = some (.getfield 15, 30, 1, 0, 71, 0, 0) := by rfl
theorem ft_5_30 : ft_m 5 30 = some (.lneg, 31, 0, 0, 0, 0, 0) := by rfl
theorem ft_5_31 : ft_m 5 31 = some (.aload_n 0, 32, 0, 0, 0, 0, 0) := by rfl
theorem ft_5_32 : ft_m 5 32 = some (.getfield 27, 35, 1, 2, 73, 0, 0) := by rfl
theorem ft_5_35 : ft_m 5 35 = some (.lmul, 36, 0, 0, 0, 0, 0) := by rfl
theorem ft_5_36 : ft_m 5 36 = some (.aload_n 0, 37, 0, 0, 0, 0, 0) := by rfl
theorem ft_5_37 : ft_m 5 37 = some (.getfield 23, 40, 1, 1, 72, 0, 0) := by rfl
theorem ft_5_40 : ft_m 5 40 = some (.aload_n 0, 41, 0, 0, 0, 0, 0) := by rfl
theorem ft_5_41 : ft_m 5 41 = some (.getfield 30, 44, 1, 3, 75, 0, 0) := by rfl
theorem ft_5_44 : ft_m 5 44 = some (.lmul, 45, 0, 0, 0, 0, 0) := by rfl
theorem ft_5_45 : ft_m 5 45 = some (.lsub, 46, 0, 0, 0, 0, 0) := by rfl
theorem ft_5_46 : ft_m 5 46 = some (.bipush 14, 48, 0, 0, 0, 0, nI 14) := by rfl
theorem ft_5_48 : ft_m 5 48 = some (.lshr, 49, 0, 0, 0, 0, 0) := by rfl
theorem ft_5_49 : ft_m 5 49 = some (.lstore_n 1, 50, 1, 0, 0, 0, 0) := by rfl
theorem ft_5_50 : ft_m 5 50 = some (.aload_n 0, 51, 0, 0, 0, 0, 0) := by rfl
theorem ft_5_51 : ft_m 5 51 = some (.aload_n 0, 52, 0, 0, 0, 0, 0) := by rfl
theorem ft_5_52 : ft_m 5 52 = some (.getfield 27, 55, 1, 2, 73, 0, 0) := by rfl
theorem ft_5_55 : ft_m 5 55 = some (.putfield 30, 58, 1, 3, 75, 0, 0) := by rfl
theorem ft_5_58 : ft_m 5 58 = some (.aload_n 0, 59, 0, 0, 0, 0, 0) := by rfl
theorem ft_5_59 : ft_m 5 59 = some (.lload_n 1, 60, 1, 0, 0, 0, 0) := by rfl
theorem ft_5_60 : ft_m 5 60 = some (.putfield 27, 63, 1, 2, 73, 0, 0) := by rfl
theorem ft_5_63 : ft_m 5 63 = some (.aload_n 0, 64, 0, 0, 0, 0, 0) := by rfl
theorem ft_5_64 : ft_m 5 64 = some (.lconst 1, 65, 0, 0, 0, 1, 0) := by rfl
theorem ft_5_65 : ft_m 5 65 = some (.aload_n 0, 66, 0, 0, 0, 0, 0) := by rfl
theorem ft_5_66 : ft_m 5 66 = some (.getfield 39, 69, 1, 6, 80, 0, 0) := by rfl
theorem ft_5_69 : ft_m 5 69 = some (.bipush 32, 71, 0, 0, 0, 0, nI 32) := by rfl
theorem ft_5_71 : ft_m 5 71 = some (.lshr, 72, 0, 0, 0, 0, 0) := by rfl
theorem ft_5_72 : ft_m 5 72 = some (.ladd, 73, 0, 0, 0, 0, 0) := by rfl
theorem ft_5_73 : ft_m 5 73 = some (.putfield 33, 76, 1, 4, 76, 0, 0) := by rfl
theorem ft_5_76 : ft_m 5 76 = some (.aload_n 0, 77, 0, 0, 0, 0, 0) := by rfl
theorem ft_5_77 : ft_m 5 77 = some (.getfield 36, 80, 1, 5, 78, 0, 0) := by rfl
theorem ft_5_80 : ft_m 5 80 = some (.lstore_n 3, 81, 3, 0, 0, 0, 0) := by rfl
theorem ft_5_81 : ft_m 5 81 = some (.aload_n 0, 82, 0, 0, 0, 0, 0) := by rfl
theorem ft_5_82 : ft_m 5 82 = some (.aload_n 0, 83, 0, 0, 0, 0, 0) := by rfl
theorem ft_5_83 : ft_m 5 83 = some (.getfield 27, 86, 1, 2, 73, 0, 0) := by rfl
theorem ft_5_86 : ft_m 5 86 = some (.invokestatic 53, 89, 1002, 0, 412, 0, 0) := by rfl
theorem ft_5_89 : ft_m 5 89 = some (.aload_n 0, 90, 0, 0, 0, 0, 0) := by rfl
theorem ft_5_90 : ft_m 5 90 = some (.getfield 33, 93, 1, 4, 76, 0, 0) := by rfl
theorem ft_5_93 : ft_m 5 93 = some (.ladd, 94, 0, 0, 0, 0, 0) := by rfl
theorem ft_5_94 : ft_m 5 94 = some (.putfield 36, 97, 1, 5, 78, 0, 0) := by rfl
theorem ft_5_97 : ft_m 5 97 = some (.aload_n 0, 98, 0, 0, 0, 0, 0) := by rfl
theorem ft_5_98 : ft_m 5 98 = some (.aload_n 0, 99, 0, 0, 0, 0, 0) := by rfl
theorem ft_5_99 : ft_m 5 99 = some (.getfield 42, 102, 1, 7, 81, 0, 0) := by rfl
theorem ft_5_102 : ft_m 5 102 = some (.putfield 45, 105, 1, 8, 83, 0, 0) := by rfl
theorem ft_5_105 : ft_m 5 105 = some (.aload_n 0, 106, 0, 0, 0, 0, 0) := by rfl
theorem ft_5_106 : ft_m 5 106 = some (.aload_n 0, 107, 0, 0, 0, 0, 0) := by rfl
theorem ft_5_107 : ft_m 5 107 = some (.getfield 36, 110, 1, 5, 78, 0, 0) := by rfl
theorem ft_5_110 : ft_m 5 110 = some (.aload_n 0, 111, 0, 0, 0, 0, 0) := by rfl
theorem ft_5_111 : ft_m 5 111 = some (.getfield 23, 114, 1, 1, 72, 0, 0) := by rfl
theorem ft_5_114 : ft_m 5 114 = some (.invokestatic 53, 117, 1002, 0, 412, 0, 0) := by rfl
theorem ft_5_117 : ft_m 5 117 = some (.lload_n 3, 118, 3, 0, 0, 0, 0) := by rfl
theorem ft_5_118 : ft_m 5 118 = some (.lmul, 119, 0, 0, 0, 0, 0) := by rfl
theorem ft_5_119 : ft_m 5 119 = some (.bipush 14, 121, 0, 0, 0, 0, nI 14) := by rfl
theorem ft_5_121 : ft_m 5 121 = some (.invokestatic 59, 124, 6, 0, 415, 1, 0) := by rfl
theorem ft_5_124 : ft_m 5 124 = some (.ladd, 125, 0, 0, 0, 0, 0) := by rfl
theorem ft_5_125 : ft_m 5 125 = some (.putfield 42, 128, 1, 7, 81, 0, 0) := by rfl
theorem ft_5_128 : ft_m 5 128 = some (.return_, 129, 0, 0, 0, 0, 0) := by rfl
theorem ft_6_0 : ft_m 6 0 = some (.lload_n 0, 1, 0, 0, 0, 0, 0) := by rfl
theorem ft_6_1 : ft_m 6 1 = some (.lconst 1, 2, 0, 0, 0, 1, 0) := by rfl
theorem ft_6_2 : ft_m 6 2 = some (.iload_n 2, 3, 2, 0, 0, 0, 0) := by rfl
theorem ft_6_3 : ft_m 6 3 = some (.lshl, 4, 0, 0, 0, 0, 0) := by rfl
theorem ft_6_4 : ft_m 6 4 = some (.ladd, 5, 0, 0, 0, 0, 0) := by rfl
theorem ft_6_5 : ft_m 6 5 = some (.lconst 1, 6, 0, 0, 0, 1, 0) := by rfl
theorem ft_6_6 : ft_m 6 6 = some (.lsub, 7, 0, 0, 0, 0, 0) := by rfl
theorem ft_6_7 : ft_m 6 7 = some (.iload_n 2, 8, 2, 0, 0, 0, 0) := by rfl
theorem ft_6_8 : ft_m 6 8 = some (.lshr, 9, 0, 0, 0, 0, 0) := by rfl
theorem ft_6_9 : ft_m 6 9 = some (.lreturn, 10, 0, 0, 0, 0, 0) := by rfl
theorem ft_7_0 : ft_m 7 0 = some (.aload_n 0, 1, 0, 0, 0, 0, 0) := by rfl
theorem ft_7_1 : ft_m 7 1 = some (.getfield 36, 4, 1, 5, 78, 0, 0) := by rfl
theorem ft_7_4 : ft_m 7 4 = some (.ldc2_w 51, 7, 0, 0, 422, 70368744177664, 0) := by rfl
theorem ft_7_7 : ft_m 7 7 = some (.lcmp, 8, 0, 0, 0, 0, 0) := by rfl
theorem ft_7_8 : ft_m 7 8 = some (.ifCond .le 7, 11, 15, 0, 0, 0, 0) := by rfl
theorem ft_7_11 : ft_m 7 11 = some (.iconst 1, 12, 0, 0, 0, 0, nI 1) := by rfl
theorem ft_7_12 : ft_m 7 12 = some (.goto 4, 15, 16, 0, 0, 0, 0) := by rfl
theorem ft_7_15 : ft_m 7 15 = some (.iconst 0, 16, 0, 0, 0, 0, nI 0) := by rfl
theorem ft_7_16 : ft_m 7 16 = some (.ireturn, 17, 0, 0, 0, 0, 0) := by rfl
theorem ft_8_0 : ft_m 8 0 = some (.aload_n 0, 1, 0, 0, 0, 0, 0) := by rfl
theorem ft_8_1 : ft_m 8 1 = some (.getfield 42, 4, 1, 7, 81, 0, 0) := by rfl
theorem ft_8_4 : ft_m 8 4 = some (.aload_n 0, 5, 0, 0, 0, 0, 0) := by rfl
theorem ft_8_5 : ft_m 8 5 = some (.getfield 45, 8, 1, 8, 83, 0, 0) := by rfl
theorem ft_8_8 : ft_m 8 8 = some (.invokestatic 74, 11, 1003, 0, 427, 0, 0) := by rfl
theorem ft_8_11 : ft_m 8 11 = some (.lreturn, 12, 0, 0, 0, 0, 0) := by rfl
theorem ft_9_0 : ft_m 9 0 = some (.aload_n 0, 1, 0, 0, 0, 0, 0) := by rfl
theorem ft_9_1 : ft_m 9 1 = some (.getfield 69, 4, 5, 9, 256, 0, 0) := by rfl
theorem ft_9_4 : ft_m 9 4 = some (.ldc2_w 77, 7, 0, 0, 435, 70368744177664, 0) := by rfl
theorem ft_9_7 : ft_m 9 7 = some (.lcmp, 8, 0, 0, 0, 0, 0) := by rfl
theorem ft_9_8 : ft_m 9 8 = some (.ifCond .le 5, 11, 13, 0, 0, 0, 0) := by rfl
theorem ft_9_11 : ft_m 9 11 = some (.iconst 0, 12, 0, 0, 0, 0, nI 0) := by rfl
theorem ft_9_12 : ft_m 9 12 = some (.ireturn, 13, 0, 0, 0, 0, 0) := by rfl
theorem ft_9_13 : ft_m 9 13 = some (.aload_n 0, 14, 0, 0, 0, 0, 0) := by rfl
theorem ft_9_14 : ft_m 9 14 = some (.aload_n 0, 15, 0, 0, 0, 0, 0) := by rfl
theorem ft_9_15 : ft_m 9 15 = some (.getfield 69, 18, 5, 9, 256, 0, 0) := by rfl
theorem ft_9_18 : ft_m 9 18 = some (.bipush 16, 20, 0, 0, 0, 0, nI 16) := by rfl
theorem ft_9_20 : ft_m 9 20 = some (.lshl, 21, 0, 0, 0, 0, 0) := by rfl
theorem ft_9_21 : ft_m 9 21 = some (.aload_n 0, 22, 0, 0, 0, 0, 0) := by rfl
theorem ft_9_22 : ft_m 9 22 = some (.getfield 72, 25, 5, 10, 259, 0, 0) := by rfl
theorem ft_9_25 : ft_m 9 25 = some (.invokestatic 79, 28, 10, 0, 436, 1, 0) := by rfl
theorem ft_9_28 : ft_m 9 28 = some (.invokestatic 83, 31, 11, 0, 440, 1, 0) := by rfl
theorem ft_9_31 : ft_m 9 31 = some (.putfield 87, 34, 5, 11, 262, 0, 0) := by rfl
theorem ft_9_34 : ft_m 9 34 = some (.aload_n 0, 35, 0, 0, 0, 0, 0) := by rfl
theorem ft_9_35 : ft_m 9 35 = some (.getfield 87, 38, 5, 11, 262, 0, 0) := by rfl
theorem ft_9_38 : ft_m 9 38 = some (.ldc2_w 90, 41, 0, 0, 443, 17592186044416, 0) := by rfl
theorem ft_9_41 : ft_m 9 41 = some (.lcmp, 42, 0, 0, 0, 0, 0) := by rfl
theorem ft_9_42 : ft_m 9 42 = some (.ifCond .le 5, 45, 47, 0, 0, 0, 0) := by rfl
theorem ft_9_45 : ft_m 9 45 = some (.iconst 0, 46, 0, 0, 0, 0, nI 0) := by rfl
theorem ft_9_46 : ft_m 9 46 = some (.ireturn, 47, 0, 0, 0, 0, 0) := by rfl
theorem ft_9_47 : ft_m 9 47 = some (.aload_n 0, 48, 0, 0, 0, 0, 0) := by rfl
theorem ft_9_48 : ft_m 9 48 = some (.aload_n 0, 49, 0, 0, 0, 0, 0) := by rfl
theorem ft_9_49 : ft_m 9 49 = some (.getfield 33, 52, 5, 5, 245, 0, 0) := by rfl
theorem ft_9_52 : ft_m 9 52 = some (.aload_n 0, 53, 0, 0, 0, 0, 0) := by rfl
theorem ft_9_53 : ft_m 9 53 = some (.getfield 87, 56, 5, 11, 262, 0, 0) := by rfl
theorem ft_9_56 : ft_m 9 56 = some (.lmul, 57, 0, 0, 0, 0, 0) := by rfl
theorem ft_9_57 : ft_m 9 57 = some (.bipush 14, 59, 0, 0, 0, 0, nI 14) := by rfl
theorem ft_9_59 : ft_m 9 59 = some (.invokestatic 92, 62, 6, 0, 444, 1, 0) := by rfl
theorem ft_9_62 : ft_m 9 62 = some (.putfield 96, 65, 5, 12, 267, 0, 0) := by rfl
theorem ft_9_65 : ft_m 9 65 = some (.iconst 1, 66, 0, 0, 0, 0, nI 1) := by rfl
theorem ft_9_66 : ft_m 9 66 = some (.ireturn, 67, 0, 0, 0, 0, 0) := by rfl
theorem ft_10_0 : ft_m 10 0 = some (.ldc2_w 322, 3, 0, 0, 439, 4294967296, 0) := by rfl
theorem ft_10_3 : ft_m 10 3 = some (.lload_n 0, 4, 0, 0, 0, 0, 0) := by rfl
theorem ft_10_4 : ft_m 10 4 = some (.lsub, 5, 0, 0, 0, 0, 0) := by rfl
theorem ft_10_5 : ft_m 10 5 = some (.bipush 16, 7, 0, 0, 0, 0, nI 16) := by rfl
theorem ft_10_7 : ft_m 10 7 = some (.lshr, 8, 0, 0, 0, 0, 0) := by rfl
theorem ft_10_8 : ft_m 10 8 = some (.lreturn, 9, 0, 0, 0, 0, 0) := by rfl
theorem ft_11_0 : ft_m 11 0 = some (.lload_n 2, 1, 2, 0, 0, 0, 0) := by rfl
theorem ft_11_1 : ft_m 11 1 = some (.lconst 0, 2, 0, 0, 0, 0, 0) := by rfl
theorem ft_11_2 : ft_m 11 2 = some (.lcmp, 3, 0, 0, 0, 0, 0) := by rfl
theorem ft_11_3 : ft_m 11 3 = some (.ifCond .gt 7, 6, 10, 0, 0, 0, 0) := by rfl
theorem ft_11_6 : ft_m 11 6 = some (.lconst 0, 7, 0, 0, 0, 0, 0) := by rfl
theorem ft_11_7 : ft_m 11 7 = some (.goto 10, 10, 17, 0, 0, 0, 0) := by rfl
theorem ft_11_10 : ft_m 11 10 = some (.lload_n 0, 11, 0, 0, 0, 0, 0) := by rfl
theorem ft_11_11 : ft_m 11 11 = some (.lload_n 2, 12, 2, 0, 0, 0, 0) := by rfl
theorem ft_11_12 : ft_m 11 12 = some (.ladd, 13, 0, 0, 0, 0, 0) := by rfl
theorem ft_11_13 : ft_m 11 13 = some (.lconst 1, 14, 0, 0, 0, 1, 0) := by rfl
theorem ft_11_14 : ft_m 11 14 = some (.lsub, 15, 0, 0, 0, 0, 0) := by rfl
theorem ft_11_15 : ft_m 11 15 = some (.lload_n 2, 16, 2, 0, 0, 0, 0) := by rfl
theorem ft_11_16 : ft_m 11 16 = some (.ldiv, 17, 0, 0, 0, 0, 0) := by rfl
theorem ft_11_17 : ft_m 11 17 = some (.lreturn, 18, 0, 0, 0, 0, 0) := by rfl
theorem ft_12_0 : ft_m 12 0 = some (.aload_n 0, 1, 0, 0, 0, 0, 0) := by rfl
theorem ft_12_1 : ft_m 12 1 = some (.getfield 53, 4, 7, 7, 340, 0, 0) := by rfl
theorem ft_12_4 : ft_m 12 4 = some (.istore_n 1, 5, 1, 0, 0, 0, 0) := by rfl
theorem ft_12_5 : ft_m 12 5 = some (.aload_n 0, 6, 0, 0, 0, 0, 0) := by rfl
theorem ft_12_6 : ft_m 12 6 = some (.iconst 0, 7, 0, 0, 0, 0, nI 0) := by rfl
theorem ft_12_7 : ft_m 12 7 = some (.putfield 53, 10, 7, 7, 340, 0, 0) := by rfl
theorem ft_12_10 : ft_m 12 10 = some (.aload_n 0, 11, 0, 0, 0, 0, 0) := by rfl
theorem ft_12_11 : ft_m 12 11 = some (.iconst 0, 12, 0, 0, 0, 0, nI 0) := by rfl
theorem ft_12_12 : ft_m 12 12 = some (.putfield 57, 15, 7, 8, 341, 0, 0) := by rfl
theorem ft_12_15 : ft_m 12 15 = some (.iload_n 1, 16, 1, 0, 0, 0, 0) := by rfl
theorem ft_12_16 : ft_m 12 16 = some (.ireturn, 17, 0, 0, 0, 0, 0) := by rfl
theorem ft_13_0 : ft_m 13 0 = some (.aload_n 0, 1, 0, 0, 0, 0, 0) := by rfl
theorem ft_13_1 : ft_m 13 1 = some (.getfield 53, 4, 7, 7, 340, 0, 0) := by rfl
theorem ft_13_4 : ft_m 13 4 = some (.ireturn, 5, 0, 0, 0, 0, 0) := by rfl
theorem ft_14_0 : ft_m 14 0 = some (.iload_n 1, 1, 1, 0, 0, 0, 0) := by rfl
theorem ft_14_1 : ft_m 14 1 = some (.ifCond .lt 12, 4, 13, 0, 0, 0, 0) := by rfl
theorem ft_14_4 : ft_m 14 4 = some (.iload_n 1, 5, 1, 0, 0, 0, 0) := by rfl
theorem ft_14_5 : ft_m 14 5 = some (.iconst 4, 6, 0, 0, 0, 0, nI 4) := by rfl
theorem ft_14_6 : ft_m 14 6 = some (.if_icmp .gt 7, 9, 13, 0, 0, 0, 0) := by rfl
theorem ft_14_9 : ft_m 14 9 = some (.iload_n 2, 10, 2, 0, 0, 0, 0) := by rfl
theorem ft_14_10 : ft_m 14 10 = some (.ifCond .ne 5, 13, 15, 0, 0, 0, 0) := by rfl
theorem ft_14_13 : ft_m 14 13 = some (.iconst (-1), 14, 0, 0, 0, 0, (-1)) := by rfl
theorem ft_14_14 : ft_m 14 14 = some (.ireturn, 15, 0, 0, 0, 0, 0) := by rfl
theorem ft_14_15 : ft_m 14 15 = some (.aload_n 0, 16, 0, 0, 0, 0, 0) := by rfl
theorem ft_14_16 : ft_m 14 16 = some (.getfield 21, 19, 7, 2, 335, 0, 0) := by rfl
theorem ft_14_19 : ft_m 14 19 = some (.iconst 0, 20, 0, 0, 0, 0, nI 0) := by rfl
theorem ft_14_20 : ft_m 14 20 = some (.iload_n 2, 21, 2, 0, 0, 0, 0) := by rfl
theorem ft_14_21 : ft_m 14 21 = some (.i2l, 22, 0, 0, 0, 0, 0) := by rfl
theorem ft_14_22 : ft_m 14 22 = some (.lastore, 23, 0, 0, 0, 0, 0) := by rfl
theorem ft_14_23 : ft_m 14 23 = some (.aload_n 0, 24, 0, 0, 0, 0, 0) := by rfl
theorem ft_14_24 : ft_m 14 24 = some (.getfield 21, 27, 7, 2, 335, 0, 0) := by rfl
theorem ft_14_27 : ft_m 14 27 = some (.iconst 1, 28, 0, 0, 0, 0, nI 1) := by rfl
theorem ft_14_28 : ft_m 14 28 = some (.iload_n 3, 29, 3, 0, 0, 0, 0) := by rfl
theorem ft_14_29 : ft_m 14 29 = some (.i2l, 30, 0, 0, 0, 0, 0) := by rfl
theorem ft_14_30 : ft_m 14 30 = some (.lastore, 31, 0, 0, 0, 0, 0) := by rfl
theorem ft_14_31 : ft_m 14 31 = some (.aload_n 0, 32, 0, 0, 0, 0, 0) := by rfl
theorem ft_14_32 : ft_m 14 32 = some (.getfield 21, 35, 7, 2, 335, 0, 0) := by rfl
theorem ft_14_35 : ft_m 14 35 = some (.iconst 2, 36, 0, 0, 0, 0, nI 2) := by rfl
theorem ft_14_36 : ft_m 14 36 = some (.iload 4, 38, 4, 0, 0, 0, 0) := by rfl
theorem ft_14_38 : ft_m 14 38 = some (.i2l, 39, 0, 0, 0, 0, 0) := by rfl
theorem ft_14_39 : ft_m 14 39 = some (.lastore, 40, 0, 0, 0, 0, 0) := by rfl
theorem ft_14_40 : ft_m 14 40 = some (.aload_n 0, 41, 0, 0, 0, 0, 0) := by rfl
theorem ft_14_41 : ft_m 14 41 = some (.getfield 21, 44, 7, 2, 335, 0, 0) := by rfl
theorem ft_14_44 : ft_m 14 44 = some (.iconst 3, 45, 0, 0, 0, 0, nI 3) := by rfl
theorem ft_14_45 : ft_m 14 45 = some (.iload 5, 47, 5, 0, 0, 0, 0) := by rfl
theorem ft_14_47 : ft_m 14 47 = some (.i2l, 48, 0, 0, 0, 0, 0) := by rfl
theorem ft_14_48 : ft_m 14 48 = some (.lastore, 49, 0, 0, 0, 0, 0) := by rfl
theorem ft_14_49 : ft_m 14 49 = some (.aload_n 0, 50, 0, 0, 0, 0, 0) := by rfl
theorem ft_14_50 : ft_m 14 50 = some (.getfield 21, 53, 7, 2, 335, 0, 0) := by rfl
theorem ft_14_53 : ft_m 14 53 = some (.iconst 4, 54, 0, 0, 0, 0, nI 4) := by rfl
theorem ft_14_54 : ft_m 14 54 = some (.iload 6, 56, 6, 0, 0, 0, 0) := by rfl
theorem ft_14_56 : ft_m 14 56 = some (.i2l, 57, 0, 0, 0, 0, 0) := by rfl
theorem ft_14_57 : ft_m 14 57 = some (.lastore, 58, 0, 0, 0, 0, 0) := by rfl
theorem ft_14_58 : ft_m 14 58 = some (.iconst 0, 59, 0, 0, 0, 0, nI 0) := by rfl
theorem ft_14_59 : ft_m 14 59 = some (.istore 7, 61, 7, 0, 0, 0, 0) := by rfl
theorem ft_14_61 : ft_m 14 61 = some (.iload 7, 63, 7, 0, 0, 0, 0) := by rfl
theorem ft_14_63 : ft_m 14 63 = some (.iload_n 1, 64, 1, 0, 0, 0, 0) := by rfl
theorem ft_14_64 : ft_m 14 64 = some (.if_icmp .gt 39, 67, 103, 0, 0, 0, 0) := by rfl
theorem ft_14_67 : ft_m 14 67 = some (.aload_n 0, 68, 0, 0, 0, 0, 0) := by rfl
theorem ft_14_68 : ft_m 14 68 = some (.getfield 21, 71, 7, 2, 335, 0, 0) := by rfl
theorem ft_14_71 : ft_m 14 71 = some (.iload 7, 73, 7, 0, 0, 0, 0) := by rfl
theorem ft_14_73 : ft_m 14 73 = some (.laload, 74, 0, 0, 0, 0, 0) := by rfl
theorem ft_14_74 : ft_m 14 74 = some (.ldc2_w 100, 77, 0, 0, 457, (-1000), 0) := by rfl
theorem ft_14_77 : ft_m 14 77 = some (.lcmp, 78, 0, 0, 0, 0, 0) := by rfl
theorem ft_14_78 : ft_m 14 78 = some (.ifCond .lt 17, 81, 95, 0, 0, 0, 0) := by rfl
theorem ft_14_81 : ft_m 14 81 = some (.aload_n 0, 82, 0, 0, 0, 0, 0) := by rfl
theorem ft_14_82 : ft_m 14 82 = some (.getfield 21, 85, 7, 2, 335, 0, 0) := by rfl
theorem ft_14_85 : ft_m 14 85 = some (.iload 7, 87, 7, 0, 0, 0, 0) := by rfl
theorem ft_14_87 : ft_m 14 87 = some (.laload, 88, 0, 0, 0, 0, 0) := by rfl
theorem ft_14_88 : ft_m 14 88 = some (.ldc2_w 102, 91, 0, 0, 458, 1000, 0) := by rfl
theorem ft_14_91 : ft_m 14 91 = some (.lcmp, 92, 0, 0, 0, 0, 0) := by rfl
theorem ft_14_92 : ft_m 14 92 = some (.ifCond .le 5, 95, 97, 0, 0, 0, 0) := by rfl
theorem ft_14_95 : ft_m 14 95 = some (.iconst (-1), 96, 0, 0, 0, 0, (-1)) := by rfl
theorem ft_14_96 : ft_m 14 96 = some (.ireturn, 97, 0, 0, 0, 0, 0) := by rfl
theorem ft_14_97 : ft_m 14 97 = some (.iinc 7 1, 100, 7, 0, 0, 0, nI 1) := by rfl
theorem ft_14_100 : ft_m 14 100 = some (.goto (-39), 103, 61, 0, 0, 0, 0) := by rfl
theorem ft_14_103 : ft_m 14 103 = some (.aload_n 0, 104, 0, 0, 0, 0, 0) := by rfl
theorem ft_14_104 : ft_m 14 104 = some (.getfield 21, 107, 7, 2, 335, 0, 0) := by rfl
theorem ft_14_107 : ft_m 14 107 = some (.iload_n 1, 108, 1, 0, 0, 0, 0) := by rfl
theorem ft_14_108 : ft_m 14 108 = some (.invokestatic 104, 111, 15, 0, 459, 0, 0) := by rfl
theorem ft_14_111 : ft_m 14 111 = some (.ifCond .eq 7, 114, 118, 0, 0, 0, 0) := by rfl
theorem ft_14_114 : ft_m 14 114 = some (.iconst 1, 115, 0, 0, 0, 0, nI 1) := by rfl
theorem ft_14_115 : ft_m 14 115 = some (.goto 4, 118, 119, 0, 0, 0, 0) := by rfl
theorem ft_14_118 : ft_m 14 118 = some (.iconst 0, 119, 0, 0, 0, 0, nI 0) := by rfl
theorem ft_14_119 : ft_m 14 119 = some (.ireturn, 120, 0, 0, 0, 0, 0) := by rfl
theorem ft_15_0 : ft_m 15 0 = some (.iload_n 1, 1, 1, 0, 0, 0, 0) := by rfl
theorem ft_15_1 : ft_m 15 1 = some (.istore_n 2, 2, 2, 0, 0, 0, 0) := by rfl
theorem ft_15_2 : ft_m 15 2 = some (.iload_n 2, 3, 2, 0, 0, 0, 0) := by rfl
theorem ft_15_3 : ft_m 15 3 = some (.iconst 2, 4, 0, 0, 0, 0, nI 2) := by rfl
theorem ft_15_4 : ft_m 15 4 = some (.if_icmp .le 32, 7, 36, 0, 0, 0, 0) := by rfl
theorem ft_15_7 : ft_m 15 7 = some (.aload_n 0, 8, 0, 0, 0, 0, 0) := by rfl
theorem ft_15_8 : ft_m 15 8 = some (.iload_n 2, 9, 2, 0, 0, 0, 0) := by rfl
theorem ft_15_9 : ft_m 15 9 = some (.laload, 10, 0, 0, 0, 0, 0) := by rfl
theorem ft_15_10 : ft_m 15 10 = some (.invokestatic 199, 13, 1002, 0, 462, 0, 0) := by rfl
theorem ft_15_13 : ft_m 15 13 = some (.aload_n 0, 14, 0, 0, 0, 0, 0) := by rfl
theorem ft_15_14 : ft_m 15 14 = some (.iconst 0, 15, 0, 0, 0, 0, nI 0) := by rfl
theorem ft_15_15 : ft_m 15 15 = some (.laload, 16, 0, 0, 0, 0, 0) := by rfl
theorem ft_15_16 : ft_m 15 16 = some (.invokestatic 199, 19, 1002, 0, 462, 0, 0) := by rfl
theorem ft_15_19 : ft_m 15 19 = some (.lcmp, 20, 0, 0, 0, 0, 0) := by rfl
theorem ft_15_20 : ft_m 15 20 = some (.ifCond .lt 5, 23, 25, 0, 0, 0, 0) := by rfl
theorem ft_15_23 : ft_m 15 23 = some (.iconst 0, 24, 0, 0, 0, 0, nI 0) := by rfl
theorem ft_15_24 : ft_m 15 24 = some (.ireturn, 25, 0, 0, 0, 0, 0) := by rfl
theorem ft_15_25 : ft_m 15 25 = some (.aload_n 0, 26, 0, 0, 0, 0, 0) := by rfl
theorem ft_15_26 : ft_m 15 26 = some (.iload_n 2, 27, 2, 0, 0, 0, 0) := by rfl
theorem ft_15_27 : ft_m 15 27 = some (.invokestatic 251, 30, 16, 0, 463, 0, 0) := by rfl
theorem ft_15_30 : ft_m 15 30 = some (.iinc 2 (-1), 33, 2, 0, 0, 0, (-1)) := by rfl
theorem ft_15_33 : ft_m 15 33 = some (.goto (-31), 36, 2, 0, 0, 0, 0) := by rfl
theorem ft_15_36 : ft_m 15 36 = some (.iload_n 2, 37, 2, 0, 0, 0, 0) := by rfl
theorem ft_15_37 : ft_m 15 37 = some (.iconst 2, 38, 0, 0, 0, 0, nI 2) := by rfl
theorem ft_15_38 : ft_m 15 38 = some (.if_icmp .ne 16, 41, 54, 0, 0, 0, 0) := by rfl
theorem ft_15_41 : ft_m 15 41 = some (.aload_n 0, 42, 0, 0, 0, 0, 0) := by rfl
theorem ft_15_42 : ft_m 15 42 = some (.iconst 0, 43, 0, 0, 0, 0, nI 0) := by rfl
theorem ft_15_43 : ft_m 15 43 = some (.laload, 44, 0, 0, 0, 0, 0) := by rfl
theorem ft_15_44 : ft_m 15 44 = some (.aload_n 0, 45, 0, 0, 0, 0, 0) := by rfl
theorem ft_15_45 : ft_m 15 45 = some (.iconst 1, 46, 0, 0, 0, 0, nI 1) := by rfl
theorem ft_15_46 : ft_m 15 46 = some (.laload, 47, 0, 0, 0, 0, 0) := by rfl
theorem ft_15_47 : ft_m 15 47 = some (.aload_n 0, 48, 0, 0, 0, 0, 0) := by rfl
theorem ft_15_48 : ft_m 15 48 = some (.iconst 2, 49, 0, 0, 0, 0, nI 2) := by rfl
theorem ft_15_49 : ft_m 15 49 = some (.laload, 50, 0, 0, 0, 0, 0) := by rfl
theorem ft_15_50 : ft_m 15 50 = some (.invokestatic 121, 53, 17, 0, 466, 0, 0) := by rfl
theorem ft_15_53 : ft_m 15 53 = some (.ireturn, 54, 0, 0, 0, 0, 0) := by rfl
theorem ft_15_54 : ft_m 15 54 = some (.iload_n 2, 55, 2, 0, 0, 0, 0) := by rfl
theorem ft_15_55 : ft_m 15 55 = some (.ifCond .eq 19, 58, 74, 0, 0, 0, 0) := by rfl
theorem ft_15_58 : ft_m 15 58 = some (.aload_n 0, 59, 0, 0, 0, 0, 0) := by rfl
theorem ft_15_59 : ft_m 15 59 = some (.iconst 1, 60, 0, 0, 0, 0, nI 1) := by rfl
theorem ft_15_60 : ft_m 15 60 = some (.laload, 61, 0, 0, 0, 0, 0) := by rfl
theorem ft_15_61 : ft_m 15 61 = some (.invokestatic 199, 64, 1002, 0, 462, 0, 0) := by rfl
theorem ft_15_64 : ft_m 15 64 = some (.aload_n 0, 65, 0, 0, 0, 0, 0) := by rfl
theorem ft_15_65 : ft_m 15 65 = some (.iconst 0, 66, 0, 0, 0, 0, nI 0) := by rfl
theorem ft_15_66 : ft_m 15 66 = some (.laload, 67, 0, 0, 0, 0, 0) := by rfl
theorem ft_15_67 : ft_m 15 67 = some (.invokestatic 199, 70, 1002, 0, 462, 0, 0) := by rfl
theorem ft_15_70 : ft_m 15 70 = some (.lcmp, 71, 0, 0, 0, 0, 0) := by rfl
theorem ft_15_71 : ft_m 15 71 = some (.ifCond .ge 7, 74, 78, 0, 0, 0, 0) := by rfl
theorem ft_15_74 : ft_m 15 74 = some (.iconst 1, 75, 0, 0, 0, 0, nI 1) := by rfl
theorem ft_15_75 : ft_m 15 75 = some (.goto 4, 78, 79, 0, 0, 0, 0) := by rfl
theorem ft_15_78 : ft_m 15 78 = some (.iconst 0, 79, 0, 0, 0, 0, nI 0) := by rfl
theorem ft_15_79 : ft_m 15 79 = some (.ireturn, 80, 0, 0, 0, 0, 0) := by rfl
theorem ft_16_0 : ft_m 16 0 = some (.aload_n 0, 1, 0, 0, 0, 0, 0) := by rfl
theorem ft_16_1 : ft_m 16 1 = some (.iconst 0, 2, 0, 0, 0, 0, nI 0) := by rfl
theorem ft_16_2 : ft_m 16 2 = some (.laload, 3, 0, 0, 0, 0, 0) := by rfl
theorem ft_16_3 : ft_m 16 3 = some (.lstore_n 2, 4, 2, 0, 0, 0, 0) := by rfl
theorem ft_16_4 : ft_m 16 4 = some (.aload_n 0, 5, 0, 0, 0, 0, 0) := by rfl
theorem ft_16_5 : ft_m 16 5 = some (.iload_n 1, 6, 1, 0, 0, 0, 0) := by rfl
theorem ft_16_6 : ft_m 16 6 = some (.laload, 7, 0, 0, 0, 0, 0) := by rfl
theorem ft_16_7 : ft_m 16 7 = some (.lstore 4, 9, 4, 0, 0, 0, 0) := by rfl
theorem ft_16_9 : ft_m 16 9 = some (.iconst 0, 10, 0, 0, 0, 0, nI 0) := by rfl
theorem ft_16_10 : ft_m 16 10 = some (.istore 6, 12, 6, 0, 0, 0, 0) := by rfl
theorem ft_16_12 : ft_m 16 12 = some (.iload 6, 14, 6, 0, 0, 0, 0) := by rfl
theorem ft_16_14 : ft_m 16 14 = some (.iload_n 1, 15, 1, 0, 0, 0, 0) := by rfl
theorem ft_16_15 : ft_m 16 15 = some (.iload 6, 17, 6, 0, 0, 0, 0) := by rfl
theorem ft_16_17 : ft_m 16 17 = some (.isub, 18, 0, 0, 0, 0, 0) := by rfl
theorem ft_16_18 : ft_m 16 18 = some (.if_icmp .gt 53, 21, 71, 0, 0, 0, 0) := by rfl
theorem ft_16_21 : ft_m 16 21 = some (.aload_n 0, 22, 0, 0, 0, 0, 0) := by rfl
theorem ft_16_22 : ft_m 16 22 = some (.iload 6, 24, 6, 0, 0, 0, 0) := by rfl
theorem ft_16_24 : ft_m 16 24 = some (.laload, 25, 0, 0, 0, 0, 0) := by rfl
theorem ft_16_25 : ft_m 16 25 = some (.lstore 7, 27, 7, 0, 0, 0, 0) := by rfl
theorem ft_16_27 : ft_m 16 27 = some (.aload_n 0, 28, 0, 0, 0, 0, 0) := by rfl
theorem ft_16_28 : ft_m 16 28 = some (.iload_n 1, 29, 1, 0, 0, 0, 0) := by rfl
theorem ft_16_29 : ft_m 16 29 = some (.iload 6, 31, 6, 0, 0, 0, 0) := by rfl
theorem ft_16_31 : ft_m 16 31 = some (.isub, 32, 0, 0, 0, 0, 0) := by rfl
theorem ft_16_32 : ft_m 16 32 = some (.laload, 33, 0, 0, 0, 0, 0) := by rfl
theorem ft_16_33 : ft_m 16 33 = some (.lstore 9, 35, 9, 0, 0, 0, 0) := by rfl
theorem ft_16_35 : ft_m 16 35 = some (.aload_n 0, 36, 0, 0, 0, 0, 0) := by rfl
theorem ft_16_36 : ft_m 16 36 = some (.iload 6, 38, 6, 0, 0, 0, 0) := by rfl
theorem ft_16_38 : ft_m 16 38 = some (.lload_n 2, 39, 2, 0, 0, 0, 0) := by rfl
theorem ft_16_39 : ft_m 16 39 = some (.lload 7, 41, 7, 0, 0, 0, 0) := by rfl
theorem ft_16_41 : ft_m 16 41 = some (.lmul, 42, 0, 0, 0, 0, 0) := by rfl
theorem ft_16_42 : ft_m 16 42 = some (.lload 4, 44, 4, 0, 0, 0, 0) := by rfl
theorem ft_16_44 : ft_m 16 44 = some (.lload 9, 46, 9, 0, 0, 0, 0) := by rfl
theorem ft_16_46 : ft_m 16 46 = some (.lmul, 47, 0, 0, 0, 0, 0) := by rfl
theorem ft_16_47 : ft_m 16 47 = some (.lsub, 48, 0, 0, 0, 0, 0) := by rfl
theorem ft_16_48 : ft_m 16 48 = some (.lastore, 49, 0, 0, 0, 0, 0) := by rfl
theorem ft_16_49 : ft_m 16 49 = some (.aload_n 0, 50, 0, 0, 0, 0, 0) := by rfl
theorem ft_16_50 : ft_m 16 50 = some (.iload_n 1, 51, 1, 0, 0, 0, 0) := by rfl
theorem ft_16_51 : ft_m 16 51 = some (.iload 6, 53, 6, 0, 0, 0, 0) := by rfl
theorem ft_16_53 : ft_m 16 53 = some (.isub, 54, 0, 0, 0, 0, 0) := by rfl
theorem ft_16_54 : ft_m 16 54 = some (.lload_n 2, 55, 2, 0, 0, 0, 0) := by rfl
theorem ft_16_55 : ft_m 16 55 = some (.lload 9, 57, 9, 0, 0, 0, 0) := by rfl
theorem ft_16_57 : ft_m 16 57 = some (.lmul, 58, 0, 0, 0, 0, 0) := by rfl
theorem ft_16_58 : ft_m 16 58 = some (.lload 4, 60, 4, 0, 0, 0, 0) := by rfl
theorem ft_16_60 : ft_m 16 60 = some (.lload 7, 62, 7, 0, 0, 0, 0) := by rfl
theorem ft_16_62 : ft_m 16 62 = some (.lmul, 63, 0, 0, 0, 0, 0) := by rfl
theorem ft_16_63 : ft_m 16 63 = some (.lsub, 64, 0, 0, 0, 0, 0) := by rfl
theorem ft_16_64 : ft_m 16 64 = some (.lastore, 65, 0, 0, 0, 0, 0) := by rfl
theorem ft_16_65 : ft_m 16 65 = some (.iinc 6 1, 68, 6, 0, 0, 0, nI 1) := by rfl
theorem ft_16_68 : ft_m 16 68 = some (.goto (-56), 71, 12, 0, 0, 0, 0) := by rfl
theorem ft_16_71 : ft_m 16 71 = some (.return_, 72, 0, 0, 0, 0, 0) := by rfl
theorem ft_17_0 : ft_m 17 0 = some (.lload_n 0, 1, 0, 0, 0, 0, 0) := by rfl
theorem ft_17_1 : ft_m 17 1 = some (.invokestatic 199, 4, 1002, 0, 462, 0, 0) := by rfl
theorem ft_17_4 : ft_m 17 4 = some (.lstore 6, 6, 6, 0, 0, 0, 0) := by rfl
theorem ft_17_6 : ft_m 17 6 = some (.lload_n 0, 7, 0, 0, 0, 0, 0) := by rfl
theorem ft_17_7 : ft_m 17 7 = some (.lconst 0, 8, 0, 0, 0, 0, 0) := by rfl
theorem ft_17_8 : ft_m 17 8 = some (.lcmp, 9, 0, 0, 0, 0, 0) := by rfl
theorem ft_17_9 : ft_m 17 9 = some (.ifCond .ge 9, 12, 18, 0, 0, 0, 0) := by rfl
theorem ft_17_12 : ft_m 17 12 = some (.lload 4, 14, 4, 0, 0, 0, 0) := by rfl
theorem ft_17_14 : ft_m 17 14 = some (.lneg, 15, 0, 0, 0, 0, 0) := by rfl
theorem ft_17_15 : ft_m 17 15 = some (.goto 5, 18, 20, 0, 0, 0, 0) := by rfl
theorem ft_17_18 : ft_m 17 18 = some (.lload 4, 20, 4, 0, 0, 0, 0) := by rfl
theorem ft_17_20 : ft_m 17 20 = some (.lstore 8, 22, 8, 0, 0, 0, 0) := by rfl
theorem ft_17_22 : ft_m 17 22 = some (.lload 8, 24, 8, 0, 0, 0, 0) := by rfl
theorem ft_17_24 : ft_m 17 24 = some (.invokestatic 199, 27, 1002, 0, 462, 0, 0) := by rfl
theorem ft_17_27 : ft_m 17 27 = some (.lload 6, 29, 6, 0, 0, 0, 0) := by rfl
theorem ft_17_29 : ft_m 17 29 = some (.lcmp, 30, 0, 0, 0, 0, 0) := by rfl
theorem ft_17_30 : ft_m 17 30 = some (.ifCond .ge 20, 33, 50, 0, 0, 0, 0) := by rfl
theorem ft_17_33 : ft_m 17 33 = some (.lload_n 2, 34, 2, 0, 0, 0, 0) := by rfl
theorem ft_17_34 : ft_m 17 34 = some (.invokestatic 199, 37, 1002, 0, 462, 0, 0) := by rfl
theorem ft_17_37 : ft_m 17 37 = some (.lload 6, 39, 6, 0, 0, 0, 0) := by rfl
theorem ft_17_39 : ft_m 17 39 = some (.lload 8, 41, 8, 0, 0, 0, 0) := by rfl
theorem ft_17_41 : ft_m 17 41 = some (.ladd, 42, 0, 0, 0, 0, 0) := by rfl
theorem ft_17_42 : ft_m 17 42 = some (.lcmp, 43, 0, 0, 0, 0, 0) := by rfl
theorem ft_17_43 : ft_m 17 43 = some (.ifCond .ge 7, 46, 50, 0, 0, 0, 0) := by rfl
theorem ft_17_46 : ft_m 17 46 = some (.iconst 1, 47, 0, 0, 0, 0, nI 1) := by rfl
theorem ft_17_47 : ft_m 17 47 = some (.goto 4, 50, 51, 0, 0, 0, 0) := by rfl
theorem ft_17_50 : ft_m 17 50 = some (.iconst 0, 51, 0, 0, 0, 0, nI 0) := by rfl
theorem ft_17_51 : ft_m 17 51 = some (.ireturn, 52, 0, 0, 0, 0, 0) := by rfl
theorem ft_18_0 : ft_m 18 0 = some (.aload_n 0, 1, 0, 0, 0, 0, 0) := by rfl
theorem ft_18_1 : ft_m 18 1 = some (.iload_n 1, 2, 1, 0, 0, 0, 0) := by rfl
theorem ft_18_2 : ft_m 18 2 = some (.invokevirtual 108, 5, 19, 0, 473, 0, 0) := by rfl
theorem ft_18_5 : ft_m 18 5 = some (.ifCond .ne 7, 8, 12, 0, 0, 0, 0) := by rfl
theorem ft_18_8 : ft_m 18 8 = some (.ldc2_w 111, 11, 0, 0, 477, (-1), 0) := by rfl
theorem ft_18_11 : ft_m 18 11 = some (.lreturn, 12, 0, 0, 0, 0, 0) := by rfl
theorem ft_18_12 : ft_m 18 12 = some (.aload_n 0, 13, 0, 0, 0, 0, 0) := by rfl
theorem ft_18_13 : ft_m 18 13 = some (.getfield 11, 16, 7, 0, 333, 0, 0) := by rfl
theorem ft_18_16 : ft_m 18 16 = some (.iload_n 1, 17, 1, 0, 0, 0, 0) := by rfl
theorem ft_18_17 : ft_m 18 17 = some (.aaload, 18, 0, 0, 0, 0, 0) := by rfl
theorem ft_18_18 : ft_m 18 18 = some (.astore_n 3, 19, 3, 0, 0, 0, 0) := by rfl
theorem ft_18_19 : ft_m 18 19 = some (.iload_n 2, 20, 2, 0, 0, 0, 0) := by rfl
theorem ft_18_20 : ft_m 18 20 = some (.tableswitch 173 0 6 #[44, 69, 82, 101, 119, 137, 155], 64, 193, 44, 0, 0, 0) := by rfl
theorem ft_18_64 : ft_m 18 64 = some (.ldc2_w 113, 67, 0, 0, 478, 16384, 0) := by rfl
theorem ft_18_67 : ft_m 18 67 = some (.aload_n 3, 68, 3, 0, 0, 0, 0) := by rfl
theorem ft_18_68 : ft_m 18 68 = some (.getfield 115, 71, 5, 3, 239, 1, 0) := by rfl
theorem ft_18_71 : ft_m 18 71 = some (.i2l, 72, 0, 0, 0, 0, 0) := by rfl
theorem ft_18_72 : ft_m 18 72 = some (.aload_n 3, 73, 3, 0, 0, 0, 0) := by rfl
theorem ft_18_73 : ft_m 18 73 = some (.getfield 118, 76, 5, 4, 244, 1, 0) := by rfl
theorem ft_18_76 : ft_m 18 76 = some (.i2l, 77, 0, 0, 0, 0, 0) := by rfl
theorem ft_18_77 : ft_m 18 77 = some (.invokestatic 121, 80, 17, 0, 466, 0, 0) := by rfl
theorem ft_18_80 : ft_m 18 80 = some (.ifCond .eq 7, 83, 87, 0, 0, 0, 0) := by rfl
theorem ft_18_83 : ft_m 18 83 = some (.lconst 1, 84, 0, 0, 0, 1, 0) := by rfl
theorem ft_18_84 : ft_m 18 84 = some (.goto 4, 87, 88, 0, 0, 0, 0) := by rfl
theorem ft_18_87 : ft_m 18 87 = some (.lconst 0, 88, 0, 0, 0, 0, 0) := by rfl
theorem ft_18_88 : ft_m 18 88 = some (.lreturn, 89, 0, 0, 0, 0, 0) := by rfl
theorem ft_18_89 : ft_m 18 89 = some (.aload_n 3, 90, 3, 0, 0, 0, 0) := by rfl
theorem ft_18_90 : ft_m 18 90 = some (.getfield 125, 93, 5, 7, 251, 1, 0) := by rfl
theorem ft_18_93 : ft_m 18 93 = some (.ifCond .eq 7, 96, 100, 0, 0, 0, 0) := by rfl
theorem ft_18_96 : ft_m 18 96 = some (.lconst 1, 97, 0, 0, 0, 1, 0) := by rfl
theorem ft_18_97 : ft_m 18 97 = some (.goto 4, 100, 101, 0, 0, 0, 0) := by rfl
theorem ft_18_100 : ft_m 18 100 = some (.lconst 0, 101, 0, 0, 0, 0, 0) := by rfl
theorem ft_18_101 : ft_m 18 101 = some (.lreturn, 102, 0, 0, 0, 0, 0) := by rfl
theorem ft_18_102 : ft_m 18 102 = some (.aload_n 3, 103, 3, 0, 0, 0, 0) := by rfl
theorem ft_18_103 : ft_m 18 103 = some (.getfield 125, 106, 5, 7, 251, 1, 0) := by rfl
theorem ft_18_106 : ft_m 18 106 = some (.ifCond .eq 9, 109, 115, 0, 0, 0, 0) := by rfl
theorem ft_18_109 : ft_m 18 109 = some (.ldc2_w 111, 112, 0, 0, 477, (-1), 0) := by rfl
theorem ft_18_112 : ft_m 18 112 = some (.goto 8, 115, 120, 0, 0, 0, 0) := by rfl
theorem ft_18_115 : ft_m 18 115 = some (.aload_n 3, 116, 3, 0, 0, 0, 0) := by rfl
theorem ft_18_116 : ft_m 18 116 = some (.getfield 128, 119, 5, 8, 254, 1, 0) := by rfl
theorem ft_18_119 : ft_m 18 119 = some (.i2l, 120, 0, 0, 0, 0, 0) := by rfl
theorem ft_18_120 : ft_m 18 120 = some (.lreturn, 121, 0, 0, 0, 0, 0) := by rfl
theorem ft_18_121 : ft_m 18 121 = some (.aload_n 3, 122, 3, 0, 0, 0, 0) := by rfl
theorem ft_18_122 : ft_m 18 122 = some (.getfield 125, 125, 5, 7, 251, 1, 0) := by rfl
theorem ft_18_125 : ft_m 18 125 = some (.ifCond .eq 9, 128, 134, 0, 0, 0, 0) := by rfl
theorem ft_18_128 : ft_m 18 128 = some (.ldc2_w 111, 131, 0, 0, 477, (-1), 0) := by rfl
theorem ft_18_131 : ft_m 18 131 = some (.goto 7, 134, 138, 0, 0, 0, 0) := by rfl
theorem ft_18_134 : ft_m 18 134 = some (.aload_n 3, 135, 3, 0, 0, 0, 0) := by rfl
theorem ft_18_135 : ft_m 18 135 = some (.getfield 131, 138, 5, 9, 257, 1, 0) := by rfl
theorem ft_18_138 : ft_m 18 138 = some (.lreturn, 139, 0, 0, 0, 0, 0) := by rfl
theorem ft_18_139 : ft_m 18 139 = some (.aload_n 3, 140, 3, 0, 0, 0, 0) := by rfl
theorem ft_18_140 : ft_m 18 140 = some (.getfield 125, 143, 5, 7, 251, 1, 0) := by rfl
theorem ft_18_143 : ft_m 18 143 = some (.ifCond .eq 9, 146, 152, 0, 0, 0, 0) := by rfl
theorem ft_18_146 : ft_m 18 146 = some (.ldc2_w 111, 149, 0, 0, 477, (-1), 0) := by rfl
theorem ft_18_149 : ft_m 18 149 = some (.goto 7, 152, 156, 0, 0, 0, 0) := by rfl
theorem ft_18_152 : ft_m 18 152 = some (.aload_n 3, 153, 3, 0, 0, 0, 0) := by rfl
theorem ft_18_153 : ft_m 18 153 = some (.getfield 134, 156, 5, 10, 260, 1, 0) := by rfl
theorem ft_18_156 : ft_m 18 156 = some (.lreturn, 157, 0, 0, 0, 0, 0) := by rfl
theorem ft_18_157 : ft_m 18 157 = some (.aload_n 3, 158, 3, 0, 0, 0, 0) := by rfl
theorem ft_18_158 : ft_m 18 158 = some (.getfield 125, 161, 5, 7, 251, 1, 0) := by rfl
theorem ft_18_161 : ft_m 18 161 = some (.ifCond .eq 9, 164, 170, 0, 0, 0, 0) := by rfl
theorem ft_18_164 : ft_m 18 164 = some (.ldc2_w 111, 167, 0, 0, 477, (-1), 0) := by rfl
theorem ft_18_167 : ft_m 18 167 = some (.goto 7, 170, 174, 0, 0, 0, 0) := by rfl
theorem ft_18_170 : ft_m 18 170 = some (.aload_n 3, 171, 3, 0, 0, 0, 0) := by rfl
theorem ft_18_171 : ft_m 18 171 = some (.getfield 137, 174, 5, 11, 264, 1, 0) := by rfl
theorem ft_18_174 : ft_m 18 174 = some (.lreturn, 175, 0, 0, 0, 0, 0) := by rfl
theorem ft_18_175 : ft_m 18 175 = some (.aload_n 3, 176, 3, 0, 0, 0, 0) := by rfl
theorem ft_18_176 : ft_m 18 176 = some (.getfield 125, 179, 5, 7, 251, 1, 0) := by rfl
theorem ft_18_179 : ft_m 18 179 = some (.ifCond .eq 9, 182, 188, 0, 0, 0, 0) := by rfl
theorem ft_18_182 : ft_m 18 182 = some (.ldc2_w 111, 185, 0, 0, 477, (-1), 0) := by rfl
theorem ft_18_185 : ft_m 18 185 = some (.goto 7, 188, 192, 0, 0, 0, 0) := by rfl
theorem ft_18_188 : ft_m 18 188 = some (.aload_n 3, 189, 3, 0, 0, 0, 0) := by rfl
theorem ft_18_189 : ft_m 18 189 = some (.getfield 140, 192, 5, 12, 268, 1, 0) := by rfl
theorem ft_18_192 : ft_m 18 192 = some (.lreturn, 193, 0, 0, 0, 0, 0) := by rfl
theorem ft_18_193 : ft_m 18 193 = some (.ldc2_w 111, 196, 0, 0, 477, (-1), 0) := by rfl
theorem ft_18_196 : ft_m 18 196 = some (.lreturn, 197, 0, 0, 0, 0, 0) := by rfl
theorem ft_19_0 : ft_m 19 0 = some (.iload_n 1, 1, 1, 0, 0, 0, 0) := by rfl
theorem ft_19_1 : ft_m 19 1 = some (.ifCond .lt 15, 4, 16, 0, 0, 0, 0) := by rfl
theorem ft_19_4 : ft_m 19 4 = some (.iload_n 1, 5, 1, 0, 0, 0, 0) := by rfl
theorem ft_19_5 : ft_m 19 5 = some (.aload_n 0, 6, 0, 0, 0, 0, 0) := by rfl
theorem ft_19_6 : ft_m 19 6 = some (.getfield 53, 9, 7, 7, 340, 0, 0) := by rfl
theorem ft_19_9 : ft_m 19 9 = some (.if_icmp .ge 7, 12, 16, 0, 0, 0, 0) := by rfl
theorem ft_19_12 : ft_m 19 12 = some (.iconst 1, 13, 0, 0, 0, 0, nI 1) := by rfl
theorem ft_19_13 : ft_m 19 13 = some (.goto 4, 16, 17, 0, 0, 0, 0) := by rfl
theorem ft_19_16 : ft_m 19 16 = some (.iconst 0, 17, 0, 0, 0, 0, nI 0) := by rfl
theorem ft_19_17 : ft_m 19 17 = some (.ireturn, 18, 0, 0, 0, 0, 0) := by rfl
theorem ft_20_0 : ft_m 20 0 = some (.aload_n 0, 1, 0, 0, 0, 0, 0) := by rfl
theorem ft_20_1 : ft_m 20 1 = some (.iload_n 1, 2, 1, 0, 0, 0, 0) := by rfl
theorem ft_20_2 : ft_m 20 2 = some (.invokevirtual 108, 5, 19, 0, 473, 0, 0) := by rfl
theorem ft_20_5 : ft_m 20 5 = some (.ifCond .eq 14, 8, 19, 0, 0, 0, 0) := by rfl
theorem ft_20_8 : ft_m 20 8 = some (.iload_n 2, 9, 2, 0, 0, 0, 0) := by rfl
theorem ft_20_9 : ft_m 20 9 = some (.ifCond .lt 10, 12, 19, 0, 0, 0, 0) := by rfl
theorem ft_20_12 : ft_m 20 12 = some (.iload_n 2, 13, 2, 0, 0, 0, 0) := by rfl
theorem ft_20_13 : ft_m 20 13 = some (.sipush 1000, 16, 0, 0, 0, 0, nI 1000) := by rfl
theorem ft_20_16 : ft_m 20 16 = some (.if_icmp .le 7, 19, 23, 0, 0, 0, 0) := by rfl
theorem ft_20_19 : ft_m 20 19 = some (.ldc2_w 111, 22, 0, 0, 477, (-1), 0) := by rfl
theorem ft_20_22 : ft_m 20 22 = some (.lreturn, 23, 0, 0, 0, 0, 0) := by rfl
theorem ft_20_23 : ft_m 20 23 = some (.aload_n 0, 24, 0, 0, 0, 0, 0) := by rfl
theorem ft_20_24 : ft_m 20 24 = some (.getfield 28, 27, 7, 3, 336, 0, 0) := by rfl
theorem ft_20_27 : ft_m 20 27 = some (.aload_n 0, 28, 0, 0, 0, 0, 0) := by rfl
theorem ft_20_28 : ft_m 20 28 = some (.getfield 11, 31, 7, 0, 333, 0, 0) := by rfl
theorem ft_20_31 : ft_m 20 31 = some (.iload_n 1, 32, 1, 0, 0, 0, 0) := by rfl
theorem ft_20_32 : ft_m 20 32 = some (.aaload, 33, 0, 0, 0, 0, 0) := by rfl
theorem ft_20_33 : ft_m 20 33 = some (.iload_n 2, 34, 2, 0, 0, 0, 0) := by rfl
theorem ft_20_34 : ft_m 20 34 = some (.invokevirtual 143, 37, 21, 0, 483, 0, 0) := by rfl
theorem ft_20_37 : ft_m 20 37 = some (.ifCond .ne 7, 40, 44, 0, 0, 0, 0) := by rfl
theorem ft_20_40 : ft_m 20 40 = some (.ldc2_w 111, 43, 0, 0, 477, (-1), 0) := by rfl
theorem ft_20_43 : ft_m 20 43 = some (.lreturn, 44, 0, 0, 0, 0, 0) := by rfl
theorem ft_20_44 : ft_m 20 44 = some (.iload_n 3, 45, 3, 0, 0, 0, 0) := by rfl
theorem ft_20_45 : ft_m 20 45 = some (.tableswitch 63 0 3 #[31, 39, 47, 55], 76, 108, 31, 0, 0, 0) := by rfl
theorem ft_20_76 : ft_m 20 76 = some (.aload_n 0, 77, 0, 0, 0, 0, 0) := by rfl
theorem ft_20_77 : ft_m 20 77 = some (.getfield 28, 80, 7, 3, 336, 0, 0) := by rfl
theorem ft_20_80 : ft_m 20 80 = some (.getfield 147, 83, 1, 2, 74, 1, 0) := by rfl
theorem ft_20_83 : ft_m 20 83 = some (.lreturn, 84, 0, 0, 0, 0, 0) := by rfl
theorem ft_20_84 : ft_m 20 84 = some (.aload_n 0, 85, 0, 0, 0, 0, 0) := by rfl
theorem ft_20_85 : ft_m 20 85 = some (.getfield 28, 88, 7, 3, 336, 0, 0) := by rfl
theorem ft_20_88 : ft_m 20 88 = some (.getfield 150, 91, 1, 4, 77, 1, 0) := by rfl
theorem ft_20_91 : ft_m 20 91 = some (.lreturn, 92, 0, 0, 0, 0, 0) := by rfl
theorem ft_20_92 : ft_m 20 92 = some (.aload_n 0, 93, 0, 0, 0, 0, 0) := by rfl
theorem ft_20_93 : ft_m 20 93 = some (.getfield 28, 96, 7, 3, 336, 0, 0) := by rfl
theorem ft_20_96 : ft_m 20 96 = some (.getfield 153, 99, 1, 5, 79, 1, 0) := by rfl
theorem ft_20_99 : ft_m 20 99 = some (.lreturn, 100, 0, 0, 0, 0, 0) := by rfl
theorem ft_20_100 : ft_m 20 100 = some (.aload_n 0, 101, 0, 0, 0, 0, 0) := by rfl
theorem ft_20_101 : ft_m 20 101 = some (.getfield 28, 104, 7, 3, 336, 0, 0) := by rfl
theorem ft_20_104 : ft_m 20 104 = some (.getfield 156, 107, 1, 7, 82, 1, 0) := by rfl
theorem ft_20_107 : ft_m 20 107 = some (.lreturn, 108, 0, 0, 0, 0, 0) := by rfl
theorem ft_20_108 : ft_m 20 108 = some (.ldc2_w 111, 111, 0, 0, 477, (-1), 0) := by rfl
theorem ft_20_111 : ft_m 20 111 = some (.lreturn, 112, 0, 0, 0, 0, 0) := by rfl
theorem ft_21_0 : ft_m 21 0 = some (.aload_n 0, 1, 0, 0, 0, 0, 0) := by rfl
theorem ft_21_1 : ft_m 21 1 = some (.aload_n 1, 2, 1, 0, 0, 0, 0) := by rfl
theorem ft_21_2 : ft_m 21 2 = some (.invokevirtual 63, 5, 4, 0, 487, 0, 0) := by rfl
theorem ft_21_5 : ft_m 21 5 = some (.iconst 0, 6, 0, 0, 0, 0, nI 0) := by rfl
theorem ft_21_6 : ft_m 21 6 = some (.istore_n 3, 7, 3, 0, 0, 0, 0) := by rfl
theorem ft_21_7 : ft_m 21 7 = some (.iload_n 3, 8, 3, 0, 0, 0, 0) := by rfl
theorem ft_21_8 : ft_m 21 8 = some (.iload_n 2, 9, 2, 0, 0, 0, 0) := by rfl
theorem ft_21_9 : ft_m 21 9 = some (.if_icmp .ge 20, 12, 29, 0, 0, 0, 0) := by rfl
theorem ft_21_12 : ft_m 21 12 = some (.aload_n 0, 13, 0, 0, 0, 0, 0) := by rfl
theorem ft_21_13 : ft_m 21 13 = some (.invokevirtual 67, 16, 7, 0, 488, 0, 0) := by rfl
theorem ft_21_16 : ft_m 21 16 = some (.ifCond .ne 13, 19, 29, 0, 0, 0, 0) := by rfl
theorem ft_21_19 : ft_m 21 19 = some (.aload_n 0, 20, 0, 0, 0, 0, 0) := by rfl
theorem ft_21_20 : ft_m 21 20 = some (.invokevirtual 71, 23, 5, 0, 489, 0, 0) := by rfl
theorem ft_21_23 : ft_m 21 23 = some (.iinc 3 1, 26, 3, 0, 0, 0, nI 1) := by rfl
theorem ft_21_26 : ft_m 21 26 = some (.goto (-19), 29, 7, 0, 0, 0, 0) := by rfl
theorem ft_21_29 : ft_m 21 29 = some (.aload_n 0, 30, 0, 0, 0, 0, 0) := by rfl
theorem ft_21_30 : ft_m 21 30 = some (.invokevirtual 67, 33, 7, 0, 488, 0, 0) := by rfl
theorem ft_21_33 : ft_m 21 33 = some (.ifCond .ne 7, 36, 40, 0, 0, 0, 0) := by rfl
theorem ft_21_36 : ft_m 21 36 = some (.iconst 1, 37, 0, 0, 0, 0, nI 1) := by rfl
theorem ft_21_37 : ft_m 21 37 = some (.goto 4, 40, 41, 0, 0, 0, 0) := by rfl
theorem ft_21_40 : ft_m 21 40 = some (.iconst 0, 41, 0, 0, 0, 0, nI 0) := by rfl
theorem ft_21_41 : ft_m 21 41 = some (.ireturn, 42, 0, 0, 0, 0, 0) := by rfl
theorem ft_22_0 : ft_m 22 0 = some (.iload_n 1, 1, 1, 0, 0, 0, 0) := by rfl
theorem ft_22_1 : ft_m 22 1 = some (.bipush 16, 3, 0, 0, 0, 0, nI 16) := by rfl
theorem ft_22_3 : ft_m 22 3 = some (.if_icmp .lt 29, 6, 32, 0, 0, 0, 0) := by rfl
theorem ft_22_6 : ft_m 22 6 = some (.iload_n 1, 7, 1, 0, 0, 0, 0) := by rfl
theorem ft_22_7 : ft_m 22 7 = some (.bipush 47, 9, 0, 0, 0, 0, nI 47) := by rfl
theorem ft_22_9 : ft_m 22 9 = some (.if_icmp .gt 23, 12, 32, 0, 0, 0, 0) := by rfl
theorem ft_22_12 : ft_m 22 12 = some (.iload_n 2, 13, 2, 0, 0, 0, 0) := by rfl
theorem ft_22_13 : ft_m 22 13 = some (.iconst 2, 14, 0, 0, 0, 0, nI 2) := by rfl
theorem ft_22_14 : ft_m 22 14 = some (.if_icmp .lt 18, 17, 32, 0, 0, 0, 0) := by rfl
theorem ft_22_17 : ft_m 22 17 = some (.iload_n 2, 18, 2, 0, 0, 0, 0) := by rfl
theorem ft_22_18 : ft_m 22 18 = some (.bipush 24, 20, 0, 0, 0, 0, nI 24) := by rfl
theorem ft_22_20 : ft_m 22 20 = some (.if_icmp .gt 12, 23, 32, 0, 0, 0, 0) := by rfl
theorem ft_22_23 : ft_m 22 23 = some (.iload_n 3, 24, 3, 0, 0, 0, 0) := by rfl
theorem ft_22_24 : ft_m 22 24 = some (.ifCond .lt 8, 27, 32, 0, 0, 0, 0) := by rfl
theorem ft_22_27 : ft_m 22 27 = some (.iload_n 3, 28, 3, 0, 0, 0, 0) := by rfl
theorem ft_22_28 : ft_m 22 28 = some (.iconst 2, 29, 0, 0, 0, 0, nI 2) := by rfl
theorem ft_22_29 : ft_m 22 29 = some (.if_icmp .le 6, 32, 35, 0, 0, 0, 0) := by rfl
theorem ft_22_32 : ft_m 22 32 = some (.bipush (-2), 34, 0, 0, 0, 0, (-2)) := by rfl
theorem ft_22_34 : ft_m 22 34 = some (.ireturn, 35, 0, 0, 0, 0, 0) := by rfl
theorem ft_22_35 : ft_m 22 35 = some (.aload_n 0, 36, 0, 0, 0, 0, 0) := by rfl
theorem ft_22_36 : ft_m 22 36 = some (.iconst 0, 37, 0, 0, 0, 0, nI 0) := by rfl
theorem ft_22_37 : ft_m 22 37 = some (.putfield 57, 40, 7, 8, 341, 0, 0) := by rfl
theorem ft_22_40 : ft_m 22 40 = some (.aload_n 0, 41, 0, 0, 0, 0, 0) := by rfl
theorem ft_22_41 : ft_m 22 41 = some (.getfield 53, 44, 7, 7, 340, 0, 0) := by rfl
theorem ft_22_44 : ft_m 22 44 = some (.ifCond .eq 10, 47, 54, 0, 0, 0, 0) := by rfl
theorem ft_22_47 : ft_m 22 47 = some (.aload_n 0, 48, 0, 0, 0, 0, 0) := by rfl
theorem ft_22_48 : ft_m 22 48 = some (.invokevirtual 159, 51, 23, 0, 494, 0, 0) := by rfl
theorem ft_22_51 : ft_m 22 51 = some (.ifCond .eq 5, 54, 56, 0, 0, 0, 0) := by rfl
theorem ft_22_54 : ft_m 22 54 = some (.iconst (-1), 55, 0, 0, 0, 0, (-1)) := by rfl
theorem ft_22_55 : ft_m 22 55 = some (.ireturn, 56, 0, 0, 0, 0, 0) := by rfl
theorem ft_22_56 : ft_m 22 56 = some (.aload_n 0, 57, 0, 0, 0, 0, 0) := by rfl
theorem ft_22_57 : ft_m 22 57 = some (.getfield 42, 60, 7, 5, 338, 0, 0) := by rfl
theorem ft_22_60 : ft_m 22 60 = some (.aload_n 0, 61, 0, 0, 0, 0, 0) := by rfl
theorem ft_22_61 : ft_m 22 61 = some (.getfield 53, 64, 7, 7, 340, 0, 0) := by rfl
theorem ft_22_64 : ft_m 22 64 = some (.iload_n 1, 65, 1, 0, 0, 0, 0) := by rfl
theorem ft_22_65 : ft_m 22 65 = some (.iload_n 2, 66, 2, 0, 0, 0, 0) := by rfl
theorem ft_22_66 : ft_m 22 66 = some (.iload_n 3, 67, 3, 0, 0, 0, 0) := by rfl
theorem ft_22_67 : ft_m 22 67 = some (.invokevirtual 163, 70, 24, 0, 498, 0, 0) := by rfl
theorem ft_22_70 : ft_m 22 70 = some (.aload_n 0, 71, 0, 0, 0, 0, 0) := by rfl
theorem ft_22_71 : ft_m 22 71 = some (.getfield 42, 74, 7, 5, 338, 0, 0) := by rfl
theorem ft_22_74 : ft_m 22 74 = some (.aload_n 0, 75, 0, 0, 0, 0, 0) := by rfl
theorem ft_22_75 : ft_m 22 75 = some (.getfield 11, 78, 7, 0, 333, 0, 0) := by rfl
theorem ft_22_78 : ft_m 22 78 = some (.invokevirtual 167, 81, 25, 0, 505, 0, 0) := by rfl
theorem ft_22_81 : ft_m 22 81 = some (.aload_n 0, 82, 0, 0, 0, 0, 0) := by rfl
theorem ft_22_82 : ft_m 22 82 = some (.getfield 42, 85, 7, 5, 338, 0, 0) := by rfl
theorem ft_22_85 : ft_m 22 85 = some (.getfield 171, 88, 4, 11, 154, 1, 0) := by rfl
theorem ft_22_88 : ft_m 22 88 = some (.ifCond .ge 5, 91, 93, 0, 0, 0, 0) := by rfl
theorem ft_22_91 : ft_m 22 91 = some (.iconst (-1), 92, 0, 0, 0, 0, (-1)) := by rfl
theorem ft_22_92 : ft_m 22 92 = some (.ireturn, 93, 0, 0, 0, 0, 0) := by rfl
theorem ft_22_93 : ft_m 22 93 = some (.aload_n 0, 94, 0, 0, 0, 0, 0) := by rfl
theorem ft_22_94 : ft_m 22 94 = some (.iload_n 1, 95, 1, 0, 0, 0, 0) := by rfl
theorem ft_22_95 : ft_m 22 95 = some (.putfield 61, 98, 7, 9, 342, 0, 0) := by rfl
theorem ft_22_98 : ft_m 22 98 = some (.aload_n 0, 99, 0, 0, 0, 0, 0) := by rfl
theorem ft_22_99 : ft_m 22 99 = some (.iload_n 2, 100, 2, 0, 0, 0, 0) := by rfl
theorem ft_22_100 : ft_m 22 100 = some (.putfield 64, 103, 7, 10, 343, 0, 0) := by rfl
theorem ft_22_103 : ft_m 22 103 = some (.aload_n 0, 104, 0, 0, 0, 0, 0) := by rfl
theorem ft_22_104 : ft_m 22 104 = some (.iload_n 3, 105, 3, 0, 0, 0, 0) := by rfl
theorem ft_22_105 : ft_m 22 105 = some (.putfield 67, 108, 7, 11, 344, 0, 0) := by rfl
theorem ft_22_108 : ft_m 22 108 = some (.aload_n 0, 109, 0, 0, 0, 0, 0) := by rfl
theorem ft_22_109 : ft_m 22 109 = some (.aload_n 0, 110, 0, 0, 0, 0, 0) := by rfl
theorem ft_22_110 : ft_m 22 110 = some (.getfield 42, 113, 7, 5, 338, 0, 0) := by rfl
theorem ft_22_113 : ft_m 22 113 = some (.getfield 174, 116, 4, 12, 156, 1, 0) := by rfl
theorem ft_22_116 : ft_m 22 116 = some (.putfield 70, 119, 7, 12, 345, 0, 0) := by rfl
theorem ft_22_119 : ft_m 22 119 = some (.aload_n 0, 120, 0, 0, 0, 0, 0) := by rfl
theorem ft_22_120 : ft_m 22 120 = some (.aload_n 0, 121, 0, 0, 0, 0, 0) := by rfl
theorem ft_22_121 : ft_m 22 121 = some (.getfield 42, 124, 7, 5, 338, 0, 0) := by rfl
theorem ft_22_124 : ft_m 22 124 = some (.getfield 171, 127, 4, 11, 154, 1, 0) := by rfl
theorem ft_22_127 : ft_m 22 127 = some (.putfield 73, 130, 7, 13, 346, 0, 0) := by rfl
theorem ft_22_130 : ft_m 22 130 = some (.aload_n 0, 131, 0, 0, 0, 0, 0) := by rfl
theorem ft_22_131 : ft_m 22 131 = some (.aload_n 0, 132, 0, 0, 0, 0, 0) := by rfl
theorem ft_22_132 : ft_m 22 132 = some (.getfield 42, 135, 7, 5, 338, 0, 0) := by rfl
theorem ft_22_135 : ft_m 22 135 = some (.getfield 177, 138, 4, 10, 152, 1, 0) := by rfl
theorem ft_22_138 : ft_m 22 138 = some (.putfield 76, 141, 7, 14, 347, 0, 0) := by rfl
theorem ft_22_141 : ft_m 22 141 = some (.aload_n 0, 142, 0, 0, 0, 0, 0) := by rfl
theorem ft_22_142 : ft_m 22 142 = some (.invokevirtual 178, 145, 36, 0, 558, 0, 0) := by rfl
theorem ft_22_145 : ft_m 22 145 = some (.aload_n 0, 146, 0, 0, 0, 0, 0) := by rfl
theorem ft_22_146 : ft_m 22 146 = some (.iconst 1, 147, 0, 0, 0, 0, nI 1) := by rfl
theorem ft_22_147 : ft_m 22 147 = some (.putfield 57, 150, 7, 8, 341, 0, 0) := by rfl
theorem ft_22_150 : ft_m 22 150 = some (.aload_n 0, 151, 0, 0, 0, 0, 0) := by rfl
theorem ft_22_151 : ft_m 22 151 = some (.invokevirtual 181, 154, 39, 0, 576, 0, 0) := by rfl
theorem ft_22_154 : ft_m 22 154 = some (.aload_n 0, 155, 0, 0, 0, 0, 0) := by rfl
theorem ft_22_155 : ft_m 22 155 = some (.getfield 73, 158, 7, 13, 346, 0, 0) := by rfl
theorem ft_22_158 : ft_m 22 158 = some (.ireturn, 159, 0, 0, 0, 0, 0) := by rfl
theorem ft_23_0 : ft_m 23 0 = some (.iconst 0, 1, 0, 0, 0, 0, nI 0) := by rfl
theorem ft_23_1 : ft_m 23 1 = some (.istore_n 1, 2, 1, 0, 0, 0, 0) := by rfl
theorem ft_23_2 : ft_m 23 2 = some (.iload_n 1, 3, 1, 0, 0, 0, 0) := by rfl
theorem ft_23_3 : ft_m 23 3 = some (.aload_n 0, 4, 0, 0, 0, 0, 0) := by rfl
theorem ft_23_4 : ft_m 23 4 = some (.getfield 53, 7, 7, 7, 340, 0, 0) := by rfl
theorem ft_23_7 : ft_m 23 7 = some (.if_icmp .ge 23, 10, 30, 0, 0, 0, 0) := by rfl
theorem ft_23_10 : ft_m 23 10 = some (.aload_n 0, 11, 0, 0, 0, 0, 0) := by rfl
theorem ft_23_11 : ft_m 23 11 = some (.getfield 11, 14, 7, 0, 333, 0, 0) := by rfl
theorem ft_23_14 : ft_m 23 14 = some (.iload_n 1, 15, 1, 0, 0, 0, 0) := by rfl
theorem ft_23_15 : ft_m 23 15 = some (.aaload, 16, 0, 0, 0, 0, 0) := by rfl
theorem ft_23_16 : ft_m 23 16 = some (.getfield 125, 19, 5, 7, 251, 1, 0) := by rfl
theorem ft_23_19 : ft_m 23 19 = some (.ifCond .eq 5, 22, 24, 0, 0, 0, 0) := by rfl
theorem ft_23_22 : ft_m 23 22 = some (.iconst 1, 23, 0, 0, 0, 0, nI 1) := by rfl
theorem ft_23_23 : ft_m 23 23 = some (.ireturn, 24, 0, 0, 0, 0, 0) := by rfl
theorem ft_23_24 : ft_m 23 24 = some (.iinc 1 1, 27, 1, 0, 0, 0, nI 1) := by rfl
theorem ft_23_27 : ft_m 23 27 = some (.goto (-25), 30, 2, 0, 0, 0, 0) := by rfl
theorem ft_23_30 : ft_m 23 30 = some (.iconst 0, 31, 0, 0, 0, 0, nI 0) := by rfl
theorem ft_23_31 : ft_m 23 31 = some (.ireturn, 32, 0, 0, 0, 0, 0) := by rfl
theorem ft_24_0 : ft_m 24 0 = some (.aload_n 0, 1, 0, 0, 0, 0, 0) := by rfl
theorem ft_24_1 : ft_m 24 1 = some (.iload_n 1, 2, 1, 0, 0, 0, 0) := by rfl
theorem ft_24_2 : ft_m 24 2 = some (.putfield 38, 5, 4, 6, 147, 0, 0) := by rfl
theorem ft_24_5 : ft_m 24 5 = some (.aload_n 0, 6, 0, 0, 0, 0, 0) := by rfl
theorem ft_24_6 : ft_m 24 6 = some (.iload_n 2, 7, 2, 0, 0, 0, 0) := by rfl
theorem ft_24_7 : ft_m 24 7 = some (.putfield 42, 10, 4, 7, 148, 0, 0) := by rfl
theorem ft_24_10 : ft_m 24 10 = some (.aload_n 0, 11, 0, 0, 0, 0, 0) := by rfl
theorem ft_24_11 : ft_m 24 11 = some (.iload 4, 13, 4, 0, 0, 0, 0) := by rfl
theorem ft_24_13 : ft_m 24 13 = some (.putfield 45, 16, 4, 8, 149, 0, 0) := by rfl
theorem ft_24_16 : ft_m 24 16 = some (.aload_n 0, 17, 0, 0, 0, 0, 0) := by rfl
theorem ft_24_17 : ft_m 24 17 = some (.bipush 24, 19, 0, 0, 0, 0, nI 24) := by rfl
theorem ft_24_19 : ft_m 24 19 = some (.iload_n 2, 20, 2, 0, 0, 0, 0) := by rfl
theorem ft_24_20 : ft_m 24 20 = some (.iconst 1, 21, 0, 0, 0, 0, nI 1) := by rfl
theorem ft_24_21 : ft_m 24 21 = some (.isub, 22, 0, 0, 0, 0, 0) := by rfl
theorem ft_24_22 : ft_m 24 22 = some (.iload_n 3, 23, 3, 0, 0, 0, 0) := by rfl
theorem ft_24_23 : ft_m 24 23 = some (.isub, 24, 0, 0, 0, 0, 0) := by rfl
theorem ft_24_24 : ft_m 24 24 = some (.invokestatic 48, 27, 1004, 0, 502, 0, 0) := by rfl
theorem ft_24_27 : ft_m 24 27 = some (.putfield 54, 30, 4, 9, 150, 0, 0) := by rfl
theorem ft_24_30 : ft_m 24 30 = some (.aload_n 0, 31, 0, 0, 0, 0, 0) := by rfl
theorem ft_24_31 : ft_m 24 31 = some (.iconst 0, 32, 0, 0, 0, 0, nI 0) := by rfl
theorem ft_24_32 : ft_m 24 32 = some (.putfield 57, 35, 4, 10, 151, 0, 0) := by rfl
theorem ft_24_35 : ft_m 24 35 = some (.aload_n 0, 36, 0, 0, 0, 0, 0) := by rfl
theorem ft_24_36 : ft_m 24 36 = some (.iconst (-1), 37, 0, 0, 0, 0, (-1)) := by rfl
theorem ft_24_37 : ft_m 24 37 = some (.putfield 60, 40, 4, 11, 153, 0, 0) := by rfl
theorem ft_24_40 : ft_m 24 40 = some (.aload_n 0, 41, 0, 0, 0, 0, 0) := by rfl
theorem ft_24_41 : ft_m 24 41 = some (.iconst 0, 42, 0, 0, 0, 0, nI 0) := by rfl
theorem ft_24_42 : ft_m 24 42 = some (.putfield 63, 45, 4, 12, 155, 0, 0) := by rfl
theorem ft_24_45 : ft_m 24 45 = some (.aload_n 0, 46, 0, 0, 0, 0, 0) := by rfl
theorem ft_24_46 : ft_m 24 46 = some (.lconst 0, 47, 0, 0, 0, 0, 0) := by rfl
theorem ft_24_47 : ft_m 24 47 = some (.putfield 66, 50, 4, 13, 157, 0, 0) := by rfl
theorem ft_24_50 : ft_m 24 50 = some (.iconst 0, 51, 0, 0, 0, 0, nI 0) := by rfl
theorem ft_24_51 : ft_m 24 51 = some (.istore 5, 53, 5, 0, 0, 0, 0) := by rfl
theorem ft_24_53 : ft_m 24 53 = some (.iload 5, 55, 5, 0, 0, 0, 0) := by rfl
theorem ft_24_55 : ft_m 24 55 = some (.iload_n 1, 56, 1, 0, 0, 0, 0) := by rfl
theorem ft_24_56 : ft_m 24 56 = some (.if_icmp .ge 18, 59, 74, 0, 0, 0, 0) := by rfl
theorem ft_24_59 : ft_m 24 59 = some (.aload_n 0, 60, 0, 0, 0, 0, 0) := by rfl
theorem ft_24_60 : ft_m 24 60 = some (.getfield 9, 63, 4, 0, 140, 0, 0) := by rfl
theorem ft_24_63 : ft_m 24 63 = some (.iload 5, 65, 5, 0, 0, 0, 0) := by rfl
theorem ft_24_65 : ft_m 24 65 = some (.iload 5, 67, 5, 0, 0, 0, 0) := by rfl
theorem ft_24_67 : ft_m 24 67 = some (.iastore, 68, 0, 0, 0, 0, 0) := by rfl
theorem ft_24_68 : ft_m 24 68 = some (.iinc 5 1, 71, 5, 0, 0, 0, nI 1) := by rfl
theorem ft_24_71 : ft_m 24 71 = some (.goto (-18), 74, 53, 0, 0, 0, 0) := by rfl
theorem ft_24_74 : ft_m 24 74 = some (.iconst 0, 75, 0, 0, 0, 0, nI 0) := by rfl
theorem ft_24_75 : ft_m 24 75 = some (.istore 5, 77, 5, 0, 0, 0, 0) := by rfl
theorem ft_24_77 : ft_m 24 77 = some (.iload 5, 79, 5, 0, 0, 0, 0) := by rfl
theorem ft_24_79 : ft_m 24 79 = some (.aload_n 0, 80, 0, 0, 0, 0, 0) := by rfl
theorem ft_24_80 : ft_m 24 80 = some (.getfield 54, 83, 4, 9, 150, 0, 0) := by rfl
theorem ft_24_83 : ft_m 24 83 = some (.if_icmp .gt 46, 86, 129, 0, 0, 0, 0) := by rfl
theorem ft_24_86 : ft_m 24 86 = some (.aload_n 0, 87, 0, 0, 0, 0, 0) := by rfl
theorem ft_24_87 : ft_m 24 87 = some (.getfield 20, 90, 4, 2, 143, 0, 0) := by rfl
theorem ft_24_90 : ft_m 24 90 = some (.iconst 0, 91, 0, 0, 0, 0, nI 0) := by rfl
theorem ft_24_91 : ft_m 24 91 = some (.aaload, 92, 0, 0, 0, 0, 0) := by rfl
theorem ft_24_92 : ft_m 24 92 = some (.iload 5, 94, 5, 0, 0, 0, 0) := by rfl
theorem ft_24_94 : ft_m 24 94 = some (.lconst 1, 95, 0, 0, 0, 1, 0) := by rfl
theorem ft_24_95 : ft_m 24 95 = some (.iload_n 3, 96, 3, 0, 0, 0, 0) := by rfl
theorem ft_24_96 : ft_m 24 96 = some (.iconst 1, 97, 0, 0, 0, 0, nI 1) := by rfl
theorem ft_24_97 : ft_m 24 97 = some (.isub, 98, 0, 0, 0, 0, 0) := by rfl
theorem ft_24_98 : ft_m 24 98 = some (.iload 5, 100, 5, 0, 0, 0, 0) := by rfl
theorem ft_24_100 : ft_m 24 100 = some (.iadd, 101, 0, 0, 0, 0, 0) := by rfl
theorem ft_24_101 : ft_m 24 101 = some (.lshl, 102, 0, 0, 0, 0, 0) := by rfl
theorem ft_24_102 : ft_m 24 102 = some (.lastore, 103, 0, 0, 0, 0, 0) := by rfl
theorem ft_24_103 : ft_m 24 103 = some (.aload_n 0, 104, 0, 0, 0, 0, 0) := by rfl
theorem ft_24_104 : ft_m 24 104 = some (.getfield 23, 107, 4, 3, 144, 0, 0) := by rfl
theorem ft_24_107 : ft_m 24 107 = some (.iconst 0, 108, 0, 0, 0, 0, nI 0) := by rfl
theorem ft_24_108 : ft_m 24 108 = some (.aaload, 109, 0, 0, 0, 0, 0) := by rfl
theorem ft_24_109 : ft_m 24 109 = some (.iload 5, 111, 5, 0, 0, 0, 0) := by rfl
theorem ft_24_111 : ft_m 24 111 = some (.lconst 0, 112, 0, 0, 0, 0, 0) := by rfl
theorem ft_24_112 : ft_m 24 112 = some (.lastore, 113, 0, 0, 0, 0, 0) := by rfl
theorem ft_24_113 : ft_m 24 113 = some (.aload_n 0, 114, 0, 0, 0, 0, 0) := by rfl
theorem ft_24_114 : ft_m 24 114 = some (.getfield 28, 117, 4, 4, 145, 0, 0) := by rfl
theorem ft_24_117 : ft_m 24 117 = some (.iconst 0, 118, 0, 0, 0, 0, nI 0) := by rfl
theorem ft_24_118 : ft_m 24 118 = some (.aaload, 119, 0, 0, 0, 0, 0) := by rfl
theorem ft_24_119 : ft_m 24 119 = some (.iload 5, 121, 5, 0, 0, 0, 0) := by rfl
theorem ft_24_121 : ft_m 24 121 = some (.iconst 0, 122, 0, 0, 0, 0, nI 0) := by rfl
theorem ft_24_122 : ft_m 24 122 = some (.iastore, 123, 0, 0, 0, 0, 0) := by rfl
theorem ft_24_123 : ft_m 24 123 = some (.iinc 5 1, 126, 5, 0, 0, 0, nI 1) := by rfl
theorem ft_24_126 : ft_m 24 126 = some (.goto (-49), 129, 77, 0, 0, 0, 0) := by rfl
theorem ft_24_129 : ft_m 24 129 = some (.return_, 130, 0, 0, 0, 0, 0) := by rfl
theorem ft_25_0 : ft_m 25 0 = some (.iconst 0, 1, 0, 0, 0, 0, nI 0) := by rfl
theorem ft_25_1 : ft_m 25 1 = some (.istore_n 2, 2, 2, 0, 0, 0, 0) := by rfl
theorem ft_25_2 : ft_m 25 2 = some (.iconst 0, 3, 0, 0, 0, 0, nI 0) := by rfl
theorem ft_25_3 : ft_m 25 3 = some (.istore_n 3, 4, 3, 0, 0, 0, 0) := by rfl
theorem ft_25_4 : ft_m 25 4 = some (.iload_n 3, 5, 3, 0, 0, 0, 0) := by rfl
theorem ft_25_5 : ft_m 25 5 = some (.sipush 720, 8, 0, 0, 0, 0, nI 720) := by rfl
theorem ft_25_8 : ft_m 25 8 = some (.if_icmp .ge 55, 11, 63, 0, 0, 0, 0) := by rfl
theorem ft_25_11 : ft_m 25 11 = some (.iload_n 2, 12, 2, 0, 0, 0, 0) := by rfl
theorem ft_25_12 : ft_m 25 12 = some (.ifCond .lt 51, 15, 63, 0, 0, 0, 0) := by rfl
theorem ft_25_15 : ft_m 25 15 = some (.iload_n 2, 16, 2, 0, 0, 0, 0) := by rfl
theorem ft_25_16 : ft_m 25 16 = some (.istore 4, 18, 4, 0, 0, 0, 0) := by rfl
theorem ft_25_18 : ft_m 25 18 = some (.iload 4, 20, 4, 0, 0, 0, 0) := by rfl
theorem ft_25_20 : ft_m 25 20 = some (.aload_n 0, 21, 0, 0, 0, 0, 0) := by rfl
theorem ft_25_21 : ft_m 25 21 = some (.getfield 38, 24, 4, 6, 147, 0, 0) := by rfl
theorem ft_25_24 : ft_m 25 24 = some (.if_icmp .ge 24, 27, 48, 0, 0, 0, 0) := by rfl
theorem ft_25_27 : ft_m 25 27 = some (.aload_n 0, 28, 0, 0, 0, 0, 0) := by rfl
theorem ft_25_28 : ft_m 25 28 = some (.iload 4, 30, 4, 0, 0, 0, 0) := by rfl
theorem ft_25_30 : ft_m 25 30 = some (.aload_n 1, 31, 1, 0, 0, 0, 0) := by rfl
theorem ft_25_31 : ft_m 25 31 = some (.aload_n 0, 32, 0, 0, 0, 0, 0) := by rfl
theorem ft_25_32 : ft_m 25 32 = some (.getfield 9, 35, 4, 0, 140, 0, 0) := by rfl
theorem ft_25_35 : ft_m 25 35 = some (.iload 4, 37, 4, 0, 0, 0, 0) := by rfl
theorem ft_25_37 : ft_m 25 37 = some (.iaload, 38, 0, 0, 0, 0, 0) := by rfl
theorem ft_25_38 : ft_m 25 38 = some (.aaload, 39, 0, 0, 0, 0, 0) := by rfl
theorem ft_25_39 : ft_m 25 39 = some (.invokevirtual 70, 42, 26, 0, 509, 0, 0) := by rfl
theorem ft_25_42 : ft_m 25 42 = some (.iinc 4 1, 45, 4, 0, 0, 0, nI 1) := by rfl
theorem ft_25_45 : ft_m 25 45 = some (.goto (-27), 48, 18, 0, 0, 0, 0) := by rfl
theorem ft_25_48 : ft_m 25 48 = some (.aload_n 0, 49, 0, 0, 0, 0, 0) := by rfl
theorem ft_25_49 : ft_m 25 49 = some (.invokevirtual 74, 52, 32, 0, 539, 0, 0) := by rfl
theorem ft_25_52 : ft_m 25 52 = some (.aload_n 0, 53, 0, 0, 0, 0, 0) := by rfl
theorem ft_25_53 : ft_m 25 53 = some (.invokevirtual 77, 56, 34, 0, 550, 0, 0) := by rfl
theorem ft_25_56 : ft_m 25 56 = some (.istore_n 2, 57, 2, 0, 0, 0, 0) := by rfl
theorem ft_25_57 : ft_m 25 57 = some (.iinc 3 1, 60, 3, 0, 0, 0, nI 1) := by rfl
theorem ft_25_60 : ft_m 25 60 = some (.goto (-56), 63, 4, 0, 0, 0, 0) := by rfl
theorem ft_25_63 : ft_m 25 63 = some (.return_, 64, 0, 0, 0, 0, 0) := by rfl
theorem ft_26_0 : ft_m 26 0 = some (.iconst 0, 1, 0, 0, 0, 0, nI 0) := by rfl
theorem ft_26_1 : ft_m 26 1 = some (.istore_n 3, 2, 3, 0, 0, 0, 0) := by rfl
theorem ft_26_2 : ft_m 26 2 = some (.iload_n 3, 3, 3, 0, 0, 0, 0) := by rfl
theorem ft_26_3 : ft_m 26 3 = some (.aload_n 0, 4, 0, 0, 0, 0, 0) := by rfl
theorem ft_26_4 : ft_m 26 4 = some (.getfield 54, 7, 4, 9, 150, 0, 0) := by rfl
theorem ft_26_7 : ft_m 26 7 = some (.if_icmp .gt 159, 10, 166, 0, 0, 0, 0) := by rfl
theorem ft_26_10 : ft_m 26 10 = some (.aload_n 0, 11, 0, 0, 0, 0, 0) := by rfl
theorem ft_26_11 : ft_m 26 11 = some (.getfield 28, 14, 4, 4, 145, 0, 0) := by rfl
theorem ft_26_14 : ft_m 26 14 = some (.iload_n 1, 15, 1, 0, 0, 0, 0) := by rfl
theorem ft_26_15 : ft_m 26 15 = some (.iconst 1, 16, 0, 0, 0, 0, nI 1) := by rfl
theorem ft_26_16 : ft_m 26 16 = some (.iadd, 17, 0, 0, 0, 0, 0) := by rfl
theorem ft_26_17 : ft_m 26 17 = some (.aaload, 18, 0, 0, 0, 0, 0) := by rfl
theorem ft_26_18 : ft_m 26 18 = some (.iload_n 3, 19, 3, 0, 0, 0, 0) := by rfl
theorem ft_26_19 : ft_m 26 19 = some (.iconst (-1), 20, 0, 0, 0, 0, (-1)) := by rfl
theorem ft_26_20 : ft_m 26 20 = some (.iastore, 21, 0, 0, 0, 0, 0) := by rfl
theorem ft_26_21 : ft_m 26 21 = some (.aload_n 0, 22, 0, 0, 0, 0, 0) := by rfl
theorem ft_26_22 : ft_m 26 22 = some (.getfield 28, 25, 4, 4, 145, 0, 0) := by rfl
theorem ft_26_25 : ft_m 26 25 = some (.iload_n 1, 26, 1, 0, 0, 0, 0) := by rfl
theorem ft_26_26 : ft_m 26 26 = some (.aaload, 27, 0, 0, 0, 0, 0) := by rfl
theorem ft_26_27 : ft_m 26 27 = some (.iload_n 3, 28, 3, 0, 0, 0, 0) := by rfl
theorem ft_26_28 : ft_m 26 28 = some (.iaload, 29, 0, 0, 0, 0, 0) := by rfl
theorem ft_26_29 : ft_m 26 29 = some (.iconst (-1), 30, 0, 0, 0, 0, (-1)) := by rfl
theorem ft_26_30 : ft_m 26 30 = some (.if_icmp .eq 130, 33, 160, 0, 0, 0, 0) := by rfl
theorem ft_26_33 : ft_m 26 33 = some (.aload_n 0, 34, 0, 0, 0, 0, 0) := by rfl
theorem ft_26_34 : ft_m 26 34 = some (.getfield 34, 37, 4, 5, 146, 0, 0) := by rfl
theorem ft_26_37 : ft_m 26 37 = some (.aload_n 2, 38, 2, 0, 0, 0, 0) := by rfl
theorem ft_26_38 : ft_m 26 38 = some (.aload_n 2, 39, 2, 0, 0, 0, 0) := by rfl
theorem ft_26_39 : ft_m 26 39 = some (.getfield 81, 42, 5, 11, 263, 1, 0) := by rfl
theorem ft_26_42 : ft_m 26 42 = some (.aload_n 2, 43, 2, 0, 0, 0, 0) := by rfl
theorem ft_26_43 : ft_m 26 43 = some (.getfield 86, 46, 5, 12, 266, 1, 0) := by rfl
theorem ft_26_46 : ft_m 26 46 = some (.aload_n 0, 47, 0, 0, 0, 0, 0) := by rfl
theorem ft_26_47 : ft_m 26 47 = some (.getfield 20, 50, 4, 2, 143, 0, 0) := by rfl
theorem ft_26_50 : ft_m 26 50 = some (.iload_n 1, 51, 1, 0, 0, 0, 0) := by rfl
theorem ft_26_51 : ft_m 26 51 = some (.aaload, 52, 0, 0, 0, 0, 0) := by rfl
theorem ft_26_52 : ft_m 26 52 = some (.iload_n 3, 53, 3, 0, 0, 0, 0) := by rfl
theorem ft_26_53 : ft_m 26 53 = some (.laload, 54, 0, 0, 0, 0, 0) := by rfl
theorem ft_26_54 : ft_m 26 54 = some (.aload_n 0, 55, 0, 0, 0, 0, 0) := by rfl
theorem ft_26_55 : ft_m 26 55 = some (.getfield 23, 58, 4, 3, 144, 0, 0) := by rfl
theorem ft_26_58 : ft_m 26 58 = some (.iload_n 1, 59, 1, 0, 0, 0, 0) := by rfl
theorem ft_26_59 : ft_m 26 59 = some (.aaload, 60, 0, 0, 0, 0, 0) := by rfl
theorem ft_26_60 : ft_m 26 60 = some (.iload_n 3, 61, 3, 0, 0, 0, 0) := by rfl
theorem ft_26_61 : ft_m 26 61 = some (.laload, 62, 0, 0, 0, 0, 0) := by rfl
theorem ft_26_62 : ft_m 26 62 = some (.aload_n 0, 63, 0, 0, 0, 0, 0) := by rfl
theorem ft_26_63 : ft_m 26 63 = some (.getfield 45, 66, 4, 8, 149, 0, 0) := by rfl
theorem ft_26_66 : ft_m 26 66 = some (.invokevirtual 89, 69, 27, 0, 513, 0, 0) := by rfl
theorem ft_26_69 : ft_m 26 69 = some (.ifCond .eq 91, 72, 160, 0, 0, 0, 0) := by rfl
theorem ft_26_72 : ft_m 26 72 = some (.aload_n 0, 73, 0, 0, 0, 0, 0) := by rfl
theorem ft_26_73 : ft_m 26 73 = some (.getfield 34, 76, 4, 5, 146, 0, 0) := by rfl
theorem ft_26_76 : ft_m 26 76 = some (.aload_n 0, 77, 0, 0, 0, 0, 0) := by rfl
theorem ft_26_77 : ft_m 26 77 = some (.getfield 42, 80, 4, 7, 148, 0, 0) := by rfl
theorem ft_26_80 : ft_m 26 80 = some (.invokevirtual 93, 83, 29, 0, 525, 0, 0) := by rfl
theorem ft_26_83 : ft_m 26 83 = some (.ifCond .eq 77, 86, 160, 0, 0, 0, 0) := by rfl
theorem ft_26_86 : ft_m 26 86 = some (.aload_n 0, 87, 0, 0, 0, 0, 0) := by rfl
theorem ft_26_87 : ft_m 26 87 = some (.getfield 20, 90, 4, 2, 143, 0, 0) := by rfl
theorem ft_26_90 : ft_m 26 90 = some (.iload_n 1, 91, 1, 0, 0, 0, 0) := by rfl
theorem ft_26_91 : ft_m 26 91 = some (.iconst 1, 92, 0, 0, 0, 0, nI 1) := by rfl
theorem ft_26_92 : ft_m 26 92 = some (.iadd, 93, 0, 0, 0, 0, 0) := by rfl
theorem ft_26_93 : ft_m 26 93 = some (.aaload, 94, 0, 0, 0, 0, 0) := by rfl
theorem ft_26_94 : ft_m 26 94 = some (.iload_n 3, 95, 3, 0, 0, 0, 0) := by rfl
theorem ft_26_95 : ft_m 26 95 = some (.aload_n 0, 96, 0, 0, 0, 0, 0) := by rfl
theorem ft_26_96 : ft_m 26 96 = some (.getfield 34, 99, 4, 5, 146, 0, 0) := by rfl
theorem ft_26_99 : ft_m 26 99 = some (.aload_n 0, 100, 0, 0, 0, 0, 0) := by rfl
theorem ft_26_100 : ft_m 26 100 = some (.getfield 34, 103, 4, 5, 146, 0, 0) := by rfl
theorem ft_26_103 : ft_m 26 103 = some (.getfield 97, 106, 0, 2, 119, 1, 0) := by rfl
theorem ft_26_106 : ft_m 26 106 = some (.invokevirtual 100, 109, 30, 0, 537, 0, 0) := by rfl
theorem ft_26_109 : ft_m 26 109 = some (.lastore, 110, 0, 0, 0, 0, 0) := by rfl
theorem ft_26_110 : ft_m 26 110 = some (.aload_n 0, 111, 0, 0, 0, 0, 0) := by rfl
theorem ft_26_111 : ft_m 26 111 = some (.getfield 23, 114, 4, 3, 144, 0, 0) := by rfl
theorem ft_26_114 : ft_m 26 114 = some (.iload_n 1, 115, 1, 0, 0, 0, 0) := by rfl
theorem ft_26_115 : ft_m 26 115 = some (.iconst 1, 116, 0, 0, 0, 0, nI 1) := by rfl
theorem ft_26_116 : ft_m 26 116 = some (.iadd, 117, 0, 0, 0, 0, 0) := by rfl
theorem ft_26_117 : ft_m 26 117 = some (.aaload, 118, 0, 0, 0, 0, 0) := by rfl
theorem ft_26_118 : ft_m 26 118 = some (.iload_n 3, 119, 3, 0, 0, 0, 0) := by rfl
theorem ft_26_119 : ft_m 26 119 = some (.aload_n 0, 120, 0, 0, 0, 0, 0) := by rfl
theorem ft_26_120 : ft_m 26 120 = some (.getfield 34, 123, 4, 5, 146, 0, 0) := by rfl
theorem ft_26_123 : ft_m 26 123 = some (.aload_n 0, 124, 0, 0, 0, 0, 0) := by rfl
theorem ft_26_124 : ft_m 26 124 = some (.getfield 34, 127, 4, 5, 146, 0, 0) := by rfl
theorem ft_26_127 : ft_m 26 127 = some (.getfield 97, 130, 0, 2, 119, 1, 0) := by rfl
theorem ft_26_130 : ft_m 26 130 = some (.invokevirtual 104, 133, 31, 0, 538, 0, 0) := by rfl
theorem ft_26_133 : ft_m 26 133 = some (.lastore, 134, 0, 0, 0, 0, 0) := by rfl
theorem ft_26_134 : ft_m 26 134 = some (.aload_n 0, 135, 0, 0, 0, 0, 0) := by rfl
theorem ft_26_135 : ft_m 26 135 = some (.getfield 28, 138, 4, 4, 145, 0, 0) := by rfl
theorem ft_26_138 : ft_m 26 138 = some (.iload_n 1, 139, 1, 0, 0, 0, 0) := by rfl
theorem ft_26_139 : ft_m 26 139 = some (.iconst 1, 140, 0, 0, 0, 0, nI 1) := by rfl
theorem ft_26_140 : ft_m 26 140 = some (.iadd, 141, 0, 0, 0, 0, 0) := by rfl
theorem ft_26_141 : ft_m 26 141 = some (.aaload, 142, 0, 0, 0, 0, 0) := by rfl
theorem ft_26_142 : ft_m 26 142 = some (.iload_n 3, 143, 3, 0, 0, 0, 0) := by rfl
theorem ft_26_143 : ft_m 26 143 = some (.aload_n 0, 144, 0, 0, 0, 0, 0) := by rfl
theorem ft_26_144 : ft_m 26 144 = some (.getfield 28, 147, 4, 4, 145, 0, 0) := by rfl
theorem ft_26_147 : ft_m 26 147 = some (.iload_n 1, 148, 1, 0, 0, 0, 0) := by rfl
theorem ft_26_148 : ft_m 26 148 = some (.aaload, 149, 0, 0, 0, 0, 0) := by rfl
theorem ft_26_149 : ft_m 26 149 = some (.iload_n 3, 150, 3, 0, 0, 0, 0) := by rfl
theorem ft_26_150 : ft_m 26 150 = some (.iaload, 151, 0, 0, 0, 0, 0) := by rfl
theorem ft_26_151 : ft_m 26 151 = some (.aload_n 0, 152, 0, 0, 0, 0, 0) := by rfl
theorem ft_26_152 : ft_m 26 152 = some (.getfield 34, 155, 4, 5, 146, 0, 0) := by rfl
theorem ft_26_155 : ft_m 26 155 = some (.getfield 97, 158, 0, 2, 119, 1, 0) := by rfl
theorem ft_26_158 : ft_m 26 158 = some (.iadd, 159, 0, 0, 0, 0, 0) := by rfl
theorem ft_26_159 : ft_m 26 159 = some (.iastore, 160, 0, 0, 0, 0, 0) := by rfl
theorem ft_26_160 : ft_m 26 160 = some (.iinc 3 1, 163, 3, 0, 0, 0, nI 1) := by rfl
theorem ft_26_163 : ft_m 26 163 = some (.goto (-161), 166, 2, 0, 0, 0, 0) := by rfl
theorem ft_26_166 : ft_m 26 166 = some (.return_, 167, 0, 0, 0, 0, 0) := by rfl
theorem ft_27_0 : ft_m 27 0 = some (.lload 4, 2, 4, 0, 0, 0, 0) := by rfl
theorem ft_27_2 : ft_m 27 2 = some (.bipush 16, 4, 0, 0, 0, 0, nI 16) := by rfl
theorem ft_27_4 : ft_m 27 4 = some (.invokestatic 9, 7, 6, 0, 517, 1, 0) := by rfl
theorem ft_27_7 : ft_m 27 7 = some (.lstore 11, 9, 11, 0, 0, 0, 0) := by rfl
theorem ft_27_9 : ft_m 27 9 = some (.aload_n 0, 10, 0, 0, 0, 0, 0) := by rfl
theorem ft_27_10 : ft_m 27 10 = some (.lload 6, 12, 6, 0, 0, 0, 0) := by rfl
theorem ft_27_12 : ft_m 27 12 = some (.lload 11, 14, 11, 0, 0, 0, 0) := by rfl
theorem ft_27_14 : ft_m 27 14 = some (.invokestatic 13, 17, 28, 0, 518, 0, 0) := by rfl
theorem ft_27_17 : ft_m 27 17 = some (.putfield 19, 20, 0, 0, 115, 0, 0) := by rfl
theorem ft_27_20 : ft_m 27 20 = some (.aload_n 0, 21, 0, 0, 0, 0, 0) := by rfl
theorem ft_27_21 : ft_m 27 21 = some (.lload 8, 23, 8, 0, 0, 0, 0) := by rfl
theorem ft_27_23 : ft_m 27 23 = some (.lload 11, 25, 11, 0, 0, 0, 0) := by rfl
theorem ft_27_25 : ft_m 27 25 = some (.invokestatic 13, 28, 28, 0, 518, 0, 0) := by rfl
theorem ft_27_28 : ft_m 27 28 = some (.lload_n 2, 29, 2, 0, 0, 0, 0) := by rfl
theorem ft_27_29 : ft_m 27 29 = some (.iload 10, 31, 10, 0, 0, 0, 0) := by rfl
theorem ft_27_31 : ft_m 27 31 = some (.iconst 2, 32, 0, 0, 0, 0, nI 2) := by rfl
theorem ft_27_32 : ft_m 27 32 = some (.if_icmp .ne 8, 35, 40, 0, 0, 0, 0) := by rfl
theorem ft_27_35 : ft_m 27 35 = some (.bipush 33, 37, 0, 0, 0, 0, nI 33) := by rfl
theorem ft_27_37 : ft_m 27 37 = some (.goto 5, 40, 42, 0, 0, 0, 0) := by rfl
theorem ft_27_40 : ft_m 27 40 = some (.bipush 32, 42, 0, 0, 0, 0, nI 32) := by rfl
theorem ft_27_42 : ft_m 27 42 = some (.invokestatic 9, 45, 6, 0, 517, 1, 0) := by rfl
theorem ft_27_45 : ft_m 27 45 = some (.ladd, 46, 0, 0, 0, 0, 0) := by rfl
theorem ft_27_46 : ft_m 27 46 = some (.putfield 23, 49, 0, 1, 116, 0, 0) := by rfl
theorem ft_27_49 : ft_m 27 49 = some (.aload_n 0, 50, 0, 0, 0, 0, 0) := by rfl
theorem ft_27_50 : ft_m 27 50 = some (.getfield 19, 53, 0, 0, 115, 0, 0) := by rfl
theorem ft_27_53 : ft_m 27 53 = some (.aload_n 0, 54, 0, 0, 0, 0, 0) := by rfl
theorem ft_27_54 : ft_m 27 54 = some (.getfield 23, 57, 0, 1, 116, 0, 0) := by rfl
theorem ft_27_57 : ft_m 27 57 = some (.ladd, 58, 0, 0, 0, 0, 0) := by rfl
theorem ft_27_58 : ft_m 27 58 = some (.ldc2_w 26, 61, 0, 0, 523, 70368744177664, 0) := by rfl
theorem ft_27_61 : ft_m 27 61 = some (.lcmp, 62, 0, 0, 0, 0, 0) := by rfl
theorem ft_27_62 : ft_m 27 62 = some (.ifCond .le 5, 65, 67, 0, 0, 0, 0) := by rfl
theorem ft_27_65 : ft_m 27 65 = some (.iconst 0, 66, 0, 0, 0, 0, nI 0) := by rfl
theorem ft_27_66 : ft_m 27 66 = some (.ireturn, 67, 0, 0, 0, 0, 0) := by rfl
theorem ft_27_67 : ft_m 27 67 = some (.aload_n 1, 68, 1, 0, 0, 0, 0) := by rfl
theorem ft_27_68 : ft_m 27 68 = some (.getfield 28, 71, 5, 5, 246, 1, 0) := by rfl
theorem ft_27_71 : ft_m 27 71 = some (.lload 6, 73, 6, 0, 0, 0, 0) := by rfl
theorem ft_27_73 : ft_m 27 73 = some (.lload 8, 75, 8, 0, 0, 0, 0) := by rfl
theorem ft_27_75 : ft_m 27 75 = some (.ladd, 76, 0, 0, 0, 0, 0) := by rfl
theorem ft_27_76 : ft_m 27 76 = some (.lmul, 77, 0, 0, 0, 0, 0) := by rfl
theorem ft_27_77 : ft_m 27 77 = some (.lstore 13, 79, 13, 0, 0, 0, 0) := by rfl
theorem ft_27_79 : ft_m 27 79 = some (.aload_n 1, 80, 1, 0, 0, 0, 0) := by rfl
theorem ft_27_80 : ft_m 27 80 = some (.getfield 33, 83, 5, 6, 249, 1, 0) := by rfl
theorem ft_27_83 : ft_m 27 83 = some (.aload_n 0, 84, 0, 0, 0, 0, 0) := by rfl
theorem ft_27_84 : ft_m 27 84 = some (.getfield 19, 87, 0, 0, 115, 0, 0) := by rfl
theorem ft_27_87 : ft_m 27 87 = some (.aload_n 0, 88, 0, 0, 0, 0, 0) := by rfl
theorem ft_27_88 : ft_m 27 88 = some (.getfield 23, 91, 0, 1, 116, 0, 0) := by rfl
theorem ft_27_91 : ft_m 27 91 = some (.ladd, 92, 0, 0, 0, 0, 0) := by rfl
theorem ft_27_92 : ft_m 27 92 = some (.lmul, 93, 0, 0, 0, 0, 0) := by rfl
theorem ft_27_93 : ft_m 27 93 = some (.lstore 15, 95, 15, 0, 0, 0, 0) := by rfl
theorem ft_27_95 : ft_m 27 95 = some (.lload 13, 97, 13, 0, 0, 0, 0) := by rfl
theorem ft_27_97 : ft_m 27 97 = some (.ldc2_w 36, 100, 0, 0, 521, 4611686018427387904, 0) := by rfl
theorem ft_27_100 : ft_m 27 100 = some (.lcmp, 101, 0, 0, 0, 0, 0) := by rfl
theorem ft_27_101 : ft_m 27 101 = some (.ifCond .gt 23, 104, 124, 0, 0, 0, 0) := by rfl
theorem ft_27_104 : ft_m 27 104 = some (.lload 13, 106, 13, 0, 0, 0, 0) := by rfl
theorem ft_27_106 : ft_m 27 106 = some (.lload 15, 108, 15, 0, 0, 0, 0) := by rfl
theorem ft_27_108 : ft_m 27 108 = some (.ladd, 109, 0, 0, 0, 0, 0) := by rfl
theorem ft_27_109 : ft_m 27 109 = some (.ldc2_w 38, 112, 0, 0, 524, 32768, 0) := by rfl
theorem ft_27_112 : ft_m 27 112 = some (.ladd, 113, 0, 0, 0, 0, 0) := by rfl
theorem ft_27_113 : ft_m 27 113 = some (.ldc2_w 36, 116, 0, 0, 521, 4611686018427387904, 0) := by rfl
theorem ft_27_116 : ft_m 27 116 = some (.lcmp, 117, 0, 0, 0, 0, 0) := by rfl
theorem ft_27_117 : ft_m 27 117 = some (.ifCond .gt 7, 120, 124, 0, 0, 0, 0) := by rfl
theorem ft_27_120 : ft_m 27 120 = some (.iconst 1, 121, 0, 0, 0, 0, nI 1) := by rfl
theorem ft_27_121 : ft_m 27 121 = some (.goto 4, 124, 125, 0, 0, 0, 0) := by rfl
theorem ft_27_124 : ft_m 27 124 = some (.iconst 0, 125, 0, 0, 0, 0, nI 0) := by rfl
theorem ft_27_125 : ft_m 27 125 = some (.ireturn, 126, 0, 0, 0, 0, 0) := by rfl
theorem ft_28_0 : ft_m 28 0 = some (.lload_n 2, 1, 2, 0, 0, 0, 0) := by rfl
theorem ft_28_1 : ft_m 28 1 = some (.lconst 0, 2, 0, 0, 0, 0, 0) := by rfl
theorem ft_28_2 : ft_m 28 2 = some (.lcmp, 3, 0, 0, 0, 0, 0) := by rfl
theorem ft_28_3 : ft_m 28 3 = some (.ifCond .gt 5, 6, 8, 0, 0, 0, 0) := by rfl
theorem ft_28_6 : ft_m 28 6 = some (.lconst 0, 7, 0, 0, 0, 0, 0) := by rfl
theorem ft_28_7 : ft_m 28 7 = some (.lreturn, 8, 0, 0, 0, 0, 0) := by rfl
theorem ft_28_8 : ft_m 28 8 = some (.lload_n 0, 9, 0, 0, 0, 0, 0) := by rfl
theorem ft_28_9 : ft_m 28 9 = some (.ldc2_w 36, 12, 0, 0, 521, 4611686018427387904, 0) := by rfl
theorem ft_28_12 : ft_m 28 12 = some (.lload_n 2, 13, 2, 0, 0, 0, 0) := by rfl
theorem ft_28_13 : ft_m 28 13 = some (.ldiv, 14, 0, 0, 0, 0, 0) := by rfl
theorem ft_28_14 : ft_m 28 14 = some (.lcmp, 15, 0, 0, 0, 0, 0) := by rfl
theorem ft_28_15 : ft_m 28 15 = some (.ifCond .le 7, 18, 22, 0, 0, 0, 0) := by rfl
theorem ft_28_18 : ft_m 28 18 = some (.ldc2_w 40, 21, 0, 0, 522, 70368744177665, 0) := by rfl
theorem ft_28_21 : ft_m 28 21 = some (.lreturn, 22, 0, 0, 0, 0, 0) := by rfl
theorem ft_28_22 : ft_m 28 22 = some (.lload_n 0, 23, 0, 0, 0, 0, 0) := by rfl
theorem ft_28_23 : ft_m 28 23 = some (.lload_n 2, 24, 2, 0, 0, 0, 0) := by rfl
theorem ft_28_24 : ft_m 28 24 = some (.lmul, 25, 0, 0, 0, 0, 0) := by rfl
theorem ft_28_25 : ft_m 28 25 = some (.bipush 16, 27, 0, 0, 0, 0, nI 16) := by rfl
theorem ft_28_27 : ft_m 28 27 = some (.invokestatic 9, 30, 6, 0, 517, 1, 0) := by rfl
theorem ft_28_30 : ft_m 28 30 = some (.lreturn, 31, 0, 0, 0, 0, 0) := by rfl
theorem ft_29_0 : ft_m 29 0 = some (.lconst 1, 1, 0, 0, 0, 1, 0) := by rfl
theorem ft_29_1 : ft_m 29 1 = some (.iload_n 1, 2, 1, 0, 0, 0, 0) := by rfl
theorem ft_29_2 : ft_m 29 2 = some (.iconst 1, 3, 0, 0, 0, 0, nI 1) := by rfl
theorem ft_29_3 : ft_m 29 3 = some (.isub, 4, 0, 0, 0, 0, 0) := by rfl
theorem ft_29_4 : ft_m 29 4 = some (.lshl, 5, 0, 0, 0, 0, 0) := by rfl
theorem ft_29_5 : ft_m 29 5 = some (.lstore_n 2, 6, 2, 0, 0, 0, 0) := by rfl
theorem ft_29_6 : ft_m 29 6 = some (.aload_n 0, 7, 0, 0, 0, 0, 0) := by rfl
theorem ft_29_7 : ft_m 29 7 = some (.iconst 0, 8, 0, 0, 0, 0, nI 0) := by rfl
theorem ft_29_8 : ft_m 29 8 = some (.putfield 42, 11, 0, 2, 118, 0, 0) := by rfl
theorem ft_29_11 : ft_m 29 11 = some (.aload_n 0, 12, 0, 0, 0, 0, 0) := by rfl
theorem ft_29_12 : ft_m 29 12 = some (.getfield 42, 15, 0, 2, 118, 0, 0) := by rfl
theorem ft_29_15 : ft_m 29 15 = some (.bipush 12, 17, 0, 0, 0, 0, nI 12) := by rfl
theorem ft_29_17 : ft_m 29 17 = some (.if_icmp .gt 40, 20, 57, 0, 0, 0, 0) := by rfl
theorem ft_29_20 : ft_m 29 20 = some (.aload_n 0, 21, 0, 0, 0, 0, 0) := by rfl
theorem ft_29_21 : ft_m 29 21 = some (.aload_n 0, 22, 0, 0, 0, 0, 0) := by rfl
theorem ft_29_22 : ft_m 29 22 = some (.getfield 42, 25, 0, 2, 118, 0, 0) := by rfl
theorem ft_29_25 : ft_m 29 25 = some (.invokevirtual 46, 28, 30, 0, 529, 0, 0) := by rfl
theorem ft_29_28 : ft_m 29 28 = some (.aload_n 0, 29, 0, 0, 0, 0, 0) := by rfl
theorem ft_29_29 : ft_m 29 29 = some (.aload_n 0, 30, 0, 0, 0, 0, 0) := by rfl
theorem ft_29_30 : ft_m 29 30 = some (.getfield 42, 33, 0, 2, 118, 0, 0) := by rfl
theorem ft_29_33 : ft_m 29 33 = some (.invokevirtual 50, 36, 31, 0, 533, 0, 0) := by rfl
theorem ft_29_36 : ft_m 29 36 = some (.ladd, 37, 0, 0, 0, 0, 0) := by rfl
theorem ft_29_37 : ft_m 29 37 = some (.lload_n 2, 38, 2, 0, 0, 0, 0) := by rfl
theorem ft_29_38 : ft_m 29 38 = some (.lcmp, 39, 0, 0, 0, 0, 0) := by rfl
theorem ft_29_39 : ft_m 29 39 = some (.ifCond .ge 5, 42, 44, 0, 0, 0, 0) := by rfl
theorem ft_29_42 : ft_m 29 42 = some (.iconst 1, 43, 0, 0, 0, 0, nI 1) := by rfl
theorem ft_29_43 : ft_m 29 43 = some (.ireturn, 44, 0, 0, 0, 0, 0) := by rfl
theorem ft_29_44 : ft_m 29 44 = some (.aload_n 0, 45, 0, 0, 0, 0, 0) := by rfl
theorem ft_29_45 : ft_m 29 45 = some (.dup, 46, 0, 0, 0, 0, 0) := by rfl
theorem ft_29_46 : ft_m 29 46 = some (.getfield 42, 49, 0, 2, 118, 0, 0) := by rfl
theorem ft_29_49 : ft_m 29 49 = some (.iconst 1, 50, 0, 0, 0, 0, nI 1) := by rfl
theorem ft_29_50 : ft_m 29 50 = some (.iadd, 51, 0, 0, 0, 0, 0) := by rfl
theorem ft_29_51 : ft_m 29 51 = some (.putfield 42, 54, 0, 2, 118, 0, 0) := by rfl
theorem ft_29_54 : ft_m 29 54 = some (.goto (-43), 57, 11, 0, 0, 0, 0) := by rfl
theorem ft_29_57 : ft_m 29 57 = some (.iconst 0, 58, 0, 0, 0, 0, nI 0) := by rfl
theorem ft_29_58 : ft_m 29 58 = some (.ireturn, 59, 0, 0, 0, 0, 0) := by rfl
theorem ft_30_0 : ft_m 30 0 = some (.aload_n 0, 1, 0, 0, 0, 0, 0) := by rfl
theorem ft_30_1 : ft_m 30 1 = some (.getfield 19, 4, 0, 0, 115, 0, 0) := by rfl
theorem ft_30_4 : ft_m 30 4 = some (.iload_n 1, 5, 1, 0, 0, 0, 0) := by rfl
theorem ft_30_5 : ft_m 30 5 = some (.invokestatic 9, 8, 6, 0, 517, 1, 0) := by rfl
theorem ft_30_8 : ft_m 30 8 = some (.lreturn, 9, 0, 0, 0, 0, 0) := by rfl
theorem ft_31_0 : ft_m 31 0 = some (.aload_n 0, 1, 0, 0, 0, 0, 0) := by rfl
theorem ft_31_1 : ft_m 31 1 = some (.getfield 23, 4, 0, 1, 116, 0, 0) := by rfl
theorem ft_31_4 : ft_m 31 4 = some (.iload_n 1, 5, 1, 0, 0, 0, 0) := by rfl
theorem ft_31_5 : ft_m 31 5 = some (.invokestatic 9, 8, 6, 0, 517, 1, 0) := by rfl
theorem ft_31_8 : ft_m 31 8 = some (.iload_n 1, 9, 1, 0, 0, 0, 0) := by rfl
theorem ft_31_9 : ft_m 31 9 = some (.ifCond .ne 7, 12, 16, 0, 0, 0, 0) := by rfl
theorem ft_31_12 : ft_m 31 12 = some (.iconst 0, 13, 0, 0, 0, 0, nI 0) := by rfl
theorem ft_31_13 : ft_m 31 13 = some (.goto 4, 16, 17, 0, 0, 0, 0) := by rfl
theorem ft_31_16 : ft_m 31 16 = some (.iconst 1, 17, 0, 0, 0, 0, nI 1) := by rfl
theorem ft_31_17 : ft_m 31 17 = some (.i2l, 18, 0, 0, 0, 0, 0) := by rfl
theorem ft_31_18 : ft_m 31 18 = some (.ladd, 19, 0, 0, 0, 0, 0) := by rfl
theorem ft_31_19 : ft_m 31 19 = some (.lreturn, 20, 0, 0, 0, 0, 0) := by rfl
theorem ft_32_0 : ft_m 32 0 = some (.aload_n 0, 1, 0, 0, 0, 0, 0) := by rfl
theorem ft_32_1 : ft_m 32 1 = some (.getfield 54, 4, 4, 9, 150, 0, 0) := by rfl
theorem ft_32_4 : ft_m 32 4 = some (.istore_n 1, 5, 1, 0, 0, 0, 0) := by rfl
theorem ft_32_5 : ft_m 32 5 = some (.iload_n 1, 6, 1, 0, 0, 0, 0) := by rfl
theorem ft_32_6 : ft_m 32 6 = some (.ifCond .lt 73, 9, 79, 0, 0, 0, 0) := by rfl
theorem ft_32_9 : ft_m 32 9 = some (.aload_n 0, 10, 0, 0, 0, 0, 0) := by rfl
theorem ft_32_10 : ft_m 32 10 = some (.getfield 28, 13, 4, 4, 145, 0, 0) := by rfl
theorem ft_32_13 : ft_m 32 13 = some (.aload_n 0, 14, 0, 0, 0, 0, 0) := by rfl
theorem ft_32_14 : ft_m 32 14 = some (.getfield 38, 17, 4, 6, 147, 0, 0) := by rfl
theorem ft_32_17 : ft_m 32 17 = some (.aaload, 18, 0, 0, 0, 0, 0) := by rfl
theorem ft_32_18 : ft_m 32 18 = some (.iload_n 1, 19, 1, 0, 0, 0, 0) := by rfl
theorem ft_32_19 : ft_m 32 19 = some (.iaload, 20, 0, 0, 0, 0, 0) := by rfl
theorem ft_32_20 : ft_m 32 20 = some (.iconst (-1), 21, 0, 0, 0, 0, (-1)) := by rfl
theorem ft_32_21 : ft_m 32 21 = some (.if_icmp .ne 7, 24, 28, 0, 0, 0, 0) := by rfl
theorem ft_32_24 : ft_m 32 24 = some (.iconst (-1), 25, 0, 0, 0, 0, (-1)) := by rfl
theorem ft_32_25 : ft_m 32 25 = some (.goto 16, 28, 41, 0, 0, 0, 0) := by rfl
theorem ft_32_28 : ft_m 32 28 = some (.iload_n 1, 29, 1, 0, 0, 0, 0) := by rfl
theorem ft_32_29 : ft_m 32 29 = some (.aload_n 0, 30, 0, 0, 0, 0, 0) := by rfl
theorem ft_32_30 : ft_m 32 30 = some (.getfield 28, 33, 4, 4, 145, 0, 0) := by rfl
theorem ft_32_33 : ft_m 32 33 = some (.aload_n 0, 34, 0, 0, 0, 0, 0) := by rfl
theorem ft_32_34 : ft_m 32 34 = some (.getfield 38, 37, 4, 6, 147, 0, 0) := by rfl
theorem ft_32_37 : ft_m 32 37 = some (.aaload, 38, 0, 0, 0, 0, 0) := by rfl
theorem ft_32_38 : ft_m 32 38 = some (.iload_n 1, 39, 1, 0, 0, 0, 0) := by rfl
theorem ft_32_39 : ft_m 32 39 = some (.iaload, 40, 0, 0, 0, 0, 0) := by rfl
theorem ft_32_40 : ft_m 32 40 = some (.isub, 41, 0, 0, 0, 0, 0) := by rfl
theorem ft_32_41 : ft_m 32 41 = some (.istore_n 2, 42, 2, 0, 0, 0, 0) := by rfl
theorem ft_32_42 : ft_m 32 42 = some (.iload_n 2, 43, 2, 0, 0, 0, 0) := by rfl
theorem ft_32_43 : ft_m 32 43 = some (.ifCond .lt 30, 46, 73, 0, 0, 0, 0) := by rfl
theorem ft_32_46 : ft_m 32 46 = some (.aload_n 0, 47, 0, 0, 0, 0, 0) := by rfl
theorem ft_32_47 : ft_m 32 47 = some (.dup, 48, 0, 0, 0, 0, 0) := by rfl
theorem ft_32_48 : ft_m 32 48 = some (.getfield 57, 51, 4, 10, 151, 0, 0) := by rfl
theorem ft_32_51 : ft_m 32 51 = some (.iconst 1, 52, 0, 0, 0, 0, nI 1) := by rfl
theorem ft_32_52 : ft_m 32 52 = some (.iadd, 53, 0, 0, 0, 0, 0) := by rfl
theorem ft_32_53 : ft_m 32 53 = some (.putfield 57, 56, 4, 10, 151, 0, 0) := by rfl
theorem ft_32_56 : ft_m 32 56 = some (.aload_n 0, 57, 0, 0, 0, 0, 0) := by rfl
theorem ft_32_57 : ft_m 32 57 = some (.iload_n 1, 58, 1, 0, 0, 0, 0) := by rfl
theorem ft_32_58 : ft_m 32 58 = some (.iload_n 2, 59, 2, 0, 0, 0, 0) := by rfl
theorem ft_32_59 : ft_m 32 59 = some (.aload_n 0, 60, 0, 0, 0, 0, 0) := by rfl
theorem ft_32_60 : ft_m 32 60 = some (.getfield 23, 63, 4, 3, 144, 0, 0) := by rfl
theorem ft_32_63 : ft_m 32 63 = some (.aload_n 0, 64, 0, 0, 0, 0, 0) := by rfl
theorem ft_32_64 : ft_m 32 64 = some (.getfield 38, 67, 4, 6, 147, 0, 0) := by rfl
theorem ft_32_67 : ft_m 32 67 = some (.aaload, 68, 0, 0, 0, 0, 0) := by rfl
theorem ft_32_68 : ft_m 32 68 = some (.iload_n 1, 69, 1, 0, 0, 0, 0) := by rfl
theorem ft_32_69 : ft_m 32 69 = some (.laload, 70, 0, 0, 0, 0, 0) := by rfl
theorem ft_32_70 : ft_m 32 70 = some (.invokevirtual 107, 73, 33, 0, 543, 0, 0) := by rfl
theorem ft_32_73 : ft_m 32 73 = some (.iinc 1 (-1), 76, 1, 0, 0, 0, (-1)) := by rfl
theorem ft_32_76 : ft_m 32 76 = some (.goto (-71), 79, 5, 0, 0, 0, 0) := by rfl
theorem ft_32_79 : ft_m 32 79 = some (.return_, 80, 0, 0, 0, 0, 0) := by rfl
theorem ft_33_0 : ft_m 33 0 = some (.iload_n 2, 1, 2, 0, 0, 0, 0) := by rfl
theorem ft_33_1 : ft_m 33 1 = some (.aload_n 0, 2, 0, 0, 0, 0, 0) := by rfl
theorem ft_33_2 : ft_m 33 2 = some (.getfield 60, 5, 4, 11, 153, 0, 0) := by rfl
theorem ft_33_5 : ft_m 33 5 = some (.if_icmp .lt 20, 8, 25, 0, 0, 0, 0) := by rfl
theorem ft_33_8 : ft_m 33 8 = some (.iload_n 2, 9, 2, 0, 0, 0, 0) := by rfl
theorem ft_33_9 : ft_m 33 9 = some (.aload_n 0, 10, 0, 0, 0, 0, 0) := by rfl
theorem ft_33_10 : ft_m 33 10 = some (.getfield 60, 13, 4, 11, 153, 0, 0) := by rfl
theorem ft_33_13 : ft_m 33 13 = some (.if_icmp .ne 13, 16, 26, 0, 0, 0, 0) := by rfl
theorem ft_33_16 : ft_m 33 16 = some (.lload_n 3, 17, 3, 0, 0, 0, 0) := by rfl
theorem ft_33_17 : ft_m 33 17 = some (.aload_n 0, 18, 0, 0, 0, 0, 0) := by rfl
theorem ft_33_18 : ft_m 33 18 = some (.getfield 66, 21, 4, 13, 157, 0, 0) := by rfl
theorem ft_33_21 : ft_m 33 21 = some (.lcmp, 22, 0, 0, 0, 0, 0) := by rfl
theorem ft_33_22 : ft_m 33 22 = some (.ifCond .lt 4, 25, 26, 0, 0, 0, 0) := by rfl
theorem ft_33_25 : ft_m 33 25 = some (.return_, 26, 0, 0, 0, 0, 0) := by rfl
theorem ft_33_26 : ft_m 33 26 = some (.aload_n 0, 27, 0, 0, 0, 0, 0) := by rfl
theorem ft_33_27 : ft_m 33 27 = some (.iload_n 2, 28, 2, 0, 0, 0, 0) := by rfl
theorem ft_33_28 : ft_m 33 28 = some (.putfield 60, 31, 4, 11, 153, 0, 0) := by rfl
theorem ft_33_31 : ft_m 33 31 = some (.aload_n 0, 32, 0, 0, 0, 0, 0) := by rfl
theorem ft_33_32 : ft_m 33 32 = some (.iload_n 1, 33, 1, 0, 0, 0, 0) := by rfl
theorem ft_33_33 : ft_m 33 33 = some (.putfield 63, 36, 4, 12, 155, 0, 0) := by rfl
theorem ft_33_36 : ft_m 33 36 = some (.aload_n 0, 37, 0, 0, 0, 0, 0) := by rfl
theorem ft_33_37 : ft_m 33 37 = some (.lload_n 3, 38, 3, 0, 0, 0, 0) := by rfl
theorem ft_33_38 : ft_m 33 38 = some (.putfield 66, 41, 4, 13, 157, 0, 0) := by rfl
theorem ft_33_41 : ft_m 33 41 = some (.aload_n 0, 42, 0, 0, 0, 0, 0) := by rfl
theorem ft_33_42 : ft_m 33 42 = some (.getfield 9, 45, 4, 0, 140, 0, 0) := by rfl
theorem ft_33_45 : ft_m 33 45 = some (.iconst 0, 46, 0, 0, 0, 0, nI 0) := by rfl
theorem ft_33_46 : ft_m 33 46 = some (.aload_n 0, 47, 0, 0, 0, 0, 0) := by rfl
theorem ft_33_47 : ft_m 33 47 = some (.getfield 15, 50, 4, 1, 141, 0, 0) := by rfl
theorem ft_33_50 : ft_m 33 50 = some (.iconst 0, 51, 0, 0, 0, 0, nI 0) := by rfl
theorem ft_33_51 : ft_m 33 51 = some (.aload_n 0, 52, 0, 0, 0, 0, 0) := by rfl
theorem ft_33_52 : ft_m 33 52 = some (.getfield 38, 55, 4, 6, 147, 0, 0) := by rfl
theorem ft_33_55 : ft_m 33 55 = some (.invokestatic 111, 58, 1000, 0, 547, 0, 0) := by rfl
theorem ft_33_58 : ft_m 33 58 = some (.return_, 59, 0, 0, 0, 0, 0) := by rfl
theorem ft_34_0 : ft_m 34 0 = some (.aload_n 0, 1, 0, 0, 0, 0, 0) := by rfl
theorem ft_34_1 : ft_m 34 1 = some (.getfield 38, 4, 4, 6, 147, 0, 0) := by rfl
theorem ft_34_4 : ft_m 34 4 = some (.iconst 2, 5, 0, 0, 0, 0, nI 2) := by rfl
theorem ft_34_5 : ft_m 34 5 = some (.isub, 6, 0, 0, 0, 0, 0) := by rfl
theorem ft_34_6 : ft_m 34 6 = some (.istore_n 1, 7, 1, 0, 0, 0, 0) := by rfl
theorem ft_34_7 : ft_m 34 7 = some (.iload_n 1, 8, 1, 0, 0, 0, 0) := by rfl
theorem ft_34_8 : ft_m 34 8 = some (.ifCond .lt 26, 11, 34, 0, 0, 0, 0) := by rfl
theorem ft_34_11 : ft_m 34 11 = some (.aload_n 0, 12, 0, 0, 0, 0, 0) := by rfl
theorem ft_34_12 : ft_m 34 12 = some (.getfield 9, 15, 4, 0, 140, 0, 0) := by rfl
theorem ft_34_15 : ft_m 34 15 = some (.iload_n 1, 16, 1, 0, 0, 0, 0) := by rfl
theorem ft_34_16 : ft_m 34 16 = some (.iaload, 17, 0, 0, 0, 0, 0) := by rfl
theorem ft_34_17 : ft_m 34 17 = some (.aload_n 0, 18, 0, 0, 0, 0, 0) := by rfl
theorem ft_34_18 : ft_m 34 18 = some (.getfield 9, 21, 4, 0, 140, 0, 0) := by rfl
theorem ft_34_21 : ft_m 34 21 = some (.iload_n 1, 22, 1, 0, 0, 0, 0) := by rfl
theorem ft_34_22 : ft_m 34 22 = some (.iconst 1, 23, 0, 0, 0, 0, nI 1) := by rfl
theorem ft_34_23 : ft_m 34 23 = some (.iadd, 24, 0, 0, 0, 0, 0) := by rfl
theorem ft_34_24 : ft_m 34 24 = some (.iaload, 25, 0, 0, 0, 0, 0) := by rfl
theorem ft_34_25 : ft_m 34 25 = some (.if_icmp .le 9, 28, 34, 0, 0, 0, 0) := by rfl
theorem ft_34_28 : ft_m 34 28 = some (.iinc 1 (-1), 31, 1, 0, 0, 0, (-1)) := by rfl
theorem ft_34_31 : ft_m 34 31 = some (.goto (-24), 34, 7, 0, 0, 0, 0) := by rfl
theorem ft_34_34 : ft_m 34 34 = some (.iload_n 1, 35, 1, 0, 0, 0, 0) := by rfl
theorem ft_34_35 : ft_m 34 35 = some (.ifCond .ge 5, 38, 40, 0, 0, 0, 0) := by rfl
theorem ft_34_38 : ft_m 34 38 = some (.iconst (-1), 39, 0, 0, 0, 0, (-1)) := by rfl
theorem ft_34_39 : ft_m 34 39 = some (.ireturn, 40, 0, 0, 0, 0, 0) := by rfl
theorem ft_34_40 : ft_m 34 40 = some (.aload_n 0, 41, 0, 0, 0, 0, 0) := by rfl
theorem ft_34_41 : ft_m 34 41 = some (.getfield 38, 44, 4, 6, 147, 0, 0) := by rfl
theorem ft_34_44 : ft_m 34 44 = some (.iconst 1, 45, 0, 0, 0, 0, nI 1) := by rfl
theorem ft_34_45 : ft_m 34 45 = some (.isub, 46, 0, 0, 0, 0, 0) := by rfl
theorem ft_34_46 : ft_m 34 46 = some (.istore_n 2, 47, 2, 0, 0, 0, 0) := by rfl
theorem ft_34_47 : ft_m 34 47 = some (.iload_n 2, 48, 2, 0, 0, 0, 0) := by rfl
theorem ft_34_48 : ft_m 34 48 = some (.iload_n 1, 49, 1, 0, 0, 0, 0) := by rfl
theorem ft_34_49 : ft_m 34 49 = some (.iconst 1, 50, 0, 0, 0, 0, nI 1) := by rfl
theorem ft_34_50 : ft_m 34 50 = some (.iadd, 51, 0, 0, 0, 0, 0) := by rfl
theorem ft_34_51 : ft_m 34 51 = some (.if_icmp .le 24, 54, 75, 0, 0, 0, 0) := by rfl
theorem ft_34_54 : ft_m 34 54 = some (.aload_n 0, 55, 0, 0, 0, 0, 0) := by rfl
theorem ft_34_55 : ft_m 34 55 = some (.getfield 9, 58, 4, 0, 140, 0, 0) := by rfl
theorem ft_34_58 : ft_m 34 58 = some (.iload_n 2, 59, 2, 0, 0, 0, 0) := by rfl
theorem ft_34_59 : ft_m 34 59 = some (.iaload, 60, 0, 0, 0, 0, 0) := by rfl
theorem ft_34_60 : ft_m 34 60 = some (.aload_n 0, 61, 0, 0, 0, 0, 0) := by rfl
theorem ft_34_61 : ft_m 34 61 = some (.getfield 9, 64, 4, 0, 140, 0, 0) := by rfl
theorem ft_34_64 : ft_m 34 64 = some (.iload_n 1, 65, 1, 0, 0, 0, 0) := by rfl
theorem ft_34_65 : ft_m 34 65 = some (.iaload, 66, 0, 0, 0, 0, 0) := by rfl
theorem ft_34_66 : ft_m 34 66 = some (.if_icmp .ge 9, 69, 75, 0, 0, 0, 0) := by rfl
theorem ft_34_69 : ft_m 34 69 = some (.iinc 2 (-1), 72, 2, 0, 0, 0, (-1)) := by rfl
theorem ft_34_72 : ft_m 34 72 = some (.goto (-25), 75, 47, 0, 0, 0, 0) := by rfl
theorem ft_34_75 : ft_m 34 75 = some (.aload_n 0, 76, 0, 0, 0, 0, 0) := by rfl
theorem ft_34_76 : ft_m 34 76 = some (.iload_n 1, 77, 1, 0, 0, 0, 0) := by rfl
theorem ft_34_77 : ft_m 34 77 = some (.iload_n 2, 78, 2, 0, 0, 0, 0) := by rfl
theorem ft_34_78 : ft_m 34 78 = some (.invokevirtual 117, 81, 35, 0, 554, 0, 0) := by rfl
theorem ft_34_81 : ft_m 34 81 = some (.iload_n 1, 82, 1, 0, 0, 0, 0) := by rfl
theorem ft_34_82 : ft_m 34 82 = some (.iconst 1, 83, 0, 0, 0, 0, nI 1) := by rfl
theorem ft_34_83 : ft_m 34 83 = some (.iadd, 84, 0, 0, 0, 0, 0) := by rfl
theorem ft_34_84 : ft_m 34 84 = some (.istore_n 3, 85, 3, 0, 0, 0, 0) := by rfl
theorem ft_34_85 : ft_m 34 85 = some (.aload_n 0, 86, 0, 0, 0, 0, 0) := by rfl
theorem ft_34_86 : ft_m 34 86 = some (.getfield 38, 89, 4, 6, 147, 0, 0) := by rfl
theorem ft_34_89 : ft_m 34 89 = some (.iconst 1, 90, 0, 0, 0, 0, nI 1) := by rfl
theorem ft_34_90 : ft_m 34 90 = some (.isub, 91, 0, 0, 0, 0, 0) := by rfl
theorem ft_34_91 : ft_m 34 91 = some (.istore 4, 93, 4, 0, 0, 0, 0) := by rfl
theorem ft_34_93 : ft_m 34 93 = some (.iload_n 3, 94, 3, 0, 0, 0, 0) := by rfl
theorem ft_34_94 : ft_m 34 94 = some (.iload 4, 96, 4, 0, 0, 0, 0) := by rfl
theorem ft_34_96 : ft_m 34 96 = some (.if_icmp .ge 19, 99, 115, 0, 0, 0, 0) := by rfl
theorem ft_34_99 : ft_m 34 99 = some (.aload_n 0, 100, 0, 0, 0, 0, 0) := by rfl
theorem ft_34_100 : ft_m 34 100 = some (.iload_n 3, 101, 3, 0, 0, 0, 0) := by rfl
theorem ft_34_101 : ft_m 34 101 = some (.iload 4, 103, 4, 0, 0, 0, 0) := by rfl
theorem ft_34_103 : ft_m 34 103 = some (.invokevirtual 117, 106, 35, 0, 554, 0, 0) := by rfl
theorem ft_34_106 : ft_m 34 106 = some (.iinc 3 1, 109, 3, 0, 0, 0, nI 1) := by rfl
theorem ft_34_109 : ft_m 34 109 = some (.iinc 4 (-1), 112, 4, 0, 0, 0, (-1)) := by rfl
theorem ft_34_112 : ft_m 34 112 = some (.goto (-19), 115, 93, 0, 0, 0, 0) := by rfl
theorem ft_34_115 : ft_m 34 115 = some (.iload_n 1, 116, 1, 0, 0, 0, 0) := by rfl
theorem ft_34_116 : ft_m 34 116 = some (.ireturn, 117, 0, 0, 0, 0, 0) := by rfl
theorem ft_35_0 : ft_m 35 0 = some (.aload_n 0, 1, 0, 0, 0, 0, 0) := by rfl
theorem ft_35_1 : ft_m 35 1 = some (.getfield 9, 4, 4, 0, 140, 0, 0) := by rfl
theorem ft_35_4 : ft_m 35 4 = some (.iload_n 1, 5, 1, 0, 0, 0, 0) := by rfl
theorem ft_35_5 : ft_m 35 5 = some (.iaload, 6, 0, 0, 0, 0, 0) := by rfl
theorem ft_35_6 : ft_m 35 6 = some (.istore_n 3, 7, 3, 0, 0, 0, 0) := by rfl
theorem ft_35_7 : ft_m 35 7 = some (.aload_n 0, 8, 0, 0, 0, 0, 0) := by rfl
theorem ft_35_8 : ft_m 35 8 = some (.getfield 9, 11, 4, 0, 140, 0, 0) := by rfl
theorem ft_35_11 : ft_m 35 11 = some (.iload_n 1, 12, 1, 0, 0, 0, 0) := by rfl
theorem ft_35_12 : ft_m 35 12 = some (.aload_n 0, 13, 0, 0, 0, 0, 0) := by rfl
theorem ft_35_13 : ft_m 35 13 = some (.getfield 9, 16, 4, 0, 140, 0, 0) := by rfl
theorem ft_35_16 : ft_m 35 16 = some (.iload_n 2, 17, 2, 0, 0, 0, 0) := by rfl
theorem ft_35_17 : ft_m 35 17 = some (.iaload, 18, 0, 0, 0, 0, 0) := by rfl
theorem ft_35_18 : ft_m 35 18 = some (.iastore, 19, 0, 0, 0, 0, 0) := by rfl
theorem ft_35_19 : ft_m 35 19 = some (.aload_n 0, 20, 0, 0, 0, 0, 0) := by rfl
theorem ft_35_20 : ft_m 35 20 = some (.getfield 9, 23, 4, 0, 140, 0, 0) := by rfl
theorem ft_35_23 : ft_m 35 23 = some (.iload_n 2, 24, 2, 0, 0, 0, 0) := by rfl
theorem ft_35_24 : ft_m 35 24 = some (.iload_n 3, 25, 3, 0, 0, 0, 0) := by rfl
theorem ft_35_25 : ft_m 35 25 = some (.iastore, 26, 0, 0, 0, 0, 0) := by rfl
theorem ft_35_26 : ft_m 35 26 = some (.return_, 27, 0, 0, 0, 0, 0) := by rfl
theorem ft_36_0 : ft_m 36 0 = some (.aload_n 0, 1, 0, 0, 0, 0, 0) := by rfl
theorem ft_36_1 : ft_m 36 1 = some (.invokevirtual 255, 4, 37, 0, 562, 0, 0) := by rfl
theorem ft_36_4 : ft_m 36 4 = some (.lstore_n 1, 5, 1, 0, 0, 0, 0) := by rfl
theorem ft_36_5 : ft_m 36 5 = some (.lconst 0, 6, 0, 0, 0, 0, 0) := by rfl
theorem ft_36_6 : ft_m 36 6 = some (.lstore_n 3, 7, 3, 0, 0, 0, 0) := by rfl
theorem ft_36_7 : ft_m 36 7 = some (.iconst 0, 8, 0, 0, 0, 0, nI 0) := by rfl
theorem ft_36_8 : ft_m 36 8 = some (.istore 5, 10, 5, 0, 0, 0, 0) := by rfl
theorem ft_36_10 : ft_m 36 10 = some (.iload 5, 12, 5, 0, 0, 0, 0) := by rfl
theorem ft_36_12 : ft_m 36 12 = some (.aload_n 0, 13, 0, 0, 0, 0, 0) := by rfl
theorem ft_36_13 : ft_m 36 13 = some (.getfield 53, 16, 7, 7, 340, 0, 0) := by rfl
theorem ft_36_16 : ft_m 36 16 = some (.if_icmp .ge 116, 19, 132, 0, 0, 0, 0) := by rfl
theorem ft_36_19 : ft_m 36 19 = some (.aload_n 0, 20, 0, 0, 0, 0, 0) := by rfl
theorem ft_36_20 : ft_m 36 20 = some (.getfield 42, 23, 7, 5, 338, 0, 0) := by rfl
theorem ft_36_23 : ft_m 36 23 = some (.getfield 259, 26, 4, 1, 142, 1, 0) := by rfl
theorem ft_36_26 : ft_m 36 26 = some (.iload 5, 28, 5, 0, 0, 0, 0) := by rfl
theorem ft_36_28 : ft_m 36 28 = some (.iaload, 29, 0, 0, 0, 0, 0) := by rfl
theorem ft_36_29 : ft_m 36 29 = some (.istore 6, 31, 6, 0, 0, 0, 0) := by rfl
theorem ft_36_31 : ft_m 36 31 = some (.aload_n 0, 32, 0, 0, 0, 0, 0) := by rfl
theorem ft_36_32 : ft_m 36 32 = some (.getfield 11, 35, 7, 0, 333, 0, 0) := by rfl
theorem ft_36_35 : ft_m 36 35 = some (.iload 6, 37, 6, 0, 0, 0, 0) := by rfl
theorem ft_36_37 : ft_m 36 37 = some (.aaload, 38, 0, 0, 0, 0, 0) := by rfl
theorem ft_36_38 : ft_m 36 38 = some (.astore 7, 40, 7, 0, 0, 0, 0) := by rfl
theorem ft_36_40 : ft_m 36 40 = some (.aload_n 0, 41, 0, 0, 0, 0, 0) := by rfl
theorem ft_36_41 : ft_m 36 41 = some (.getfield 35, 44, 7, 4, 337, 0, 0) := by rfl
theorem ft_36_44 : ft_m 36 44 = some (.aload 7, 46, 7, 0, 0, 0, 0) := by rfl
theorem ft_36_46 : ft_m 36 46 = some (.aload 7, 48, 7, 0, 0, 0, 0) := by rfl
theorem ft_36_48 : ft_m 36 48 = some (.getfield 137, 51, 5, 11, 264, 1, 0) := by rfl
theorem ft_36_51 : ft_m 36 51 = some (.aload 7, 53, 7, 0, 0, 0, 0) := by rfl
theorem ft_36_53 : ft_m 36 53 = some (.getfield 140, 56, 5, 12, 268, 1, 0) := by rfl
theorem ft_36_56 : ft_m 36 56 = some (.lload_n 1, 57, 1, 0, 0, 0, 0) := by rfl
theorem ft_36_57 : ft_m 36 57 = some (.lload_n 3, 58, 3, 0, 0, 0, 0) := by rfl
theorem ft_36_58 : ft_m 36 58 = some (.aload_n 0, 59, 0, 0, 0, 0, 0) := by rfl
theorem ft_36_59 : ft_m 36 59 = some (.getfield 67, 62, 7, 11, 344, 0, 0) := by rfl
theorem ft_36_62 : ft_m 36 62 = some (.invokevirtual 263, 65, 27, 0, 566, 0, 0) := by rfl
theorem ft_36_65 : ft_m 36 65 = some (.pop, 66, 0, 0, 0, 0, 0) := by rfl
theorem ft_36_66 : ft_m 36 66 = some (.aload_n 0, 67, 0, 0, 0, 0, 0) := by rfl
theorem ft_36_67 : ft_m 36 67 = some (.getfield 35, 70, 7, 4, 337, 0, 0) := by rfl
theorem ft_36_70 : ft_m 36 70 = some (.aload_n 0, 71, 0, 0, 0, 0, 0) := by rfl
theorem ft_36_71 : ft_m 36 71 = some (.getfield 61, 74, 7, 9, 342, 0, 0) := by rfl
theorem ft_36_74 : ft_m 36 74 = some (.invokevirtual 267, 77, 29, 0, 567, 0, 0) := by rfl
theorem ft_36_77 : ft_m 36 77 = some (.pop, 78, 0, 0, 0, 0, 0) := by rfl
theorem ft_36_78 : ft_m 36 78 = some (.aload_n 0, 79, 0, 0, 0, 0, 0) := by rfl
theorem ft_36_79 : ft_m 36 79 = some (.getfield 17, 82, 7, 1, 334, 0, 0) := by rfl
theorem ft_36_82 : ft_m 36 82 = some (.iload 5, 84, 5, 0, 0, 0, 0) := by rfl
theorem ft_36_84 : ft_m 36 84 = some (.aaload, 85, 0, 0, 0, 0, 0) := by rfl
theorem ft_36_85 : ft_m 36 85 = some (.iload 6, 87, 6, 0, 0, 0, 0) := by rfl
theorem ft_36_87 : ft_m 36 87 = some (.aload 7, 89, 7, 0, 0, 0, 0) := by rfl
theorem ft_36_89 : ft_m 36 89 = some (.aload_n 0, 90, 0, 0, 0, 0, 0) := by rfl
theorem ft_36_90 : ft_m 36 90 = some (.getfield 35, 93, 7, 4, 337, 0, 0) := by rfl
theorem ft_36_93 : ft_m 36 93 = some (.invokevirtual 270, 96, 38, 0, 568, 0, 0) := by rfl
theorem ft_36_96 : ft_m 36 96 = some (.aload_n 0, 97, 0, 0, 0, 0, 0) := by rfl
theorem ft_36_97 : ft_m 36 97 = some (.getfield 35, 100, 7, 4, 337, 0, 0) := by rfl
theorem ft_36_100 : ft_m 36 100 = some (.aload_n 0, 101, 0, 0, 0, 0, 0) := by rfl
theorem ft_36_101 : ft_m 36 101 = some (.getfield 35, 104, 7, 4, 337, 0, 0) := by rfl
theorem ft_36_104 : ft_m 36 104 = some (.getfield 274, 107, 0, 2, 120, 1, 0) := by rfl
theorem ft_36_107 : ft_m 36 107 = some (.invokevirtual 277, 110, 30, 0, 574, 0, 0) := by rfl
theorem ft_36_110 : ft_m 36 110 = some (.lstore_n 1, 111, 1, 0, 0, 0, 0) := by rfl
theorem ft_36_111 : ft_m 36 111 = some (.aload_n 0, 112, 0, 0, 0, 0, 0) := by rfl
theorem ft_36_112 : ft_m 36 112 = some (.getfield 35, 115, 7, 4, 337, 0, 0) := by rfl
theorem ft_36_115 : ft_m 36 115 = some (.aload_n 0, 116, 0, 0, 0, 0, 0) := by rfl
theorem ft_36_116 : ft_m 36 116 = some (.getfield 35, 119, 7, 4, 337, 0, 0) := by rfl
theorem ft_36_119 : ft_m 36 119 = some (.getfield 274, 122, 0, 2, 120, 1, 0) := by rfl
theorem ft_36_122 : ft_m 36 122 = some (.invokevirtual 281, 125, 31, 0, 575, 0, 0) := by rfl
theorem ft_36_125 : ft_m 36 125 = some (.lstore_n 3, 126, 3, 0, 0, 0, 0) := by rfl
theorem ft_36_126 : ft_m 36 126 = some (.iinc 5 1, 129, 5, 0, 0, 0, nI 1) := by rfl
theorem ft_36_129 : ft_m 36 129 = some (.goto (-119), 132, 10, 0, 0, 0, 0) := by rfl
theorem ft_36_132 : ft_m 36 132 = some (.return_, 133, 0, 0, 0, 0, 0) := by rfl
theorem ft_37_0 : ft_m 37 0 = some (.lconst 1, 1, 0, 0, 0, 1, 0) := by rfl
theorem ft_37_1 : ft_m 37 1 = some (.aload_n 0, 2, 0, 0, 0, 0, 0) := by rfl
theorem ft_37_2 : ft_m 37 2 = some (.getfield 64, 5, 7, 10, 343, 0, 0) := by rfl
theorem ft_37_5 : ft_m 37 5 = some (.iconst 1, 6, 0, 0, 0, 0, nI 1) := by rfl
theorem ft_37_6 : ft_m 37 6 = some (.isub, 7, 0, 0, 0, 0, 0) := by rfl
theorem ft_37_7 : ft_m 37 7 = some (.aload_n 0, 8, 0, 0, 0, 0, 0) := by rfl
theorem ft_37_8 : ft_m 37 8 = some (.getfield 70, 11, 7, 12, 345, 0, 0) := by rfl
theorem ft_37_11 : ft_m 37 11 = some (.iadd, 12, 0, 0, 0, 0, 0) := by rfl
theorem ft_37_12 : ft_m 37 12 = some (.lshl, 13, 0, 0, 0, 0, 0) := by rfl
theorem ft_37_13 : ft_m 37 13 = some (.lreturn, 14, 0, 0, 0, 0, 0) := by rfl
theorem ft_38_0 : ft_m 38 0 = some (.aload_n 0, 1, 0, 0, 0, 0, 0) := by rfl
theorem ft_38_1 : ft_m 38 1 = some (.iload_n 1, 2, 1, 0, 0, 0, 0) := by rfl
theorem ft_38_2 : ft_m 38 2 = some (.putfield 15, 5, 3, 1, 303, 0, 0) := by rfl
theorem ft_38_5 : ft_m 38 5 = some (.aload_n 0, 6, 0, 0, 0, 0, 0) := by rfl
theorem ft_38_6 : ft_m 38 6 = some (.aload_n 3, 7, 3, 0, 0, 0, 0) := by rfl
theorem ft_38_7 : ft_m 38 7 = some (.getfield 19, 10, 0, 2, 117, 1, 0) := by rfl
theorem ft_38_10 : ft_m 38 10 = some (.putfield 24, 13, 3, 2, 305, 0, 0) := by rfl
theorem ft_38_13 : ft_m 38 13 = some (.aload_n 0, 14, 0, 0, 0, 0, 0) := by rfl
theorem ft_38_14 : ft_m 38 14 = some (.getfield 9, 17, 3, 0, 301, 0, 0) := by rfl
theorem ft_38_17 : ft_m 38 17 = some (.iconst 0, 18, 0, 0, 0, 0, nI 0) := by rfl
theorem ft_38_18 : ft_m 38 18 = some (.iload_n 1, 19, 1, 0, 0, 0, 0) := by rfl
theorem ft_38_19 : ft_m 38 19 = some (.i2l, 20, 0, 0, 0, 0, 0) := by rfl
theorem ft_38_20 : ft_m 38 20 = some (.lastore, 21, 0, 0, 0, 0, 0) := by rfl
theorem ft_38_21 : ft_m 38 21 = some (.aload_n 0, 22, 0, 0, 0, 0, 0) := by rfl
theorem ft_38_22 : ft_m 38 22 = some (.getfield 9, 25, 3, 0, 301, 0, 0) := by rfl
theorem ft_38_25 : ft_m 38 25 = some (.iconst 1, 26, 0, 0, 0, 0, nI 1) := by rfl
theorem ft_38_26 : ft_m 38 26 = some (.aload_n 2, 27, 2, 0, 0, 0, 0) := by rfl
theorem ft_38_27 : ft_m 38 27 = some (.getfield 25, 30, 5, 8, 252, 1, 0) := by rfl
theorem ft_38_30 : ft_m 38 30 = some (.i2l, 31, 0, 0, 0, 0, 0) := by rfl
theorem ft_38_31 : ft_m 38 31 = some (.lastore, 32, 0, 0, 0, 0, 0) := by rfl
theorem ft_38_32 : ft_m 38 32 = some (.aload_n 0, 33, 0, 0, 0, 0, 0) := by rfl
theorem ft_38_33 : ft_m 38 33 = some (.getfield 9, 36, 3, 0, 301, 0, 0) := by rfl
theorem ft_38_36 : ft_m 38 36 = some (.iconst 2, 37, 0, 0, 0, 0, nI 2) := by rfl
theorem ft_38_37 : ft_m 38 37 = some (.aload_n 2, 38, 2, 0, 0, 0, 0) := by rfl
theorem ft_38_38 : ft_m 38 38 = some (.getfield 30, 41, 5, 9, 255, 1, 0) := by rfl
theorem ft_38_41 : ft_m 38 41 = some (.lastore, 42, 0, 0, 0, 0, 0) := by rfl
theorem ft_38_42 : ft_m 38 42 = some (.aload_n 0, 43, 0, 0, 0, 0, 0) := by rfl
theorem ft_38_43 : ft_m 38 43 = some (.getfield 9, 46, 3, 0, 301, 0, 0) := by rfl
theorem ft_38_46 : ft_m 38 46 = some (.iconst 3, 47, 0, 0, 0, 0, nI 3) := by rfl
theorem ft_38_47 : ft_m 38 47 = some (.aload_n 2, 48, 2, 0, 0, 0, 0) := by rfl
theorem ft_38_48 : ft_m 38 48 = some (.getfield 34, 51, 5, 10, 258, 1, 0) := by rfl
theorem ft_38_51 : ft_m 38 51 = some (.lastore, 52, 0, 0, 0, 0, 0) := by rfl
theorem ft_38_52 : ft_m 38 52 = some (.aload_n 0, 53, 0, 0, 0, 0, 0) := by rfl
theorem ft_38_53 : ft_m 38 53 = some (.getfield 9, 56, 3, 0, 301, 0, 0) := by rfl
theorem ft_38_56 : ft_m 38 56 = some (.iconst 4, 57, 0, 0, 0, 0, nI 4) := by rfl
theorem ft_38_57 : ft_m 38 57 = some (.aload_n 2, 58, 2, 0, 0, 0, 0) := by rfl
theorem ft_38_58 : ft_m 38 58 = some (.getfield 37, 61, 5, 11, 261, 1, 0) := by rfl
theorem ft_38_61 : ft_m 38 61 = some (.lastore, 62, 0, 0, 0, 0, 0) := by rfl
theorem ft_38_62 : ft_m 38 62 = some (.aload_n 0, 63, 0, 0, 0, 0, 0) := by rfl
theorem ft_38_63 : ft_m 38 63 = some (.getfield 9, 66, 3, 0, 301, 0, 0) := by rfl
theorem ft_38_66 : ft_m 38 66 = some (.iconst 5, 67, 0, 0, 0, 0, nI 5) := by rfl
theorem ft_38_67 : ft_m 38 67 = some (.aload_n 2, 68, 2, 0, 0, 0, 0) := by rfl
theorem ft_38_68 : ft_m 38 68 = some (.getfield 40, 71, 5, 12, 265, 1, 0) := by rfl
theorem ft_38_71 : ft_m 38 71 = some (.lastore, 72, 0, 0, 0, 0, 0) := by rfl
theorem ft_38_72 : ft_m 38 72 = some (.aload_n 0, 73, 0, 0, 0, 0, 0) := by rfl
theorem ft_38_73 : ft_m 38 73 = some (.getfield 9, 76, 3, 0, 301, 0, 0) := by rfl
theorem ft_38_76 : ft_m 38 76 = some (.bipush 6, 78, 0, 0, 0, 0, nI 6) := by rfl
theorem ft_38_78 : ft_m 38 78 = some (.aload_n 0, 79, 0, 0, 0, 0, 0) := by rfl
theorem ft_38_79 : ft_m 38 79 = some (.getfield 24, 82, 3, 2, 305, 0, 0) := by rfl
theorem ft_38_82 : ft_m 38 82 = some (.i2l, 83, 0, 0, 0, 0, 0) := by rfl
theorem ft_38_83 : ft_m 38 83 = some (.lastore, 84, 0, 0, 0, 0, 0) := by rfl
theorem ft_38_84 : ft_m 38 84 = some (.aload_n 0, 85, 0, 0, 0, 0, 0) := by rfl
theorem ft_38_85 : ft_m 38 85 = some (.getfield 9, 88, 3, 0, 301, 0, 0) := by rfl
theorem ft_38_88 : ft_m 38 88 = some (.bipush 7, 90, 0, 0, 0, 0, nI 7) := by rfl
theorem ft_38_90 : ft_m 38 90 = some (.aload_n 3, 91, 3, 0, 0, 0, 0) := by rfl
theorem ft_38_91 : ft_m 38 91 = some (.aload_n 0, 92, 0, 0, 0, 0, 0) := by rfl
theorem ft_38_92 : ft_m 38 92 = some (.getfield 24, 95, 3, 2, 305, 0, 0) := by rfl
theorem ft_38_95 : ft_m 38 95 = some (.invokevirtual 43, 98, 30, 0, 572, 0, 0) := by rfl
theorem ft_38_98 : ft_m 38 98 = some (.lastore, 99, 0, 0, 0, 0, 0) := by rfl
theorem ft_38_99 : ft_m 38 99 = some (.aload_n 0, 100, 0, 0, 0, 0, 0) := by rfl
theorem ft_38_100 : ft_m 38 100 = some (.getfield 9, 103, 3, 0, 301, 0, 0) := by rfl
theorem ft_38_103 : ft_m 38 103 = some (.bipush 8, 105, 0, 0, 0, 0, nI 8) := by rfl
theorem ft_38_105 : ft_m 38 105 = some (.aload_n 3, 106, 3, 0, 0, 0, 0) := by rfl
theorem ft_38_106 : ft_m 38 106 = some (.aload_n 0, 107, 0, 0, 0, 0, 0) := by rfl
theorem ft_38_107 : ft_m 38 107 = some (.getfield 24, 110, 3, 2, 305, 0, 0) := by rfl
theorem ft_38_110 : ft_m 38 110 = some (.invokevirtual 47, 113, 31, 0, 573, 0, 0) := by rfl
theorem ft_38_113 : ft_m 38 113 = some (.lastore, 114, 0, 0, 0, 0, 0) := by rfl
theorem ft_38_114 : ft_m 38 114 = some (.return_, 115, 0, 0, 0, 0, 0) := by rfl
theorem ft_39_0 : ft_m 39 0 = some (.aload_n 0, 1, 0, 0, 0, 0, 0) := by rfl
theorem ft_39_1 : ft_m 39 1 = some (.iconst 0, 2, 0, 0, 0, 0, nI 0) := by rfl
theorem ft_39_2 : ft_m 39 2 = some (.putfield 79, 5, 7, 15, 348, 0, 0) := by rfl
theorem ft_39_5 : ft_m 39 5 = some (.aload_n 0, 6, 0, 0, 0, 0, 0) := by rfl
theorem ft_39_6 : ft_m 39 6 = some (.lconst 0, 7, 0, 0, 0, 0, 0) := by rfl
theorem ft_39_7 : ft_m 39 7 = some (.putfield 82, 10, 7, 16, 349, 0, 0) := by rfl
theorem ft_39_10 : ft_m 39 10 = some (.iconst 0, 11, 0, 0, 0, 0, nI 0) := by rfl
theorem ft_39_11 : ft_m 39 11 = some (.istore_n 1, 12, 1, 0, 0, 0, 0) := by rfl
theorem ft_39_12 : ft_m 39 12 = some (.iload_n 1, 13, 1, 0, 0, 0, 0) := by rfl
theorem ft_39_13 : ft_m 39 13 = some (.aload_n 0, 14, 0, 0, 0, 0, 0) := by rfl
theorem ft_39_14 : ft_m 39 14 = some (.getfield 53, 17, 7, 7, 340, 0, 0) := by rfl
theorem ft_39_17 : ft_m 39 17 = some (.if_icmp .ge 18, 20, 35, 0, 0, 0, 0) := by rfl
theorem ft_39_20 : ft_m 39 20 = some (.aload_n 0, 21, 0, 0, 0, 0, 0) := by rfl
theorem ft_39_21 : ft_m 39 21 = some (.getfield 17, 24, 7, 1, 334, 0, 0) := by rfl
theorem ft_39_24 : ft_m 39 24 = some (.iload_n 1, 25, 1, 0, 0, 0, 0) := by rfl
theorem ft_39_25 : ft_m 39 25 = some (.aaload, 26, 0, 0, 0, 0, 0) := by rfl
theorem ft_39_26 : ft_m 39 26 = some (.invokevirtual 326, 29, 40, 0, 580, 0, 0) := by rfl
theorem ft_39_29 : ft_m 39 29 = some (.iinc 1 1, 32, 1, 0, 0, 0, nI 1) := by rfl
theorem ft_39_32 : ft_m 39 32 = some (.goto (-20), 35, 12, 0, 0, 0, 0) := by rfl
theorem ft_39_35 : ft_m 39 35 = some (.aload_n 0, 36, 0, 0, 0, 0, 0) := by rfl
theorem ft_39_36 : ft_m 39 36 = some (.getfield 49, 39, 7, 6, 339, 0, 0) := by rfl
theorem ft_39_39 : ft_m 39 39 = some (.invokevirtual 329, 42, 41, 0, 584, 0, 0) := by rfl
theorem ft_39_42 : ft_m 39 42 = some (.return_, 43, 0, 0, 0, 0, 0) := by rfl
