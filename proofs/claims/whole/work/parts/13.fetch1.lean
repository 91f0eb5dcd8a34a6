theorem ft_40_0 : ft_m 40 0 = some (.aload_n 0, 1, 0, 0, 0, 0, 0) := by rfl
theorem ft_40_1 : ft_m 40 1 = some (.lconst 0, 2, 0, 0, 0, 0, 0) := by rfl
theorem ft_40_2 : ft_m 40 2 = some (.putfield 50, 5, 3, 3, 306, 0, 0) := by rfl
theorem ft_40_5 : ft_m 40 5 = some (.aload_n 0, 6, 0, 0, 0, 0, 0) := by rfl
theorem ft_40_6 : ft_m 40 6 = some (.lconst 0, 7, 0, 0, 0, 0, 0) := by rfl
theorem ft_40_7 : ft_m 40 7 = some (.putfield 53, 10, 3, 4, 308, 0, 0) := by rfl
theorem ft_40_10 : ft_m 40 10 = some (.aload_n 0, 11, 0, 0, 0, 0, 0) := by rfl
theorem ft_40_11 : ft_m 40 11 = some (.lconst 0, 12, 0, 0, 0, 0, 0) := by rfl
theorem ft_40_12 : ft_m 40 12 = some (.putfield 56, 15, 3, 5, 310, 0, 0) := by rfl
theorem ft_40_15 : ft_m 40 15 = some (.aload_n 0, 16, 0, 0, 0, 0, 0) := by rfl
theorem ft_40_16 : ft_m 40 16 = some (.lconst 0, 17, 0, 0, 0, 0, 0) := by rfl
theorem ft_40_17 : ft_m 40 17 = some (.putfield 59, 20, 3, 6, 312, 0, 0) := by rfl
theorem ft_40_20 : ft_m 40 20 = some (.aload_n 0, 21, 0, 0, 0, 0, 0) := by rfl
theorem ft_40_21 : ft_m 40 21 = some (.lconst 0, 22, 0, 0, 0, 0, 0) := by rfl
theorem ft_40_22 : ft_m 40 22 = some (.putfield 62, 25, 3, 7, 314, 0, 0) := by rfl
theorem ft_40_25 : ft_m 40 25 = some (.return_, 26, 0, 0, 0, 0, 0) := by rfl
theorem ft_41_0 : ft_m 41 0 = some (.iconst 0, 1, 0, 0, 0, 0, nI 0) := by rfl
theorem ft_41_1 : ft_m 41 1 = some (.istore_n 1, 2, 1, 0, 0, 0, 0) := by rfl
theorem ft_41_2 : ft_m 41 2 = some (.iload_n 1, 3, 1, 0, 0, 0, 0) := by rfl
theorem ft_41_3 : ft_m 41 3 = some (.bipush 6, 5, 0, 0, 0, 0, nI 6) := by rfl
theorem ft_41_5 : ft_m 41 5 = some (.if_icmp .gt 18, 8, 23, 0, 0, 0, 0) := by rfl
theorem ft_41_8 : ft_m 41 8 = some (.aload_n 0, 9, 0, 0, 0, 0, 0) := by rfl
theorem ft_41_9 : ft_m 41 9 = some (.getfield 11, 12, 2, 0, 214, 0, 0) := by rfl
theorem ft_41_12 : ft_m 41 12 = some (.iload_n 1, 13, 1, 0, 0, 0, 0) := by rfl
theorem ft_41_13 : ft_m 41 13 = some (.aaload, 14, 0, 0, 0, 0, 0) := by rfl
theorem ft_41_14 : ft_m 41 14 = some (.invokevirtual 22, 17, 42, 0, 588, 0, 0) := by rfl
theorem ft_41_17 : ft_m 41 17 = some (.iinc 1 1, 20, 1, 0, 0, 0, nI 1) := by rfl
theorem ft_41_20 : ft_m 41 20 = some (.goto (-18), 23, 2, 0, 0, 0, 0) := by rfl
theorem ft_41_23 : ft_m 41 23 = some (.return_, 24, 0, 0, 0, 0, 0) := by rfl
theorem ft_42_0 : ft_m 42 0 = some (.aload_n 0, 1, 0, 0, 0, 0, 0) := by rfl
theorem ft_42_1 : ft_m 42 1 = some (.getfield 9, 4, 6, 0, 201, 0, 0) := by rfl
theorem ft_42_4 : ft_m 42 4 = some (.iconst 0, 5, 0, 0, 0, 0, nI 0) := by rfl
theorem ft_42_5 : ft_m 42 5 = some (.invokestatic 21, 8, 43, 0, 592, 0, 0) := by rfl
theorem ft_42_8 : ft_m 42 8 = some (.aload_n 0, 9, 0, 0, 0, 0, 0) := by rfl
theorem ft_42_9 : ft_m 42 9 = some (.getfield 15, 12, 6, 1, 203, 0, 0) := by rfl
theorem ft_42_12 : ft_m 42 12 = some (.iconst 0, 13, 0, 0, 0, 0, nI 0) := by rfl
theorem ft_42_13 : ft_m 42 13 = some (.invokestatic 21, 16, 43, 0, 592, 0, 0) := by rfl
theorem ft_42_16 : ft_m 42 16 = some (.aload_n 0, 17, 0, 0, 0, 0, 0) := by rfl
theorem ft_42_17 : ft_m 42 17 = some (.getfield 18, 20, 6, 2, 205, 0, 0) := by rfl
theorem ft_42_20 : ft_m 42 20 = some (.iconst 0, 21, 0, 0, 0, 0, nI 0) := by rfl
theorem ft_42_21 : ft_m 42 21 = some (.invokestatic 21, 24, 43, 0, 592, 0, 0) := by rfl
theorem ft_42_24 : ft_m 42 24 = some (.return_, 25, 0, 0, 0, 0, 0) := by rfl
theorem ft_43_0 : ft_m 43 0 = some (.iconst 0, 1, 0, 0, 0, 0, nI 0) := by rfl
theorem ft_43_1 : ft_m 43 1 = some (.istore_n 2, 2, 2, 0, 0, 0, 0) := by rfl
theorem ft_43_2 : ft_m 43 2 = some (.aload_n 0, 3, 0, 0, 0, 0, 0) := by rfl
theorem ft_43_3 : ft_m 43 3 = some (.arraylength, 4, 0, 0, 0, 0, 0) := by rfl
theorem ft_43_4 : ft_m 43 4 = some (.istore_n 3, 5, 3, 0, 0, 0, 0) := by rfl
theorem ft_43_5 : ft_m 43 5 = some (.iload_n 2, 6, 2, 0, 0, 0, 0) := by rfl
theorem ft_43_6 : ft_m 43 6 = some (.iload_n 3, 7, 3, 0, 0, 0, 0) := by rfl
theorem ft_43_7 : ft_m 43 7 = some (.if_icmp .ge 13, 10, 20, 0, 0, 0, 0) := by rfl
theorem ft_43_10 : ft_m 43 10 = some (.aload_n 0, 11, 0, 0, 0, 0, 0) := by rfl
theorem ft_43_11 : ft_m 43 11 = some (.iload_n 2, 12, 2, 0, 0, 0, 0) := by rfl
theorem ft_43_12 : ft_m 43 12 = some (.iload_n 1, 13, 1, 0, 0, 0, 0) := by rfl
theorem ft_43_13 : ft_m 43 13 = some (.iastore, 14, 0, 0, 0, 0, 0) := by rfl
theorem ft_43_14 : ft_m 43 14 = some (.iinc 2 1, 17, 2, 0, 0, 0, nI 1) := by rfl
theorem ft_43_17 : ft_m 43 17 = some (.goto (-12), 20, 5, 0, 0, 0, 0) := by rfl
theorem ft_43_20 : ft_m 43 20 = some (.return_, 21, 0, 0, 0, 0, 0) := by rfl
theorem ft_44_0 : ft_m 44 0 = some (.aload_n 0, 1, 0, 0, 0, 0, 0) := by rfl
theorem ft_44_1 : ft_m 44 1 = some (.iload_n 1, 2, 1, 0, 0, 0, 0) := by rfl
theorem ft_44_2 : ft_m 44 2 = some (.invokevirtual 184, 5, 45, 0, 599, 0, 0) := by rfl
theorem ft_44_5 : ft_m 44 5 = some (.ifCond .eq 10, 8, 15, 0, 0, 0, 0) := by rfl
theorem ft_44_8 : ft_m 44 8 = some (.iload_n 2, 9, 2, 0, 0, 0, 0) := by rfl
theorem ft_44_9 : ft_m 44 9 = some (.invokestatic 187, 12, 46, 0, 603, 0, 0) := by rfl
theorem ft_44_12 : ft_m 44 12 = some (.ifCond .ne 7, 15, 19, 0, 0, 0, 0) := by rfl
theorem ft_44_15 : ft_m 44 15 = some (.ldc2_w 111, 18, 0, 0, 477, (-1), 0) := by rfl
theorem ft_44_18 : ft_m 44 18 = some (.lreturn, 19, 0, 0, 0, 0, 0) := by rfl
theorem ft_44_19 : ft_m 44 19 = some (.aload_n 0, 20, 0, 0, 0, 0, 0) := by rfl
theorem ft_44_20 : ft_m 44 20 = some (.getfield 17, 23, 7, 1, 334, 0, 0) := by rfl
theorem ft_44_23 : ft_m 44 23 = some (.iload_n 1, 24, 1, 0, 0, 0, 0) := by rfl
theorem ft_44_24 : ft_m 44 24 = some (.aaload, 25, 0, 0, 0, 0, 0) := by rfl
theorem ft_44_25 : ft_m 44 25 = some (.getfield 190, 28, 3, 0, 302, 1, 0) := by rfl
theorem ft_44_28 : ft_m 44 28 = some (.iload_n 2, 29, 2, 0, 0, 0, 0) := by rfl
theorem ft_44_29 : ft_m 44 29 = some (.laload, 30, 0, 0, 0, 0, 0) := by rfl
theorem ft_44_30 : ft_m 44 30 = some (.lreturn, 31, 0, 0, 0, 0, 0) := by rfl
theorem ft_45_0 : ft_m 45 0 = some (.aload_n 0, 1, 0, 0, 0, 0, 0) := by rfl
theorem ft_45_1 : ft_m 45 1 = some (.getfield 57, 4, 7, 8, 341, 0, 0) := by rfl
theorem ft_45_4 : ft_m 45 4 = some (.ifCond .eq 19, 7, 23, 0, 0, 0, 0) := by rfl
theorem ft_45_7 : ft_m 45 7 = some (.iload_n 1, 8, 1, 0, 0, 0, 0) := by rfl
theorem ft_45_8 : ft_m 45 8 = some (.ifCond .lt 15, 11, 23, 0, 0, 0, 0) := by rfl
theorem ft_45_11 : ft_m 45 11 = some (.iload_n 1, 12, 1, 0, 0, 0, 0) := by rfl
theorem ft_45_12 : ft_m 45 12 = some (.aload_n 0, 13, 0, 0, 0, 0, 0) := by rfl
theorem ft_45_13 : ft_m 45 13 = some (.getfield 53, 16, 7, 7, 340, 0, 0) := by rfl
theorem ft_45_16 : ft_m 45 16 = some (.if_icmp .ge 7, 19, 23, 0, 0, 0, 0) := by rfl
theorem ft_45_19 : ft_m 45 19 = some (.iconst 1, 20, 0, 0, 0, 0, nI 1) := by rfl
theorem ft_45_20 : ft_m 45 20 = some (.goto 4, 23, 24, 0, 0, 0, 0) := by rfl
theorem ft_45_23 : ft_m 45 23 = some (.iconst 0, 24, 0, 0, 0, 0, nI 0) := by rfl
theorem ft_45_24 : ft_m 45 24 = some (.ireturn, 25, 0, 0, 0, 0, 0) := by rfl
theorem ft_46_0 : ft_m 46 0 = some (.iload_n 0, 1, 0, 0, 0, 0, 0) := by rfl
theorem ft_46_1 : ft_m 46 1 = some (.ifCond .lt 13, 4, 14, 0, 0, 0, 0) := by rfl
theorem ft_46_4 : ft_m 46 4 = some (.iload_n 0, 5, 0, 0, 0, 0, 0) := by rfl
theorem ft_46_5 : ft_m 46 5 = some (.bipush 9, 7, 0, 0, 0, 0, nI 9) := by rfl
theorem ft_46_7 : ft_m 46 7 = some (.if_icmp .ge 7, 10, 14, 0, 0, 0, 0) := by rfl
theorem ft_46_10 : ft_m 46 10 = some (.iconst 1, 11, 0, 0, 0, 0, nI 1) := by rfl
theorem ft_46_11 : ft_m 46 11 = some (.goto 4, 14, 15, 0, 0, 0, 0) := by rfl
theorem ft_46_14 : ft_m 46 14 = some (.iconst 0, 15, 0, 0, 0, 0, nI 0) := by rfl
theorem ft_46_15 : ft_m 46 15 = some (.ireturn, 16, 0, 0, 0, 0, 0) := by rfl
theorem ft_47_0 : ft_m 47 0 = some (.aload_n 0, 1, 0, 0, 0, 0, 0) := by rfl
theorem ft_47_1 : ft_m 47 1 = some (.iload_n 1, 2, 1, 0, 0, 0, 0) := by rfl
theorem ft_47_2 : ft_m 47 2 = some (.invokevirtual 184, 5, 45, 0, 599, 0, 0) := by rfl
theorem ft_47_5 : ft_m 47 5 = some (.ifCond .eq 10, 8, 15, 0, 0, 0, 0) := by rfl
theorem ft_47_8 : ft_m 47 8 = some (.iload_n 2, 9, 2, 0, 0, 0, 0) := by rfl
theorem ft_47_9 : ft_m 47 9 = some (.invokestatic 187, 12, 46, 0, 603, 0, 0) := by rfl
theorem ft_47_12 : ft_m 47 12 = some (.ifCond .ne 5, 15, 17, 0, 0, 0, 0) := by rfl
theorem ft_47_15 : ft_m 47 15 = some (.iconst (-1), 16, 0, 0, 0, 0, (-1)) := by rfl
theorem ft_47_16 : ft_m 47 16 = some (.ireturn, 17, 0, 0, 0, 0, 0) := by rfl
theorem ft_47_17 : ft_m 47 17 = some (.lload_n 3, 18, 3, 0, 0, 0, 0) := by rfl
theorem ft_47_18 : ft_m 47 18 = some (.lconst 0, 19, 0, 0, 0, 0, 0) := by rfl
theorem ft_47_19 : ft_m 47 19 = some (.lcmp, 20, 0, 0, 0, 0, 0) := by rfl
theorem ft_47_20 : ft_m 47 20 = some (.ifCond .lt 11, 23, 31, 0, 0, 0, 0) := by rfl
theorem ft_47_23 : ft_m 47 23 = some (.lload_n 3, 24, 3, 0, 0, 0, 0) := by rfl
theorem ft_47_24 : ft_m 47 24 = some (.ldc2_w 193, 27, 0, 0, 610, 1125899906842624, 0) := by rfl
theorem ft_47_27 : ft_m 47 27 = some (.lcmp, 28, 0, 0, 0, 0, 0) := by rfl
theorem ft_47_28 : ft_m 47 28 = some (.ifCond .le 6, 31, 34, 0, 0, 0, 0) := by rfl
theorem ft_47_31 : ft_m 47 31 = some (.bipush (-2), 33, 0, 0, 0, 0, (-2)) := by rfl
theorem ft_47_33 : ft_m 47 33 = some (.ireturn, 34, 0, 0, 0, 0, 0) := by rfl
theorem ft_47_34 : ft_m 47 34 = some (.aload_n 0, 35, 0, 0, 0, 0, 0) := by rfl
theorem ft_47_35 : ft_m 47 35 = some (.getfield 17, 38, 7, 1, 334, 0, 0) := by rfl
theorem ft_47_38 : ft_m 47 38 = some (.iload_n 1, 39, 1, 0, 0, 0, 0) := by rfl
theorem ft_47_39 : ft_m 47 39 = some (.aaload, 40, 0, 0, 0, 0, 0) := by rfl
theorem ft_47_40 : ft_m 47 40 = some (.getfield 190, 43, 3, 0, 302, 1, 0) := by rfl
theorem ft_47_43 : ft_m 47 43 = some (.iload_n 2, 44, 2, 0, 0, 0, 0) := by rfl
theorem ft_47_44 : ft_m 47 44 = some (.lload_n 3, 45, 3, 0, 0, 0, 0) := by rfl
theorem ft_47_45 : ft_m 47 45 = some (.lastore, 46, 0, 0, 0, 0, 0) := by rfl
theorem ft_47_46 : ft_m 47 46 = some (.iconst 1, 47, 0, 0, 0, 0, nI 1) := by rfl
theorem ft_47_47 : ft_m 47 47 = some (.ireturn, 48, 0, 0, 0, 0, 0) := by rfl
theorem ft_48_0 : ft_m 48 0 = some (.aload_n 0, 1, 0, 0, 0, 0, 0) := by rfl
theorem ft_48_1 : ft_m 48 1 = some (.getfield 57, 4, 7, 8, 341, 0, 0) := by rfl
theorem ft_48_4 : ft_m 48 4 = some (.ifCond .ne 5, 7, 9, 0, 0, 0, 0) := by rfl
theorem ft_48_7 : ft_m 48 7 = some (.iconst (-1), 8, 0, 0, 0, 0, (-1)) := by rfl
theorem ft_48_8 : ft_m 48 8 = some (.ireturn, 9, 0, 0, 0, 0, 0) := by rfl
theorem ft_48_9 : ft_m 48 9 = some (.iconst 0, 10, 0, 0, 0, 0, nI 0) := by rfl
theorem ft_48_10 : ft_m 48 10 = some (.istore_n 1, 11, 1, 0, 0, 0, 0) := by rfl
theorem ft_48_11 : ft_m 48 11 = some (.iload_n 1, 12, 1, 0, 0, 0, 0) := by rfl
theorem ft_48_12 : ft_m 48 12 = some (.aload_n 0, 13, 0, 0, 0, 0, 0) := by rfl
theorem ft_48_13 : ft_m 48 13 = some (.getfield 53, 16, 7, 7, 340, 0, 0) := by rfl
theorem ft_48_16 : ft_m 48 16 = some (.if_icmp .ge 28, 19, 44, 0, 0, 0, 0) := by rfl
theorem ft_48_19 : ft_m 48 19 = some (.aload_n 0, 20, 0, 0, 0, 0, 0) := by rfl
theorem ft_48_20 : ft_m 48 20 = some (.iload_n 1, 21, 1, 0, 0, 0, 0) := by rfl
theorem ft_48_21 : ft_m 48 21 = some (.invokevirtual 195, 24, 49, 0, 615, 0, 0) := by rfl
theorem ft_48_24 : ft_m 48 24 = some (.istore_n 2, 25, 2, 0, 0, 0, 0) := by rfl
theorem ft_48_25 : ft_m 48 25 = some (.iload_n 2, 26, 2, 0, 0, 0, 0) := by rfl
theorem ft_48_26 : ft_m 48 26 = some (.ifCond .eq 12, 29, 38, 0, 0, 0, 0) := by rfl
theorem ft_48_29 : ft_m 48 29 = some (.bipush 10, 31, 0, 0, 0, 0, nI 10) := by rfl
theorem ft_48_31 : ft_m 48 31 = some (.iload_n 1, 32, 1, 0, 0, 0, 0) := by rfl
theorem ft_48_32 : ft_m 48 32 = some (.iconst 1, 33, 0, 0, 0, 0, nI 1) := by rfl
theorem ft_48_33 : ft_m 48 33 = some (.iadd, 34, 0, 0, 0, 0, 0) := by rfl
theorem ft_48_34 : ft_m 48 34 = some (.imul, 35, 0, 0, 0, 0, 0) := by rfl
theorem ft_48_35 : ft_m 48 35 = some (.iload_n 2, 36, 2, 0, 0, 0, 0) := by rfl
theorem ft_48_36 : ft_m 48 36 = some (.iadd, 37, 0, 0, 0, 0, 0) := by rfl
theorem ft_48_37 : ft_m 48 37 = some (.ireturn, 38, 0, 0, 0, 0, 0) := by rfl
theorem ft_48_38 : ft_m 48 38 = some (.iinc 1 1, 41, 1, 0, 0, 0, nI 1) := by rfl
theorem ft_48_41 : ft_m 48 41 = some (.goto (-30), 44, 11, 0, 0, 0, 0) := by rfl
theorem ft_48_44 : ft_m 48 44 = some (.iconst 0, 45, 0, 0, 0, 0, nI 0) := by rfl
theorem ft_48_45 : ft_m 48 45 = some (.ireturn, 46, 0, 0, 0, 0, 0) := by rfl
theorem ft_49_0 : ft_m 49 0 = some (.aload_n 0, 1, 0, 0, 0, 0, 0) := by rfl
theorem ft_49_1 : ft_m 49 1 = some (.getfield 17, 4, 7, 1, 334, 0, 0) := by rfl
theorem ft_49_4 : ft_m 49 4 = some (.iload_n 1, 5, 1, 0, 0, 0, 0) := by rfl
theorem ft_49_5 : ft_m 49 5 = some (.aaload, 6, 0, 0, 0, 0, 0) := by rfl
theorem ft_49_6 : ft_m 49 6 = some (.getfield 190, 9, 3, 0, 302, 1, 0) := by rfl
theorem ft_49_9 : ft_m 49 9 = some (.astore_n 2, 10, 2, 0, 0, 0, 0) := by rfl
theorem ft_49_10 : ft_m 49 10 = some (.aload_n 0, 11, 0, 0, 0, 0, 0) := by rfl
theorem ft_49_11 : ft_m 49 11 = some (.iload_n 1, 12, 1, 0, 0, 0, 0) := by rfl
theorem ft_49_12 : ft_m 49 12 = some (.invokevirtual 284, 15, 50, 0, 619, 0, 0) := by rfl
theorem ft_49_15 : ft_m 49 15 = some (.ifCond .ne 5, 18, 20, 0, 0, 0, 0) := by rfl
theorem ft_49_18 : ft_m 49 18 = some (.iconst 1, 19, 0, 0, 0, 0, nI 1) := by rfl
theorem ft_49_19 : ft_m 49 19 = some (.ireturn, 20, 0, 0, 0, 0, 0) := by rfl
theorem ft_49_20 : ft_m 49 20 = some (.aload_n 0, 21, 0, 0, 0, 0, 0) := by rfl
theorem ft_49_21 : ft_m 49 21 = some (.getfield 11, 24, 7, 0, 333, 0, 0) := by rfl
theorem ft_49_24 : ft_m 49 24 = some (.aload_n 2, 25, 2, 0, 0, 0, 0) := by rfl
theorem ft_49_25 : ft_m 49 25 = some (.iconst 0, 26, 0, 0, 0, 0, nI 0) := by rfl
theorem ft_49_26 : ft_m 49 26 = some (.laload, 27, 0, 0, 0, 0, 0) := by rfl
theorem ft_49_27 : ft_m 49 27 = some (.l2i, 28, 0, 0, 0, 0, 0) := by rfl
theorem ft_49_28 : ft_m 49 28 = some (.aaload, 29, 0, 0, 0, 0, 0) := by rfl
theorem ft_49_29 : ft_m 49 29 = some (.astore_n 3, 30, 3, 0, 0, 0, 0) := by rfl
theorem ft_49_30 : ft_m 49 30 = some (.aload_n 0, 31, 0, 0, 0, 0, 0) := by rfl
theorem ft_49_31 : ft_m 49 31 = some (.aload_n 2, 32, 2, 0, 0, 0, 0) := by rfl
theorem ft_49_32 : ft_m 49 32 = some (.aload_n 3, 33, 3, 0, 0, 0, 0) := by rfl
theorem ft_49_33 : ft_m 49 33 = some (.invokevirtual 287, 36, 51, 0, 623, 0, 0) := by rfl
theorem ft_49_36 : ft_m 49 36 = some (.ifCond .ne 5, 39, 41, 0, 0, 0, 0) := by rfl
theorem ft_49_39 : ft_m 49 39 = some (.iconst 2, 40, 0, 0, 0, 0, nI 2) := by rfl
theorem ft_49_40 : ft_m 49 40 = some (.ireturn, 41, 0, 0, 0, 0, 0) := by rfl
theorem ft_49_41 : ft_m 49 41 = some (.aload_n 2, 42, 2, 0, 0, 0, 0) := by rfl
theorem ft_49_42 : ft_m 49 42 = some (.invokestatic 291, 45, 52, 0, 631, 0, 0) := by rfl
theorem ft_49_45 : ft_m 49 45 = some (.ifCond .ne 5, 48, 50, 0, 0, 0, 0) := by rfl
theorem ft_49_48 : ft_m 49 48 = some (.iconst 3, 49, 0, 0, 0, 0, nI 3) := by rfl
theorem ft_49_49 : ft_m 49 49 = some (.ireturn, 50, 0, 0, 0, 0, 0) := by rfl
theorem ft_49_50 : ft_m 49 50 = some (.aload_n 2, 51, 2, 0, 0, 0, 0) := by rfl
theorem ft_49_51 : ft_m 49 51 = some (.iconst 5, 52, 0, 0, 0, 0, nI 5) := by rfl
theorem ft_49_52 : ft_m 49 52 = some (.laload, 53, 0, 0, 0, 0, 0) := by rfl
theorem ft_49_53 : ft_m 49 53 = some (.ldc2_w 295, 56, 0, 0, 636, 281474976710656, 0) := by rfl
theorem ft_49_56 : ft_m 49 56 = some (.lcmp, 57, 0, 0, 0, 0, 0) := by rfl
theorem ft_49_57 : ft_m 49 57 = some (.ifCond .gt 22, 60, 79, 0, 0, 0, 0) := by rfl
theorem ft_49_60 : ft_m 49 60 = some (.aload_n 2, 61, 2, 0, 0, 0, 0) := by rfl
theorem ft_49_61 : ft_m 49 61 = some (.iconst 5, 62, 0, 0, 0, 0, nI 5) := by rfl
theorem ft_49_62 : ft_m 49 62 = some (.laload, 63, 0, 0, 0, 0, 0) := by rfl
theorem ft_49_63 : ft_m 49 63 = some (.ldc2_w 113, 66, 0, 0, 478, 16384, 0) := by rfl
theorem ft_49_66 : ft_m 49 66 = some (.lmul, 67, 0, 0, 0, 0, 0) := by rfl
theorem ft_49_67 : ft_m 49 67 = some (.aload_n 3, 68, 3, 0, 0, 0, 0) := by rfl
theorem ft_49_68 : ft_m 49 68 = some (.getfield 297, 71, 5, 5, 247, 1, 0) := by rfl
theorem ft_49_71 : ft_m 49 71 = some (.aload_n 2, 72, 2, 0, 0, 0, 0) := by rfl
theorem ft_49_72 : ft_m 49 72 = some (.iconst 4, 73, 0, 0, 0, 0, nI 4) := by rfl
theorem ft_49_73 : ft_m 49 73 = some (.laload, 74, 0, 0, 0, 0, 0) := by rfl
theorem ft_49_74 : ft_m 49 74 = some (.lmul, 75, 0, 0, 0, 0, 0) := by rfl
theorem ft_49_75 : ft_m 49 75 = some (.lcmp, 76, 0, 0, 0, 0, 0) := by rfl
theorem ft_49_76 : ft_m 49 76 = some (.ifCond .ge 5, 79, 81, 0, 0, 0, 0) := by rfl
theorem ft_49_79 : ft_m 49 79 = some (.iconst 4, 80, 0, 0, 0, 0, nI 4) := by rfl
theorem ft_49_80 : ft_m 49 80 = some (.ireturn, 81, 0, 0, 0, 0, 0) := by rfl
theorem ft_49_81 : ft_m 49 81 = some (.iload_n 1, 82, 1, 0, 0, 0, 0) := by rfl
theorem ft_49_82 : ft_m 49 82 = some (.ifCond .ne 10, 85, 92, 0, 0, 0, 0) := by rfl
theorem ft_49_85 : ft_m 49 85 = some (.aload_n 0, 86, 0, 0, 0, 0, 0) := by rfl
theorem ft_49_86 : ft_m 49 86 = some (.invokevirtual 255, 89, 37, 0, 562, 0, 0) := by rfl
theorem ft_49_89 : ft_m 49 89 = some (.goto 17, 92, 106, 0, 0, 0, 0) := by rfl
theorem ft_49_92 : ft_m 49 92 = some (.aload_n 0, 93, 0, 0, 0, 0, 0) := by rfl
theorem ft_49_93 : ft_m 49 93 = some (.getfield 17, 96, 7, 1, 334, 0, 0) := by rfl
theorem ft_49_96 : ft_m 49 96 = some (.iload_n 1, 97, 1, 0, 0, 0, 0) := by rfl
theorem ft_49_97 : ft_m 49 97 = some (.iconst 1, 98, 0, 0, 0, 0, nI 1) := by rfl
theorem ft_49_98 : ft_m 49 98 = some (.isub, 99, 0, 0, 0, 0, 0) := by rfl
theorem ft_49_99 : ft_m 49 99 = some (.aaload, 100, 0, 0, 0, 0, 0) := by rfl
theorem ft_49_100 : ft_m 49 100 = some (.getfield 190, 103, 3, 0, 302, 1, 0) := by rfl
theorem ft_49_103 : ft_m 49 103 = some (.bipush 7, 105, 0, 0, 0, 0, nI 7) := by rfl
theorem ft_49_105 : ft_m 49 105 = some (.laload, 106, 0, 0, 0, 0, 0) := by rfl
theorem ft_49_106 : ft_m 49 106 = some (.lstore 4, 108, 4, 0, 0, 0, 0) := by rfl
theorem ft_49_108 : ft_m 49 108 = some (.iload_n 1, 109, 1, 0, 0, 0, 0) := by rfl
theorem ft_49_109 : ft_m 49 109 = some (.ifCond .ne 7, 112, 116, 0, 0, 0, 0) := by rfl
theorem ft_49_112 : ft_m 49 112 = some (.lconst 0, 113, 0, 0, 0, 0, 0) := by rfl
theorem ft_49_113 : ft_m 49 113 = some (.goto 17, 116, 130, 0, 0, 0, 0) := by rfl
theorem ft_49_116 : ft_m 49 116 = some (.aload_n 0, 117, 0, 0, 0, 0, 0) := by rfl
theorem ft_49_117 : ft_m 49 117 = some (.getfield 17, 120, 7, 1, 334, 0, 0) := by rfl
theorem ft_49_120 : ft_m 49 120 = some (.iload_n 1, 121, 1, 0, 0, 0, 0) := by rfl
theorem ft_49_121 : ft_m 49 121 = some (.iconst 1, 122, 0, 0, 0, 0, nI 1) := by rfl
theorem ft_49_122 : ft_m 49 122 = some (.isub, 123, 0, 0, 0, 0, 0) := by rfl
theorem ft_49_123 : ft_m 49 123 = some (.aaload, 124, 0, 0, 0, 0, 0) := by rfl
theorem ft_49_124 : ft_m 49 124 = some (.getfield 190, 127, 3, 0, 302, 1, 0) := by rfl
theorem ft_49_127 : ft_m 49 127 = some (.bipush 8, 129, 0, 0, 0, 0, nI 8) := by rfl
theorem ft_49_129 : ft_m 49 129 = some (.laload, 130, 0, 0, 0, 0, 0) := by rfl
theorem ft_49_130 : ft_m 49 130 = some (.lstore 6, 132, 6, 0, 0, 0, 0) := by rfl
theorem ft_49_132 : ft_m 49 132 = some (.aload_n 0, 133, 0, 0, 0, 0, 0) := by rfl
theorem ft_49_133 : ft_m 49 133 = some (.getfield 35, 136, 7, 4, 337, 0, 0) := by rfl
theorem ft_49_136 : ft_m 49 136 = some (.aload_n 3, 137, 3, 0, 0, 0, 0) := by rfl
theorem ft_49_137 : ft_m 49 137 = some (.aload_n 2, 138, 2, 0, 0, 0, 0) := by rfl
theorem ft_49_138 : ft_m 49 138 = some (.iconst 4, 139, 0, 0, 0, 0, nI 4) := by rfl
theorem ft_49_139 : ft_m 49 139 = some (.laload, 140, 0, 0, 0, 0, 0) := by rfl
theorem ft_49_140 : ft_m 49 140 = some (.aload_n 2, 141, 2, 0, 0, 0, 0) := by rfl
theorem ft_49_141 : ft_m 49 141 = some (.iconst 5, 142, 0, 0, 0, 0, nI 5) := by rfl
theorem ft_49_142 : ft_m 49 142 = some (.laload, 143, 0, 0, 0, 0, 0) := by rfl
theorem ft_49_143 : ft_m 49 143 = some (.lload 4, 145, 4, 0, 0, 0, 0) := by rfl
theorem ft_49_145 : ft_m 49 145 = some (.lload 6, 147, 6, 0, 0, 0, 0) := by rfl
theorem ft_49_147 : ft_m 49 147 = some (.aload_n 0, 148, 0, 0, 0, 0, 0) := by rfl
theorem ft_49_148 : ft_m 49 148 = some (.getfield 67, 151, 7, 11, 344, 0, 0) := by rfl
theorem ft_49_151 : ft_m 49 151 = some (.invokevirtual 263, 154, 27, 0, 566, 0, 0) := by rfl
theorem ft_49_154 : ft_m 49 154 = some (.ifCond .ne 5, 157, 159, 0, 0, 0, 0) := by rfl
theorem ft_49_157 : ft_m 49 157 = some (.iconst 5, 158, 0, 0, 0, 0, nI 5) := by rfl
theorem ft_49_158 : ft_m 49 158 = some (.ireturn, 159, 0, 0, 0, 0, 0) := by rfl
theorem ft_49_159 : ft_m 49 159 = some (.aload_n 0, 160, 0, 0, 0, 0, 0) := by rfl
theorem ft_49_160 : ft_m 49 160 = some (.aload_n 2, 161, 2, 0, 0, 0, 0) := by rfl
theorem ft_49_161 : ft_m 49 161 = some (.invokevirtual 300, 164, 53, 0, 637, 0, 0) := by rfl
theorem ft_49_164 : ft_m 49 164 = some (.ifCond .ne 6, 167, 170, 0, 0, 0, 0) := by rfl
theorem ft_49_167 : ft_m 49 167 = some (.bipush 6, 169, 0, 0, 0, 0, nI 6) := by rfl
theorem ft_49_169 : ft_m 49 169 = some (.ireturn, 170, 0, 0, 0, 0, 0) := by rfl
theorem ft_49_170 : ft_m 49 170 = some (.iload_n 1, 171, 1, 0, 0, 0, 0) := by rfl
theorem ft_49_171 : ft_m 49 171 = some (.aload_n 0, 172, 0, 0, 0, 0, 0) := by rfl
theorem ft_49_172 : ft_m 49 172 = some (.getfield 53, 175, 7, 7, 340, 0, 0) := by rfl
theorem ft_49_175 : ft_m 49 175 = some (.iconst 1, 176, 0, 0, 0, 0, nI 1) := by rfl
theorem ft_49_176 : ft_m 49 176 = some (.isub, 177, 0, 0, 0, 0, 0) := by rfl
theorem ft_49_177 : ft_m 49 177 = some (.if_icmp .ne 27, 180, 204, 0, 0, 0, 0) := by rfl
theorem ft_49_180 : ft_m 49 180 = some (.aload_n 0, 181, 0, 0, 0, 0, 0) := by rfl
theorem ft_49_181 : ft_m 49 181 = some (.getfield 70, 184, 7, 12, 345, 0, 0) := by rfl
theorem ft_49_184 : ft_m 49 184 = some (.i2l, 185, 0, 0, 0, 0, 0) := by rfl
theorem ft_49_185 : ft_m 49 185 = some (.aload_n 0, 186, 0, 0, 0, 0, 0) := by rfl
theorem ft_49_186 : ft_m 49 186 = some (.invokevirtual 303, 189, 54, 0, 642, 0, 0) := by rfl
theorem ft_49_189 : ft_m 49 189 = some (.lsub, 190, 0, 0, 0, 0, 0) := by rfl
theorem ft_49_190 : ft_m 49 190 = some (.aload_n 0, 191, 0, 0, 0, 0, 0) := by rfl
theorem ft_49_191 : ft_m 49 191 = some (.getfield 73, 194, 7, 13, 346, 0, 0) := by rfl
theorem ft_49_194 : ft_m 49 194 = some (.i2l, 195, 0, 0, 0, 0, 0) := by rfl
theorem ft_49_195 : ft_m 49 195 = some (.lcmp, 196, 0, 0, 0, 0, 0) := by rfl
theorem ft_49_196 : ft_m 49 196 = some (.ifCond .eq 8, 199, 204, 0, 0, 0, 0) := by rfl
theorem ft_49_199 : ft_m 49 199 = some (.bipush 7, 201, 0, 0, 0, 0, nI 7) := by rfl
theorem ft_49_201 : ft_m 49 201 = some (.goto 4, 204, 205, 0, 0, 0, 0) := by rfl
theorem ft_49_204 : ft_m 49 204 = some (.iconst 0, 205, 0, 0, 0, 0, nI 0) := by rfl
theorem ft_49_205 : ft_m 49 205 = some (.ireturn, 206, 0, 0, 0, 0, 0) := by rfl
theorem ft_50_0 : ft_m 50 0 = some (.aload_n 0, 1, 0, 0, 0, 0, 0) := by rfl
theorem ft_50_1 : ft_m 50 1 = some (.getfield 17, 4, 7, 1, 334, 0, 0) := by rfl
theorem ft_50_4 : ft_m 50 4 = some (.iload_n 1, 5, 1, 0, 0, 0, 0) := by rfl
theorem ft_50_5 : ft_m 50 5 = some (.aaload, 6, 0, 0, 0, 0, 0) := by rfl
theorem ft_50_6 : ft_m 50 6 = some (.getfield 190, 9, 3, 0, 302, 1, 0) := by rfl
theorem ft_50_9 : ft_m 50 9 = some (.iconst 0, 10, 0, 0, 0, 0, nI 0) := by rfl
theorem ft_50_10 : ft_m 50 10 = some (.laload, 11, 0, 0, 0, 0, 0) := by rfl
theorem ft_50_11 : ft_m 50 11 = some (.lstore_n 2, 12, 2, 0, 0, 0, 0) := by rfl
theorem ft_50_12 : ft_m 50 12 = some (.lload_n 2, 13, 2, 0, 0, 0, 0) := by rfl
theorem ft_50_13 : ft_m 50 13 = some (.lconst 0, 14, 0, 0, 0, 0, 0) := by rfl
theorem ft_50_14 : ft_m 50 14 = some (.lcmp, 15, 0, 0, 0, 0, 0) := by rfl
theorem ft_50_15 : ft_m 50 15 = some (.ifCond .lt 13, 18, 28, 0, 0, 0, 0) := by rfl
theorem ft_50_18 : ft_m 50 18 = some (.lload_n 2, 19, 2, 0, 0, 0, 0) := by rfl
theorem ft_50_19 : ft_m 50 19 = some (.aload_n 0, 20, 0, 0, 0, 0, 0) := by rfl
theorem ft_50_20 : ft_m 50 20 = some (.getfield 53, 23, 7, 7, 340, 0, 0) := by rfl
theorem ft_50_23 : ft_m 50 23 = some (.i2l, 24, 0, 0, 0, 0, 0) := by rfl
theorem ft_50_24 : ft_m 50 24 = some (.lcmp, 25, 0, 0, 0, 0, 0) := by rfl
theorem ft_50_25 : ft_m 50 25 = some (.ifCond .lt 5, 28, 30, 0, 0, 0, 0) := by rfl
theorem ft_50_28 : ft_m 50 28 = some (.iconst 0, 29, 0, 0, 0, 0, nI 0) := by rfl
theorem ft_50_29 : ft_m 50 29 = some (.ireturn, 30, 0, 0, 0, 0, 0) := by rfl
theorem ft_50_30 : ft_m 50 30 = some (.iconst 0, 31, 0, 0, 0, 0, nI 0) := by rfl
theorem ft_50_31 : ft_m 50 31 = some (.istore 4, 33, 4, 0, 0, 0, 0) := by rfl
theorem ft_50_33 : ft_m 50 33 = some (.iload 4, 35, 4, 0, 0, 0, 0) := by rfl
theorem ft_50_35 : ft_m 50 35 = some (.iload_n 1, 36, 1, 0, 0, 0, 0) := by rfl
theorem ft_50_36 : ft_m 50 36 = some (.if_icmp .ge 28, 39, 64, 0, 0, 0, 0) := by rfl
theorem ft_50_39 : ft_m 50 39 = some (.aload_n 0, 40, 0, 0, 0, 0, 0) := by rfl
theorem ft_50_40 : ft_m 50 40 = some (.getfield 17, 43, 7, 1, 334, 0, 0) := by rfl
theorem ft_50_43 : ft_m 50 43 = some (.iload 4, 45, 4, 0, 0, 0, 0) := by rfl
theorem ft_50_45 : ft_m 50 45 = some (.aaload, 46, 0, 0, 0, 0, 0) := by rfl
theorem ft_50_46 : ft_m 50 46 = some (.getfield 190, 49, 3, 0, 302, 1, 0) := by rfl
theorem ft_50_49 : ft_m 50 49 = some (.iconst 0, 50, 0, 0, 0, 0, nI 0) := by rfl
theorem ft_50_50 : ft_m 50 50 = some (.laload, 51, 0, 0, 0, 0, 0) := by rfl
theorem ft_50_51 : ft_m 50 51 = some (.lload_n 2, 52, 2, 0, 0, 0, 0) := by rfl
theorem ft_50_52 : ft_m 50 52 = some (.lcmp, 53, 0, 0, 0, 0, 0) := by rfl
theorem ft_50_53 : ft_m 50 53 = some (.ifCond .ne 5, 56, 58, 0, 0, 0, 0) := by rfl
theorem ft_50_56 : ft_m 50 56 = some (.iconst 0, 57, 0, 0, 0, 0, nI 0) := by rfl
theorem ft_50_57 : ft_m 50 57 = some (.ireturn, 58, 0, 0, 0, 0, 0) := by rfl
theorem ft_50_58 : ft_m 50 58 = some (.iinc 4 1, 61, 4, 0, 0, 0, nI 1) := by rfl
theorem ft_50_61 : ft_m 50 61 = some (.goto (-28), 64, 33, 0, 0, 0, 0) := by rfl
theorem ft_50_64 : ft_m 50 64 = some (.iconst 1, 65, 0, 0, 0, 0, nI 1) := by rfl
theorem ft_50_65 : ft_m 50 65 = some (.ireturn, 66, 0, 0, 0, 0, 0) := by rfl
theorem ft_51_0 : ft_m 51 0 = some (.aload_n 1, 1, 1, 0, 0, 0, 0) := by rfl
theorem ft_51_1 : ft_m 51 1 = some (.iconst 1, 2, 0, 0, 0, 0, nI 1) := by rfl
theorem ft_51_2 : ft_m 51 2 = some (.laload, 3, 0, 0, 0, 0, 0) := by rfl
theorem ft_51_3 : ft_m 51 3 = some (.ldc2_w 306, 6, 0, 0, 627, 2, 0) := by rfl
theorem ft_51_6 : ft_m 51 6 = some (.lcmp, 7, 0, 0, 0, 0, 0) := by rfl
theorem ft_51_7 : ft_m 51 7 = some (.ifCond .lt 13, 10, 20, 0, 0, 0, 0) := by rfl
theorem ft_51_10 : ft_m 51 10 = some (.aload_n 1, 11, 1, 0, 0, 0, 0) := by rfl
theorem ft_51_11 : ft_m 51 11 = some (.iconst 1, 12, 0, 0, 0, 0, nI 1) := by rfl
theorem ft_51_12 : ft_m 51 12 = some (.laload, 13, 0, 0, 0, 0, 0) := by rfl
theorem ft_51_13 : ft_m 51 13 = some (.ldc2_w 102, 16, 0, 0, 458, 1000, 0) := by rfl
theorem ft_51_16 : ft_m 51 16 = some (.lcmp, 17, 0, 0, 0, 0, 0) := by rfl
theorem ft_51_17 : ft_m 51 17 = some (.ifCond .le 5, 20, 22, 0, 0, 0, 0) := by rfl
theorem ft_51_20 : ft_m 51 20 = some (.iconst 0, 21, 0, 0, 0, 0, nI 0) := by rfl
theorem ft_51_21 : ft_m 51 21 = some (.ireturn, 22, 0, 0, 0, 0, 0) := by rfl
theorem ft_51_22 : ft_m 51 22 = some (.aload_n 0, 23, 0, 0, 0, 0, 0) := by rfl
theorem ft_51_23 : ft_m 51 23 = some (.getfield 28, 26, 7, 3, 336, 0, 0) := by rfl
theorem ft_51_26 : ft_m 51 26 = some (.aload_n 2, 27, 2, 0, 0, 0, 0) := by rfl
theorem ft_51_27 : ft_m 51 27 = some (.aload_n 1, 28, 1, 0, 0, 0, 0) := by rfl
theorem ft_51_28 : ft_m 51 28 = some (.iconst 1, 29, 0, 0, 0, 0, nI 1) := by rfl
theorem ft_51_29 : ft_m 51 29 = some (.laload, 30, 0, 0, 0, 0, 0) := by rfl
theorem ft_51_30 : ft_m 51 30 = some (.l2i, 31, 0, 0, 0, 0, 0) := by rfl
theorem ft_51_31 : ft_m 51 31 = some (.invokevirtual 143, 34, 21, 0, 483, 0, 0) := by rfl
theorem ft_51_34 : ft_m 51 34 = some (.ifCond .ne 5, 37, 39, 0, 0, 0, 0) := by rfl
theorem ft_51_37 : ft_m 51 37 = some (.iconst 0, 38, 0, 0, 0, 0, nI 0) := by rfl
theorem ft_51_38 : ft_m 51 38 = some (.ireturn, 39, 0, 0, 0, 0, 0) := by rfl
theorem ft_51_39 : ft_m 51 39 = some (.aload_n 1, 40, 1, 0, 0, 0, 0) := by rfl
theorem ft_51_40 : ft_m 51 40 = some (.iconst 2, 41, 0, 0, 0, 0, nI 2) := by rfl
theorem ft_51_41 : ft_m 51 41 = some (.laload, 42, 0, 0, 0, 0, 0) := by rfl
theorem ft_51_42 : ft_m 51 42 = some (.aload_n 0, 43, 0, 0, 0, 0, 0) := by rfl
theorem ft_51_43 : ft_m 51 43 = some (.getfield 28, 46, 7, 3, 336, 0, 0) := by rfl
theorem ft_51_46 : ft_m 51 46 = some (.getfield 308, 49, 1, 9, 86, 1, 0) := by rfl
theorem ft_51_49 : ft_m 51 49 = some (.lcmp, 50, 0, 0, 0, 0, 0) := by rfl
theorem ft_51_50 : ft_m 51 50 = some (.ifCond .lt 41, 53, 91, 0, 0, 0, 0) := by rfl
theorem ft_51_53 : ft_m 51 53 = some (.aload_n 1, 54, 1, 0, 0, 0, 0) := by rfl
theorem ft_51_54 : ft_m 51 54 = some (.iconst 2, 55, 0, 0, 0, 0, nI 2) := by rfl
theorem ft_51_55 : ft_m 51 55 = some (.laload, 56, 0, 0, 0, 0, 0) := by rfl
theorem ft_51_56 : ft_m 51 56 = some (.ldc2_w 311, 59, 0, 0, 628, 70368744177664, 0) := by rfl
theorem ft_51_59 : ft_m 51 59 = some (.lcmp, 60, 0, 0, 0, 0, 0) := by rfl
theorem ft_51_60 : ft_m 51 60 = some (.ifCond .gt 31, 63, 91, 0, 0, 0, 0) := by rfl
theorem ft_51_63 : ft_m 51 63 = some (.aload_n 1, 64, 1, 0, 0, 0, 0) := by rfl
theorem ft_51_64 : ft_m 51 64 = some (.iconst 3, 65, 0, 0, 0, 0, nI 3) := by rfl
theorem ft_51_65 : ft_m 51 65 = some (.laload, 66, 0, 0, 0, 0, 0) := by rfl
theorem ft_51_66 : ft_m 51 66 = some (.aload_n 0, 67, 0, 0, 0, 0, 0) := by rfl
theorem ft_51_67 : ft_m 51 67 = some (.getfield 28, 70, 7, 3, 336, 0, 0) := by rfl
theorem ft_51_70 : ft_m 51 70 = some (.invokevirtual 313, 73, 8, 0, 629, 0, 0) := by rfl
theorem ft_51_73 : ft_m 51 73 = some (.lcmp, 74, 0, 0, 0, 0, 0) := by rfl
theorem ft_51_74 : ft_m 51 74 = some (.ifCond .lt 17, 77, 91, 0, 0, 0, 0) := by rfl
theorem ft_51_77 : ft_m 51 77 = some (.aload_n 1, 78, 1, 0, 0, 0, 0) := by rfl
theorem ft_51_78 : ft_m 51 78 = some (.iconst 3, 79, 0, 0, 0, 0, nI 3) := by rfl
theorem ft_51_79 : ft_m 51 79 = some (.laload, 80, 0, 0, 0, 0, 0) := by rfl
theorem ft_51_80 : ft_m 51 80 = some (.ldc2_w 315, 83, 0, 0, 630, 2147483648, 0) := by rfl
theorem ft_51_83 : ft_m 51 83 = some (.lcmp, 84, 0, 0, 0, 0, 0) := by rfl
theorem ft_51_84 : ft_m 51 84 = some (.ifCond .gt 7, 87, 91, 0, 0, 0, 0) := by rfl
theorem ft_51_87 : ft_m 51 87 = some (.iconst 1, 88, 0, 0, 0, 0, nI 1) := by rfl
theorem ft_51_88 : ft_m 51 88 = some (.goto 4, 91, 92, 0, 0, 0, 0) := by rfl
theorem ft_51_91 : ft_m 51 91 = some (.iconst 0, 92, 0, 0, 0, 0, nI 0) := by rfl
theorem ft_51_92 : ft_m 51 92 = some (.ireturn, 93, 0, 0, 0, 0, 0) := by rfl
theorem ft_52_0 : ft_m 52 0 = some (.aload_n 0, 1, 0, 0, 0, 0, 0) := by rfl
theorem ft_52_1 : ft_m 52 1 = some (.iconst 4, 2, 0, 0, 0, 0, nI 4) := by rfl
theorem ft_52_2 : ft_m 52 2 = some (.laload, 3, 0, 0, 0, 0, 0) := by rfl
theorem ft_52_3 : ft_m 52 3 = some (.ldc2_w 317, 6, 0, 0, 634, 17592186044416, 0) := by rfl
theorem ft_52_6 : ft_m 52 6 = some (.lcmp, 7, 0, 0, 0, 0, 0) := by rfl
theorem ft_52_7 : ft_m 52 7 = some (.ifCond .le 5, 10, 12, 0, 0, 0, 0) := by rfl
theorem ft_52_10 : ft_m 52 10 = some (.iconst 0, 11, 0, 0, 0, 0, nI 0) := by rfl
theorem ft_52_11 : ft_m 52 11 = some (.ireturn, 12, 0, 0, 0, 0, 0) := by rfl
theorem ft_52_12 : ft_m 52 12 = some (.aload_n 0, 13, 0, 0, 0, 0, 0) := by rfl
theorem ft_52_13 : ft_m 52 13 = some (.iconst 4, 14, 0, 0, 0, 0, nI 4) := by rfl
theorem ft_52_14 : ft_m 52 14 = some (.laload, 15, 0, 0, 0, 0, 0) := by rfl
theorem ft_52_15 : ft_m 52 15 = some (.aload_n 0, 16, 0, 0, 0, 0, 0) := by rfl
theorem ft_52_16 : ft_m 52 16 = some (.iconst 3, 17, 0, 0, 0, 0, nI 3) := by rfl
theorem ft_52_17 : ft_m 52 17 = some (.laload, 18, 0, 0, 0, 0, 0) := by rfl
theorem ft_52_18 : ft_m 52 18 = some (.invokestatic 319, 21, 10, 0, 635, 0, 0) := by rfl
theorem ft_52_21 : ft_m 52 21 = some (.lmul, 22, 0, 0, 0, 0, 0) := by rfl
theorem ft_52_22 : ft_m 52 22 = some (.aload_n 0, 23, 0, 0, 0, 0, 0) := by rfl
theorem ft_52_23 : ft_m 52 23 = some (.iconst 2, 24, 0, 0, 0, 0, nI 2) := by rfl
theorem ft_52_24 : ft_m 52 24 = some (.laload, 25, 0, 0, 0, 0, 0) := by rfl
theorem ft_52_25 : ft_m 52 25 = some (.bipush 16, 27, 0, 0, 0, 0, nI 16) := by rfl
theorem ft_52_27 : ft_m 52 27 = some (.lshl, 28, 0, 0, 0, 0, 0) := by rfl
theorem ft_52_28 : ft_m 52 28 = some (.lcmp, 29, 0, 0, 0, 0, 0) := by rfl
theorem ft_52_29 : ft_m 52 29 = some (.ifCond .lt 7, 32, 36, 0, 0, 0, 0) := by rfl
theorem ft_52_32 : ft_m 52 32 = some (.iconst 1, 33, 0, 0, 0, 0, nI 1) := by rfl
theorem ft_52_33 : ft_m 52 33 = some (.goto 4, 36, 37, 0, 0, 0, 0) := by rfl
theorem ft_52_36 : ft_m 52 36 = some (.iconst 0, 37, 0, 0, 0, 0, nI 0) := by rfl
theorem ft_52_37 : ft_m 52 37 = some (.ireturn, 38, 0, 0, 0, 0, 0) := by rfl
theorem ft_53_0 : ft_m 53 0 = some (.aload_n 1, 1, 1, 0, 0, 0, 0) := by rfl
theorem ft_53_1 : ft_m 53 1 = some (.bipush 6, 3, 0, 0, 0, 0, nI 6) := by rfl
theorem ft_53_3 : ft_m 53 3 = some (.laload, 4, 0, 0, 0, 0, 0) := by rfl
theorem ft_53_4 : ft_m 53 4 = some (.ldc2_w 324, 7, 0, 0, 641, 12, 0) := by rfl
theorem ft_53_7 : ft_m 53 7 = some (.lcmp, 8, 0, 0, 0, 0, 0) := by rfl
theorem ft_53_8 : ft_m 53 8 = some (.ifCond .le 5, 11, 13, 0, 0, 0, 0) := by rfl
theorem ft_53_11 : ft_m 53 11 = some (.iconst 0, 12, 0, 0, 0, 0, nI 0) := by rfl
theorem ft_53_12 : ft_m 53 12 = some (.ireturn, 13, 0, 0, 0, 0, 0) := by rfl
theorem ft_53_13 : ft_m 53 13 = some (.aload_n 1, 14, 1, 0, 0, 0, 0) := by rfl
theorem ft_53_14 : ft_m 53 14 = some (.bipush 6, 16, 0, 0, 0, 0, nI 6) := by rfl
theorem ft_53_16 : ft_m 53 16 = some (.laload, 17, 0, 0, 0, 0, 0) := by rfl
theorem ft_53_17 : ft_m 53 17 = some (.l2i, 18, 0, 0, 0, 0, 0) := by rfl
theorem ft_53_18 : ft_m 53 18 = some (.istore_n 2, 19, 2, 0, 0, 0, 0) := by rfl
theorem ft_53_19 : ft_m 53 19 = some (.aload_n 1, 20, 1, 0, 0, 0, 0) := by rfl
theorem ft_53_20 : ft_m 53 20 = some (.bipush 7, 22, 0, 0, 0, 0, nI 7) := by rfl
theorem ft_53_22 : ft_m 53 22 = some (.laload, 23, 0, 0, 0, 0, 0) := by rfl
theorem ft_53_23 : ft_m 53 23 = some (.aload_n 0, 24, 0, 0, 0, 0, 0) := by rfl
theorem ft_53_24 : ft_m 53 24 = some (.getfield 35, 27, 7, 4, 337, 0, 0) := by rfl
theorem ft_53_27 : ft_m 53 27 = some (.iload_n 2, 28, 2, 0, 0, 0, 0) := by rfl
theorem ft_53_28 : ft_m 53 28 = some (.invokevirtual 277, 31, 30, 0, 574, 0, 0) := by rfl
theorem ft_53_31 : ft_m 53 31 = some (.lcmp, 32, 0, 0, 0, 0, 0) := by rfl
theorem ft_53_32 : ft_m 53 32 = some (.ifCond .lt 44, 35, 76, 0, 0, 0, 0) := by rfl
theorem ft_53_35 : ft_m 53 35 = some (.aload_n 1, 36, 1, 0, 0, 0, 0) := by rfl
theorem ft_53_36 : ft_m 53 36 = some (.bipush 8, 38, 0, 0, 0, 0, nI 8) := by rfl
theorem ft_53_38 : ft_m 53 38 = some (.laload, 39, 0, 0, 0, 0, 0) := by rfl
theorem ft_53_39 : ft_m 53 39 = some (.aload_n 0, 40, 0, 0, 0, 0, 0) := by rfl
theorem ft_53_40 : ft_m 53 40 = some (.getfield 35, 43, 7, 4, 337, 0, 0) := by rfl
theorem ft_53_43 : ft_m 53 43 = some (.iload_n 2, 44, 2, 0, 0, 0, 0) := by rfl
theorem ft_53_44 : ft_m 53 44 = some (.invokevirtual 281, 47, 31, 0, 575, 0, 0) := by rfl
theorem ft_53_47 : ft_m 53 47 = some (.lcmp, 48, 0, 0, 0, 0, 0) := by rfl
theorem ft_53_48 : ft_m 53 48 = some (.ifCond .lt 28, 51, 76, 0, 0, 0, 0) := by rfl
theorem ft_53_51 : ft_m 53 51 = some (.aload_n 1, 52, 1, 0, 0, 0, 0) := by rfl
theorem ft_53_52 : ft_m 53 52 = some (.bipush 7, 54, 0, 0, 0, 0, nI 7) := by rfl
theorem ft_53_54 : ft_m 53 54 = some (.laload, 55, 0, 0, 0, 0, 0) := by rfl
theorem ft_53_55 : ft_m 53 55 = some (.aload_n 1, 56, 1, 0, 0, 0, 0) := by rfl
theorem ft_53_56 : ft_m 53 56 = some (.bipush 8, 58, 0, 0, 0, 0, nI 8) := by rfl
theorem ft_53_58 : ft_m 53 58 = some (.laload, 59, 0, 0, 0, 0, 0) := by rfl
theorem ft_53_59 : ft_m 53 59 = some (.ladd, 60, 0, 0, 0, 0, 0) := by rfl
theorem ft_53_60 : ft_m 53 60 = some (.lconst 1, 61, 0, 0, 0, 1, 0) := by rfl
theorem ft_53_61 : ft_m 53 61 = some (.aload_n 0, 62, 0, 0, 0, 0, 0) := by rfl
theorem ft_53_62 : ft_m 53 62 = some (.getfield 61, 65, 7, 9, 342, 0, 0) := by rfl
theorem ft_53_65 : ft_m 53 65 = some (.iconst 1, 66, 0, 0, 0, 0, nI 1) := by rfl
theorem ft_53_66 : ft_m 53 66 = some (.isub, 67, 0, 0, 0, 0, 0) := by rfl
theorem ft_53_67 : ft_m 53 67 = some (.lshl, 68, 0, 0, 0, 0, 0) := by rfl
theorem ft_53_68 : ft_m 53 68 = some (.lcmp, 69, 0, 0, 0, 0, 0) := by rfl
theorem ft_53_69 : ft_m 53 69 = some (.ifCond .ge 7, 72, 76, 0, 0, 0, 0) := by rfl
theorem ft_53_72 : ft_m 53 72 = some (.iconst 1, 73, 0, 0, 0, 0, nI 1) := by rfl
theorem ft_53_73 : ft_m 53 73 = some (.goto 4, 76, 77, 0, 0, 0, 0) := by rfl
theorem ft_53_76 : ft_m 53 76 = some (.iconst 0, 77, 0, 0, 0, 0, nI 0) := by rfl
theorem ft_53_77 : ft_m 53 77 = some (.ireturn, 78, 0, 0, 0, 0, 0) := by rfl
theorem ft_54_0 : ft_m 54 0 = some (.lconst 0, 1, 0, 0, 0, 0, 0) := by rfl
theorem ft_54_1 : ft_m 54 1 = some (.lstore_n 1, 2, 1, 0, 0, 0, 0) := by rfl
theorem ft_54_2 : ft_m 54 2 = some (.iconst 0, 3, 0, 0, 0, 0, nI 0) := by rfl
theorem ft_54_3 : ft_m 54 3 = some (.istore_n 3, 4, 3, 0, 0, 0, 0) := by rfl
theorem ft_54_4 : ft_m 54 4 = some (.iload_n 3, 5, 3, 0, 0, 0, 0) := by rfl
theorem ft_54_5 : ft_m 54 5 = some (.aload_n 0, 6, 0, 0, 0, 0, 0) := by rfl
theorem ft_54_6 : ft_m 54 6 = some (.getfield 53, 9, 7, 7, 340, 0, 0) := by rfl
theorem ft_54_9 : ft_m 54 9 = some (.if_icmp .ge 24, 12, 33, 0, 0, 0, 0) := by rfl
theorem ft_54_12 : ft_m 54 12 = some (.lload_n 1, 13, 1, 0, 0, 0, 0) := by rfl
theorem ft_54_13 : ft_m 54 13 = some (.aload_n 0, 14, 0, 0, 0, 0, 0) := by rfl
theorem ft_54_14 : ft_m 54 14 = some (.getfield 17, 17, 7, 1, 334, 0, 0) := by rfl
theorem ft_54_17 : ft_m 54 17 = some (.iload_n 3, 18, 3, 0, 0, 0, 0) := by rfl
theorem ft_54_18 : ft_m 54 18 = some (.aaload, 19, 0, 0, 0, 0, 0) := by rfl
theorem ft_54_19 : ft_m 54 19 = some (.getfield 190, 22, 3, 0, 302, 1, 0) := by rfl
theorem ft_54_22 : ft_m 54 22 = some (.bipush 6, 24, 0, 0, 0, 0, nI 6) := by rfl
theorem ft_54_24 : ft_m 54 24 = some (.laload, 25, 0, 0, 0, 0, 0) := by rfl
theorem ft_54_25 : ft_m 54 25 = some (.ladd, 26, 0, 0, 0, 0, 0) := by rfl
theorem ft_54_26 : ft_m 54 26 = some (.lstore_n 1, 27, 1, 0, 0, 0, 0) := by rfl
theorem ft_54_27 : ft_m 54 27 = some (.iinc 3 1, 30, 3, 0, 0, 0, nI 1) := by rfl
theorem ft_54_30 : ft_m 54 30 = some (.goto (-26), 33, 4, 0, 0, 0, 0) := by rfl
theorem ft_54_33 : ft_m 54 33 = some (.lload_n 1, 34, 1, 0, 0, 0, 0) := by rfl
theorem ft_54_34 : ft_m 54 34 = some (.lreturn, 35, 0, 0, 0, 0, 0) := by rfl
theorem ft_55_0 : ft_m 55 0 = some (.aload_n 0, 1, 0, 0, 0, 0, 0) := by rfl
theorem ft_55_1 : ft_m 55 1 = some (.getfield 57, 4, 7, 8, 341, 0, 0) := by rfl
theorem ft_55_4 : ft_m 55 4 = some (.ifCond .ne 5, 7, 9, 0, 0, 0, 0) := by rfl
theorem ft_55_7 : ft_m 55 7 = some (.iconst (-1), 8, 0, 0, 0, 0, (-1)) := by rfl
theorem ft_55_8 : ft_m 55 8 = some (.ireturn, 9, 0, 0, 0, 0, 0) := by rfl
theorem ft_55_9 : ft_m 55 9 = some (.iload_n 1, 10, 1, 0, 0, 0, 0) := by rfl
theorem ft_55_10 : ft_m 55 10 = some (.tableswitch 77 0 6 #[42, 47, 52, 57, 62, 67, 72], 52, 87, 42, 0, 0, 0) := by rfl
theorem ft_55_52 : ft_m 55 52 = some (.aload_n 0, 53, 0, 0, 0, 0, 0) := by rfl
theorem ft_55_53 : ft_m 55 53 = some (.getfield 70, 56, 7, 12, 345, 0, 0) := by rfl
theorem ft_55_56 : ft_m 55 56 = some (.ireturn, 57, 0, 0, 0, 0, 0) := by rfl
theorem ft_55_57 : ft_m 55 57 = some (.aload_n 0, 58, 0, 0, 0, 0, 0) := by rfl
theorem ft_55_58 : ft_m 55 58 = some (.getfield 61, 61, 7, 9, 342, 0, 0) := by rfl
theorem ft_55_61 : ft_m 55 61 = some (.ireturn, 62, 0, 0, 0, 0, 0) := by rfl
theorem ft_55_62 : ft_m 55 62 = some (.aload_n 0, 63, 0, 0, 0, 0, 0) := by rfl
theorem ft_55_63 : ft_m 55 63 = some (.getfield 64, 66, 7, 10, 343, 0, 0) := by rfl
theorem ft_55_66 : ft_m 55 66 = some (.ireturn, 67, 0, 0, 0, 0, 0) := by rfl
theorem ft_55_67 : ft_m 55 67 = some (.aload_n 0, 68, 0, 0, 0, 0, 0) := by rfl
theorem ft_55_68 : ft_m 55 68 = some (.getfield 67, 71, 7, 11, 344, 0, 0) := by rfl
theorem ft_55_71 : ft_m 55 71 = some (.ireturn, 72, 0, 0, 0, 0, 0) := by rfl
theorem ft_55_72 : ft_m 55 72 = some (.aload_n 0, 73, 0, 0, 0, 0, 0) := by rfl
theorem ft_55_73 : ft_m 55 73 = some (.getfield 73, 76, 7, 13, 346, 0, 0) := by rfl
theorem ft_55_76 : ft_m 55 76 = some (.ireturn, 77, 0, 0, 0, 0, 0) := by rfl
theorem ft_55_77 : ft_m 55 77 = some (.aload_n 0, 78, 0, 0, 0, 0, 0) := by rfl
theorem ft_55_78 : ft_m 55 78 = some (.getfield 79, 81, 7, 15, 348, 0, 0) := by rfl
theorem ft_55_81 : ft_m 55 81 = some (.ireturn, 82, 0, 0, 0, 0, 0) := by rfl
theorem ft_55_82 : ft_m 55 82 = some (.aload_n 0, 83, 0, 0, 0, 0, 0) := by rfl
theorem ft_55_83 : ft_m 55 83 = some (.getfield 76, 86, 7, 14, 347, 0, 0) := by rfl
theorem ft_55_86 : ft_m 55 86 = some (.ireturn, 87, 0, 0, 0, 0, 0) := by rfl
theorem ft_55_87 : ft_m 55 87 = some (.iconst (-1), 88, 0, 0, 0, 0, (-1)) := by rfl
theorem ft_55_88 : ft_m 55 88 = some (.ireturn, 89, 0, 0, 0, 0, 0) := by rfl
theorem ft_56_0 : ft_m 56 0 = some (.aload_n 0, 1, 0, 0, 0, 0, 0) := by rfl
theorem ft_56_1 : ft_m 56 1 = some (.getfield 57, 4, 7, 8, 341, 0, 0) := by rfl
theorem ft_56_4 : ft_m 56 4 = some (.ifCond .ne 7, 7, 11, 0, 0, 0, 0) := by rfl
theorem ft_56_7 : ft_m 56 7 = some (.ldc2_w 111, 10, 0, 0, 477, (-1), 0) := by rfl
theorem ft_56_10 : ft_m 56 10 = some (.lreturn, 11, 0, 0, 0, 0, 0) := by rfl
theorem ft_56_11 : ft_m 56 11 = some (.iload_n 1, 12, 1, 0, 0, 0, 0) := by rfl
theorem ft_56_12 : ft_m 56 12 = some (.i2l, 13, 0, 0, 0, 0, 0) := by rfl
theorem ft_56_13 : ft_m 56 13 = some (.invokestatic 199, 16, 1002, 0, 462, 0, 0) := by rfl
theorem ft_56_16 : ft_m 56 16 = some (.lconst 1, 17, 0, 0, 0, 1, 0) := by rfl
theorem ft_56_17 : ft_m 56 17 = some (.aload_n 0, 18, 0, 0, 0, 0, 0) := by rfl
theorem ft_56_18 : ft_m 56 18 = some (.getfield 64, 21, 7, 10, 343, 0, 0) := by rfl
theorem ft_56_21 : ft_m 56 21 = some (.iconst 1, 22, 0, 0, 0, 0, nI 1) := by rfl
theorem ft_56_22 : ft_m 56 22 = some (.isub, 23, 0, 0, 0, 0, 0) := by rfl
theorem ft_56_23 : ft_m 56 23 = some (.lshl, 24, 0, 0, 0, 0, 0) := by rfl
theorem ft_56_24 : ft_m 56 24 = some (.lcmp, 25, 0, 0, 0, 0, 0) := by rfl
theorem ft_56_25 : ft_m 56 25 = some (.ifCond .le 7, 28, 32, 0, 0, 0, 0) := by rfl
theorem ft_56_28 : ft_m 56 28 = some (.ldc2_w 205, 31, 0, 0, 654, (-2), 0) := by rfl
theorem ft_56_31 : ft_m 56 31 = some (.lreturn, 32, 0, 0, 0, 0, 0) := by rfl
theorem ft_56_32 : ft_m 56 32 = some (.aload_n 0, 33, 0, 0, 0, 0, 0) := by rfl
theorem ft_56_33 : ft_m 56 33 = some (.dup, 34, 0, 0, 0, 0, 0) := by rfl
theorem ft_56_34 : ft_m 56 34 = some (.getfield 79, 37, 7, 15, 348, 0, 0) := by rfl
theorem ft_56_37 : ft_m 56 37 = some (.iconst 1, 38, 0, 0, 0, 0, nI 1) := by rfl
theorem ft_56_38 : ft_m 56 38 = some (.iadd, 39, 0, 0, 0, 0, 0) := by rfl
theorem ft_56_39 : ft_m 56 39 = some (.putfield 79, 42, 7, 15, 348, 0, 0) := by rfl
theorem ft_56_42 : ft_m 56 42 = some (.iload_n 1, 43, 1, 0, 0, 0, 0) := by rfl
theorem ft_56_43 : ft_m 56 43 = some (.i2l, 44, 0, 0, 0, 0, 0) := by rfl
theorem ft_56_44 : ft_m 56 44 = some (.lconst 1, 45, 0, 0, 0, 1, 0) := by rfl
theorem ft_56_45 : ft_m 56 45 = some (.aload_n 0, 46, 0, 0, 0, 0, 0) := by rfl
theorem ft_56_46 : ft_m 56 46 = some (.getfield 70, 49, 7, 12, 345, 0, 0) := by rfl
theorem ft_56_49 : ft_m 56 49 = some (.lshl, 50, 0, 0, 0, 0, 0) := by rfl
theorem ft_56_50 : ft_m 56 50 = some (.lmul, 51, 0, 0, 0, 0, 0) := by rfl
theorem ft_56_51 : ft_m 56 51 = some (.lstore_n 2, 52, 2, 0, 0, 0, 0) := by rfl
theorem ft_56_52 : ft_m 56 52 = some (.iconst 0, 53, 0, 0, 0, 0, nI 0) := by rfl
theorem ft_56_53 : ft_m 56 53 = some (.istore 4, 55, 4, 0, 0, 0, 0) := by rfl
theorem ft_56_55 : ft_m 56 55 = some (.iload 4, 57, 4, 0, 0, 0, 0) := by rfl
theorem ft_56_57 : ft_m 56 57 = some (.aload_n 0, 58, 0, 0, 0, 0, 0) := by rfl
theorem ft_56_58 : ft_m 56 58 = some (.getfield 53, 61, 7, 7, 340, 0, 0) := by rfl
theorem ft_56_61 : ft_m 56 61 = some (.if_icmp .ge 39, 64, 100, 0, 0, 0, 0) := by rfl
theorem ft_56_64 : ft_m 56 64 = some (.aload_n 0, 65, 0, 0, 0, 0, 0) := by rfl
theorem ft_56_65 : ft_m 56 65 = some (.getfield 17, 68, 7, 1, 334, 0, 0) := by rfl
theorem ft_56_68 : ft_m 56 68 = some (.iload 4, 70, 4, 0, 0, 0, 0) := by rfl
theorem ft_56_70 : ft_m 56 70 = some (.aaload, 71, 0, 0, 0, 0, 0) := by rfl
theorem ft_56_71 : ft_m 56 71 = some (.astore 5, 73, 5, 0, 0, 0, 0) := by rfl
theorem ft_56_73 : ft_m 56 73 = some (.aload 5, 75, 5, 0, 0, 0, 0) := by rfl
theorem ft_56_75 : ft_m 56 75 = some (.aload_n 0, 76, 0, 0, 0, 0, 0) := by rfl
theorem ft_56_76 : ft_m 56 76 = some (.getfield 11, 79, 7, 0, 333, 0, 0) := by rfl
theorem ft_56_79 : ft_m 56 79 = some (.aload 5, 81, 5, 0, 0, 0, 0) := by rfl
theorem ft_56_81 : ft_m 56 81 = some (.getfield 207, 84, 3, 1, 304, 1, 0) := by rfl
theorem ft_56_84 : ft_m 56 84 = some (.aaload, 85, 0, 0, 0, 0, 0) := by rfl
theorem ft_56_85 : ft_m 56 85 = some (.lload_n 2, 86, 2, 0, 0, 0, 0) := by rfl
theorem ft_56_86 : ft_m 56 86 = some (.aload_n 0, 87, 0, 0, 0, 0, 0) := by rfl
theorem ft_56_87 : ft_m 56 87 = some (.getfield 67, 90, 7, 11, 344, 0, 0) := by rfl
theorem ft_56_90 : ft_m 56 90 = some (.invokevirtual 210, 93, 57, 0, 655, 0, 0) := by rfl
theorem ft_56_93 : ft_m 56 93 = some (.lstore_n 2, 94, 2, 0, 0, 0, 0) := by rfl
theorem ft_56_94 : ft_m 56 94 = some (.iinc 4 1, 97, 4, 0, 0, 0, nI 1) := by rfl
theorem ft_56_97 : ft_m 56 97 = some (.goto (-42), 100, 55, 0, 0, 0, 0) := by rfl
theorem ft_56_100 : ft_m 56 100 = some (.aload_n 0, 101, 0, 0, 0, 0, 0) := by rfl
theorem ft_56_101 : ft_m 56 101 = some (.lload_n 2, 102, 2, 0, 0, 0, 0) := by rfl
theorem ft_56_102 : ft_m 56 102 = some (.putfield 82, 105, 7, 16, 349, 0, 0) := by rfl
theorem ft_56_105 : ft_m 56 105 = some (.aload_n 0, 106, 0, 0, 0, 0, 0) := by rfl
theorem ft_56_106 : ft_m 56 106 = some (.getfield 79, 109, 7, 15, 348, 0, 0) := by rfl
theorem ft_56_109 : ft_m 56 109 = some (.bipush 32, 111, 0, 0, 0, 0, nI 32) := by rfl
theorem ft_56_111 : ft_m 56 111 = some (.if_icmp .gt 8, 114, 119, 0, 0, 0, 0) := by rfl
theorem ft_56_114 : ft_m 56 114 = some (.aload_n 0, 115, 0, 0, 0, 0, 0) := by rfl
theorem ft_56_115 : ft_m 56 115 = some (.iload_n 1, 116, 1, 0, 0, 0, 0) := by rfl
theorem ft_56_116 : ft_m 56 116 = some (.invokevirtual 214, 119, 58, 0, 661, 0, 0) := by rfl
theorem ft_56_119 : ft_m 56 119 = some (.lload_n 2, 120, 2, 0, 0, 0, 0) := by rfl
theorem ft_56_120 : ft_m 56 120 = some (.lreturn, 121, 0, 0, 0, 0, 0) := by rfl
theorem ft_57_0 : ft_m 57 0 = some (.aload_n 1, 1, 1, 0, 0, 0, 0) := by rfl
theorem ft_57_1 : ft_m 57 1 = some (.getfield 65, 4, 5, 0, 227, 1, 0) := by rfl
theorem ft_57_4 : ft_m 57 4 = some (.i2l, 5, 0, 0, 0, 0, 0) := by rfl
theorem ft_57_5 : ft_m 57 5 = some (.lload_n 2, 6, 2, 0, 0, 0, 0) := by rfl
theorem ft_57_6 : ft_m 57 6 = some (.lmul, 7, 0, 0, 0, 0, 0) := by rfl
theorem ft_57_7 : ft_m 57 7 = some (.aload_n 1, 8, 1, 0, 0, 0, 0) := by rfl
theorem ft_57_8 : ft_m 57 8 = some (.getfield 68, 11, 5, 1, 230, 1, 0) := by rfl
theorem ft_57_11 : ft_m 57 11 = some (.i2l, 12, 0, 0, 0, 0, 0) := by rfl
theorem ft_57_12 : ft_m 57 12 = some (.aload_n 0, 13, 0, 0, 0, 0, 0) := by rfl
theorem ft_57_13 : ft_m 57 13 = some (.getfield 50, 16, 3, 3, 306, 0, 0) := by rfl
theorem ft_57_16 : ft_m 57 16 = some (.lmul, 17, 0, 0, 0, 0, 0) := by rfl
theorem ft_57_17 : ft_m 57 17 = some (.ladd, 18, 0, 0, 0, 0, 0) := by rfl
theorem ft_57_18 : ft_m 57 18 = some (.aload_n 1, 19, 1, 0, 0, 0, 0) := by rfl
theorem ft_57_19 : ft_m 57 19 = some (.getfield 71, 22, 5, 2, 233, 1, 0) := by rfl
theorem ft_57_22 : ft_m 57 22 = some (.i2l, 23, 0, 0, 0, 0, 0) := by rfl
theorem ft_57_23 : ft_m 57 23 = some (.aload_n 0, 24, 0, 0, 0, 0, 0) := by rfl
theorem ft_57_24 : ft_m 57 24 = some (.getfield 53, 27, 3, 4, 308, 0, 0) := by rfl
theorem ft_57_27 : ft_m 57 27 = some (.lmul, 28, 0, 0, 0, 0, 0) := by rfl
theorem ft_57_28 : ft_m 57 28 = some (.ladd, 29, 0, 0, 0, 0, 0) := by rfl
theorem ft_57_29 : ft_m 57 29 = some (.aload_n 1, 30, 1, 0, 0, 0, 0) := by rfl
theorem ft_57_30 : ft_m 57 30 = some (.getfield 74, 33, 5, 3, 237, 1, 0) := by rfl
theorem ft_57_33 : ft_m 57 33 = some (.i2l, 34, 0, 0, 0, 0, 0) := by rfl
theorem ft_57_34 : ft_m 57 34 = some (.aload_n 0, 35, 0, 0, 0, 0, 0) := by rfl
theorem ft_57_35 : ft_m 57 35 = some (.getfield 56, 38, 3, 5, 310, 0, 0) := by rfl
theorem ft_57_38 : ft_m 57 38 = some (.lmul, 39, 0, 0, 0, 0, 0) := by rfl
theorem ft_57_39 : ft_m 57 39 = some (.lsub, 40, 0, 0, 0, 0, 0) := by rfl
theorem ft_57_40 : ft_m 57 40 = some (.aload_n 1, 41, 1, 0, 0, 0, 0) := by rfl
theorem ft_57_41 : ft_m 57 41 = some (.getfield 77, 44, 5, 4, 242, 1, 0) := by rfl
theorem ft_57_44 : ft_m 57 44 = some (.i2l, 45, 0, 0, 0, 0, 0) := by rfl
theorem ft_57_45 : ft_m 57 45 = some (.aload_n 0, 46, 0, 0, 0, 0, 0) := by rfl
theorem ft_57_46 : ft_m 57 46 = some (.getfield 59, 49, 3, 6, 312, 0, 0) := by rfl
theorem ft_57_49 : ft_m 57 49 = some (.lmul, 50, 0, 0, 0, 0, 0) := by rfl
theorem ft_57_50 : ft_m 57 50 = some (.lsub, 51, 0, 0, 0, 0, 0) := by rfl
theorem ft_57_51 : ft_m 57 51 = some (.lstore 5, 53, 5, 0, 0, 0, 0) := by rfl
theorem ft_57_53 : ft_m 57 53 = some (.iload 4, 55, 4, 0, 0, 0, 0) := by rfl
theorem ft_57_55 : ft_m 57 55 = some (.iconst 1, 56, 0, 0, 0, 0, nI 1) := by rfl
theorem ft_57_56 : ft_m 57 56 = some (.if_icmp .ne 15, 59, 71, 0, 0, 0, 0) := by rfl
theorem ft_57_59 : ft_m 57 59 = some (.lload 5, 61, 5, 0, 0, 0, 0) := by rfl
theorem ft_57_61 : ft_m 57 61 = some (.aload_n 0, 62, 0, 0, 0, 0, 0) := by rfl
theorem ft_57_62 : ft_m 57 62 = some (.getfield 62, 65, 3, 7, 314, 0, 0) := by rfl
theorem ft_57_65 : ft_m 57 65 = some (.ladd, 66, 0, 0, 0, 0, 0) := by rfl
theorem ft_57_66 : ft_m 57 66 = some (.lstore 5, 68, 5, 0, 0, 0, 0) := by rfl
theorem ft_57_68 : ft_m 57 68 = some (.goto 17, 71, 85, 0, 0, 0, 0) := by rfl
theorem ft_57_71 : ft_m 57 71 = some (.iload 4, 73, 4, 0, 0, 0, 0) := by rfl
theorem ft_57_73 : ft_m 57 73 = some (.iconst 2, 74, 0, 0, 0, 0, nI 2) := by rfl
theorem ft_57_74 : ft_m 57 74 = some (.if_icmp .ne 11, 77, 85, 0, 0, 0, 0) := by rfl
theorem ft_57_77 : ft_m 57 77 = some (.lload 5, 79, 5, 0, 0, 0, 0) := by rfl
theorem ft_57_79 : ft_m 57 79 = some (.ldc2_w 80, 82, 0, 0, 659, 8192, 0) := by rfl
theorem ft_57_82 : ft_m 57 82 = some (.ladd, 83, 0, 0, 0, 0, 0) := by rfl
theorem ft_57_83 : ft_m 57 83 = some (.lstore 5, 85, 5, 0, 0, 0, 0) := by rfl
theorem ft_57_85 : ft_m 57 85 = some (.aload_n 0, 86, 0, 0, 0, 0, 0) := by rfl
theorem ft_57_86 : ft_m 57 86 = some (.aload_n 0, 87, 0, 0, 0, 0, 0) := by rfl
theorem ft_57_87 : ft_m 57 87 = some (.getfield 50, 90, 3, 3, 306, 0, 0) := by rfl
theorem ft_57_90 : ft_m 57 90 = some (.putfield 53, 93, 3, 4, 308, 0, 0) := by rfl
theorem ft_57_93 : ft_m 57 93 = some (.aload_n 0, 94, 0, 0, 0, 0, 0) := by rfl
theorem ft_57_94 : ft_m 57 94 = some (.lload_n 2, 95, 2, 0, 0, 0, 0) := by rfl
theorem ft_57_95 : ft_m 57 95 = some (.putfield 50, 98, 3, 3, 306, 0, 0) := by rfl
theorem ft_57_98 : ft_m 57 98 = some (.aload_n 0, 99, 0, 0, 0, 0, 0) := by rfl
theorem ft_57_99 : ft_m 57 99 = some (.aload_n 0, 100, 0, 0, 0, 0, 0) := by rfl
theorem ft_57_100 : ft_m 57 100 = some (.getfield 56, 103, 3, 5, 310, 0, 0) := by rfl
theorem ft_57_103 : ft_m 57 103 = some (.putfield 59, 106, 3, 6, 312, 0, 0) := by rfl
theorem ft_57_106 : ft_m 57 106 = some (.aload_n 0, 107, 0, 0, 0, 0, 0) := by rfl
theorem ft_57_107 : ft_m 57 107 = some (.lload 5, 109, 5, 0, 0, 0, 0) := by rfl
theorem ft_57_109 : ft_m 57 109 = some (.bipush 14, 111, 0, 0, 0, 0, nI 14) := by rfl
theorem ft_57_111 : ft_m 57 111 = some (.lshr, 112, 0, 0, 0, 0, 0) := by rfl
theorem ft_57_112 : ft_m 57 112 = some (.putfield 56, 115, 3, 5, 310, 0, 0) := by rfl
theorem ft_57_115 : ft_m 57 115 = some (.aload_n 0, 116, 0, 0, 0, 0, 0) := by rfl
theorem ft_57_116 : ft_m 57 116 = some (.lload 5, 118, 5, 0, 0, 0, 0) := by rfl
theorem ft_57_118 : ft_m 57 118 = some (.ldc2_w 82, 121, 0, 0, 660, 16384, 0) := by rfl
theorem ft_57_121 : ft_m 57 121 = some (.aload_n 0, 122, 0, 0, 0, 0, 0) := by rfl
theorem ft_57_122 : ft_m 57 122 = some (.getfield 56, 125, 3, 5, 310, 0, 0) := by rfl
theorem ft_57_125 : ft_m 57 125 = some (.lmul, 126, 0, 0, 0, 0, 0) := by rfl
theorem ft_57_126 : ft_m 57 126 = some (.lsub, 127, 0, 0, 0, 0, 0) := by rfl
theorem ft_57_127 : ft_m 57 127 = some (.putfield 62, 130, 3, 7, 314, 0, 0) := by rfl
theorem ft_57_130 : ft_m 57 130 = some (.aload_n 0, 131, 0, 0, 0, 0, 0) := by rfl
theorem ft_57_131 : ft_m 57 131 = some (.getfield 56, 134, 3, 5, 310, 0, 0) := by rfl
theorem ft_57_134 : ft_m 57 134 = some (.aload_n 0, 135, 0, 0, 0, 0, 0) := by rfl
theorem ft_57_135 : ft_m 57 135 = some (.getfield 24, 138, 3, 2, 305, 0, 0) := by rfl
theorem ft_57_138 : ft_m 57 138 = some (.lshr, 139, 0, 0, 0, 0, 0) := by rfl
theorem ft_57_139 : ft_m 57 139 = some (.lreturn, 140, 0, 0, 0, 0, 0) := by rfl
theorem ft_58_0 : ft_m 58 0 = some (.aload_n 0, 1, 0, 0, 0, 0, 0) := by rfl
theorem ft_58_1 : ft_m 58 1 = some (.getfield 49, 4, 7, 6, 339, 0, 0) := by rfl
theorem ft_58_4 : ft_m 58 4 = some (.iload_n 1, 5, 1, 0, 0, 0, 0) := by rfl
theorem ft_58_5 : ft_m 58 5 = some (.i2l, 6, 0, 0, 0, 0, 0) := by rfl
theorem ft_58_6 : ft_m 58 6 = some (.aload_n 0, 7, 0, 0, 0, 0, 0) := by rfl
theorem ft_58_7 : ft_m 58 7 = some (.getfield 79, 10, 7, 15, 348, 0, 0) := by rfl
theorem ft_58_10 : ft_m 58 10 = some (.iconst 1, 11, 0, 0, 0, 0, nI 1) := by rfl
theorem ft_58_11 : ft_m 58 11 = some (.isub, 12, 0, 0, 0, 0, 0) := by rfl
theorem ft_58_12 : ft_m 58 12 = some (.invokevirtual 330, 15, 59, 0, 665, 0, 0) := by rfl
theorem ft_58_15 : ft_m 58 15 = some (.iconst 0, 16, 0, 0, 0, 0, nI 0) := by rfl
theorem ft_58_16 : ft_m 58 16 = some (.istore_n 2, 17, 2, 0, 0, 0, 0) := by rfl
theorem ft_58_17 : ft_m 58 17 = some (.iload_n 2, 18, 2, 0, 0, 0, 0) := by rfl
theorem ft_58_18 : ft_m 58 18 = some (.aload_n 0, 19, 0, 0, 0, 0, 0) := by rfl
theorem ft_58_19 : ft_m 58 19 = some (.getfield 53, 22, 7, 7, 340, 0, 0) := by rfl
theorem ft_58_22 : ft_m 58 22 = some (.if_icmp .ge 31, 25, 53, 0, 0, 0, 0) := by rfl
theorem ft_58_25 : ft_m 58 25 = some (.aload_n 0, 26, 0, 0, 0, 0, 0) := by rfl
theorem ft_58_26 : ft_m 58 26 = some (.getfield 49, 29, 7, 6, 339, 0, 0) := by rfl
theorem ft_58_29 : ft_m 58 29 = some (.iload_n 2, 30, 2, 0, 0, 0, 0) := by rfl
theorem ft_58_30 : ft_m 58 30 = some (.aload_n 0, 31, 0, 0, 0, 0, 0) := by rfl
theorem ft_58_31 : ft_m 58 31 = some (.getfield 11, 34, 7, 0, 333, 0, 0) := by rfl
theorem ft_58_34 : ft_m 58 34 = some (.aload_n 0, 35, 0, 0, 0, 0, 0) := by rfl
theorem ft_58_35 : ft_m 58 35 = some (.getfield 17, 38, 7, 1, 334, 0, 0) := by rfl
theorem ft_58_38 : ft_m 58 38 = some (.iload_n 2, 39, 2, 0, 0, 0, 0) := by rfl
theorem ft_58_39 : ft_m 58 39 = some (.aaload, 40, 0, 0, 0, 0, 0) := by rfl
theorem ft_58_40 : ft_m 58 40 = some (.getfield 207, 43, 3, 1, 304, 1, 0) := by rfl
theorem ft_58_43 : ft_m 58 43 = some (.aaload, 44, 0, 0, 0, 0, 0) := by rfl
theorem ft_58_44 : ft_m 58 44 = some (.invokevirtual 334, 47, 62, 0, 678, 0, 0) := by rfl
theorem ft_58_47 : ft_m 58 47 = some (.iinc 2 1, 50, 2, 0, 0, 0, nI 1) := by rfl
theorem ft_58_50 : ft_m 58 50 = some (.goto (-33), 53, 17, 0, 0, 0, 0) := by rfl
theorem ft_58_53 : ft_m 58 53 = some (.return_, 54, 0, 0, 0, 0, 0) := by rfl
theorem ft_59_0 : ft_m 59 0 = some (.aload_n 0, 1, 0, 0, 0, 0, 0) := by rfl
theorem ft_59_1 : ft_m 59 1 = some (.getfield 11, 4, 2, 0, 214, 0, 0) := by rfl
theorem ft_59_4 : ft_m 59 4 = some (.iconst 0, 5, 0, 0, 0, 0, nI 0) := by rfl
theorem ft_59_5 : ft_m 59 5 = some (.aaload, 6, 0, 0, 0, 0, 0) := by rfl
theorem ft_59_6 : ft_m 59 6 = some (.astore 4, 8, 4, 0, 0, 0, 0) := by rfl
theorem ft_59_8 : ft_m 59 8 = some (.aload 4, 10, 4, 0, 0, 0, 0) := by rfl
theorem ft_59_10 : ft_m 59 10 = some (.invokevirtual 25, 13, 60, 0, 669, 0, 0) := by rfl
theorem ft_59_13 : ft_m 59 13 = some (.iconst 0, 14, 0, 0, 0, 0, nI 0) := by rfl
theorem ft_59_14 : ft_m 59 14 = some (.istore 5, 16, 5, 0, 0, 0, 0) := by rfl
theorem ft_59_16 : ft_m 59 16 = some (.iload 5, 18, 5, 0, 0, 0, 0) := by rfl
theorem ft_59_18 : ft_m 59 18 = some (.bipush 60, 20, 0, 0, 0, 0, nI 60) := by rfl
theorem ft_59_20 : ft_m 59 20 = some (.if_icmp .ge 25, 23, 45, 0, 0, 0, 0) := by rfl
theorem ft_59_23 : ft_m 59 23 = some (.aload 4, 25, 4, 0, 0, 0, 0) := by rfl
theorem ft_59_25 : ft_m 59 25 = some (.getfield 28, 28, 6, 0, 202, 1, 0) := by rfl
theorem ft_59_28 : ft_m 59 28 = some (.iload 5, 30, 5, 0, 0, 0, 0) := by rfl
theorem ft_59_30 : ft_m 59 30 = some (.lload_n 1, 31, 1, 0, 0, 0, 0) := by rfl
theorem ft_59_31 : ft_m 59 31 = some (.iload 5, 33, 5, 0, 0, 0, 0) := by rfl
theorem ft_59_33 : ft_m 59 33 = some (.iload_n 3, 34, 3, 0, 0, 0, 0) := by rfl
theorem ft_59_34 : ft_m 59 34 = some (.isub, 35, 0, 0, 0, 0, 0) := by rfl
theorem ft_59_35 : ft_m 59 35 = some (.invokestatic 31, 38, 61, 0, 673, 0, 0) := by rfl
theorem ft_59_38 : ft_m 59 38 = some (.iastore, 39, 0, 0, 0, 0, 0) := by rfl
theorem ft_59_39 : ft_m 59 39 = some (.iinc 5 1, 42, 5, 0, 0, 0, nI 1) := by rfl
theorem ft_59_42 : ft_m 59 42 = some (.goto (-26), 45, 16, 0, 0, 0, 0) := by rfl
theorem ft_59_45 : ft_m 59 45 = some (.return_, 46, 0, 0, 0, 0, 0) := by rfl
theorem ft_60_0 : ft_m 60 0 = some (.aload_n 0, 1, 0, 0, 0, 0, 0) := by rfl
theorem ft_60_1 : ft_m 60 1 = some (.getfield 18, 4, 6, 2, 205, 0, 0) := by rfl
theorem ft_60_4 : ft_m 60 4 = some (.astore_n 1, 5, 1, 0, 0, 0, 0) := by rfl
theorem ft_60_5 : ft_m 60 5 = some (.aload_n 0, 6, 0, 0, 0, 0, 0) := by rfl
theorem ft_60_6 : ft_m 60 6 = some (.aload_n 0, 7, 0, 0, 0, 0, 0) := by rfl
theorem ft_60_7 : ft_m 60 7 = some (.getfield 15, 10, 6, 1, 203, 0, 0) := by rfl
theorem ft_60_10 : ft_m 60 10 = some (.putfield 18, 13, 6, 2, 205, 0, 0) := by rfl
theorem ft_60_13 : ft_m 60 13 = some (.aload_n 0, 14, 0, 0, 0, 0, 0) := by rfl
theorem ft_60_14 : ft_m 60 14 = some (.aload_n 0, 15, 0, 0, 0, 0, 0) := by rfl
theorem ft_60_15 : ft_m 60 15 = some (.getfield 9, 18, 6, 0, 201, 0, 0) := by rfl
theorem ft_60_18 : ft_m 60 18 = some (.putfield 15, 21, 6, 1, 203, 0, 0) := by rfl
theorem ft_60_21 : ft_m 60 21 = some (.aload_n 0, 22, 0, 0, 0, 0, 0) := by rfl
theorem ft_60_22 : ft_m 60 22 = some (.aload_n 1, 23, 1, 0, 0, 0, 0) := by rfl
theorem ft_60_23 : ft_m 60 23 = some (.putfield 9, 26, 6, 0, 201, 0, 0) := by rfl
theorem ft_60_26 : ft_m 60 26 = some (.return_, 27, 0, 0, 0, 0, 0) := by rfl
theorem ft_61_0 : ft_m 61 0 = some (.iload_n 2, 1, 2, 0, 0, 0, 0) := by rfl
theorem ft_61_1 : ft_m 61 1 = some (.ifCond .ge 7, 4, 8, 0, 0, 0, 0) := by rfl
theorem ft_61_4 : ft_m 61 4 = some (.iconst 0, 5, 0, 0, 0, 0, nI 0) := by rfl
theorem ft_61_5 : ft_m 61 5 = some (.goto 19, 8, 24, 0, 0, 0, 0) := by rfl
theorem ft_61_8 : ft_m 61 8 = some (.lload_n 0, 9, 0, 0, 0, 0, 0) := by rfl
theorem ft_61_9 : ft_m 61 9 = some (.bipush 63, 11, 0, 0, 0, 0, nI 63) := by rfl
theorem ft_61_11 : ft_m 61 11 = some (.bipush 14, 13, 0, 0, 0, 0, nI 14) := by rfl
theorem ft_61_13 : ft_m 61 13 = some (.iload_n 2, 14, 2, 0, 0, 0, 0) := by rfl
theorem ft_61_14 : ft_m 61 14 = some (.imul, 15, 0, 0, 0, 0, 0) := by rfl
theorem ft_61_15 : ft_m 61 15 = some (.invokestatic 75, 18, 1004, 0, 676, 0, 0) := by rfl
theorem ft_61_18 : ft_m 61 18 = some (.lshr, 19, 0, 0, 0, 0, 0) := by rfl
theorem ft_61_19 : ft_m 61 19 = some (.ldc2_w 59, 22, 0, 0, 677, 16383, 0) := by rfl
theorem ft_61_22 : ft_m 61 22 = some (.land, 23, 0, 0, 0, 0, 0) := by rfl
theorem ft_61_23 : ft_m 61 23 = some (.l2i, 24, 0, 0, 0, 0, 0) := by rfl
theorem ft_61_24 : ft_m 61 24 = some (.ireturn, 25, 0, 0, 0, 0, 0) := by rfl
theorem ft_62_0 : ft_m 62 0 = some (.aload_n 0, 1, 0, 0, 0, 0, 0) := by rfl
theorem ft_62_1 : ft_m 62 1 = some (.getfield 11, 4, 2, 0, 214, 0, 0) := by rfl
theorem ft_62_4 : ft_m 62 4 = some (.iload_n 1, 5, 1, 0, 0, 0, 0) := by rfl
theorem ft_62_5 : ft_m 62 5 = some (.aaload, 6, 0, 0, 0, 0, 0) := by rfl
theorem ft_62_6 : ft_m 62 6 = some (.astore_n 3, 7, 3, 0, 0, 0, 0) := by rfl
theorem ft_62_7 : ft_m 62 7 = some (.aload_n 0, 8, 0, 0, 0, 0, 0) := by rfl
theorem ft_62_8 : ft_m 62 8 = some (.getfield 11, 11, 2, 0, 214, 0, 0) := by rfl
theorem ft_62_11 : ft_m 62 11 = some (.iload_n 1, 12, 1, 0, 0, 0, 0) := by rfl
theorem ft_62_12 : ft_m 62 12 = some (.iconst 1, 13, 0, 0, 0, 0, nI 1) := by rfl
theorem ft_62_13 : ft_m 62 13 = some (.iadd, 14, 0, 0, 0, 0, 0) := by rfl
theorem ft_62_14 : ft_m 62 14 = some (.aaload, 15, 0, 0, 0, 0, 0) := by rfl
theorem ft_62_15 : ft_m 62 15 = some (.astore 4, 17, 4, 0, 0, 0, 0) := by rfl
theorem ft_62_17 : ft_m 62 17 = some (.aload 4, 19, 4, 0, 0, 0, 0) := by rfl
theorem ft_62_19 : ft_m 62 19 = some (.invokevirtual 25, 22, 60, 0, 669, 0, 0) := by rfl
theorem ft_62_22 : ft_m 62 22 = some (.lconst 0, 23, 0, 0, 0, 0, 0) := by rfl
theorem ft_62_23 : ft_m 62 23 = some (.lstore 5, 25, 5, 0, 0, 0, 0) := by rfl
theorem ft_62_25 : ft_m 62 25 = some (.iconst 0, 26, 0, 0, 0, 0, nI 0) := by rfl
theorem ft_62_26 : ft_m 62 26 = some (.istore 7, 28, 7, 0, 0, 0, 0) := by rfl
theorem ft_62_28 : ft_m 62 28 = some (.iload 7, 30, 7, 0, 0, 0, 0) := by rfl
theorem ft_62_30 : ft_m 62 30 = some (.bipush 60, 32, 0, 0, 0, 0, nI 60) := by rfl
theorem ft_62_32 : ft_m 62 32 = some (.if_icmp .ge 138, 35, 170, 0, 0, 0, 0) := by rfl
theorem ft_62_35 : ft_m 62 35 = some (.lload 5, 37, 5, 0, 0, 0, 0) := by rfl
theorem ft_62_37 : ft_m 62 37 = some (.aload_n 2, 38, 2, 0, 0, 0, 0) := by rfl
theorem ft_62_38 : ft_m 62 38 = some (.getfield 35, 41, 5, 0, 228, 1, 0) := by rfl
theorem ft_62_41 : ft_m 62 41 = some (.i2l, 42, 0, 0, 0, 0, 0) := by rfl
theorem ft_62_42 : ft_m 62 42 = some (.aload_n 3, 43, 3, 0, 0, 0, 0) := by rfl
theorem ft_62_43 : ft_m 62 43 = some (.getfield 28, 46, 6, 0, 202, 1, 0) := by rfl
theorem ft_62_46 : ft_m 62 46 = some (.iload 7, 48, 7, 0, 0, 0, 0) := by rfl
theorem ft_62_48 : ft_m 62 48 = some (.iaload, 49, 0, 0, 0, 0, 0) := by rfl
theorem ft_62_49 : ft_m 62 49 = some (.i2l, 50, 0, 0, 0, 0, 0) := by rfl
theorem ft_62_50 : ft_m 62 50 = some (.lmul, 51, 0, 0, 0, 0, 0) := by rfl
theorem ft_62_51 : ft_m 62 51 = some (.ladd, 52, 0, 0, 0, 0, 0) := by rfl
theorem ft_62_52 : ft_m 62 52 = some (.aload_n 2, 53, 2, 0, 0, 0, 0) := by rfl
theorem ft_62_53 : ft_m 62 53 = some (.getfield 41, 56, 5, 3, 238, 1, 0) := by rfl
theorem ft_62_56 : ft_m 62 56 = some (.i2l, 57, 0, 0, 0, 0, 0) := by rfl
theorem ft_62_57 : ft_m 62 57 = some (.aload 4, 59, 4, 0, 0, 0, 0) := by rfl
theorem ft_62_59 : ft_m 62 59 = some (.getfield 44, 62, 6, 1, 204, 1, 0) := by rfl
theorem ft_62_62 : ft_m 62 62 = some (.iload 7, 64, 7, 0, 0, 0, 0) := by rfl
theorem ft_62_64 : ft_m 62 64 = some (.iaload, 65, 0, 0, 0, 0, 0) := by rfl
theorem ft_62_65 : ft_m 62 65 = some (.i2l, 66, 0, 0, 0, 0, 0) := by rfl
theorem ft_62_66 : ft_m 62 66 = some (.lmul, 67, 0, 0, 0, 0, 0) := by rfl
theorem ft_62_67 : ft_m 62 67 = some (.lsub, 68, 0, 0, 0, 0, 0) := by rfl
theorem ft_62_68 : ft_m 62 68 = some (.lstore 8, 70, 8, 0, 0, 0, 0) := by rfl
theorem ft_62_70 : ft_m 62 70 = some (.iload 7, 72, 7, 0, 0, 0, 0) := by rfl
theorem ft_62_72 : ft_m 62 72 = some (.iconst 1, 73, 0, 0, 0, 0, nI 1) := by rfl
theorem ft_62_73 : ft_m 62 73 = some (.if_icmp .lt 42, 76, 115, 0, 0, 0, 0) := by rfl
theorem ft_62_76 : ft_m 62 76 = some (.lload 8, 78, 8, 0, 0, 0, 0) := by rfl
theorem ft_62_78 : ft_m 62 78 = some (.aload_n 2, 79, 2, 0, 0, 0, 0) := by rfl
theorem ft_62_79 : ft_m 62 79 = some (.getfield 47, 82, 5, 1, 231, 1, 0) := by rfl
theorem ft_62_82 : ft_m 62 82 = some (.i2l, 83, 0, 0, 0, 0, 0) := by rfl
theorem ft_62_83 : ft_m 62 83 = some (.aload_n 3, 84, 3, 0, 0, 0, 0) := by rfl
theorem ft_62_84 : ft_m 62 84 = some (.getfield 44, 87, 6, 1, 204, 1, 0) := by rfl
theorem ft_62_87 : ft_m 62 87 = some (.iload 7, 89, 7, 0, 0, 0, 0) := by rfl
theorem ft_62_89 : ft_m 62 89 = some (.iconst 1, 90, 0, 0, 0, 0, nI 1) := by rfl
theorem ft_62_90 : ft_m 62 90 = some (.isub, 91, 0, 0, 0, 0, 0) := by rfl
theorem ft_62_91 : ft_m 62 91 = some (.iaload, 92, 0, 0, 0, 0, 0) := by rfl
theorem ft_62_92 : ft_m 62 92 = some (.i2l, 93, 0, 0, 0, 0, 0) := by rfl
theorem ft_62_93 : ft_m 62 93 = some (.lmul, 94, 0, 0, 0, 0, 0) := by rfl
theorem ft_62_94 : ft_m 62 94 = some (.aload_n 2, 95, 2, 0, 0, 0, 0) := by rfl
theorem ft_62_95 : ft_m 62 95 = some (.getfield 50, 98, 5, 4, 243, 1, 0) := by rfl
theorem ft_62_98 : ft_m 62 98 = some (.i2l, 99, 0, 0, 0, 0, 0) := by rfl
theorem ft_62_99 : ft_m 62 99 = some (.aload 4, 101, 4, 0, 0, 0, 0) := by rfl
theorem ft_62_101 : ft_m 62 101 = some (.getfield 53, 104, 6, 2, 206, 1, 0) := by rfl
theorem ft_62_104 : ft_m 62 104 = some (.iload 7, 106, 7, 0, 0, 0, 0) := by rfl
theorem ft_62_106 : ft_m 62 106 = some (.iconst 1, 107, 0, 0, 0, 0, nI 1) := by rfl
theorem ft_62_107 : ft_m 62 107 = some (.isub, 108, 0, 0, 0, 0, 0) := by rfl
theorem ft_62_108 : ft_m 62 108 = some (.iaload, 109, 0, 0, 0, 0, 0) := by rfl
theorem ft_62_109 : ft_m 62 109 = some (.i2l, 110, 0, 0, 0, 0, 0) := by rfl
theorem ft_62_110 : ft_m 62 110 = some (.lmul, 111, 0, 0, 0, 0, 0) := by rfl
theorem ft_62_111 : ft_m 62 111 = some (.lsub, 112, 0, 0, 0, 0, 0) := by rfl
theorem ft_62_112 : ft_m 62 112 = some (.ladd, 113, 0, 0, 0, 0, 0) := by rfl
theorem ft_62_113 : ft_m 62 113 = some (.lstore 8, 115, 8, 0, 0, 0, 0) := by rfl
theorem ft_62_115 : ft_m 62 115 = some (.iload 7, 117, 7, 0, 0, 0, 0) := by rfl
theorem ft_62_117 : ft_m 62 117 = some (.iconst 2, 118, 0, 0, 0, 0, nI 2) := by rfl
theorem ft_62_118 : ft_m 62 118 = some (.if_icmp .lt 24, 121, 142, 0, 0, 0, 0) := by rfl
theorem ft_62_121 : ft_m 62 121 = some (.lload 8, 123, 8, 0, 0, 0, 0) := by rfl
theorem ft_62_123 : ft_m 62 123 = some (.aload_n 2, 124, 2, 0, 0, 0, 0) := by rfl
theorem ft_62_124 : ft_m 62 124 = some (.getfield 56, 127, 5, 2, 234, 1, 0) := by rfl
theorem ft_62_127 : ft_m 62 127 = some (.i2l, 128, 0, 0, 0, 0, 0) := by rfl
theorem ft_62_128 : ft_m 62 128 = some (.aload_n 3, 129, 3, 0, 0, 0, 0) := by rfl
theorem ft_62_129 : ft_m 62 129 = some (.getfield 53, 132, 6, 2, 206, 1, 0) := by rfl
theorem ft_62_132 : ft_m 62 132 = some (.iload 7, 134, 7, 0, 0, 0, 0) := by rfl
theorem ft_62_134 : ft_m 62 134 = some (.iconst 2, 135, 0, 0, 0, 0, nI 2) := by rfl
theorem ft_62_135 : ft_m 62 135 = some (.isub, 136, 0, 0, 0, 0, 0) := by rfl
theorem ft_62_136 : ft_m 62 136 = some (.iaload, 137, 0, 0, 0, 0, 0) := by rfl
theorem ft_62_137 : ft_m 62 137 = some (.i2l, 138, 0, 0, 0, 0, 0) := by rfl
theorem ft_62_138 : ft_m 62 138 = some (.lmul, 139, 0, 0, 0, 0, 0) := by rfl
theorem ft_62_139 : ft_m 62 139 = some (.ladd, 140, 0, 0, 0, 0, 0) := by rfl
theorem ft_62_140 : ft_m 62 140 = some (.lstore 8, 142, 8, 0, 0, 0, 0) := by rfl
theorem ft_62_142 : ft_m 62 142 = some (.aload 4, 144, 4, 0, 0, 0, 0) := by rfl
theorem ft_62_144 : ft_m 62 144 = some (.getfield 28, 147, 6, 0, 202, 1, 0) := by rfl
theorem ft_62_147 : ft_m 62 147 = some (.iload 7, 149, 7, 0, 0, 0, 0) := by rfl
theorem ft_62_149 : ft_m 62 149 = some (.lload 8, 151, 8, 0, 0, 0, 0) := by rfl
theorem ft_62_151 : ft_m 62 151 = some (.ldc2_w 59, 154, 0, 0, 677, 16383, 0) := by rfl
theorem ft_62_154 : ft_m 62 154 = some (.land, 155, 0, 0, 0, 0, 0) := by rfl
theorem ft_62_155 : ft_m 62 155 = some (.l2i, 156, 0, 0, 0, 0, 0) := by rfl
theorem ft_62_156 : ft_m 62 156 = some (.iastore, 157, 0, 0, 0, 0, 0) := by rfl
theorem ft_62_157 : ft_m 62 157 = some (.lload 8, 159, 8, 0, 0, 0, 0) := by rfl
theorem ft_62_159 : ft_m 62 159 = some (.bipush 14, 161, 0, 0, 0, 0, nI 14) := by rfl
theorem ft_62_161 : ft_m 62 161 = some (.lshr, 162, 0, 0, 0, 0, 0) := by rfl
theorem ft_62_162 : ft_m 62 162 = some (.lstore 5, 164, 5, 0, 0, 0, 0) := by rfl
theorem ft_62_164 : ft_m 62 164 = some (.iinc 7 1, 167, 7, 0, 0, 0, nI 1) := by rfl
theorem ft_62_167 : ft_m 62 167 = some (.goto (-139), 170, 28, 0, 0, 0, 0) := by rfl
theorem ft_62_170 : ft_m 62 170 = some (.return_, 171, 0, 0, 0, 0, 0) := by rfl
theorem ft_63_0 : ft_m 63 0 = some (.aload_n 0, 1, 0, 0, 0, 0, 0) := by rfl
theorem ft_63_1 : ft_m 63 1 = some (.iload_n 1, 2, 1, 0, 0, 0, 0) := by rfl
theorem ft_63_2 : ft_m 63 2 = some (.invokevirtual 184, 5, 45, 0, 599, 0, 0) := by rfl
theorem ft_63_5 : ft_m 63 5 = some (.ifCond .ne 5, 8, 10, 0, 0, 0, 0) := by rfl
theorem ft_63_8 : ft_m 63 8 = some (.lconst 0, 9, 0, 0, 0, 0, 0) := by rfl
theorem ft_63_9 : ft_m 63 9 = some (.lreturn, 10, 0, 0, 0, 0, 0) := by rfl
theorem ft_63_10 : ft_m 63 10 = some (.aload_n 0, 11, 0, 0, 0, 0, 0) := by rfl
theorem ft_63_11 : ft_m 63 11 = some (.getfield 17, 14, 7, 1, 334, 0, 0) := by rfl
theorem ft_63_14 : ft_m 63 14 = some (.iload_n 1, 15, 1, 0, 0, 0, 0) := by rfl
theorem ft_63_15 : ft_m 63 15 = some (.aaload, 16, 0, 0, 0, 0, 0) := by rfl
theorem ft_63_16 : ft_m 63 16 = some (.astore_n 3, 17, 3, 0, 0, 0, 0) := by rfl
theorem ft_63_17 : ft_m 63 17 = some (.iload_n 2, 18, 2, 0, 0, 0, 0) := by rfl
theorem ft_63_18 : ft_m 63 18 = some (.tableswitch 59 0 4 #[34, 39, 44, 49, 54], 52, 77, 34, 0, 0, 0) := by rfl
theorem ft_63_52 : ft_m 63 52 = some (.aload_n 3, 53, 3, 0, 0, 0, 0) := by rfl
theorem ft_63_53 : ft_m 63 53 = some (.getfield 218, 56, 3, 3, 307, 1, 0) := by rfl
theorem ft_63_56 : ft_m 63 56 = some (.lreturn, 57, 0, 0, 0, 0, 0) := by rfl
theorem ft_63_57 : ft_m 63 57 = some (.aload_n 3, 58, 3, 0, 0, 0, 0) := by rfl
theorem ft_63_58 : ft_m 63 58 = some (.getfield 221, 61, 3, 4, 309, 1, 0) := by rfl
theorem ft_63_61 : ft_m 63 61 = some (.lreturn, 62, 0, 0, 0, 0, 0) := by rfl
theorem ft_63_62 : ft_m 63 62 = some (.aload_n 3, 63, 3, 0, 0, 0, 0) := by rfl
theorem ft_63_63 : ft_m 63 63 = some (.getfield 224, 66, 3, 5, 311, 1, 0) := by rfl
theorem ft_63_66 : ft_m 63 66 = some (.lreturn, 67, 0, 0, 0, 0, 0) := by rfl
theorem ft_63_67 : ft_m 63 67 = some (.aload_n 3, 68, 3, 0, 0, 0, 0) := by rfl
theorem ft_63_68 : ft_m 63 68 = some (.getfield 227, 71, 3, 6, 313, 1, 0) := by rfl
theorem ft_63_71 : ft_m 63 71 = some (.lreturn, 72, 0, 0, 0, 0, 0) := by rfl
theorem ft_63_72 : ft_m 63 72 = some (.aload_n 3, 73, 3, 0, 0, 0, 0) := by rfl
theorem ft_63_73 : ft_m 63 73 = some (.getfield 230, 76, 3, 7, 315, 1, 0) := by rfl
theorem ft_63_76 : ft_m 63 76 = some (.lreturn, 77, 0, 0, 0, 0, 0) := by rfl
theorem ft_63_77 : ft_m 63 77 = some (.lconst 0, 78, 0, 0, 0, 0, 0) := by rfl
theorem ft_63_78 : ft_m 63 78 = some (.lreturn, 79, 0, 0, 0, 0, 0) := by rfl
theorem ft_64_0 : ft_m 64 0 = some (.aload_n 0, 1, 0, 0, 0, 0, 0) := by rfl
theorem ft_64_1 : ft_m 64 1 = some (.invokevirtual 233, 4, 65, 0, 690, 0, 0) := by rfl
theorem ft_64_4 : ft_m 64 4 = some (.ifCond .ne 7, 7, 11, 0, 0, 0, 0) := by rfl
theorem ft_64_7 : ft_m 64 7 = some (.ldc2_w 111, 10, 0, 0, 477, (-1), 0) := by rfl
theorem ft_64_10 : ft_m 64 10 = some (.lreturn, 11, 0, 0, 0, 0, 0) := by rfl
theorem ft_64_11 : ft_m 64 11 = some (.aload_n 0, 12, 0, 0, 0, 0, 0) := by rfl
theorem ft_64_12 : ft_m 64 12 = some (.getfield 49, 15, 7, 6, 339, 0, 0) := by rfl
theorem ft_64_15 : ft_m 64 15 = some (.aload_n 0, 16, 0, 0, 0, 0, 0) := by rfl
theorem ft_64_16 : ft_m 64 16 = some (.getfield 82, 19, 7, 16, 349, 0, 0) := by rfl
theorem ft_64_19 : ft_m 64 19 = some (.aload_n 0, 20, 0, 0, 0, 0, 0) := by rfl
theorem ft_64_20 : ft_m 64 20 = some (.getfield 73, 23, 7, 13, 346, 0, 0) := by rfl
theorem ft_64_23 : ft_m 64 23 = some (.aload_n 0, 24, 0, 0, 0, 0, 0) := by rfl
theorem ft_64_24 : ft_m 64 24 = some (.invokevirtual 236, 27, 66, 0, 694, 0, 0) := by rfl
theorem ft_64_27 : ft_m 64 27 = some (.aload_n 0, 28, 0, 0, 0, 0, 0) := by rfl
theorem ft_64_28 : ft_m 64 28 = some (.getfield 53, 31, 7, 7, 340, 0, 0) := by rfl
theorem ft_64_31 : ft_m 64 31 = some (.invokevirtual 240, 34, 67, 0, 698, 0, 0) := by rfl
theorem ft_64_34 : ft_m 64 34 = some (.lreturn, 35, 0, 0, 0, 0, 0) := by rfl
theorem ft_65_0 : ft_m 65 0 = some (.aload_n 0, 1, 0, 0, 0, 0, 0) := by rfl
theorem ft_65_1 : ft_m 65 1 = some (.getfield 57, 4, 7, 8, 341, 0, 0) := by rfl
theorem ft_65_4 : ft_m 65 4 = some (.ifCond .eq 24, 7, 28, 0, 0, 0, 0) := by rfl
theorem ft_65_7 : ft_m 65 7 = some (.aload_n 0, 8, 0, 0, 0, 0, 0) := by rfl
theorem ft_65_8 : ft_m 65 8 = some (.getfield 79, 11, 7, 15, 348, 0, 0) := by rfl
theorem ft_65_11 : ft_m 65 11 = some (.iconst 1, 12, 0, 0, 0, 0, nI 1) := by rfl
theorem ft_65_12 : ft_m 65 12 = some (.if_icmp .lt 16, 15, 28, 0, 0, 0, 0) := by rfl
theorem ft_65_15 : ft_m 65 15 = some (.aload_n 0, 16, 0, 0, 0, 0, 0) := by rfl
theorem ft_65_16 : ft_m 65 16 = some (.getfield 79, 19, 7, 15, 348, 0, 0) := by rfl
theorem ft_65_19 : ft_m 65 19 = some (.bipush 32, 21, 0, 0, 0, 0, nI 32) := by rfl
theorem ft_65_21 : ft_m 65 21 = some (.if_icmp .gt 7, 24, 28, 0, 0, 0, 0) := by rfl
theorem ft_65_24 : ft_m 65 24 = some (.iconst 1, 25, 0, 0, 0, 0, nI 1) := by rfl
theorem ft_65_25 : ft_m 65 25 = some (.goto 4, 28, 29, 0, 0, 0, 0) := by rfl
theorem ft_65_28 : ft_m 65 28 = some (.iconst 0, 29, 0, 0, 0, 0, nI 0) := by rfl
theorem ft_65_29 : ft_m 65 29 = some (.ireturn, 30, 0, 0, 0, 0, 0) := by rfl
theorem ft_66_0 : ft_m 66 0 = some (.aload_n 0, 1, 0, 0, 0, 0, 0) := by rfl
theorem ft_66_1 : ft_m 66 1 = some (.getfield 79, 4, 7, 15, 348, 0, 0) := by rfl
theorem ft_66_4 : ft_m 66 4 = some (.aload_n 0, 5, 0, 0, 0, 0, 0) := by rfl
theorem ft_66_5 : ft_m 66 5 = some (.getfield 53, 8, 7, 7, 340, 0, 0) := by rfl
theorem ft_66_8 : ft_m 66 8 = some (.iadd, 9, 0, 0, 0, 0, 0) := by rfl
theorem ft_66_9 : ft_m 66 9 = some (.iconst 1, 10, 0, 0, 0, 0, nI 1) := by rfl
theorem ft_66_10 : ft_m 66 10 = some (.isub, 11, 0, 0, 0, 0, 0) := by rfl
theorem ft_66_11 : ft_m 66 11 = some (.ireturn, 12, 0, 0, 0, 0, 0) := by rfl
theorem ft_67_0 : ft_m 67 0 = some (.aload_n 0, 1, 0, 0, 0, 0, 0) := by rfl
theorem ft_67_1 : ft_m 67 1 = some (.getfield 11, 4, 2, 0, 214, 0, 0) := by rfl
theorem ft_67_4 : ft_m 67 4 = some (.iload 5, 6, 5, 0, 0, 0, 0) := by rfl
theorem ft_67_6 : ft_m 67 6 = some (.aaload, 7, 0, 0, 0, 0, 0) := by rfl
theorem ft_67_7 : ft_m 67 7 = some (.getfield 28, 10, 6, 0, 202, 1, 0) := by rfl
theorem ft_67_10 : ft_m 67 10 = some (.astore 6, 12, 6, 0, 0, 0, 0) := by rfl
theorem ft_67_12 : ft_m 67 12 = some (.lconst 0, 13, 0, 0, 0, 0, 0) := by rfl
theorem ft_67_13 : ft_m 67 13 = some (.lstore 7, 15, 7, 0, 0, 0, 0) := by rfl
theorem ft_67_15 : ft_m 67 15 = some (.iconst 0, 16, 0, 0, 0, 0, nI 0) := by rfl
theorem ft_67_16 : ft_m 67 16 = some (.istore 9, 18, 9, 0, 0, 0, 0) := by rfl
theorem ft_67_18 : ft_m 67 18 = some (.iload 9, 20, 9, 0, 0, 0, 0) := by rfl
theorem ft_67_20 : ft_m 67 20 = some (.bipush 60, 22, 0, 0, 0, 0, nI 60) := by rfl
theorem ft_67_22 : ft_m 67 22 = some (.if_icmp .ge 54, 25, 76, 0, 0, 0, 0) := by rfl
theorem ft_67_25 : ft_m 67 25 = some (.lload 7, 27, 7, 0, 0, 0, 0) := by rfl
theorem ft_67_27 : ft_m 67 27 = some (.lload_n 1, 28, 1, 0, 0, 0, 0) := by rfl
theorem ft_67_28 : ft_m 67 28 = some (.iload 9, 30, 9, 0, 0, 0, 0) := by rfl
theorem ft_67_30 : ft_m 67 30 = some (.iload 4, 32, 4, 0, 0, 0, 0) := by rfl
theorem ft_67_32 : ft_m 67 32 = some (.isub, 33, 0, 0, 0, 0, 0) := by rfl
theorem ft_67_33 : ft_m 67 33 = some (.invokestatic 31, 36, 61, 0, 673, 0, 0) := by rfl
theorem ft_67_36 : ft_m 67 36 = some (.i2l, 37, 0, 0, 0, 0, 0) := by rfl
theorem ft_67_37 : ft_m 67 37 = some (.ladd, 38, 0, 0, 0, 0, 0) := by rfl
theorem ft_67_38 : ft_m 67 38 = some (.aload 6, 40, 6, 0, 0, 0, 0) := by rfl
theorem ft_67_40 : ft_m 67 40 = some (.iload 9, 42, 9, 0, 0, 0, 0) := by rfl
theorem ft_67_42 : ft_m 67 42 = some (.iaload, 43, 0, 0, 0, 0, 0) := by rfl
theorem ft_67_43 : ft_m 67 43 = some (.i2l, 44, 0, 0, 0, 0, 0) := by rfl
theorem ft_67_44 : ft_m 67 44 = some (.iload_n 3, 45, 3, 0, 0, 0, 0) := by rfl
theorem ft_67_45 : ft_m 67 45 = some (.lshl, 46, 0, 0, 0, 0, 0) := by rfl
theorem ft_67_46 : ft_m 67 46 = some (.lsub, 47, 0, 0, 0, 0, 0) := by rfl
theorem ft_67_47 : ft_m 67 47 = some (.lstore 10, 49, 10, 0, 0, 0, 0) := by rfl
theorem ft_67_49 : ft_m 67 49 = some (.aload_n 0, 50, 0, 0, 0, 0, 0) := by rfl
theorem ft_67_50 : ft_m 67 50 = some (.getfield 17, 53, 2, 1, 215, 0, 0) := by rfl
theorem ft_67_53 : ft_m 67 53 = some (.iload 9, 55, 9, 0, 0, 0, 0) := by rfl
theorem ft_67_55 : ft_m 67 55 = some (.lload 10, 57, 10, 0, 0, 0, 0) := by rfl
theorem ft_67_57 : ft_m 67 57 = some (.ldc2_w 59, 60, 0, 0, 677, 16383, 0) := by rfl
theorem ft_67_60 : ft_m 67 60 = some (.land, 61, 0, 0, 0, 0, 0) := by rfl
theorem ft_67_61 : ft_m 67 61 = some (.l2i, 62, 0, 0, 0, 0, 0) := by rfl
theorem ft_67_62 : ft_m 67 62 = some (.iastore, 63, 0, 0, 0, 0, 0) := by rfl
theorem ft_67_63 : ft_m 67 63 = some (.lload 10, 65, 10, 0, 0, 0, 0) := by rfl
theorem ft_67_65 : ft_m 67 65 = some (.bipush 14, 67, 0, 0, 0, 0, nI 14) := by rfl
theorem ft_67_67 : ft_m 67 67 = some (.lshr, 68, 0, 0, 0, 0, 0) := by rfl
theorem ft_67_68 : ft_m 67 68 = some (.lstore 7, 70, 7, 0, 0, 0, 0) := by rfl
theorem ft_67_70 : ft_m 67 70 = some (.iinc 9 1, 73, 9, 0, 0, 0, nI 1) := by rfl
theorem ft_67_73 : ft_m 67 73 = some (.goto (-55), 76, 18, 0, 0, 0, 0) := by rfl
theorem ft_67_76 : ft_m 67 76 = some (.aload_n 0, 77, 0, 0, 0, 0, 0) := by rfl
theorem ft_67_77 : ft_m 67 77 = some (.getfield 17, 80, 2, 1, 215, 0, 0) := by rfl
theorem ft_67_80 : ft_m 67 80 = some (.invokestatic 71, 83, 68, 0, 702, 0, 0) := by rfl
theorem ft_67_83 : ft_m 67 83 = some (.lconst 0, 84, 0, 0, 0, 0, 0) := by rfl
theorem ft_67_84 : ft_m 67 84 = some (.lstore 9, 86, 9, 0, 0, 0, 0) := by rfl
theorem ft_67_86 : ft_m 67 86 = some (.iconst 0, 87, 0, 0, 0, 0, nI 0) := by rfl
theorem ft_67_87 : ft_m 67 87 = some (.istore 11, 89, 11, 0, 0, 0, 0) := by rfl
theorem ft_67_89 : ft_m 67 89 = some (.iload 11, 91, 11, 0, 0, 0, 0) := by rfl
theorem ft_67_91 : ft_m 67 91 = some (.iconst 4, 92, 0, 0, 0, 0, nI 4) := by rfl
theorem ft_67_92 : ft_m 67 92 = some (.if_icmp .ge 41, 95, 133, 0, 0, 0, 0) := by rfl
theorem ft_67_95 : ft_m 67 95 = some (.iload 4, 97, 4, 0, 0, 0, 0) := by rfl
theorem ft_67_97 : ft_m 67 97 = some (.iload 11, 99, 11, 0, 0, 0, 0) := by rfl
theorem ft_67_99 : ft_m 67 99 = some (.iadd, 100, 0, 0, 0, 0, 0) := by rfl
theorem ft_67_100 : ft_m 67 100 = some (.bipush 60, 102, 0, 0, 0, 0, nI 60) := by rfl
theorem ft_67_102 : ft_m 67 102 = some (.if_icmp .ge 31, 105, 133, 0, 0, 0, 0) := by rfl
theorem ft_67_105 : ft_m 67 105 = some (.lload 9, 107, 9, 0, 0, 0, 0) := by rfl
theorem ft_67_107 : ft_m 67 107 = some (.aload_n 0, 108, 0, 0, 0, 0, 0) := by rfl
theorem ft_67_108 : ft_m 67 108 = some (.getfield 17, 111, 2, 1, 215, 0, 0) := by rfl
theorem ft_67_111 : ft_m 67 111 = some (.iload 4, 113, 4, 0, 0, 0, 0) := by rfl
theorem ft_67_113 : ft_m 67 113 = some (.iload 11, 115, 11, 0, 0, 0, 0) := by rfl
theorem ft_67_115 : ft_m 67 115 = some (.iadd, 116, 0, 0, 0, 0, 0) := by rfl
theorem ft_67_116 : ft_m 67 116 = some (.iaload, 117, 0, 0, 0, 0, 0) := by rfl
theorem ft_67_117 : ft_m 67 117 = some (.i2l, 118, 0, 0, 0, 0, 0) := by rfl
theorem ft_67_118 : ft_m 67 118 = some (.bipush 14, 120, 0, 0, 0, 0, nI 14) := by rfl
theorem ft_67_120 : ft_m 67 120 = some (.iload 11, 122, 11, 0, 0, 0, 0) := by rfl
theorem ft_67_122 : ft_m 67 122 = some (.imul, 123, 0, 0, 0, 0, 0) := by rfl
theorem ft_67_123 : ft_m 67 123 = some (.lshl, 124, 0, 0, 0, 0, 0) := by rfl
theorem ft_67_124 : ft_m 67 124 = some (.ladd, 125, 0, 0, 0, 0, 0) := by rfl
theorem ft_67_125 : ft_m 67 125 = some (.lstore 9, 127, 9, 0, 0, 0, 0) := by rfl
theorem ft_67_127 : ft_m 67 127 = some (.iinc 11 1, 130, 11, 0, 0, 0, nI 1) := by rfl
theorem ft_67_130 : ft_m 67 130 = some (.goto (-41), 133, 89, 0, 0, 0, 0) := by rfl
theorem ft_67_133 : ft_m 67 133 = some (.lload 9, 135, 9, 0, 0, 0, 0) := by rfl
theorem ft_67_135 : ft_m 67 135 = some (.lreturn, 136, 0, 0, 0, 0, 0) := by rfl
theorem ft_68_0 : ft_m 68 0 = some (.aload_n 0, 1, 0, 0, 0, 0, 0) := by rfl
theorem ft_68_1 : ft_m 68 1 = some (.invokestatic 61, 4, 69, 0, 705, 0, 0) := by rfl
theorem ft_68_4 : ft_m 68 4 = some (.ifCond .ne 4, 7, 8, 0, 0, 0, 0) := by rfl
theorem ft_68_7 : ft_m 68 7 = some (.return_, 8, 0, 0, 0, 0, 0) := by rfl
theorem ft_68_8 : ft_m 68 8 = some (.lconst 0, 9, 0, 0, 0, 0, 0) := by rfl
theorem ft_68_9 : ft_m 68 9 = some (.lstore_n 1, 10, 1, 0, 0, 0, 0) := by rfl
theorem ft_68_10 : ft_m 68 10 = some (.iconst 0, 11, 0, 0, 0, 0, nI 0) := by rfl
theorem ft_68_11 : ft_m 68 11 = some (.istore_n 3, 12, 3, 0, 0, 0, 0) := by rfl
theorem ft_68_12 : ft_m 68 12 = some (.iload_n 3, 13, 3, 0, 0, 0, 0) := by rfl
theorem ft_68_13 : ft_m 68 13 = some (.bipush 60, 15, 0, 0, 0, 0, nI 60) := by rfl
theorem ft_68_15 : ft_m 68 15 = some (.if_icmp .ge 33, 18, 48, 0, 0, 0, 0) := by rfl
theorem ft_68_18 : ft_m 68 18 = some (.lload_n 1, 19, 1, 0, 0, 0, 0) := by rfl
theorem ft_68_19 : ft_m 68 19 = some (.aload_n 0, 20, 0, 0, 0, 0, 0) := by rfl
theorem ft_68_20 : ft_m 68 20 = some (.iload_n 3, 21, 3, 0, 0, 0, 0) := by rfl
theorem ft_68_21 : ft_m 68 21 = some (.iaload, 22, 0, 0, 0, 0, 0) := by rfl
theorem ft_68_22 : ft_m 68 22 = some (.i2l, 23, 0, 0, 0, 0, 0) := by rfl
theorem ft_68_23 : ft_m 68 23 = some (.lsub, 24, 0, 0, 0, 0, 0) := by rfl
theorem ft_68_24 : ft_m 68 24 = some (.lstore 4, 26, 4, 0, 0, 0, 0) := by rfl
theorem ft_68_26 : ft_m 68 26 = some (.aload_n 0, 27, 0, 0, 0, 0, 0) := by rfl
theorem ft_68_27 : ft_m 68 27 = some (.iload_n 3, 28, 3, 0, 0, 0, 0) := by rfl
theorem ft_68_28 : ft_m 68 28 = some (.lload 4, 30, 4, 0, 0, 0, 0) := by rfl
theorem ft_68_30 : ft_m 68 30 = some (.ldc2_w 59, 33, 0, 0, 677, 16383, 0) := by rfl
theorem ft_68_33 : ft_m 68 33 = some (.land, 34, 0, 0, 0, 0, 0) := by rfl
theorem ft_68_34 : ft_m 68 34 = some (.l2i, 35, 0, 0, 0, 0, 0) := by rfl
theorem ft_68_35 : ft_m 68 35 = some (.iastore, 36, 0, 0, 0, 0, 0) := by rfl
theorem ft_68_36 : ft_m 68 36 = some (.lload 4, 38, 4, 0, 0, 0, 0) := by rfl
theorem ft_68_38 : ft_m 68 38 = some (.bipush 14, 40, 0, 0, 0, 0, nI 14) := by rfl
theorem ft_68_40 : ft_m 68 40 = some (.lshr, 41, 0, 0, 0, 0, 0) := by rfl
theorem ft_68_41 : ft_m 68 41 = some (.lstore_n 1, 42, 1, 0, 0, 0, 0) := by rfl
theorem ft_68_42 : ft_m 68 42 = some (.iinc 3 1, 45, 3, 0, 0, 0, nI 1) := by rfl
theorem ft_68_45 : ft_m 68 45 = some (.goto (-33), 48, 12, 0, 0, 0, 0) := by rfl
theorem ft_68_48 : ft_m 68 48 = some (.return_, 49, 0, 0, 0, 0, 0) := by rfl
theorem ft_69_0 : ft_m 69 0 = some (.aload_n 0, 1, 0, 0, 0, 0, 0) := by rfl
theorem ft_69_1 : ft_m 69 1 = some (.bipush 59, 3, 0, 0, 0, 0, nI 59) := by rfl
theorem ft_69_3 : ft_m 69 3 = some (.iaload, 4, 0, 0, 0, 0, 0) := by rfl
theorem ft_69_4 : ft_m 69 4 = some (.i2l, 5, 0, 0, 0, 0, 0) := by rfl
theorem ft_69_5 : ft_m 69 5 = some (.ldc2_w 81, 8, 0, 0, 708, 8192, 0) := by rfl
theorem ft_69_8 : ft_m 69 8 = some (.lcmp, 9, 0, 0, 0, 0, 0) := by rfl
theorem ft_69_9 : ft_m 69 9 = some (.ifCond .lt 7, 12, 16, 0, 0, 0, 0) := by rfl
theorem ft_69_12 : ft_m 69 12 = some (.iconst 1, 13, 0, 0, 0, 0, nI 1) := by rfl
theorem ft_69_13 : ft_m 69 13 = some (.goto 4, 16, 17, 0, 0, 0, 0) := by rfl
theorem ft_69_16 : ft_m 69 16 = some (.iconst 0, 17, 0, 0, 0, 0, nI 0) := by rfl
theorem ft_69_17 : ft_m 69 17 = some (.ireturn, 18, 0, 0, 0, 0, 0) := by rfl
theorem ft_70_0 : ft_m 70 0 = some (.aload_n 0, 1, 0, 0, 0, 0, 0) := by rfl
theorem ft_70_1 : ft_m 70 1 = some (.invokevirtual 233, 4, 65, 0, 690, 0, 0) := by rfl
theorem ft_70_4 : ft_m 70 4 = some (.ifCond .eq 15, 7, 19, 0, 0, 0, 0) := by rfl
theorem ft_70_7 : ft_m 70 7 = some (.iload_n 1, 8, 1, 0, 0, 0, 0) := by rfl
theorem ft_70_8 : ft_m 70 8 = some (.iconst (-1), 9, 0, 0, 0, 0, (-1)) := by rfl
theorem ft_70_9 : ft_m 70 9 = some (.if_icmp .lt 10, 12, 19, 0, 0, 0, 0) := by rfl
theorem ft_70_12 : ft_m 70 12 = some (.iload_n 1, 13, 1, 0, 0, 0, 0) := by rfl
theorem ft_70_13 : ft_m 70 13 = some (.sipush 800, 16, 0, 0, 0, 0, nI 800) := by rfl
theorem ft_70_16 : ft_m 70 16 = some (.if_icmp .lt 5, 19, 21, 0, 0, 0, 0) := by rfl
theorem ft_70_19 : ft_m 70 19 = some (.iconst (-1), 20, 0, 0, 0, 0, (-1)) := by rfl
theorem ft_70_20 : ft_m 70 20 = some (.ireturn, 21, 0, 0, 0, 0, 0) := by rfl
theorem ft_70_21 : ft_m 70 21 = some (.iload_n 1, 22, 1, 0, 0, 0, 0) := by rfl
theorem ft_70_22 : ft_m 70 22 = some (.iconst (-1), 23, 0, 0, 0, 0, (-1)) := by rfl
theorem ft_70_23 : ft_m 70 23 = some (.if_icmp .ne 23, 26, 46, 0, 0, 0, 0) := by rfl
theorem ft_70_26 : ft_m 70 26 = some (.aload_n 0, 27, 0, 0, 0, 0, 0) := by rfl
theorem ft_70_27 : ft_m 70 27 = some (.getfield 49, 30, 7, 6, 339, 0, 0) := by rfl
theorem ft_70_30 : ft_m 70 30 = some (.aload_n 0, 31, 0, 0, 0, 0, 0) := by rfl
theorem ft_70_31 : ft_m 70 31 = some (.getfield 53, 34, 7, 7, 340, 0, 0) := by rfl
theorem ft_70_34 : ft_m 70 34 = some (.invokevirtual 244, 37, 71, 0, 713, 0, 0) := by rfl
theorem ft_70_37 : ft_m 70 37 = some (.ifCond .eq 7, 40, 44, 0, 0, 0, 0) := by rfl
theorem ft_70_40 : ft_m 70 40 = some (.iconst 1, 41, 0, 0, 0, 0, nI 1) := by rfl
theorem ft_70_41 : ft_m 70 41 = some (.goto 4, 44, 45, 0, 0, 0, 0) := by rfl
theorem ft_70_44 : ft_m 70 44 = some (.iconst 0, 45, 0, 0, 0, 0, nI 0) := by rfl
theorem ft_70_45 : ft_m 70 45 = some (.ireturn, 46, 0, 0, 0, 0, 0) := by rfl
theorem ft_70_46 : ft_m 70 46 = some (.aload_n 0, 47, 0, 0, 0, 0, 0) := by rfl
theorem ft_70_47 : ft_m 70 47 = some (.getfield 49, 50, 7, 6, 339, 0, 0) := by rfl
theorem ft_70_50 : ft_m 70 50 = some (.iload_n 1, 51, 1, 0, 0, 0, 0) := by rfl
theorem ft_70_51 : ft_m 70 51 = some (.aload_n 0, 52, 0, 0, 0, 0, 0) := by rfl
theorem ft_70_52 : ft_m 70 52 = some (.getfield 53, 55, 7, 7, 340, 0, 0) := by rfl
theorem ft_70_55 : ft_m 70 55 = some (.invokevirtual 247, 58, 72, 0, 717, 0, 0) := by rfl
theorem ft_70_58 : ft_m 70 58 = some (.ireturn, 59, 0, 0, 0, 0, 0) := by rfl
theorem ft_71_0 : ft_m 71 0 = some (.aload_n 0, 1, 0, 0, 0, 0, 0) := by rfl
theorem ft_71_1 : ft_m 71 1 = some (.getfield 11, 4, 2, 0, 214, 0, 0) := by rfl
theorem ft_71_4 : ft_m 71 4 = some (.iload_n 1, 5, 1, 0, 0, 0, 0) := by rfl
theorem ft_71_5 : ft_m 71 5 = some (.aaload, 6, 0, 0, 0, 0, 0) := by rfl
theorem ft_71_6 : ft_m 71 6 = some (.getfield 28, 9, 6, 0, 202, 1, 0) := by rfl
theorem ft_71_9 : ft_m 71 9 = some (.invokestatic 61, 12, 69, 0, 705, 0, 0) := by rfl
theorem ft_71_12 : ft_m 71 12 = some (.ireturn, 13, 0, 0, 0, 0, 0) := by rfl
theorem ft_72_0 : ft_m 72 0 = some (.aload_n 0, 1, 0, 0, 0, 0, 0) := by rfl
theorem ft_72_1 : ft_m 72 1 = some (.getfield 11, 4, 2, 0, 214, 0, 0) := by rfl
theorem ft_72_4 : ft_m 72 4 = some (.iload_n 2, 5, 2, 0, 0, 0, 0) := by rfl
theorem ft_72_5 : ft_m 72 5 = some (.aaload, 6, 0, 0, 0, 0, 0) := by rfl
theorem ft_72_6 : ft_m 72 6 = some (.getfield 28, 9, 6, 0, 202, 1, 0) := by rfl
theorem ft_72_9 : ft_m 72 9 = some (.iconst 0, 10, 0, 0, 0, 0, nI 0) := by rfl
theorem ft_72_10 : ft_m 72 10 = some (.aload_n 0, 11, 0, 0, 0, 0, 0) := by rfl
theorem ft_72_11 : ft_m 72 11 = some (.getfield 17, 14, 2, 1, 215, 0, 0) := by rfl
theorem ft_72_14 : ft_m 72 14 = some (.iconst 0, 15, 0, 0, 0, 0, nI 0) := by rfl
theorem ft_72_15 : ft_m 72 15 = some (.bipush 60, 17, 0, 0, 0, 0, nI 60) := by rfl
theorem ft_72_17 : ft_m 72 17 = some (.invokestatic 65, 20, 1000, 0, 721, 0, 0) := by rfl
theorem ft_72_20 : ft_m 72 20 = some (.aload_n 0, 21, 0, 0, 0, 0, 0) := by rfl
theorem ft_72_21 : ft_m 72 21 = some (.getfield 17, 24, 2, 1, 215, 0, 0) := by rfl
theorem ft_72_24 : ft_m 72 24 = some (.invokestatic 71, 27, 68, 0, 702, 0, 0) := by rfl
theorem ft_72_27 : ft_m 72 27 = some (.aload_n 0, 28, 0, 0, 0, 0, 0) := by rfl
theorem ft_72_28 : ft_m 72 28 = some (.getfield 17, 31, 2, 1, 215, 0, 0) := by rfl
theorem ft_72_31 : ft_m 72 31 = some (.iload_n 1, 32, 1, 0, 0, 0, 0) := by rfl
theorem ft_72_32 : ft_m 72 32 = some (.bipush 14, 34, 0, 0, 0, 0, nI 14) := by rfl
theorem ft_72_34 : ft_m 72 34 = some (.idiv, 35, 0, 0, 0, 0, 0) := by rfl
theorem ft_72_35 : ft_m 72 35 = some (.iaload, 36, 0, 0, 0, 0, 0) := by rfl
theorem ft_72_36 : ft_m 72 36 = some (.iload_n 1, 37, 1, 0, 0, 0, 0) := by rfl
theorem ft_72_37 : ft_m 72 37 = some (.bipush 14, 39, 0, 0, 0, 0, nI 14) := by rfl
theorem ft_72_39 : ft_m 72 39 = some (.irem, 40, 0, 0, 0, 0, 0) := by rfl
theorem ft_72_40 : ft_m 72 40 = some (.ishr, 41, 0, 0, 0, 0, 0) := by rfl
theorem ft_72_41 : ft_m 72 41 = some (.iconst 1, 42, 0, 0, 0, 0, nI 1) := by rfl
theorem ft_72_42 : ft_m 72 42 = some (.iand, 43, 0, 0, 0, 0, 0) := by rfl
theorem ft_72_43 : ft_m 72 43 = some (.ireturn, 44, 0, 0, 0, 0, 0) := by rfl
theorem ft_73_0 : ft_m 73 0 = some (.aload_n 0, 1, 0, 0, 0, 0, 0) := by rfl
theorem ft_73_1 : ft_m 73 1 = some (.getfield 57, 4, 7, 8, 341, 0, 0) := by rfl
theorem ft_73_4 : ft_m 73 4 = some (.ifCond .ne 5, 7, 9, 0, 0, 0, 0) := by rfl
theorem ft_73_7 : ft_m 73 7 = some (.iconst (-1), 8, 0, 0, 0, 0, (-1)) := by rfl
theorem ft_73_8 : ft_m 73 8 = some (.ireturn, 9, 0, 0, 0, 0, 0) := by rfl
theorem ft_73_9 : ft_m 73 9 = some (.aload_n 0, 10, 0, 0, 0, 0, 0) := by rfl
theorem ft_73_10 : ft_m 73 10 = some (.getfield 79, 13, 7, 15, 348, 0, 0) := by rfl
theorem ft_73_13 : ft_m 73 13 = some (.istore_n 1, 14, 1, 0, 0, 0, 0) := by rfl
theorem ft_73_14 : ft_m 73 14 = some (.aload_n 0, 15, 0, 0, 0, 0, 0) := by rfl
theorem ft_73_15 : ft_m 73 15 = some (.invokevirtual 181, 18, 39, 0, 576, 0, 0) := by rfl
theorem ft_73_18 : ft_m 73 18 = some (.iload_n 1, 19, 1, 0, 0, 0, 0) := by rfl
theorem ft_73_19 : ft_m 73 19 = some (.ireturn, 20, 0, 0, 0, 0, 0) := by rfl
theorem ft_74_0 : ft_m 74 0 = some (.iload_n 1, 1, 1, 0, 0, 0, 0) := by rfl
theorem ft_74_1 : ft_m 74 1 = some (.i2l, 2, 0, 0, 0, 0, 0) := by rfl
theorem ft_74_2 : ft_m 74 2 = some (.ldc2_w 74, 5, 0, 0, 836, (-32767), 0) := by rfl
theorem ft_74_5 : ft_m 74 5 = some (.ldc2_w 76, 8, 0, 0, 837, 32767, 0) := by rfl
theorem ft_74_8 : ft_m 74 8 = some (.invokestatic 70, 11, 75, 0, 838, 0, 0) := by rfl
theorem ft_74_11 : ft_m 74 11 = some (.ifCond .eq 61, 14, 72, 0, 0, 0, 0) := by rfl
theorem ft_74_14 : ft_m 74 14 = some (.iload_n 2, 15, 2, 0, 0, 0, 0) := by rfl
theorem ft_74_15 : ft_m 74 15 = some (.i2l, 16, 0, 0, 0, 0, 0) := by rfl
theorem ft_74_16 : ft_m 74 16 = some (.ldc2_w 74, 19, 0, 0, 836, (-32767), 0) := by rfl
theorem ft_74_19 : ft_m 74 19 = some (.ldc2_w 76, 22, 0, 0, 837, 32767, 0) := by rfl
theorem ft_74_22 : ft_m 74 22 = some (.invokestatic 70, 25, 75, 0, 838, 0, 0) := by rfl
theorem ft_74_25 : ft_m 74 25 = some (.ifCond .eq 47, 28, 72, 0, 0, 0, 0) := by rfl
theorem ft_74_28 : ft_m 74 28 = some (.iload_n 3, 29, 3, 0, 0, 0, 0) := by rfl
theorem ft_74_29 : ft_m 74 29 = some (.i2l, 30, 0, 0, 0, 0, 0) := by rfl
theorem ft_74_30 : ft_m 74 30 = some (.ldc2_w 74, 33, 0, 0, 836, (-32767), 0) := by rfl
theorem ft_74_33 : ft_m 74 33 = some (.ldc2_w 76, 36, 0, 0, 837, 32767, 0) := by rfl
theorem ft_74_36 : ft_m 74 36 = some (.invokestatic 70, 39, 75, 0, 838, 0, 0) := by rfl
theorem ft_74_39 : ft_m 74 39 = some (.ifCond .eq 33, 42, 72, 0, 0, 0, 0) := by rfl
theorem ft_74_42 : ft_m 74 42 = some (.iload 4, 44, 4, 0, 0, 0, 0) := by rfl
theorem ft_74_44 : ft_m 74 44 = some (.i2l, 45, 0, 0, 0, 0, 0) := by rfl
theorem ft_74_45 : ft_m 74 45 = some (.ldc2_w 74, 48, 0, 0, 836, (-32767), 0) := by rfl
theorem ft_74_48 : ft_m 74 48 = some (.ldc2_w 76, 51, 0, 0, 837, 32767, 0) := by rfl
theorem ft_74_51 : ft_m 74 51 = some (.invokestatic 70, 54, 75, 0, 838, 0, 0) := by rfl
theorem ft_74_54 : ft_m 74 54 = some (.ifCond .eq 18, 57, 72, 0, 0, 0, 0) := by rfl
theorem ft_74_57 : ft_m 74 57 = some (.iload 5, 59, 5, 0, 0, 0, 0) := by rfl
theorem ft_74_59 : ft_m 74 59 = some (.i2l, 60, 0, 0, 0, 0, 0) := by rfl
theorem ft_74_60 : ft_m 74 60 = some (.ldc2_w 74, 63, 0, 0, 836, (-32767), 0) := by rfl
theorem ft_74_63 : ft_m 74 63 = some (.ldc2_w 76, 66, 0, 0, 837, 32767, 0) := by rfl
theorem ft_74_66 : ft_m 74 66 = some (.invokestatic 70, 69, 75, 0, 838, 0, 0) := by rfl
theorem ft_74_69 : ft_m 74 69 = some (.ifCond .ne 6, 72, 75, 0, 0, 0, 0) := by rfl
theorem ft_74_72 : ft_m 74 72 = some (.bipush (-2), 74, 0, 0, 0, 0, (-2)) := by rfl
theorem ft_74_74 : ft_m 74 74 = some (.ireturn, 75, 0, 0, 0, 0, 0) := by rfl
theorem ft_74_75 : ft_m 74 75 = some (.aload_n 0, 76, 0, 0, 0, 0, 0) := by rfl
theorem ft_74_76 : ft_m 74 76 = some (.getfield 66, 79, 8, 0, 732, 0, 0) := by rfl
theorem ft_74_79 : ft_m 74 79 = some (.bipush 6, 81, 0, 0, 0, 0, nI 6) := by rfl
theorem ft_74_81 : ft_m 74 81 = some (.if_icmp .ne 6, 84, 87, 0, 0, 0, 0) := by rfl
theorem ft_74_84 : ft_m 74 84 = some (.bipush (-3), 86, 0, 0, 0, 0, (-3)) := by rfl
theorem ft_74_86 : ft_m 74 86 = some (.ireturn, 87, 0, 0, 0, 0, 0) := by rfl
theorem ft_74_87 : ft_m 74 87 = some (.aload_n 0, 88, 0, 0, 0, 0, 0) := by rfl
theorem ft_74_88 : ft_m 74 88 = some (.getfield 7, 91, 8, 1, 733, 0, 0) := by rfl
theorem ft_74_91 : ft_m 74 91 = some (.iconst 5, 92, 0, 0, 0, 0, nI 5) := by rfl
theorem ft_74_92 : ft_m 74 92 = some (.aload_n 0, 93, 0, 0, 0, 0, 0) := by rfl
theorem ft_74_93 : ft_m 74 93 = some (.getfield 66, 96, 8, 0, 732, 0, 0) := by rfl
theorem ft_74_96 : ft_m 74 96 = some (.imul, 97, 0, 0, 0, 0, 0) := by rfl
theorem ft_74_97 : ft_m 74 97 = some (.iload_n 1, 98, 1, 0, 0, 0, 0) := by rfl
theorem ft_74_98 : ft_m 74 98 = some (.iastore, 99, 0, 0, 0, 0, 0) := by rfl
theorem ft_74_99 : ft_m 74 99 = some (.aload_n 0, 100, 0, 0, 0, 0, 0) := by rfl
theorem ft_74_100 : ft_m 74 100 = some (.getfield 7, 103, 8, 1, 733, 0, 0) := by rfl
theorem ft_74_103 : ft_m 74 103 = some (.iconst 5, 104, 0, 0, 0, 0, nI 5) := by rfl
theorem ft_74_104 : ft_m 74 104 = some (.aload_n 0, 105, 0, 0, 0, 0, 0) := by rfl
theorem ft_74_105 : ft_m 74 105 = some (.getfield 66, 108, 8, 0, 732, 0, 0) := by rfl
theorem ft_74_108 : ft_m 74 108 = some (.imul, 109, 0, 0, 0, 0, 0) := by rfl
theorem ft_74_109 : ft_m 74 109 = some (.iconst 1, 110, 0, 0, 0, 0, nI 1) := by rfl
theorem ft_74_110 : ft_m 74 110 = some (.iadd, 111, 0, 0, 0, 0, 0) := by rfl
theorem ft_74_111 : ft_m 74 111 = some (.iload_n 2, 112, 2, 0, 0, 0, 0) := by rfl
theorem ft_74_112 : ft_m 74 112 = some (.iastore, 113, 0, 0, 0, 0, 0) := by rfl
theorem ft_74_113 : ft_m 74 113 = some (.aload_n 0, 114, 0, 0, 0, 0, 0) := by rfl
theorem ft_74_114 : ft_m 74 114 = some (.getfield 7, 117, 8, 1, 733, 0, 0) := by rfl
theorem ft_74_117 : ft_m 74 117 = some (.iconst 5, 118, 0, 0, 0, 0, nI 5) := by rfl
theorem ft_74_118 : ft_m 74 118 = some (.aload_n 0, 119, 0, 0, 0, 0, 0) := by rfl
theorem ft_74_119 : ft_m 74 119 = some (.getfield 66, 122, 8, 0, 732, 0, 0) := by rfl
theorem ft_74_122 : ft_m 74 122 = some (.imul, 123, 0, 0, 0, 0, 0) := by rfl
theorem ft_74_123 : ft_m 74 123 = some (.iconst 2, 124, 0, 0, 0, 0, nI 2) := by rfl
theorem ft_74_124 : ft_m 74 124 = some (.iadd, 125, 0, 0, 0, 0, 0) := by rfl
theorem ft_74_125 : ft_m 74 125 = some (.iload_n 3, 126, 3, 0, 0, 0, 0) := by rfl
theorem ft_74_126 : ft_m 74 126 = some (.iastore, 127, 0, 0, 0, 0, 0) := by rfl
theorem ft_74_127 : ft_m 74 127 = some (.aload_n 0, 128, 0, 0, 0, 0, 0) := by rfl
theorem ft_74_128 : ft_m 74 128 = some (.getfield 7, 131, 8, 1, 733, 0, 0) := by rfl
theorem ft_74_131 : ft_m 74 131 = some (.iconst 5, 132, 0, 0, 0, 0, nI 5) := by rfl
theorem ft_74_132 : ft_m 74 132 = some (.aload_n 0, 133, 0, 0, 0, 0, 0) := by rfl
theorem ft_74_133 : ft_m 74 133 = some (.getfield 66, 136, 8, 0, 732, 0, 0) := by rfl
theorem ft_74_136 : ft_m 74 136 = some (.imul, 137, 0, 0, 0, 0, 0) := by rfl
theorem ft_74_137 : ft_m 74 137 = some (.iconst 3, 138, 0, 0, 0, 0, nI 3) := by rfl
theorem ft_74_138 : ft_m 74 138 = some (.iadd, 139, 0, 0, 0, 0, 0) := by rfl
theorem ft_74_139 : ft_m 74 139 = some (.iload 4, 141, 4, 0, 0, 0, 0) := by rfl
theorem ft_74_141 : ft_m 74 141 = some (.iastore, 142, 0, 0, 0, 0, 0) := by rfl
theorem ft_74_142 : ft_m 74 142 = some (.aload_n 0, 143, 0, 0, 0, 0, 0) := by rfl
theorem ft_74_143 : ft_m 74 143 = some (.getfield 7, 146, 8, 1, 733, 0, 0) := by rfl
theorem ft_74_146 : ft_m 74 146 = some (.iconst 5, 147, 0, 0, 0, 0, nI 5) := by rfl
theorem ft_74_147 : ft_m 74 147 = some (.aload_n 0, 148, 0, 0, 0, 0, 0) := by rfl
theorem ft_74_148 : ft_m 74 148 = some (.getfield 66, 151, 8, 0, 732, 0, 0) := by rfl
theorem ft_74_151 : ft_m 74 151 = some (.imul, 152, 0, 0, 0, 0, 0) := by rfl
theorem ft_74_152 : ft_m 74 152 = some (.iconst 4, 153, 0, 0, 0, 0, nI 4) := by rfl
theorem ft_74_153 : ft_m 74 153 = some (.iadd, 154, 0, 0, 0, 0, 0) := by rfl
theorem ft_74_154 : ft_m 74 154 = some (.iload 5, 156, 5, 0, 0, 0, 0) := by rfl
theorem ft_74_156 : ft_m 74 156 = some (.iastore, 157, 0, 0, 0, 0, 0) := by rfl
theorem ft_74_157 : ft_m 74 157 = some (.aload_n 0, 158, 0, 0, 0, 0, 0) := by rfl
theorem ft_74_158 : ft_m 74 158 = some (.dup, 159, 0, 0, 0, 0, 0) := by rfl
theorem ft_74_159 : ft_m 74 159 = some (.getfield 66, 162, 8, 0, 732, 0, 0) := by rfl
theorem ft_74_162 : ft_m 74 162 = some (.iconst 1, 163, 0, 0, 0, 0, nI 1) := by rfl
theorem ft_74_163 : ft_m 74 163 = some (.iadd, 164, 0, 0, 0, 0, 0) := by rfl
theorem ft_74_164 : ft_m 74 164 = some (.putfield 66, 167, 8, 0, 732, 0, 0) := by rfl
theorem ft_74_167 : ft_m 74 167 = some (.aload_n 0, 168, 0, 0, 0, 0, 0) := by rfl
theorem ft_74_168 : ft_m 74 168 = some (.iconst 0, 169, 0, 0, 0, 0, nI 0) := by rfl
theorem ft_74_169 : ft_m 74 169 = some (.putfield 78, 172, 8, 4, 736, 0, 0) := by rfl
theorem ft_74_172 : ft_m 74 172 = some (.aload_n 0, 173, 0, 0, 0, 0, 0) := by rfl
theorem ft_74_173 : ft_m 74 173 = some (.aload_n 0, 174, 0, 0, 0, 0, 0) := by rfl
theorem ft_74_174 : ft_m 74 174 = some (.getfield 66, 177, 8, 0, 732, 0, 0) := by rfl
theorem ft_74_177 : ft_m 74 177 = some (.iconst 1, 178, 0, 0, 0, 0, nI 1) := by rfl
theorem ft_74_178 : ft_m 74 178 = some (.isub, 179, 0, 0, 0, 0, 0) := by rfl
theorem ft_74_179 : ft_m 74 179 = some (.invokevirtual 82, 182, 76, 0, 841, 0, 0) := by rfl
theorem ft_74_182 : ft_m 74 182 = some (.aload_n 0, 183, 0, 0, 0, 0, 0) := by rfl
theorem ft_74_183 : ft_m 74 183 = some (.getfield 66, 186, 8, 0, 732, 0, 0) := by rfl
theorem ft_74_186 : ft_m 74 186 = some (.iconst 1, 187, 0, 0, 0, 0, nI 1) := by rfl
theorem ft_74_187 : ft_m 74 187 = some (.isub, 188, 0, 0, 0, 0, 0) := by rfl
theorem ft_74_188 : ft_m 74 188 = some (.ireturn, 189, 0, 0, 0, 0, 0) := by rfl
theorem ft_75_0 : ft_m 75 0 = some (.lload_n 2, 1, 2, 0, 0, 0, 0) := by rfl
theorem ft_75_1 : ft_m 75 1 = some (.lload_n 0, 2, 0, 0, 0, 0, 0) := by rfl
theorem ft_75_2 : ft_m 75 2 = some (.lcmp, 3, 0, 0, 0, 0, 0) := by rfl
theorem ft_75_3 : ft_m 75 3 = some (.ifCond .gt 14, 6, 17, 0, 0, 0, 0) := by rfl
theorem ft_75_6 : ft_m 75 6 = some (.lload_n 0, 7, 0, 0, 0, 0, 0) := by rfl
theorem ft_75_7 : ft_m 75 7 = some (.lload 4, 9, 4, 0, 0, 0, 0) := by rfl
theorem ft_75_9 : ft_m 75 9 = some (.lcmp, 10, 0, 0, 0, 0, 0) := by rfl
theorem ft_75_10 : ft_m 75 10 = some (.ifCond .gt 7, 13, 17, 0, 0, 0, 0) := by rfl
theorem ft_75_13 : ft_m 75 13 = some (.iconst 1, 14, 0, 0, 0, 0, nI 1) := by rfl
theorem ft_75_14 : ft_m 75 14 = some (.goto 4, 17, 18, 0, 0, 0, 0) := by rfl
theorem ft_75_17 : ft_m 75 17 = some (.iconst 0, 18, 0, 0, 0, 0, nI 0) := by rfl
theorem ft_75_18 : ft_m 75 18 = some (.ireturn, 19, 0, 0, 0, 0, 0) := by rfl
