theorem t51_0 : zT 51 0 = some (.aload_n 0, 1, 0, 0, 0) := by rfl
theorem t51_1 : zT 51 1 = some (.getfield 12, 3, 4, 0, 179) := by rfl
theorem t51_4 : zT 51 4 = some (.aload_n 1, 1, 0, 0, 0) := by rfl
theorem t51_5 : zT 51 5 = some (.getfield 12, 3, 4, 0, 179) := by rfl
theorem t51_8 : zT 51 8 = some (.invokevirtual 36, 3, 68, 0, 341) := by rfl
theorem t51_11 : zT 51 11 = some (.aload_n 0, 1, 0, 0, 0) := by rfl
theorem t51_12 : zT 51 12 = some (.getfield 21, 3, 4, 1, 182) := by rfl
theorem t51_15 : zT 51 15 = some (.aload_n 1, 1, 0, 0, 0) := by rfl
theorem t51_16 : zT 51 16 = some (.getfield 21, 3, 4, 1, 182) := by rfl
theorem t51_19 : zT 51 19 = some (.invokevirtual 40, 3, 11, 0, 348) := by rfl
theorem t51_22 : zT 51 22 = some (.aload_n 0, 1, 0, 0, 0) := by rfl
theorem t51_23 : zT 51 23 = some (.getfield 28, 3, 4, 2, 185) := by rfl
theorem t51_26 : zT 51 26 = some (.aload_n 1, 1, 0, 0, 0) := by rfl
theorem t51_27 : zT 51 27 = some (.getfield 28, 3, 4, 2, 185) := by rfl
theorem t51_30 : zT 51 30 = some (.invokevirtual 43, 3, 78, 0, 353) := by rfl
theorem t51_33 : zT 51 33 = some (.aload_n 1, 1, 0, 0, 0) := by rfl
theorem t51_34 : zT 51 34 = some (.getfield 32, 3, 4, 3, 187) := by rfl
theorem t51_37 : zT 51 37 = some (.iconst 0, 1, 0, 0, 0) := by rfl
theorem t51_38 : zT 51 38 = some (.aload_n 0, 1, 0, 0, 0) := by rfl
theorem t51_39 : zT 51 39 = some (.getfield 32, 3, 4, 3, 187) := by rfl
theorem t51_42 : zT 51 42 = some (.iconst 0, 1, 0, 0, 0) := by rfl
theorem t51_43 : zT 51 43 = some (.iconst 5, 1, 0, 0, 0) := by rfl
theorem t51_44 : zT 51 44 = some (.invokestatic 46, 3, 1001, 0, 358) := by rfl
theorem t51_47 : zT 51 47 = some (.return_, 1, 0, 0, 0) := by rfl
theorem t52_0 : zT 52 0 = some (.aload_n 0, 1, 0, 0, 0) := by rfl
theorem t52_1 : zT 52 1 = some (.getfield 12, 3, 4, 0, 179) := by rfl
theorem t52_4 : zT 52 4 = some (.invokevirtual 52, 3, 65, 0, 366) := by rfl
theorem t52_7 : zT 52 7 = some (.iconst 0, 1, 0, 0, 0) := by rfl
theorem t52_8 : zT 52 8 = some (.istore_n 2, 1, 0, 0, 0) := by rfl
theorem t52_9 : zT 52 9 = some (.iload_n 2, 1, 0, 0, 0) := by rfl
theorem t52_10 : zT 52 10 = some (.aload_n 1, 1, 0, 0, 0) := by rfl
theorem t52_11 : zT 52 11 = some (.getfield 55, 3, 2, 1, 245) := by rfl
theorem t52_14 : zT 52 14 = some (.if_icmp .ge 24, 3, 0, 0, 0) := by rfl
theorem t52_17 : zT 52 17 = some (.aload_n 0, 1, 0, 0, 0) := by rfl
theorem t52_18 : zT 52 18 = some (.getfield 12, 3, 4, 0, 179) := by rfl
theorem t52_21 : zT 52 21 = some (.aload_n 1, 1, 0, 0, 0) := by rfl
theorem t52_22 : zT 52 22 = some (.iload_n 2, 1, 0, 0, 0) := by rfl
theorem t52_23 : zT 52 23 = some (.invokevirtual 61, 3, 36, 0, 370) := by rfl
theorem t52_26 : zT 52 26 = some (.bipush 97, 2, 0, 0, 0) := by rfl
theorem t52_28 : zT 52 28 = some (.isub, 1, 0, 0, 0) := by rfl
theorem t52_29 : zT 52 29 = some (.invokevirtual 65, 3, 66, 0, 371) := by rfl
theorem t52_32 : zT 52 32 = some (.iinc 2 1, 3, 0, 0, 0) := by rfl
theorem t52_35 : zT 52 35 = some (.goto (-26), 3, 0, 0, 0) := by rfl
theorem t52_38 : zT 52 38 = some (.aload_n 0, 1, 0, 0, 0) := by rfl
theorem t52_39 : zT 52 39 = some (.getfield 21, 3, 4, 1, 182) := by rfl
theorem t52_42 : zT 52 42 = some (.invokevirtual 69, 3, 4, 0, 375) := by rfl
theorem t52_45 : zT 52 45 = some (.aload_n 0, 1, 0, 0, 0) := by rfl
theorem t52_46 : zT 52 46 = some (.getfield 28, 3, 4, 2, 185) := by rfl
theorem t52_49 : zT 52 49 = some (.invokevirtual 70, 3, 70, 0, 379) := by rfl
theorem t52_52 : zT 52 52 = some (.return_, 1, 0, 0, 0) := by rfl
theorem t53_0 : zT 53 0 = some (.iload_n 1, 1, 0, 0, 0) := by rfl
theorem t53_1 : zT 53 1 = some (.ifCond .lt 18, 3, 0, 0, 0) := by rfl
theorem t53_4 : zT 53 4 = some (.iload_n 1, 1, 0, 0, 0) := by rfl
theorem t53_5 : zT 53 5 = some (.aload_n 0, 1, 0, 0, 0) := by rfl
theorem t53_6 : zT 53 6 = some (.getfield 12, 3, 4, 0, 179) := by rfl
theorem t53_9 : zT 53 9 = some (.getfield 71, 3, 6, 1, 101) := by rfl
theorem t53_12 : zT 53 12 = some (.if_icmp .gt 7, 3, 0, 0, 0) := by rfl
theorem t53_15 : zT 53 15 = some (.iconst 1, 1, 0, 0, 0) := by rfl
theorem t53_16 : zT 53 16 = some (.goto 4, 3, 0, 0, 0) := by rfl
theorem t53_19 : zT 53 19 = some (.iconst 0, 1, 0, 0, 0) := by rfl
theorem t53_20 : zT 53 20 = some (.ireturn, 1, 0, 0, 0) := by rfl
theorem t54_0 : zT 54 0 = some (.aload_n 1, 1, 0, 0, 0) := by rfl
theorem t54_1 : zT 54 1 = some (.getfield 72, 3, 1, 2, 125) := by rfl
theorem t54_4 : zT 54 4 = some (.iload_n 2, 1, 0, 0, 0) := by rfl
theorem t54_5 : zT 54 5 = some (.iaload, 1, 0, 0, 0) := by rfl
theorem t54_6 : zT 54 6 = some (.istore_n 3, 1, 0, 0, 0) := by rfl
theorem t54_7 : zT 54 7 = some (.aload_n 1, 1, 0, 0, 0) := by rfl
theorem t54_8 : zT 54 8 = some (.getfield 75, 3, 1, 3, 129) := by rfl
theorem t54_11 : zT 54 11 = some (.iload_n 2, 1, 0, 0, 0) := by rfl
theorem t54_12 : zT 54 12 = some (.iaload, 1, 0, 0, 0) := by rfl
theorem t54_13 : zT 54 13 = some (.istore 4, 2, 0, 0, 0) := by rfl
theorem t54_15 : zT 54 15 = some (.aload_n 1, 1, 0, 0, 0) := by rfl
theorem t54_16 : zT 54 16 = some (.getfield 78, 3, 1, 1, 121) := by rfl
theorem t54_19 : zT 54 19 = some (.iload_n 2, 1, 0, 0, 0) := by rfl
theorem t54_20 : zT 54 20 = some (.iaload, 1, 0, 0, 0) := by rfl
theorem t54_21 : zT 54 21 = some (.iconst 1, 1, 0, 0, 0) := by rfl
theorem t54_22 : zT 54 22 = some (.if_icmp .ne 17, 3, 0, 0, 0) := by rfl
theorem t54_25 : zT 54 25 = some (.iload_n 3, 1, 0, 0, 0) := by rfl
theorem t54_26 : zT 54 26 = some (.iload 4, 2, 0, 0, 0) := by rfl
theorem t54_28 : zT 54 28 = some (.if_icmp .ne 7, 3, 0, 0, 0) := by rfl
theorem t54_31 : zT 54 31 = some (.iconst 1, 1, 0, 0, 0) := by rfl
theorem t54_32 : zT 54 32 = some (.goto 18, 3, 0, 0, 0) := by rfl
theorem t54_35 : zT 54 35 = some (.iconst 0, 1, 0, 0, 0) := by rfl
theorem t54_36 : zT 54 36 = some (.goto 14, 3, 0, 0, 0) := by rfl
theorem t54_39 : zT 54 39 = some (.iload_n 3, 1, 0, 0, 0) := by rfl
theorem t54_40 : zT 54 40 = some (.iload 4, 2, 0, 0, 0) := by rfl
theorem t54_42 : zT 54 42 = some (.if_icmp .ge 7, 3, 0, 0, 0) := by rfl
theorem t54_45 : zT 54 45 = some (.iconst 1, 1, 0, 0, 0) := by rfl
theorem t54_46 : zT 54 46 = some (.goto 4, 3, 0, 0, 0) := by rfl
theorem t54_49 : zT 54 49 = some (.iconst 0, 1, 0, 0, 0) := by rfl
theorem t54_50 : zT 54 50 = some (.istore 5, 2, 0, 0, 0) := by rfl
theorem t54_52 : zT 54 52 = some (.aload_n 0, 1, 0, 0, 0) := by rfl
theorem t54_53 : zT 54 53 = some (.iload_n 3, 1, 0, 0, 0) := by rfl
theorem t54_54 : zT 54 54 = some (.invokevirtual 81, 3, 53, 0, 446) := by rfl
theorem t54_57 : zT 54 57 = some (.ifCond .eq 45, 3, 0, 0, 0) := by rfl
theorem t54_60 : zT 54 60 = some (.aload_n 0, 1, 0, 0, 0) := by rfl
theorem t54_61 : zT 54 61 = some (.iload 4, 2, 0, 0, 0) := by rfl
theorem t54_63 : zT 54 63 = some (.invokevirtual 81, 3, 53, 0, 446) := by rfl
theorem t54_66 : zT 54 66 = some (.ifCond .eq 36, 3, 0, 0, 0) := by rfl
theorem t54_69 : zT 54 69 = some (.iload 5, 2, 0, 0, 0) := by rfl
theorem t54_71 : zT 54 71 = some (.ifCond .eq 31, 3, 0, 0, 0) := by rfl
theorem t54_74 : zT 54 74 = some (.aload_n 0, 1, 0, 0, 0) := by rfl
theorem t54_75 : zT 54 75 = some (.getfield 21, 3, 4, 1, 182) := by rfl
theorem t54_78 : zT 54 78 = some (.getfield 85, 3, 1, 7, 144) := by rfl
theorem t54_81 : zT 54 81 = some (.bipush 20, 2, 0, 0, 0) := by rfl
theorem t54_83 : zT 54 83 = some (.if_icmp .ge 19, 3, 0, 0, 0) := by rfl
theorem t54_86 : zT 54 86 = some (.aload_n 0, 1, 0, 0, 0) := by rfl
theorem t54_87 : zT 54 87 = some (.getfield 21, 3, 4, 1, 182) := by rfl
theorem t54_90 : zT 54 90 = some (.aload_n 1, 1, 0, 0, 0) := by rfl
theorem t54_91 : zT 54 91 = some (.iload_n 2, 1, 0, 0, 0) := by rfl
theorem t54_92 : zT 54 92 = some (.invokevirtual 88, 3, 15, 0, 450) := by rfl
theorem t54_95 : zT 54 95 = some (.ifCond .ne 7, 3, 0, 0, 0) := by rfl
theorem t54_98 : zT 54 98 = some (.iconst 1, 1, 0, 0, 0) := by rfl
theorem t54_99 : zT 54 99 = some (.goto 4, 3, 0, 0, 0) := by rfl
theorem t54_102 : zT 54 102 = some (.iconst 0, 1, 0, 0, 0) := by rfl
theorem t54_103 : zT 54 103 = some (.ireturn, 1, 0, 0, 0) := by rfl
theorem t55_0 : zT 55 0 = some (.aload_n 0, 1, 0, 0, 0) := by rfl
theorem t55_1 : zT 55 1 = some (.getfield 12, 3, 4, 0, 179) := by rfl
theorem t55_4 : zT 55 4 = some (.getfield 71, 3, 6, 1, 101) := by rfl
theorem t55_7 : zT 55 7 = some (.aload_n 0, 1, 0, 0, 0) := by rfl
theorem t55_8 : zT 55 8 = some (.getfield 21, 3, 4, 1, 182) := by rfl
theorem t55_11 : zT 55 11 = some (.invokevirtual 92, 3, 21, 0, 498) := by rfl
theorem t55_14 : zT 55 14 = some (.iadd, 1, 0, 0, 0) := by rfl
theorem t55_15 : zT 55 15 = some (.ireturn, 1, 0, 0, 0) := by rfl
theorem t56_0 : zT 56 0 = some (.aload_n 0, 1, 0, 0, 0) := by rfl
theorem t56_1 : zT 56 1 = some (.getfield 21, 3, 4, 1, 182) := by rfl
theorem t56_4 : zT 56 4 = some (.getfield 96, 3, 1, 4, 134) := by rfl
theorem t56_7 : zT 56 7 = some (.iload_n 1, 1, 0, 0, 0) := by rfl
theorem t56_8 : zT 56 8 = some (.iaload, 1, 0, 0, 0) := by rfl
theorem t56_9 : zT 56 9 = some (.iconst 1, 1, 0, 0, 0) := by rfl
theorem t56_10 : zT 56 10 = some (.if_icmp .ne 19, 3, 0, 0, 0) := by rfl
theorem t56_13 : zT 56 13 = some (.aload_n 0, 1, 0, 0, 0) := by rfl
theorem t56_14 : zT 56 14 = some (.invokevirtual 99, 3, 55, 0, 494) := by rfl
theorem t56_17 : zT 56 17 = some (.aload_n 0, 1, 0, 0, 0) := by rfl
theorem t56_18 : zT 56 18 = some (.getfield 21, 3, 4, 1, 182) := by rfl
theorem t56_21 : zT 56 21 = some (.iload_n 1, 1, 0, 0, 0) := by rfl
theorem t56_22 : zT 56 22 = some (.invokevirtual 102, 3, 20, 0, 506) := by rfl
theorem t56_25 : zT 56 25 = some (.isub, 1, 0, 0, 0) := by rfl
theorem t56_26 : zT 56 26 = some (.goto 7, 3, 0, 0, 0) := by rfl
theorem t56_29 : zT 56 29 = some (.aload_n 0, 1, 0, 0, 0) := by rfl
theorem t56_30 : zT 56 30 = some (.invokevirtual 99, 3, 55, 0, 494) := by rfl
theorem t56_33 : zT 56 33 = some (.ireturn, 1, 0, 0, 0) := by rfl
theorem t57_0 : zT 57 0 = some (.aload_n 0, 1, 0, 0, 0) := by rfl
theorem t57_1 : zT 57 1 = some (.getfield 21, 3, 4, 1, 182) := by rfl
theorem t57_4 : zT 57 4 = some (.getfield 96, 3, 1, 4, 134) := by rfl
theorem t57_7 : zT 57 7 = some (.iload_n 1, 1, 0, 0, 0) := by rfl
theorem t57_8 : zT 57 8 = some (.iaload, 1, 0, 0, 0) := by rfl
theorem t57_9 : zT 57 9 = some (.ifCond .ne 37, 3, 0, 0, 0) := by rfl
theorem t57_12 : zT 57 12 = some (.aload_n 0, 1, 0, 0, 0) := by rfl
theorem t57_13 : zT 57 13 = some (.getfield 21, 3, 4, 1, 182) := by rfl
theorem t57_16 : zT 57 16 = some (.iload_n 1, 1, 0, 0, 0) := by rfl
theorem t57_17 : zT 57 17 = some (.iconst 1, 1, 0, 0, 0) := by rfl
theorem t57_18 : zT 57 18 = some (.invokevirtual 105, 3, 16, 0, 486) := by rfl
theorem t57_21 : zT 57 21 = some (.ifCond .ne 25, 3, 0, 0, 0) := by rfl
theorem t57_24 : zT 57 24 = some (.aload_n 0, 1, 0, 0, 0) := by rfl
theorem t57_25 : zT 57 25 = some (.invokevirtual 99, 3, 55, 0, 494) := by rfl
theorem t57_28 : zT 57 28 = some (.aload_n 0, 1, 0, 0, 0) := by rfl
theorem t57_29 : zT 57 29 = some (.getfield 21, 3, 4, 1, 182) := by rfl
theorem t57_32 : zT 57 32 = some (.iload_n 1, 1, 0, 0, 0) := by rfl
theorem t57_33 : zT 57 33 = some (.invokevirtual 102, 3, 20, 0, 506) := by rfl
theorem t57_36 : zT 57 36 = some (.iadd, 1, 0, 0, 0) := by rfl
theorem t57_37 : zT 57 37 = some (.bipush 60, 2, 0, 0, 0) := by rfl
theorem t57_39 : zT 57 39 = some (.if_icmp .gt 7, 3, 0, 0, 0) := by rfl
theorem t57_42 : zT 57 42 = some (.iconst 1, 1, 0, 0, 0) := by rfl
theorem t57_43 : zT 57 43 = some (.goto 4, 3, 0, 0, 0) := by rfl
theorem t57_46 : zT 57 46 = some (.iconst 0, 1, 0, 0, 0) := by rfl
theorem t57_47 : zT 57 47 = some (.ireturn, 1, 0, 0, 0) := by rfl
theorem t58_0 : zT 58 0 = some (.iconst 0, 1, 0, 0, 0) := by rfl
theorem t58_1 : zT 58 1 = some (.istore_n 1, 1, 0, 0, 0) := by rfl
theorem t58_2 : zT 58 2 = some (.bipush 9, 2, 0, 0, 0) := by rfl
theorem t58_4 : zT 58 4 = some (.istore_n 2, 1, 0, 0, 0) := by rfl
theorem t58_5 : zT 58 5 = some (.iload_n 2, 1, 0, 0, 0) := by rfl
theorem t58_6 : zT 58 6 = some (.ifCond .lt 69, 3, 0, 0, 0) := by rfl
theorem t58_9 : zT 58 9 = some (.iconst 0, 1, 0, 0, 0) := by rfl
theorem t58_10 : zT 58 10 = some (.istore_n 3, 1, 0, 0, 0) := by rfl
theorem t58_11 : zT 58 11 = some (.iload_n 3, 1, 0, 0, 0) := by rfl
theorem t58_12 : zT 58 12 = some (.aload_n 0, 1, 0, 0, 0) := by rfl
theorem t58_13 : zT 58 13 = some (.getfield 21, 3, 4, 1, 182) := by rfl
theorem t58_16 : zT 58 16 = some (.getfield 85, 3, 1, 7, 144) := by rfl
theorem t58_19 : zT 58 19 = some (.if_icmp .ge 50, 3, 0, 0, 0) := by rfl
theorem t58_22 : zT 58 22 = some (.aload_n 0, 1, 0, 0, 0) := by rfl
theorem t58_23 : zT 58 23 = some (.getfield 21, 3, 4, 1, 182) := by rfl
theorem t58_26 : zT 58 26 = some (.getfield 96, 3, 1, 4, 134) := by rfl
theorem t58_29 : zT 58 29 = some (.iload_n 3, 1, 0, 0, 0) := by rfl
theorem t58_30 : zT 58 30 = some (.iaload, 1, 0, 0, 0) := by rfl
theorem t58_31 : zT 58 31 = some (.ifCond .ne 32, 3, 0, 0, 0) := by rfl
theorem t58_34 : zT 58 34 = some (.aload_n 0, 1, 0, 0, 0) := by rfl
theorem t58_35 : zT 58 35 = some (.getfield 32, 3, 4, 3, 187) := by rfl
theorem t58_38 : zT 58 38 = some (.aload_n 0, 1, 0, 0, 0) := by rfl
theorem t58_39 : zT 58 39 = some (.getfield 21, 3, 4, 1, 182) := by rfl
theorem t58_42 : zT 58 42 = some (.getfield 109, 3, 1, 0, 118) := by rfl
theorem t58_45 : zT 58 45 = some (.iload_n 3, 1, 0, 0, 0) := by rfl
theorem t58_46 : zT 58 46 = some (.iaload, 1, 0, 0, 0) := by rfl
theorem t58_47 : zT 58 47 = some (.iaload, 1, 0, 0, 0) := by rfl
theorem t58_48 : zT 58 48 = some (.iload_n 2, 1, 0, 0, 0) := by rfl
theorem t58_49 : zT 58 49 = some (.if_icmp .ne 14, 3, 0, 0, 0) := by rfl
theorem t58_52 : zT 58 52 = some (.aload_n 0, 1, 0, 0, 0) := by rfl
theorem t58_53 : zT 58 53 = some (.iload_n 3, 1, 0, 0, 0) := by rfl
theorem t58_54 : zT 58 54 = some (.invokevirtual 112, 3, 59, 0, 539) := by rfl
theorem t58_57 : zT 58 57 = some (.ifCond .eq 6, 3, 0, 0, 0) := by rfl
theorem t58_60 : zT 58 60 = some (.iinc 1 1, 3, 0, 0, 0) := by rfl
theorem t58_63 : zT 58 63 = some (.iinc 3 1, 3, 0, 0, 0) := by rfl
theorem t58_66 : zT 58 66 = some (.goto (-55), 3, 0, 0, 0) := by rfl
theorem t58_69 : zT 58 69 = some (.iinc 2 (-1), 3, 0, 0, 0) := by rfl
theorem t58_72 : zT 58 72 = some (.goto (-67), 3, 0, 0, 0) := by rfl
theorem t58_75 : zT 58 75 = some (.iload_n 1, 1, 0, 0, 0) := by rfl
theorem t58_76 : zT 58 76 = some (.ireturn, 1, 0, 0, 0) := by rfl
theorem t59_0 : zT 59 0 = some (.aload_n 0, 1, 0, 0, 0) := by rfl
theorem t59_1 : zT 59 1 = some (.iload_n 1, 1, 0, 0, 0) := by rfl
theorem t59_2 : zT 59 2 = some (.invokevirtual 115, 3, 57, 0, 543) := by rfl
theorem t59_5 : zT 59 5 = some (.ifCond .eq 14, 3, 0, 0, 0) := by rfl
theorem t59_8 : zT 59 8 = some (.aload_n 0, 1, 0, 0, 0) := by rfl
theorem t59_9 : zT 59 9 = some (.getfield 21, 3, 4, 1, 182) := by rfl
theorem t59_12 : zT 59 12 = some (.iload_n 1, 1, 0, 0, 0) := by rfl
theorem t59_13 : zT 59 13 = some (.invokevirtual 118, 3, 19, 0, 544) := by rfl
theorem t59_16 : zT 59 16 = some (.pop, 1, 0, 0, 0) := by rfl
theorem t59_17 : zT 59 17 = some (.iconst 1, 1, 0, 0, 0) := by rfl
theorem t59_18 : zT 59 18 = some (.ireturn, 1, 0, 0, 0) := by rfl
theorem t59_19 : zT 59 19 = some (.aload_n 0, 1, 0, 0, 0) := by rfl
theorem t59_20 : zT 59 20 = some (.getfield 21, 3, 4, 1, 182) := by rfl
theorem t59_23 : zT 59 23 = some (.getfield 96, 3, 1, 4, 134) := by rfl
theorem t59_26 : zT 59 26 = some (.iload_n 1, 1, 0, 0, 0) := by rfl
theorem t59_27 : zT 59 27 = some (.iconst 2, 1, 0, 0, 0) := by rfl
theorem t59_28 : zT 59 28 = some (.iastore, 1, 0, 0, 0) := by rfl
theorem t59_29 : zT 59 29 = some (.iconst 0, 1, 0, 0, 0) := by rfl
theorem t59_30 : zT 59 30 = some (.ireturn, 1, 0, 0, 0) := by rfl
theorem t60_0 : zT 60 0 = some (.aload_n 0, 1, 0, 0, 0) := by rfl
theorem t60_1 : zT 60 1 = some (.getfield 12, 3, 4, 0, 179) := by rfl
theorem t60_4 : zT 60 4 = some (.invokevirtual 52, 3, 65, 0, 366) := by rfl
theorem t60_7 : zT 60 7 = some (.iconst 0, 1, 0, 0, 0) := by rfl
theorem t60_8 : zT 60 8 = some (.istore_n 2, 1, 0, 0, 0) := by rfl
theorem t60_9 : zT 60 9 = some (.iload_n 2, 1, 0, 0, 0) := by rfl
theorem t60_10 : zT 60 10 = some (.aload_n 1, 1, 0, 0, 0) := by rfl
theorem t60_11 : zT 60 11 = some (.getfield 121, 3, 8, 4, 279) := by rfl
theorem t60_14 : zT 60 14 = some (.if_icmp .ge 21, 3, 0, 0, 0) := by rfl
theorem t60_17 : zT 60 17 = some (.aload_n 0, 1, 0, 0, 0) := by rfl
theorem t60_18 : zT 60 18 = some (.getfield 12, 3, 4, 0, 179) := by rfl
theorem t60_21 : zT 60 21 = some (.aload_n 1, 1, 0, 0, 0) := by rfl
theorem t60_22 : zT 60 22 = some (.iload_n 2, 1, 0, 0, 0) := by rfl
theorem t60_23 : zT 60 23 = some (.invokevirtual 124, 3, 80, 0, 573) := by rfl
theorem t60_26 : zT 60 26 = some (.invokevirtual 65, 3, 66, 0, 371) := by rfl
theorem t60_29 : zT 60 29 = some (.iinc 2 1, 3, 0, 0, 0) := by rfl
theorem t60_32 : zT 60 32 = some (.goto (-23), 3, 0, 0, 0) := by rfl
theorem t60_35 : zT 60 35 = some (.aload_n 0, 1, 0, 0, 0) := by rfl
theorem t60_36 : zT 60 36 = some (.getfield 28, 3, 4, 2, 185) := by rfl
theorem t60_39 : zT 60 39 = some (.aload_n 0, 1, 0, 0, 0) := by rfl
theorem t60_40 : zT 60 40 = some (.getfield 12, 3, 4, 0, 179) := by rfl
theorem t60_43 : zT 60 43 = some (.invokevirtual 125, 3, 73, 0, 577) := by rfl
theorem t60_46 : zT 60 46 = some (.aload_n 0, 1, 0, 0, 0) := by rfl
theorem t60_47 : zT 60 47 = some (.getfield 21, 3, 4, 1, 182) := by rfl
theorem t60_50 : zT 60 50 = some (.invokevirtual 127, 3, 29, 0, 581) := by rfl
theorem t60_53 : zT 60 53 = some (.return_, 1, 0, 0, 0) := by rfl
theorem t62_0 : zT 62 0 = some (.iload_n 0, 1, 0, 0, 0) := by rfl
theorem t62_1 : zT 62 1 = some (.ifCond .lt 12, 3, 0, 0, 0) := by rfl
theorem t62_4 : zT 62 4 = some (.iload_n 0, 1, 0, 0, 0) := by rfl
theorem t62_5 : zT 62 5 = some (.iconst 2, 1, 0, 0, 0) := by rfl
theorem t62_6 : zT 62 6 = some (.if_icmp .ge 7, 3, 0, 0, 0) := by rfl
theorem t62_9 : zT 62 9 = some (.iconst 1, 1, 0, 0, 0) := by rfl
theorem t62_10 : zT 62 10 = some (.goto 4, 3, 0, 0, 0) := by rfl
theorem t62_13 : zT 62 13 = some (.iconst 0, 1, 0, 0, 0) := by rfl
theorem t62_14 : zT 62 14 = some (.ireturn, 1, 0, 0, 0) := by rfl
theorem t63_0 : zT 63 0 = some (.aload_n 0, 1, 0, 0, 0) := by rfl
theorem t63_1 : zT 63 1 = some (.getfield 11, 3, 5, 0, 226) := by rfl
theorem t63_4 : zT 63 4 = some (.iload_n 1, 1, 0, 0, 0) := by rfl
theorem t63_5 : zT 63 5 = some (.aaload, 1, 0, 0, 0) := by rfl
theorem t63_6 : zT 63 6 = some (.aload_n 2, 1, 0, 0, 0) := by rfl
theorem t63_7 : zT 63 7 = some (.invokevirtual 22, 3, 51, 0, 771) := by rfl
theorem t63_10 : zT 63 10 = some (.aload_n 0, 1, 0, 0, 0) := by rfl
theorem t63_11 : zT 63 11 = some (.getfield 17, 3, 5, 1, 228) := by rfl
theorem t63_14 : zT 63 14 = some (.iload_n 1, 1, 0, 0, 0) := by rfl
theorem t63_15 : zT 63 15 = some (.iconst 1, 1, 0, 0, 0) := by rfl
theorem t63_16 : zT 63 16 = some (.bastore, 1, 0, 0, 0) := by rfl
theorem t63_17 : zT 63 17 = some (.return_, 1, 0, 0, 0) := by rfl
theorem t65_0 : zT 65 0 = some (.aload_n 0, 1, 0, 0, 0) := by rfl
theorem t65_1 : zT 65 1 = some (.iconst 0, 1, 0, 0, 0) := by rfl
theorem t65_2 : zT 65 2 = some (.putfield 15, 3, 6, 1, 99) := by rfl
theorem t65_5 : zT 65 5 = some (.return_, 1, 0, 0, 0) := by rfl
theorem t66_0 : zT 66 0 = some (.aload_n 0, 1, 0, 0, 0) := by rfl
theorem t66_1 : zT 66 1 = some (.getfield 15, 3, 6, 1, 99) := by rfl
theorem t66_4 : zT 66 4 = some (.bipush 60, 2, 0, 0, 0) := by rfl
theorem t66_6 : zT 66 6 = some (.if_icmp .ge 23, 3, 0, 0, 0) := by rfl
theorem t66_9 : zT 66 9 = some (.aload_n 0, 1, 0, 0, 0) := by rfl
theorem t66_10 : zT 66 10 = some (.getfield 9, 3, 6, 0, 96) := by rfl
theorem t66_13 : zT 66 13 = some (.aload_n 0, 1, 0, 0, 0) := by rfl
theorem t66_14 : zT 66 14 = some (.getfield 15, 3, 6, 1, 99) := by rfl
theorem t66_17 : zT 66 17 = some (.iload_n 1, 1, 0, 0, 0) := by rfl
theorem t66_18 : zT 66 18 = some (.iastore, 1, 0, 0, 0) := by rfl
theorem t66_19 : zT 66 19 = some (.aload_n 0, 1, 0, 0, 0) := by rfl
theorem t66_20 : zT 66 20 = some (.dup, 1, 0, 0, 0) := by rfl
theorem t66_21 : zT 66 21 = some (.getfield 15, 3, 6, 1, 99) := by rfl
theorem t66_24 : zT 66 24 = some (.iconst 1, 1, 0, 0, 0) := by rfl
theorem t66_25 : zT 66 25 = some (.iadd, 1, 0, 0, 0) := by rfl
theorem t66_26 : zT 66 26 = some (.putfield 15, 3, 6, 1, 99) := by rfl
theorem t66_29 : zT 66 29 = some (.return_, 1, 0, 0, 0) := by rfl
theorem t67_0 : zT 67 0 = some (.iload_n 1, 1, 0, 0, 0) := by rfl
theorem t67_1 : zT 67 1 = some (.ifCond .lt 20, 3, 0, 0, 0) := by rfl
theorem t67_4 : zT 67 4 = some (.iload_n 1, 1, 0, 0, 0) := by rfl
theorem t67_5 : zT 67 5 = some (.aload_n 0, 1, 0, 0, 0) := by rfl
theorem t67_6 : zT 67 6 = some (.getfield 15, 3, 6, 1, 99) := by rfl
theorem t67_9 : zT 67 9 = some (.if_icmp .ge 12, 3, 0, 0, 0) := by rfl
theorem t67_12 : zT 67 12 = some (.aload_n 0, 1, 0, 0, 0) := by rfl
theorem t67_13 : zT 67 13 = some (.getfield 9, 3, 6, 0, 96) := by rfl
theorem t67_16 : zT 67 16 = some (.iload_n 1, 1, 0, 0, 0) := by rfl
theorem t67_17 : zT 67 17 = some (.iaload, 1, 0, 0, 0) := by rfl
theorem t67_18 : zT 67 18 = some (.goto 4, 3, 0, 0, 0) := by rfl
theorem t67_21 : zT 67 21 = some (.iconst (-1), 1, 0, 0, 0) := by rfl
theorem t67_22 : zT 67 22 = some (.ireturn, 1, 0, 0, 0) := by rfl
theorem t68_0 : zT 68 0 = some (.aload_n 1, 1, 0, 0, 0) := by rfl
theorem t68_1 : zT 68 1 = some (.getfield 9, 3, 6, 0, 96) := by rfl
theorem t68_4 : zT 68 4 = some (.iconst 0, 1, 0, 0, 0) := by rfl
theorem t68_5 : zT 68 5 = some (.aload_n 0, 1, 0, 0, 0) := by rfl
theorem t68_6 : zT 68 6 = some (.getfield 9, 3, 6, 0, 96) := by rfl
theorem t68_9 : zT 68 9 = some (.iconst 0, 1, 0, 0, 0) := by rfl
theorem t68_10 : zT 68 10 = some (.bipush 60, 2, 0, 0, 0) := by rfl
theorem t68_12 : zT 68 12 = some (.invokestatic 19, 3, 1001, 0, 345) := by rfl
theorem t68_15 : zT 68 15 = some (.aload_n 0, 1, 0, 0, 0) := by rfl
theorem t68_16 : zT 68 16 = some (.aload_n 1, 1, 0, 0, 0) := by rfl
theorem t68_17 : zT 68 17 = some (.getfield 15, 3, 6, 1, 99) := by rfl
theorem t68_20 : zT 68 20 = some (.putfield 15, 3, 6, 1, 99) := by rfl
theorem t68_23 : zT 68 23 = some (.return_, 1, 0, 0, 0) := by rfl
theorem t70_0 : zT 70 0 = some (.aload_n 0, 1, 0, 0, 0) := by rfl
theorem t70_1 : zT 70 1 = some (.iconst 0, 1, 0, 0, 0) := by rfl
theorem t70_2 : zT 70 2 = some (.putfield 18, 3, 7, 2, 170) := by rfl
theorem t70_5 : zT 70 5 = some (.return_, 1, 0, 0, 0) := by rfl
theorem t71_0 : zT 71 0 = some (.aload_n 0, 1, 0, 0, 0) := by rfl
theorem t71_1 : zT 71 1 = some (.getfield 18, 3, 7, 2, 170) := by rfl
theorem t71_4 : zT 71 4 = some (.bipush 6, 2, 0, 0, 0) := by rfl
theorem t71_6 : zT 71 6 = some (.invokestatic 22, 3, 1002, 0, 676) := by rfl
theorem t71_9 : zT 71 9 = some (.ireturn, 1, 0, 0, 0) := by rfl
theorem t72_0 : zT 72 0 = some (.iload_n 1, 1, 0, 0, 0) := by rfl
theorem t72_1 : zT 72 1 = some (.ifCond .lt 15, 3, 0, 0, 0) := by rfl
theorem t72_4 : zT 72 4 = some (.iload_n 1, 1, 0, 0, 0) := by rfl
theorem t72_5 : zT 72 5 = some (.aload_n 0, 1, 0, 0, 0) := by rfl
theorem t72_6 : zT 72 6 = some (.invokevirtual 28, 3, 71, 0, 685) := by rfl
theorem t72_9 : zT 72 9 = some (.if_icmp .ge 7, 3, 0, 0, 0) := by rfl
theorem t72_12 : zT 72 12 = some (.iconst 1, 1, 0, 0, 0) := by rfl
theorem t72_13 : zT 72 13 = some (.goto 4, 3, 0, 0, 0) := by rfl
theorem t72_16 : zT 72 16 = some (.iconst 0, 1, 0, 0, 0) := by rfl
theorem t72_17 : zT 72 17 = some (.ireturn, 1, 0, 0, 0) := by rfl
theorem t73_0 : zT 73 0 = some (.aload_n 0, 1, 0, 0, 0) := by rfl
theorem t73_1 : zT 73 1 = some (.getfield 18, 3, 7, 2, 170) := by rfl
theorem t73_4 : zT 73 4 = some (.bipush 6, 2, 0, 0, 0) := by rfl
theorem t73_6 : zT 73 6 = some (.irem, 1, 0, 0, 0) := by rfl
theorem t73_7 : zT 73 7 = some (.istore_n 2, 1, 0, 0, 0) := by rfl
theorem t73_8 : zT 73 8 = some (.aload_n 1, 1, 0, 0, 0) := by rfl
theorem t73_9 : zT 73 9 = some (.getfield 32, 3, 6, 0, 97) := by rfl
theorem t73_12 : zT 73 12 = some (.iconst 0, 1, 0, 0, 0) := by rfl
theorem t73_13 : zT 73 13 = some (.aload_n 0, 1, 0, 0, 0) := by rfl
theorem t73_14 : zT 73 14 = some (.getfield 9, 3, 7, 0, 168) := by rfl
theorem t73_17 : zT 73 17 = some (.iload_n 2, 1, 0, 0, 0) := by rfl
theorem t73_18 : zT 73 18 = some (.bipush 60, 2, 0, 0, 0) := by rfl
theorem t73_20 : zT 73 20 = some (.imul, 1, 0, 0, 0) := by rfl
theorem t73_21 : zT 73 21 = some (.bipush 60, 2, 0, 0, 0) := by rfl
theorem t73_23 : zT 73 23 = some (.invokestatic 35, 3, 1001, 0, 357) := by rfl
theorem t73_26 : zT 73 26 = some (.aload_n 0, 1, 0, 0, 0) := by rfl
theorem t73_27 : zT 73 27 = some (.getfield 15, 3, 7, 1, 169) := by rfl
theorem t73_30 : zT 73 30 = some (.iload_n 2, 1, 0, 0, 0) := by rfl
theorem t73_31 : zT 73 31 = some (.aload_n 1, 1, 0, 0, 0) := by rfl
theorem t73_32 : zT 73 32 = some (.getfield 41, 3, 6, 1, 103) := by rfl
theorem t73_35 : zT 73 35 = some (.iastore, 1, 0, 0, 0) := by rfl
theorem t73_36 : zT 73 36 = some (.aload_n 0, 1, 0, 0, 0) := by rfl
theorem t73_37 : zT 73 37 = some (.dup, 1, 0, 0, 0) := by rfl
theorem t73_38 : zT 73 38 = some (.getfield 18, 3, 7, 2, 170) := by rfl
theorem t73_41 : zT 73 41 = some (.iconst 1, 1, 0, 0, 0) := by rfl
theorem t73_42 : zT 73 42 = some (.iadd, 1, 0, 0, 0) := by rfl
theorem t73_43 : zT 73 43 = some (.putfield 18, 3, 7, 2, 170) := by rfl
theorem t73_46 : zT 73 46 = some (.return_, 1, 0, 0, 0) := by rfl
theorem t74_0 : zT 74 0 = some (.aload_n 0, 1, 0, 0, 0) := by rfl
theorem t74_1 : zT 74 1 = some (.iload_n 1, 1, 0, 0, 0) := by rfl
theorem t74_2 : zT 74 2 = some (.invokevirtual 44, 3, 72, 0, 690) := by rfl
theorem t74_5 : zT 74 5 = some (.ifCond .eq 16, 3, 0, 0, 0) := by rfl
theorem t74_8 : zT 74 8 = some (.aload_n 0, 1, 0, 0, 0) := by rfl
theorem t74_9 : zT 74 9 = some (.getfield 15, 3, 7, 1, 169) := by rfl
theorem t74_12 : zT 74 12 = some (.aload_n 0, 1, 0, 0, 0) := by rfl
theorem t74_13 : zT 74 13 = some (.iload_n 1, 1, 0, 0, 0) := by rfl
theorem t74_14 : zT 74 14 = some (.invokevirtual 48, 3, 76, 0, 691) := by rfl
theorem t74_17 : zT 74 17 = some (.iaload, 1, 0, 0, 0) := by rfl
theorem t74_18 : zT 74 18 = some (.goto 4, 3, 0, 0, 0) := by rfl
theorem t74_21 : zT 74 21 = some (.iconst 0, 1, 0, 0, 0) := by rfl
theorem t74_22 : zT 74 22 = some (.ireturn, 1, 0, 0, 0) := by rfl
theorem t75_0 : zT 75 0 = some (.iload_n 2, 1, 0, 0, 0) := by rfl
theorem t75_1 : zT 75 1 = some (.ifCond .lt 12, 3, 0, 0, 0) := by rfl
theorem t75_4 : zT 75 4 = some (.iload_n 2, 1, 0, 0, 0) := by rfl
theorem t75_5 : zT 75 5 = some (.aload_n 0, 1, 0, 0, 0) := by rfl
theorem t75_6 : zT 75 6 = some (.iload_n 1, 1, 0, 0, 0) := by rfl
theorem t75_7 : zT 75 7 = some (.invokevirtual 52, 3, 74, 0, 702) := by rfl
theorem t75_10 : zT 75 10 = some (.if_icmp .lt 5, 3, 0, 0, 0) := by rfl
theorem t75_13 : zT 75 13 = some (.iconst (-1), 1, 0, 0, 0) := by rfl
theorem t75_14 : zT 75 14 = some (.ireturn, 1, 0, 0, 0) := by rfl
theorem t75_15 : zT 75 15 = some (.aload_n 0, 1, 0, 0, 0) := by rfl
theorem t75_16 : zT 75 16 = some (.getfield 9, 3, 7, 0, 168) := by rfl
theorem t75_19 : zT 75 19 = some (.aload_n 0, 1, 0, 0, 0) := by rfl
theorem t75_20 : zT 75 20 = some (.iload_n 1, 1, 0, 0, 0) := by rfl
theorem t75_21 : zT 75 21 = some (.invokevirtual 48, 3, 76, 0, 691) := by rfl
theorem t75_24 : zT 75 24 = some (.bipush 60, 2, 0, 0, 0) := by rfl
theorem t75_26 : zT 75 26 = some (.imul, 1, 0, 0, 0) := by rfl
theorem t75_27 : zT 75 27 = some (.iload_n 2, 1, 0, 0, 0) := by rfl
theorem t75_28 : zT 75 28 = some (.iadd, 1, 0, 0, 0) := by rfl
theorem t75_29 : zT 75 29 = some (.iaload, 1, 0, 0, 0) := by rfl
theorem t75_30 : zT 75 30 = some (.ireturn, 1, 0, 0, 0) := by rfl
theorem t76_0 : zT 76 0 = some (.aload_n 0, 1, 0, 0, 0) := by rfl
theorem t76_1 : zT 76 1 = some (.getfield 18, 3, 7, 2, 170) := by rfl
theorem t76_4 : zT 76 4 = some (.iconst 1, 1, 0, 0, 0) := by rfl
theorem t76_5 : zT 76 5 = some (.isub, 1, 0, 0, 0) := by rfl
theorem t76_6 : zT 76 6 = some (.iload_n 1, 1, 0, 0, 0) := by rfl
theorem t76_7 : zT 76 7 = some (.isub, 1, 0, 0, 0) := by rfl
theorem t76_8 : zT 76 8 = some (.bipush 6, 2, 0, 0, 0) := by rfl
theorem t76_10 : zT 76 10 = some (.invokestatic 55, 3, 185, 0, 695) := by rfl
theorem t76_13 : zT 76 13 = some (.ireturn, 1, 0, 0, 0) := by rfl
theorem t77_0 : zT 77 0 = some (.aload_n 0, 1, 0, 0, 0) := by rfl
theorem t77_1 : zT 77 1 = some (.iload_n 1, 1, 0, 0, 0) := by rfl
theorem t77_2 : zT 77 2 = some (.invokevirtual 52, 3, 74, 0, 702) := by rfl
theorem t77_5 : zT 77 5 = some (.istore 4, 2, 0, 0, 0) := by rfl
theorem t77_7 : zT 77 7 = some (.aload_n 0, 1, 0, 0, 0) := by rfl
theorem t77_8 : zT 77 8 = some (.iload_n 2, 1, 0, 0, 0) := by rfl
theorem t77_9 : zT 77 9 = some (.invokevirtual 52, 3, 74, 0, 702) := by rfl
theorem t77_12 : zT 77 12 = some (.aload_n 3, 1, 0, 0, 0) := by rfl
theorem t77_13 : zT 77 13 = some (.arraylength, 1, 0, 0, 0) := by rfl
theorem t77_14 : zT 77 14 = some (.iconst 1, 1, 0, 0, 0) := by rfl
theorem t77_15 : zT 77 15 = some (.isub, 1, 0, 0, 0) := by rfl
theorem t77_16 : zT 77 16 = some (.invokestatic 22, 3, 1002, 0, 676) := by rfl
theorem t77_19 : zT 77 19 = some (.istore 5, 2, 0, 0, 0) := by rfl
theorem t77_21 : zT 77 21 = some (.aload_n 0, 1, 0, 0, 0) := by rfl
theorem t77_22 : zT 77 22 = some (.iload_n 1, 1, 0, 0, 0) := by rfl
theorem t77_23 : zT 77 23 = some (.invokevirtual 48, 3, 76, 0, 691) := by rfl
theorem t77_26 : zT 77 26 = some (.bipush 60, 2, 0, 0, 0) := by rfl
theorem t77_28 : zT 77 28 = some (.imul, 1, 0, 0, 0) := by rfl
theorem t77_29 : zT 77 29 = some (.istore 6, 2, 0, 0, 0) := by rfl
theorem t77_31 : zT 77 31 = some (.aload_n 0, 1, 0, 0, 0) := by rfl
theorem t77_32 : zT 77 32 = some (.iload_n 2, 1, 0, 0, 0) := by rfl
theorem t77_33 : zT 77 33 = some (.invokevirtual 48, 3, 76, 0, 691) := by rfl
theorem t77_36 : zT 77 36 = some (.bipush 60, 2, 0, 0, 0) := by rfl
theorem t77_38 : zT 77 38 = some (.imul, 1, 0, 0, 0) := by rfl
theorem t77_39 : zT 77 39 = some (.istore 7, 2, 0, 0, 0) := by rfl
theorem t77_41 : zT 77 41 = some (.iconst 0, 1, 0, 0, 0) := by rfl
theorem t77_42 : zT 77 42 = some (.istore 8, 2, 0, 0, 0) := by rfl
theorem t77_44 : zT 77 44 = some (.iload 8, 2, 0, 0, 0) := by rfl
theorem t77_46 : zT 77 46 = some (.iload 5, 2, 0, 0, 0) := by rfl
theorem t77_48 : zT 77 48 = some (.if_icmp .gt 15, 3, 0, 0, 0) := by rfl
theorem t77_51 : zT 77 51 = some (.aload_n 3, 1, 0, 0, 0) := by rfl
theorem t77_52 : zT 77 52 = some (.iload 8, 2, 0, 0, 0) := by rfl
theorem t77_54 : zT 77 54 = some (.iload 8, 2, 0, 0, 0) := by rfl
theorem t77_56 : zT 77 56 = some (.iastore, 1, 0, 0, 0) := by rfl
theorem t77_57 : zT 77 57 = some (.iinc 8 1, 3, 0, 0, 0) := by rfl
theorem t77_60 : zT 77 60 = some (.goto (-16), 3, 0, 0, 0) := by rfl
theorem t77_63 : zT 77 63 = some (.iconst 0, 1, 0, 0, 0) := by rfl
theorem t77_64 : zT 77 64 = some (.istore 8, 2, 0, 0, 0) := by rfl
theorem t77_66 : zT 77 66 = some (.iload 8, 2, 0, 0, 0) := by rfl
theorem t77_68 : zT 77 68 = some (.iload 4, 2, 0, 0, 0) := by rfl
theorem t77_70 : zT 77 70 = some (.if_icmp .ge 101, 3, 0, 0, 0) := by rfl
theorem t77_73 : zT 77 73 = some (.aload_n 3, 1, 0, 0, 0) := by rfl
theorem t77_74 : zT 77 74 = some (.iconst 0, 1, 0, 0, 0) := by rfl
theorem t77_75 : zT 77 75 = some (.iaload, 1, 0, 0, 0) := by rfl
theorem t77_76 : zT 77 76 = some (.istore 9, 2, 0, 0, 0) := by rfl
theorem t77_78 : zT 77 78 = some (.aload_n 3, 1, 0, 0, 0) := by rfl
theorem t77_79 : zT 77 79 = some (.iconst 0, 1, 0, 0, 0) := by rfl
theorem t77_80 : zT 77 80 = some (.iload 8, 2, 0, 0, 0) := by rfl
theorem t77_82 : zT 77 82 = some (.iconst 1, 1, 0, 0, 0) := by rfl
theorem t77_83 : zT 77 83 = some (.iadd, 1, 0, 0, 0) := by rfl
theorem t77_84 : zT 77 84 = some (.iastore, 1, 0, 0, 0) := by rfl
theorem t77_85 : zT 77 85 = some (.iconst 0, 1, 0, 0, 0) := by rfl
theorem t77_86 : zT 77 86 = some (.istore 10, 2, 0, 0, 0) := by rfl
theorem t77_88 : zT 77 88 = some (.iload 10, 2, 0, 0, 0) := by rfl
theorem t77_90 : zT 77 90 = some (.iload 5, 2, 0, 0, 0) := by rfl
theorem t77_92 : zT 77 92 = some (.if_icmp .ge 73, 3, 0, 0, 0) := by rfl
theorem t77_95 : zT 77 95 = some (.aload_n 0, 1, 0, 0, 0) := by rfl
theorem t77_96 : zT 77 96 = some (.getfield 9, 3, 7, 0, 168) := by rfl
theorem t77_99 : zT 77 99 = some (.iload 6, 2, 0, 0, 0) := by rfl
theorem t77_101 : zT 77 101 = some (.iload 8, 2, 0, 0, 0) := by rfl
theorem t77_103 : zT 77 103 = some (.iadd, 1, 0, 0, 0) := by rfl
theorem t77_104 : zT 77 104 = some (.iaload, 1, 0, 0, 0) := by rfl
theorem t77_105 : zT 77 105 = some (.aload_n 0, 1, 0, 0, 0) := by rfl
theorem t77_106 : zT 77 106 = some (.getfield 9, 3, 7, 0, 168) := by rfl
theorem t77_109 : zT 77 109 = some (.iload 7, 2, 0, 0, 0) := by rfl
theorem t77_111 : zT 77 111 = some (.iload 10, 2, 0, 0, 0) := by rfl
theorem t77_113 : zT 77 113 = some (.iadd, 1, 0, 0, 0) := by rfl
theorem t77_114 : zT 77 114 = some (.iaload, 1, 0, 0, 0) := by rfl
theorem t77_115 : zT 77 115 = some (.if_icmp .ne 8, 3, 0, 0, 0) := by rfl
theorem t77_118 : zT 77 118 = some (.iload 9, 2, 0, 0, 0) := by rfl
theorem t77_120 : zT 77 120 = some (.goto 7, 3, 0, 0, 0) := by rfl
theorem t77_123 : zT 77 123 = some (.iload 9, 2, 0, 0, 0) := by rfl
theorem t77_125 : zT 77 125 = some (.iconst 1, 1, 0, 0, 0) := by rfl
theorem t77_126 : zT 77 126 = some (.iadd, 1, 0, 0, 0) := by rfl
theorem t77_127 : zT 77 127 = some (.istore 11, 2, 0, 0, 0) := by rfl
theorem t77_129 : zT 77 129 = some (.aload_n 3, 1, 0, 0, 0) := by rfl
theorem t77_130 : zT 77 130 = some (.iload 10, 2, 0, 0, 0) := by rfl
theorem t77_132 : zT 77 132 = some (.iconst 1, 1, 0, 0, 0) := by rfl
theorem t77_133 : zT 77 133 = some (.iadd, 1, 0, 0, 0) := by rfl
theorem t77_134 : zT 77 134 = some (.iaload, 1, 0, 0, 0) := by rfl
theorem t77_135 : zT 77 135 = some (.istore 9, 2, 0, 0, 0) := by rfl
theorem t77_137 : zT 77 137 = some (.aload_n 3, 1, 0, 0, 0) := by rfl
theorem t77_138 : zT 77 138 = some (.iload 10, 2, 0, 0, 0) := by rfl
theorem t77_140 : zT 77 140 = some (.iconst 1, 1, 0, 0, 0) := by rfl
theorem t77_141 : zT 77 141 = some (.iadd, 1, 0, 0, 0) := by rfl
theorem t77_142 : zT 77 142 = some (.iload 11, 2, 0, 0, 0) := by rfl
theorem t77_144 : zT 77 144 = some (.iconst 1, 1, 0, 0, 0) := by rfl
theorem t77_145 : zT 77 145 = some (.iload 9, 2, 0, 0, 0) := by rfl
theorem t77_147 : zT 77 147 = some (.aload_n 3, 1, 0, 0, 0) := by rfl
theorem t77_148 : zT 77 148 = some (.iload 10, 2, 0, 0, 0) := by rfl
theorem t77_150 : zT 77 150 = some (.iaload, 1, 0, 0, 0) := by rfl
theorem t77_151 : zT 77 151 = some (.invokestatic 22, 3, 1002, 0, 676) := by rfl
theorem t77_154 : zT 77 154 = some (.iadd, 1, 0, 0, 0) := by rfl
theorem t77_155 : zT 77 155 = some (.invokestatic 22, 3, 1002, 0, 676) := by rfl
theorem t77_158 : zT 77 158 = some (.iastore, 1, 0, 0, 0) := by rfl
theorem t77_159 : zT 77 159 = some (.iinc 10 1, 3, 0, 0, 0) := by rfl
theorem t77_162 : zT 77 162 = some (.goto (-74), 3, 0, 0, 0) := by rfl
theorem t77_165 : zT 77 165 = some (.iinc 8 1, 3, 0, 0, 0) := by rfl
theorem t77_168 : zT 77 168 = some (.goto (-102), 3, 0, 0, 0) := by rfl
theorem t77_171 : zT 77 171 = some (.aload_n 3, 1, 0, 0, 0) := by rfl
theorem t77_172 : zT 77 172 = some (.iload 5, 2, 0, 0, 0) := by rfl
theorem t77_174 : zT 77 174 = some (.iaload, 1, 0, 0, 0) := by rfl
theorem t77_175 : zT 77 175 = some (.ireturn, 1, 0, 0, 0) := by rfl
theorem t78_0 : zT 78 0 = some (.aload_n 1, 1, 0, 0, 0) := by rfl
theorem t78_1 : zT 78 1 = some (.getfield 9, 3, 7, 0, 168) := by rfl
theorem t78_4 : zT 78 4 = some (.iconst 0, 1, 0, 0, 0) := by rfl
theorem t78_5 : zT 78 5 = some (.aload_n 0, 1, 0, 0, 0) := by rfl
theorem t78_6 : zT 78 6 = some (.getfield 9, 3, 7, 0, 168) := by rfl
theorem t78_9 : zT 78 9 = some (.iconst 0, 1, 0, 0, 0) := by rfl
theorem t78_10 : zT 78 10 = some (.sipush 360, 3, 0, 0, 0) := by rfl
theorem t78_13 : zT 78 13 = some (.invokestatic 35, 3, 1001, 0, 357) := by rfl
theorem t78_16 : zT 78 16 = some (.aload_n 1, 1, 0, 0, 0) := by rfl
theorem t78_17 : zT 78 17 = some (.getfield 15, 3, 7, 1, 169) := by rfl
theorem t78_20 : zT 78 20 = some (.iconst 0, 1, 0, 0, 0) := by rfl
theorem t78_21 : zT 78 21 = some (.aload_n 0, 1, 0, 0, 0) := by rfl
theorem t78_22 : zT 78 22 = some (.getfield 15, 3, 7, 1, 169) := by rfl
theorem t78_25 : zT 78 25 = some (.iconst 0, 1, 0, 0, 0) := by rfl
theorem t78_26 : zT 78 26 = some (.bipush 6, 2, 0, 0, 0) := by rfl
theorem t78_28 : zT 78 28 = some (.invokestatic 35, 3, 1001, 0, 357) := by rfl
theorem t78_31 : zT 78 31 = some (.aload_n 0, 1, 0, 0, 0) := by rfl
theorem t78_32 : zT 78 32 = some (.aload_n 1, 1, 0, 0, 0) := by rfl
theorem t78_33 : zT 78 33 = some (.getfield 18, 3, 7, 2, 170) := by rfl
theorem t78_36 : zT 78 36 = some (.putfield 18, 3, 7, 2, 170) := by rfl
theorem t78_39 : zT 78 39 = some (.return_, 1, 0, 0, 0) := by rfl
/-! X4_takeOver FiveInks$Sheet.takeOver -/
theorem k51_0 {X : Nat × (Nat → Int32)} {I : Nat → Nat → Int32} {b : Nat} (hb : zSb b = true) : zr X 51 0 [.ref b, .ref 2] [] (zk I) = zcb (zr X 68 0 [.ref (b + 1), .ref 3] [] (zk I)) (fun v m1 => zr X 51 11 [.ref b, .ref 2] (v.toList ++ []) m1) :=
  (zr_aload_n t51_0 rfl).trans <|
    (zr_getR (u := (b + 1)) t51_1 (zbase hb (fun b => zfR b 4 0 (b + 1)) (by decide))).trans <|
    (zr_aload_n t51_4 rfl).trans <|
    (zr_getR (u := 3) t51_5 (rfl)).trans <|
    zr_callv t51_8 (zcok_recv (t := (b + 1)) (zbase hb (fun z => zKb (z + 1) 6) (by decide)) rfl rfl) rfl rfl rfl
theorem k51_11 {X : Nat × (Nat → Int32)} {I : Nat → Nat → Int32} {b : Nat} (hb : zSb b = true) : zr X 51 11 [.ref b, .ref 2] [] (zk I) = zcb (zr X 11 0 [.ref (b + 3), .ref 5] [] (zk I)) (fun v m1 => zr X 51 22 [.ref b, .ref 2] (v.toList ++ []) m1) :=
  (zr_aload_n t51_11 rfl).trans <|
    (zr_getR (u := (b + 3)) t51_12 (zbase hb (fun b => zfR b 4 1 (b + 3)) (by decide))).trans <|
    (zr_aload_n t51_15 rfl).trans <|
    (zr_getR (u := 5) t51_16 (rfl)).trans <|
    zr_callv t51_19 (zcok_recv (t := (b + 3)) (zbase hb (fun z => zKb (z + 3) 1) (by decide)) rfl rfl) rfl rfl rfl
theorem k51_22 {X : Nat × (Nat → Int32)} {I : Nat → Nat → Int32} {b : Nat} (hb : zSb b = true) : zr X 51 22 [.ref b, .ref 2] [] (zk I) = zcb (zr X 78 0 [.ref (b + 11), .ref 13] [] (zk I)) (fun v m1 => zr X 51 33 [.ref b, .ref 2] (v.toList ++ []) m1) :=
  (zr_aload_n t51_22 rfl).trans <|
    (zr_getR (u := (b + 11)) t51_23 (zbase hb (fun b => zfR b 4 2 (b + 11)) (by decide))).trans <|
    (zr_aload_n t51_26 rfl).trans <|
    (zr_getR (u := 13) t51_27 (rfl)).trans <|
    zr_callv t51_30 (zcok_recv (t := (b + 11)) (zbase hb (fun z => zKb (z + 11) 7) (by decide)) rfl rfl) rfl rfl rfl
theorem k51_33 {X : Nat × (Nat → Int32)} {I : Nat → Nat → Int32} {b : Nat} (hb : zSb b = true) : zr X 51 33 [.ref b, .ref 2] [] (zk I) = some (none, zk (zs2 I 16 (b + 14) 0 0 5)) :=
  (zr_aload_n t51_33 rfl).trans <|
    (zr_getR (u := 16) t51_34 (rfl)).trans <|
    (zr_iconst t51_37 zci_0).trans <|
    (zr_aload_n t51_38 rfl).trans <|
    (zr_getR (u := (b + 14)) t51_39 (zbase hb (fun b => zfR b 4 3 (b + 14)) (by decide))).trans <|
    (zr_iconst t51_42 zci_0).trans <|
    (zr_iconst t51_43 zci_5).trans <|
    (zr_acopy (j := 0) (k := 0) (z := 5) (N := 5) (M := 5) t51_44 (rfl) (zbase hb (fun b => zaI (b + 14) 0 5) (by decide)) (by decide) (by decide) (by decide) (by decide) (by decide) (by decide) (by decide) (by decide)).trans <|
    zr_vret t51_47 rfl
/-! X4_takeOver FiveInks$Sheet.takeOver at ['2', 'b'] -/
theorem k51b_0 {X : Nat × (Nat → Int32)} {I : Nat → Nat → Int32} {b : Nat} (hb : zSb b = true) : zr X 51 0 [.ref 2, .ref b] [] (zk I) = zcb (zr X 68 0 [.ref 3, .ref (b + 1)] [] (zk I)) (fun v m1 => zr X 51 11 [.ref 2, .ref b] (v.toList ++ []) m1) :=
  (zr_aload_n t51_0 rfl).trans <|
    (zr_getR (u := 3) t51_1 (rfl)).trans <|
    (zr_aload_n t51_4 rfl).trans <|
    (zr_getR (u := (b + 1)) t51_5 (zbase hb (fun b => zfR b 4 0 (b + 1)) (by decide))).trans <|
    zr_callv t51_8 rfl rfl rfl rfl
theorem k51b_11 {X : Nat × (Nat → Int32)} {I : Nat → Nat → Int32} {b : Nat} (hb : zSb b = true) : zr X 51 11 [.ref 2, .ref b] [] (zk I) = zcb (zr X 11 0 [.ref 5, .ref (b + 3)] [] (zk I)) (fun v m1 => zr X 51 22 [.ref 2, .ref b] (v.toList ++ []) m1) :=
  (zr_aload_n t51_11 rfl).trans <|
    (zr_getR (u := 5) t51_12 (rfl)).trans <|
    (zr_aload_n t51_15 rfl).trans <|
    (zr_getR (u := (b + 3)) t51_16 (zbase hb (fun b => zfR b 4 1 (b + 3)) (by decide))).trans <|
    zr_callv t51_19 rfl rfl rfl rfl
theorem k51b_22 {X : Nat × (Nat → Int32)} {I : Nat → Nat → Int32} {b : Nat} (hb : zSb b = true) : zr X 51 22 [.ref 2, .ref b] [] (zk I) = zcb (zr X 78 0 [.ref 13, .ref (b + 11)] [] (zk I)) (fun v m1 => zr X 51 33 [.ref 2, .ref b] (v.toList ++ []) m1) :=
  (zr_aload_n t51_22 rfl).trans <|
    (zr_getR (u := 13) t51_23 (rfl)).trans <|
    (zr_aload_n t51_26 rfl).trans <|
    (zr_getR (u := (b + 11)) t51_27 (zbase hb (fun b => zfR b 4 2 (b + 11)) (by decide))).trans <|
    zr_callv t51_30 rfl rfl rfl rfl
theorem k51b_33 {X : Nat × (Nat → Int32)} {I : Nat → Nat → Int32} {b : Nat} (hb : zSb b = true) : zr X 51 33 [.ref 2, .ref b] [] (zk I) = some (none, zk (zs2 I (b + 14) 16 0 0 5)) :=
  (zr_aload_n t51_33 rfl).trans <|
    (zr_getR (u := (b + 14)) t51_34 (zbase hb (fun b => zfR b 4 3 (b + 14)) (by decide))).trans <|
    (zr_iconst t51_37 zci_0).trans <|
    (zr_aload_n t51_38 rfl).trans <|
    (zr_getR (u := 16) t51_39 (rfl)).trans <|
    (zr_iconst t51_42 zci_0).trans <|
    (zr_iconst t51_43 zci_5).trans <|
    (zr_acopy (j := 0) (k := 0) (z := 5) (N := 5) (M := 5) t51_44 (zbase hb (fun b => zaI (b + 14) 0 5) (by decide)) (rfl) (by decide) (by decide) (by decide) (by decide) (by decide) (by decide) (by decide) (by decide)).trans <|
    zr_vret t51_47 rfl
/-! X4_startWith FiveInks$Sheet.startWith -/
theorem k52_0 {X : Nat × (Nat → Int32)} {I : Nat → Nat → Int32}   : zr X 52 0 [.ref 2, .ref 142, .null] [] (zk I) = zcb (zr X 65 0 [.ref 3] [] (zk I)) (fun v m1 => zr X 52 7 [.ref 2, .ref 142, .null] (v.toList ++ []) m1) :=
  (zr_aload_n t52_0 rfl).trans <|
    (zr_getR (u := 3) t52_1 (rfl)).trans <|
    zr_callv t52_4 rfl rfl rfl rfl
theorem k52_7 {X : Nat × (Nat → Int32)} {I : Nat → Nat → Int32}   : zr X 52 7 [.ref 2, .ref 142, .null] [] (zk I) = zr X 52 9 [.ref 2, .ref 142, .int 0] [] (zk I) :=
  (zr_iconst t52_7 zci_0).trans <|
    zr_istore_n t52_8 rfl rfl
theorem k52_9 {X : Nat × (Nat → Int32)} {I : Nat → Nat → Int32} {v2 : Int32}  : zr X 52 9 [.ref 2, .ref 142, .int v2] [] (zk I) = if (I 142 1) ≤ v2 then zr X 52 38 [.ref 2, .ref 142, .int v2] [] (zk I) else zr X 52 17 [.ref 2, .ref 142, .int v2] [] (zk I) :=
  (zr_iload_n t52_9 rfl).trans <|
    (zr_aload_n t52_10 rfl).trans <|
    (zr_getI t52_11 (rfl)).trans <|
    zr_ic_ge (tgt := 38) t52_14 rfl
theorem k52_17 {X : Nat × (Nat → Int32)} {I : Nat → Nat → Int32} {v2 : Int32}  : zr X 52 17 [.ref 2, .ref 142, .int v2] [] (zk I) = zcb (zr X 36 0 [.ref 142, .int v2] [] (zk I)) (fun v m1 => zr X 52 26 [.ref 2, .ref 142, .int v2] (v.toList ++ [.ref 3]) m1) :=
  (zr_aload_n t52_17 rfl).trans <|
    (zr_getR (u := 3) t52_18 (rfl)).trans <|
    (zr_aload_n t52_21 rfl).trans <|
    (zr_iload_n t52_22 rfl).trans <|
    zr_callv t52_23 rfl rfl rfl rfl
theorem k52_26 {X : Nat × (Nat → Int32)} {I : Nat → Nat → Int32} {v2 : Int32} {s1 : Int32}  : zr X 52 26 [.ref 2, .ref 142, .int v2] [.int s1, .ref 3] (zk I) = zcb (zr X 66 0 [.ref 3, .int (s1 - 97)] [] (zk I)) (fun v m1 => zr X 52 32 [.ref 2, .ref 142, .int v2] (v.toList ++ []) m1) :=
  (zr_bipush t52_26 zcb_97).trans <|
    (zr_isub t52_28).trans <|
    zr_callv t52_29 rfl rfl rfl rfl
theorem k52_32 {X : Nat × (Nat → Int32)} {I : Nat → Nat → Int32} {v2 : Int32}  : zr X 52 32 [.ref 2, .ref 142, .int v2] [] (zk I) = zr X 52 9 [.ref 2, .ref 142, .int (v2 + 1)] [] (zk I) :=
  (zr_iinc t52_32 rfl rfl (congrArg (fun z => v2 + z) zci_1) rfl).trans <|
    zr_goto (tgt := 9) t52_35 rfl
theorem k52_38 {X : Nat × (Nat → Int32)} {I : Nat → Nat → Int32} {v2 : Int32}  : zr X 52 38 [.ref 2, .ref 142, .int v2] [] (zk I) = zcb (zr X 4 0 [.ref 5] [] (zk I)) (fun v m1 => zr X 52 45 [.ref 2, .ref 142, .int v2] (v.toList ++ []) m1) :=
  (zr_aload_n t52_38 rfl).trans <|
    (zr_getR (u := 5) t52_39 (rfl)).trans <|
    zr_callv t52_42 rfl rfl rfl rfl
theorem k52_45 {X : Nat × (Nat → Int32)} {I : Nat → Nat → Int32} {v2 : Int32}  : zr X 52 45 [.ref 2, .ref 142, .int v2] [] (zk I) = zcb (zr X 70 0 [.ref 13] [] (zk I)) (fun v m1 => zr X 52 52 [.ref 2, .ref 142, .int v2] (v.toList ++ []) m1) :=
  (zr_aload_n t52_45 rfl).trans <|
    (zr_getR (u := 13) t52_46 (rfl)).trans <|
    zr_callv t52_49 rfl rfl rfl rfl
theorem k52_52 {X : Nat × (Nat → Int32)} {I : Nat → Nat → Int32} {v2 : Int32}  : zr X 52 52 [.ref 2, .ref 142, .int v2] [] (zk I) = some (none, zk I) :=
  zr_vret t52_52 rfl
/-! X4_hasGap FiveInks$Sheet.hasGap -/
theorem k53_0 {X : Nat × (Nat → Int32)} {I : Nat → Nat → Int32} {v1 : Int32}  : zr X 53 0 [.ref 2, .int v1] [] (zk I) = if v1 < 0 then zr X 53 19 [.ref 2, .int v1] [] (zk I) else zr X 53 4 [.ref 2, .int v1] [] (zk I) :=
  (zr_iload_n t53_0 rfl).trans <|
    zr_if_lt (tgt := 19) t53_1 rfl
theorem k53_4 {X : Nat × (Nat → Int32)} {I : Nat → Nat → Int32} {v1 : Int32}  : zr X 53 4 [.ref 2, .int v1] [] (zk I) = if (I 3 1) < v1 then zr X 53 19 [.ref 2, .int v1] [] (zk I) else zr X 53 15 [.ref 2, .int v1] [] (zk I) :=
  (zr_iload_n t53_4 rfl).trans <|
    (zr_aload_n t53_5 rfl).trans <|
    (zr_getR (u := 3) t53_6 (rfl)).trans <|
    (zr_getI t53_9 (rfl)).trans <|
    zr_ic_gt (tgt := 19) t53_12 rfl
theorem k53_15 {X : Nat × (Nat → Int32)} {I : Nat → Nat → Int32} {v1 : Int32}  : zr X 53 15 [.ref 2, .int v1] [] (zk I) = some (some (.int 1), zk I) :=
  (zr_iconst t53_15 zci_1).trans <|
    (zr_goto (tgt := 20) t53_16 rfl).trans <|
    zr_zret t53_20 rfl (Or.inr rfl)
theorem k53_19 {X : Nat × (Nat → Int32)} {I : Nat → Nat → Int32} {v1 : Int32}  : zr X 53 19 [.ref 2, .int v1] [] (zk I) = some (some (.int 0), zk I) :=
  (zr_iconst t53_19 zci_0).trans <|
    zr_zret t53_20 rfl (Or.inl rfl)
/-! X4_canTake FiveInks$Sheet.canTake -/
theorem k54_0 {X : Nat × (Nat → Int32)} {I : Nat → Nat → Int32} {v2 : Int32} (q1 : zin v2 20 = true) : zr X 54 0 [.ref 2, .ref 145, .int v2, .null, .null, .null] [] (zk I) = if ¬ (I 147 (zx v2)) = 1 then zr X 54 39 [.ref 2, .ref 145, .int v2, .int (I 148 (zx v2)), .int (I 149 (zx v2)), .null] [] (zk I) else zr X 54 25 [.ref 2, .ref 145, .int v2, .int (I 148 (zx v2)), .int (I 149 (zx v2)), .null] [] (zk I) :=
  (zr_aload_n t54_0 rfl).trans <|
    (zr_getR (u := 148) t54_1 (rfl)).trans <|
    (zr_iload_n t54_4 rfl).trans <|
    (zr_iald (j := zx v2) t54_5 (N := 20) rfl rfl q1).trans <|
    (zr_istore_n t54_6 rfl rfl).trans <|
    (zr_aload_n t54_7 rfl).trans <|
    (zr_getR (u := 149) t54_8 (rfl)).trans <|
    (zr_iload_n t54_11 rfl).trans <|
    (zr_iald (j := zx v2) t54_12 (N := 20) rfl rfl q1).trans <|
    (zr_istore t54_13 rfl rfl).trans <|
    (zr_aload_n t54_15 rfl).trans <|
    (zr_getR (u := 147) t54_16 (rfl)).trans <|
    (zr_iload_n t54_19 rfl).trans <|
    (zr_iald (j := zx v2) t54_20 (N := 20) rfl rfl q1).trans <|
    (zr_iconst t54_21 zci_1).trans <|
    zr_ic_ne (tgt := 39) t54_22 rfl
theorem k54_25 {X : Nat × (Nat → Int32)} {I : Nat → Nat → Int32} {v2 : Int32} {v3 : Int32} {v4 : Int32}  : zr X 54 25 [.ref 2, .ref 145, .int v2, .int v3, .int v4, .null] [] (zk I) = if ¬ v3 = v4 then zr X 54 35 [.ref 2, .ref 145, .int v2, .int v3, .int v4, .null] [] (zk I) else zr X 54 31 [.ref 2, .ref 145, .int v2, .int v3, .int v4, .null] [] (zk I) :=
  (zr_iload_n t54_25 rfl).trans <|
    (zr_iload t54_26 rfl).trans <|
    zr_ic_ne (tgt := 35) t54_28 rfl
theorem k54_31 {X : Nat × (Nat → Int32)} {I : Nat → Nat → Int32} {v2 : Int32} {v3 : Int32} {v4 : Int32}  : zr X 54 31 [.ref 2, .ref 145, .int v2, .int v3, .int v4, .null] [] (zk I) = zcb (zr X 53 0 [.ref 2, .int v3] [] (zk I)) (fun v m1 => zr X 54 57 [.ref 2, .ref 145, .int v2, .int v3, .int v4, .int 1] (v.toList ++ []) m1) :=
  (zr_iconst t54_31 zci_1).trans <|
    (zr_goto (tgt := 50) t54_32 rfl).trans <|
    (zr_istore t54_50 rfl rfl).trans <|
    (zr_aload_n t54_52 rfl).trans <|
    (zr_iload_n t54_53 rfl).trans <|
    zr_callv t54_54 rfl rfl rfl rfl
theorem k54_35 {X : Nat × (Nat → Int32)} {I : Nat → Nat → Int32} {v2 : Int32} {v3 : Int32} {v4 : Int32}  : zr X 54 35 [.ref 2, .ref 145, .int v2, .int v3, .int v4, .null] [] (zk I) = zcb (zr X 53 0 [.ref 2, .int v3] [] (zk I)) (fun v m1 => zr X 54 57 [.ref 2, .ref 145, .int v2, .int v3, .int v4, .int 0] (v.toList ++ []) m1) :=
  (zr_iconst t54_35 zci_0).trans <|
    (zr_goto (tgt := 50) t54_36 rfl).trans <|
    (zr_istore t54_50 rfl rfl).trans <|
    (zr_aload_n t54_52 rfl).trans <|
    (zr_iload_n t54_53 rfl).trans <|
    zr_callv t54_54 rfl rfl rfl rfl
theorem k54_39 {X : Nat × (Nat → Int32)} {I : Nat → Nat → Int32} {v2 : Int32} {v3 : Int32} {v4 : Int32}  : zr X 54 39 [.ref 2, .ref 145, .int v2, .int v3, .int v4, .null] [] (zk I) = if v4 ≤ v3 then zr X 54 49 [.ref 2, .ref 145, .int v2, .int v3, .int v4, .null] [] (zk I) else zr X 54 45 [.ref 2, .ref 145, .int v2, .int v3, .int v4, .null] [] (zk I) :=
  (zr_iload_n t54_39 rfl).trans <|
    (zr_iload t54_40 rfl).trans <|
    zr_ic_ge (tgt := 49) t54_42 rfl
theorem k54_45 {X : Nat × (Nat → Int32)} {I : Nat → Nat → Int32} {v2 : Int32} {v3 : Int32} {v4 : Int32}  : zr X 54 45 [.ref 2, .ref 145, .int v2, .int v3, .int v4, .null] [] (zk I) = zcb (zr X 53 0 [.ref 2, .int v3] [] (zk I)) (fun v m1 => zr X 54 57 [.ref 2, .ref 145, .int v2, .int v3, .int v4, .int 1] (v.toList ++ []) m1) :=
  (zr_iconst t54_45 zci_1).trans <|
    (zr_goto (tgt := 50) t54_46 rfl).trans <|
    (zr_istore t54_50 rfl rfl).trans <|
    (zr_aload_n t54_52 rfl).trans <|
    (zr_iload_n t54_53 rfl).trans <|
    zr_callv t54_54 rfl rfl rfl rfl
theorem k54_49 {X : Nat × (Nat → Int32)} {I : Nat → Nat → Int32} {v2 : Int32} {v3 : Int32} {v4 : Int32}  : zr X 54 49 [.ref 2, .ref 145, .int v2, .int v3, .int v4, .null] [] (zk I) = zcb (zr X 53 0 [.ref 2, .int v3] [] (zk I)) (fun v m1 => zr X 54 57 [.ref 2, .ref 145, .int v2, .int v3, .int v4, .int 0] (v.toList ++ []) m1) :=
  (zr_iconst t54_49 zci_0).trans <|
    (zr_istore t54_50 rfl rfl).trans <|
    (zr_aload_n t54_52 rfl).trans <|
    (zr_iload_n t54_53 rfl).trans <|
    zr_callv t54_54 rfl rfl rfl rfl
theorem k54_57 {X : Nat × (Nat → Int32)} {I : Nat → Nat → Int32} {v2 : Int32} {v3 : Int32} {v4 : Int32} {v5 : Int32} {s0 : Int32}  : zr X 54 57 [.ref 2, .ref 145, .int v2, .int v3, .int v4, .int v5] [.int s0] (zk I) = if s0 = 0 then zr X 54 102 [.ref 2, .ref 145, .int v2, .int v3, .int v4, .int v5] [] (zk I) else zr X 54 60 [.ref 2, .ref 145, .int v2, .int v3, .int v4, .int v5] [] (zk I) :=
  zr_if_eq (tgt := 102) t54_57 rfl
theorem k54_60 {X : Nat × (Nat → Int32)} {I : Nat → Nat → Int32} {v2 : Int32} {v3 : Int32} {v4 : Int32} {v5 : Int32}  : zr X 54 60 [.ref 2, .ref 145, .int v2, .int v3, .int v4, .int v5] [] (zk I) = zcb (zr X 53 0 [.ref 2, .int v4] [] (zk I)) (fun v m1 => zr X 54 66 [.ref 2, .ref 145, .int v2, .int v3, .int v4, .int v5] (v.toList ++ []) m1) :=
  (zr_aload_n t54_60 rfl).trans <|
    (zr_iload t54_61 rfl).trans <|
    zr_callv t54_63 rfl rfl rfl rfl
theorem k54_66 {X : Nat × (Nat → Int32)} {I : Nat → Nat → Int32} {v2 : Int32} {v3 : Int32} {v4 : Int32} {v5 : Int32} {s0 : Int32}  : zr X 54 66 [.ref 2, .ref 145, .int v2, .int v3, .int v4, .int v5] [.int s0] (zk I) = if s0 = 0 then zr X 54 102 [.ref 2, .ref 145, .int v2, .int v3, .int v4, .int v5] [] (zk I) else zr X 54 69 [.ref 2, .ref 145, .int v2, .int v3, .int v4, .int v5] [] (zk I) :=
  zr_if_eq (tgt := 102) t54_66 rfl
theorem k54_69 {X : Nat × (Nat → Int32)} {I : Nat → Nat → Int32} {v2 : Int32} {v3 : Int32} {v4 : Int32} {v5 : Int32}  : zr X 54 69 [.ref 2, .ref 145, .int v2, .int v3, .int v4, .int v5] [] (zk I) = if v5 = 0 then zr X 54 102 [.ref 2, .ref 145, .int v2, .int v3, .int v4, .int v5] [] (zk I) else zr X 54 74 [.ref 2, .ref 145, .int v2, .int v3, .int v4, .int v5] [] (zk I) :=
  (zr_iload t54_69 rfl).trans <|
    zr_if_eq (tgt := 102) t54_71 rfl
theorem k54_74 {X : Nat × (Nat → Int32)} {I : Nat → Nat → Int32} {v2 : Int32} {v3 : Int32} {v4 : Int32} {v5 : Int32}  : zr X 54 74 [.ref 2, .ref 145, .int v2, .int v3, .int v4, .int v5] [] (zk I) = if 20 ≤ (I 5 7) then zr X 54 102 [.ref 2, .ref 145, .int v2, .int v3, .int v4, .int v5] [] (zk I) else zr X 54 86 [.ref 2, .ref 145, .int v2, .int v3, .int v4, .int v5] [] (zk I) :=
  (zr_aload_n t54_74 rfl).trans <|
    (zr_getR (u := 5) t54_75 (rfl)).trans <|
    (zr_getI t54_78 (rfl)).trans <|
    (zr_bipush t54_81 zcb_20).trans <|
    zr_ic_ge (tgt := 102) t54_83 rfl
theorem k54_86 {X : Nat × (Nat → Int32)} {I : Nat → Nat → Int32} {v2 : Int32} {v3 : Int32} {v4 : Int32} {v5 : Int32}  : zr X 54 86 [.ref 2, .ref 145, .int v2, .int v3, .int v4, .int v5] [] (zk I) = zcb (zr X 15 0 [.ref 5, .ref 145, .int v2, .null] [] (zk I)) (fun v m1 => zr X 54 95 [.ref 2, .ref 145, .int v2, .int v3, .int v4, .int v5] (v.toList ++ []) m1) :=
  (zr_aload_n t54_86 rfl).trans <|
    (zr_getR (u := 5) t54_87 (rfl)).trans <|
    (zr_aload_n t54_90 rfl).trans <|
    (zr_iload_n t54_91 rfl).trans <|
    zr_callv t54_92 rfl rfl rfl rfl
theorem k54_95 {X : Nat × (Nat → Int32)} {I : Nat → Nat → Int32} {v2 : Int32} {v3 : Int32} {v4 : Int32} {v5 : Int32} {s0 : Int32}  : zr X 54 95 [.ref 2, .ref 145, .int v2, .int v3, .int v4, .int v5] [.int s0] (zk I) = if ¬ s0 = 0 then zr X 54 102 [.ref 2, .ref 145, .int v2, .int v3, .int v4, .int v5] [] (zk I) else zr X 54 98 [.ref 2, .ref 145, .int v2, .int v3, .int v4, .int v5] [] (zk I) :=
  zr_if_ne (tgt := 102) t54_95 rfl
theorem k54_98 {X : Nat × (Nat → Int32)} {I : Nat → Nat → Int32} {v2 : Int32} {v3 : Int32} {v4 : Int32} {v5 : Int32}  : zr X 54 98 [.ref 2, .ref 145, .int v2, .int v3, .int v4, .int v5] [] (zk I) = some (some (.int 1), zk I) :=
  (zr_iconst t54_98 zci_1).trans <|
    (zr_goto (tgt := 103) t54_99 rfl).trans <|
    zr_zret t54_103 rfl (Or.inr rfl)
theorem k54_102 {X : Nat × (Nat → Int32)} {I : Nat → Nat → Int32} {v2 : Int32} {v3 : Int32} {v4 : Int32} {v5 : Int32}  : zr X 54 102 [.ref 2, .ref 145, .int v2, .int v3, .int v4, .int v5] [] (zk I) = some (some (.int 0), zk I) :=
  (zr_iconst t54_102 zci_0).trans <|
    zr_zret t54_103 rfl (Or.inl rfl)
/-! X4_printLength FiveInks$Sheet.printLength -/
theorem k55_0 {X : Nat × (Nat → Int32)} {I : Nat → Nat → Int32}   : zr X 55 0 [.ref 2] [] (zk I) = zcb (zr X 21 0 [.ref 5, .null, .null] [] (zk I)) (fun v m1 => zr X 55 14 [.ref 2] (v.toList ++ [.int (I 3 1)]) m1) :=
  (zr_aload_n t55_0 rfl).trans <|
    (zr_getR (u := 3) t55_1 (rfl)).trans <|
    (zr_getI t55_4 (rfl)).trans <|
    (zr_aload_n t55_7 rfl).trans <|
    (zr_getR (u := 5) t55_8 (rfl)).trans <|
    zr_callv t55_11 rfl rfl rfl rfl
theorem k55_14 {X : Nat × (Nat → Int32)} {I : Nat → Nat → Int32} {s0 : Int32} {s1 : Int32}  : zr X 55 14 [.ref 2] [.int s1, .int s0] (zk I) = some (some (.int (s0 + s1)), zk I) :=
  (zr_iadd t55_14).trans <|
    zr_iret t55_15 rfl
/-! X4_printLengthWithout FiveInks$Sheet.printLengthWithout -/
theorem k56_0 {X : Nat × (Nat → Int32)} {I : Nat → Nat → Int32} {v1 : Int32} (q1 : zin v1 20 = true) : zr X 56 0 [.ref 2, .int v1] [] (zk I) = if ¬ (I 10 (zx v1)) = 1 then zr X 56 29 [.ref 2, .int v1] [] (zk I) else zr X 56 13 [.ref 2, .int v1] [] (zk I) :=
  (zr_aload_n t56_0 rfl).trans <|
    (zr_getR (u := 5) t56_1 (rfl)).trans <|
    (zr_getR (u := 10) t56_4 (rfl)).trans <|
    (zr_iload_n t56_7 rfl).trans <|
    (zr_iald (j := zx v1) t56_8 (N := 20) rfl rfl q1).trans <|
    (zr_iconst t56_9 zci_1).trans <|
    zr_ic_ne (tgt := 29) t56_10 rfl
theorem k56_13 {X : Nat × (Nat → Int32)} {I : Nat → Nat → Int32} {v1 : Int32}  : zr X 56 13 [.ref 2, .int v1] [] (zk I) = zcb (zr X 55 0 [.ref 2] [] (zk I)) (fun v m1 => zr X 56 17 [.ref 2, .int v1] (v.toList ++ []) m1) :=
  (zr_aload_n t56_13 rfl).trans <|
    zr_callv t56_14 rfl rfl rfl rfl
theorem k56_17 {X : Nat × (Nat → Int32)} {I : Nat → Nat → Int32} {v1 : Int32} {s0 : Int32}  : zr X 56 17 [.ref 2, .int v1] [.int s0] (zk I) = zcb (zr X 20 0 [.ref 5, .int v1] [] (zk I)) (fun v m1 => zr X 56 25 [.ref 2, .int v1] (v.toList ++ [.int s0]) m1) :=
  (zr_aload_n t56_17 rfl).trans <|
    (zr_getR (u := 5) t56_18 (rfl)).trans <|
    (zr_iload_n t56_21 rfl).trans <|
    zr_callv t56_22 rfl rfl rfl rfl
theorem k56_25 {X : Nat × (Nat → Int32)} {I : Nat → Nat → Int32} {v1 : Int32} {s0 : Int32} {s1 : Int32}  : zr X 56 25 [.ref 2, .int v1] [.int s1, .int s0] (zk I) = some (some (.int (s0 - s1)), zk I) :=
  (zr_isub t56_25).trans <|
    (zr_goto (tgt := 33) t56_26 rfl).trans <|
    zr_iret t56_33 rfl
theorem k56_29 {X : Nat × (Nat → Int32)} {I : Nat → Nat → Int32} {v1 : Int32}  : zr X 56 29 [.ref 2, .int v1] [] (zk I) = zcb (zr X 55 0 [.ref 2] [] (zk I)) (fun v m1 => zr X 56 33 [.ref 2, .int v1] (v.toList ++ []) m1) :=
  (zr_aload_n t56_29 rfl).trans <|
    zr_callv t56_30 rfl rfl rfl rfl
theorem k56_33 {X : Nat × (Nat → Int32)} {I : Nat → Nat → Int32} {v1 : Int32} {s0 : Int32}  : zr X 56 33 [.ref 2, .int v1] [.int s0] (zk I) = some (some (.int s0), zk I) :=
  zr_iret t56_33 rfl
/-! X4_canAccept FiveInks$Sheet.canAccept -/
theorem k57_0 {X : Nat × (Nat → Int32)} {I : Nat → Nat → Int32} {v1 : Int32} (q1 : zin v1 20 = true) : zr X 57 0 [.ref 2, .int v1] [] (zk I) = if ¬ (I 10 (zx v1)) = 0 then zr X 57 46 [.ref 2, .int v1] [] (zk I) else zr X 57 12 [.ref 2, .int v1] [] (zk I) :=
  (zr_aload_n t57_0 rfl).trans <|
    (zr_getR (u := 5) t57_1 (rfl)).trans <|
    (zr_getR (u := 10) t57_4 (rfl)).trans <|
    (zr_iload_n t57_7 rfl).trans <|
    (zr_iald (j := zx v1) t57_8 (N := 20) rfl rfl q1).trans <|
    zr_if_ne (tgt := 46) t57_9 rfl
theorem k57_12 {X : Nat × (Nat → Int32)} {I : Nat → Nat → Int32} {v1 : Int32}  : zr X 57 12 [.ref 2, .int v1] [] (zk I) = zcb (zr X 16 0 [.ref 5, .int v1, .int 1, .null] [] (zk I)) (fun v m1 => zr X 57 21 [.ref 2, .int v1] (v.toList ++ []) m1) :=
  (zr_aload_n t57_12 rfl).trans <|
    (zr_getR (u := 5) t57_13 (rfl)).trans <|
    (zr_iload_n t57_16 rfl).trans <|
    (zr_iconst t57_17 zci_1).trans <|
    zr_callv t57_18 rfl rfl rfl rfl
theorem k57_21 {X : Nat × (Nat → Int32)} {I : Nat → Nat → Int32} {v1 : Int32} {s0 : Int32}  : zr X 57 21 [.ref 2, .int v1] [.int s0] (zk I) = if ¬ s0 = 0 then zr X 57 46 [.ref 2, .int v1] [] (zk I) else zr X 57 24 [.ref 2, .int v1] [] (zk I) :=
  zr_if_ne (tgt := 46) t57_21 rfl
theorem k57_24 {X : Nat × (Nat → Int32)} {I : Nat → Nat → Int32} {v1 : Int32}  : zr X 57 24 [.ref 2, .int v1] [] (zk I) = zcb (zr X 55 0 [.ref 2] [] (zk I)) (fun v m1 => zr X 57 28 [.ref 2, .int v1] (v.toList ++ []) m1) :=
  (zr_aload_n t57_24 rfl).trans <|
    zr_callv t57_25 rfl rfl rfl rfl
theorem k57_28 {X : Nat × (Nat → Int32)} {I : Nat → Nat → Int32} {v1 : Int32} {s0 : Int32}  : zr X 57 28 [.ref 2, .int v1] [.int s0] (zk I) = zcb (zr X 20 0 [.ref 5, .int v1] [] (zk I)) (fun v m1 => zr X 57 36 [.ref 2, .int v1] (v.toList ++ [.int s0]) m1) :=
  (zr_aload_n t57_28 rfl).trans <|
    (zr_getR (u := 5) t57_29 (rfl)).trans <|
    (zr_iload_n t57_32 rfl).trans <|
    zr_callv t57_33 rfl rfl rfl rfl
theorem k57_36 {X : Nat × (Nat → Int32)} {I : Nat → Nat → Int32} {v1 : Int32} {s0 : Int32} {s1 : Int32}  : zr X 57 36 [.ref 2, .int v1] [.int s1, .int s0] (zk I) = if 60 < (s0 + s1) then zr X 57 46 [.ref 2, .int v1] [] (zk I) else zr X 57 42 [.ref 2, .int v1] [] (zk I) :=
  (zr_iadd t57_36).trans <|
    (zr_bipush t57_37 zcb_60).trans <|
    zr_ic_gt (tgt := 46) t57_39 rfl
theorem k57_42 {X : Nat × (Nat → Int32)} {I : Nat → Nat → Int32} {v1 : Int32}  : zr X 57 42 [.ref 2, .int v1] [] (zk I) = some (some (.int 1), zk I) :=
  (zr_iconst t57_42 zci_1).trans <|
    (zr_goto (tgt := 47) t57_43 rfl).trans <|
    zr_zret t57_47 rfl (Or.inr rfl)
theorem k57_46 {X : Nat × (Nat → Int32)} {I : Nat → Nat → Int32} {v1 : Int32}  : zr X 57 46 [.ref 2, .int v1] [] (zk I) = some (some (.int 0), zk I) :=
  (zr_iconst t57_46 zci_0).trans <|
    zr_zret t57_47 rfl (Or.inl rfl)
/-! X4_judgeByRank FiveInks$Sheet.judgeByRank -/
theorem k58_0 {X : Nat × (Nat → Int32)} {I : Nat → Nat → Int32}   : zr X 58 0 [.ref 2, .null, .null, .null] [] (zk I) = zr X 58 5 [.ref 2, .int 0, .int 9, .null] [] (zk I) :=
  (zr_iconst t58_0 zci_0).trans <|
    (zr_istore_n t58_1 rfl rfl).trans <|
    (zr_bipush t58_2 zcb_9).trans <|
    zr_istore_n t58_4 rfl rfl
theorem k58_5 {X : Nat × (Nat → Int32)} {I : Nat → Nat → Int32} {v1 : Int32} {v2 : Int32} {v3 : Value}  : zr X 58 5 [.ref 2, .int v1, .int v2, v3] [] (zk I) = if v2 < 0 then zr X 58 75 [.ref 2, .int v1, .int v2, v3] [] (zk I) else zr X 58 9 [.ref 2, .int v1, .int v2, v3] [] (zk I) :=
  (zr_iload_n t58_5 rfl).trans <|
    zr_if_lt (tgt := 75) t58_6 rfl
theorem k58_9 {X : Nat × (Nat → Int32)} {I : Nat → Nat → Int32} {v1 : Int32} {v2 : Int32} {v3 : Value}  : zr X 58 9 [.ref 2, .int v1, .int v2, v3] [] (zk I) = zr X 58 11 [.ref 2, .int v1, .int v2, .int 0] [] (zk I) :=
  (zr_iconst t58_9 zci_0).trans <|
    zr_istore_n t58_10 rfl rfl
theorem k58_11 {X : Nat × (Nat → Int32)} {I : Nat → Nat → Int32} {v1 : Int32} {v2 : Int32} {v3 : Int32}  : zr X 58 11 [.ref 2, .int v1, .int v2, .int v3] [] (zk I) = if (I 5 7) ≤ v3 then zr X 58 69 [.ref 2, .int v1, .int v2, .int v3] [] (zk I) else zr X 58 22 [.ref 2, .int v1, .int v2, .int v3] [] (zk I) :=
  (zr_iload_n t58_11 rfl).trans <|
    (zr_aload_n t58_12 rfl).trans <|
    (zr_getR (u := 5) t58_13 (rfl)).trans <|
    (zr_getI t58_16 (rfl)).trans <|
    zr_ic_ge (tgt := 69) t58_19 rfl
theorem k58_22 {X : Nat × (Nat → Int32)} {I : Nat → Nat → Int32} {v1 : Int32} {v2 : Int32} {v3 : Int32} (q1 : zin v3 20 = true) : zr X 58 22 [.ref 2, .int v1, .int v2, .int v3] [] (zk I) = if ¬ (I 10 (zx v3)) = 0 then zr X 58 63 [.ref 2, .int v1, .int v2, .int v3] [] (zk I) else zr X 58 34 [.ref 2, .int v1, .int v2, .int v3] [] (zk I) :=
  (zr_aload_n t58_22 rfl).trans <|
    (zr_getR (u := 5) t58_23 (rfl)).trans <|
    (zr_getR (u := 10) t58_26 (rfl)).trans <|
    (zr_iload_n t58_29 rfl).trans <|
    (zr_iald (j := zx v3) t58_30 (N := 20) rfl rfl q1).trans <|
    zr_if_ne (tgt := 63) t58_31 rfl
theorem k58_34 {X : Nat × (Nat → Int32)} {I : Nat → Nat → Int32} {v1 : Int32} {v2 : Int32} {v3 : Int32} (q1 : zin v3 20 = true) (q2 : zin (I 6 (zx v3)) 5 = true) : zr X 58 34 [.ref 2, .int v1, .int v2, .int v3] [] (zk I) = if ¬ (I 16 (zx (I 6 (zx v3)))) = v2 then zr X 58 63 [.ref 2, .int v1, .int v2, .int v3] [] (zk I) else zr X 58 52 [.ref 2, .int v1, .int v2, .int v3] [] (zk I) :=
  (zr_aload_n t58_34 rfl).trans <|
    (zr_getR (u := 16) t58_35 (rfl)).trans <|
    (zr_aload_n t58_38 rfl).trans <|
    (zr_getR (u := 5) t58_39 (rfl)).trans <|
    (zr_getR (u := 6) t58_42 (rfl)).trans <|
    (zr_iload_n t58_45 rfl).trans <|
    (zr_iald (j := zx v3) t58_46 (N := 20) rfl rfl q1).trans <|
    (zr_iald (j := zx (I 6 (zx v3))) t58_47 (N := 5) rfl rfl q2).trans <|
    (zr_iload_n t58_48 rfl).trans <|
    zr_ic_ne (tgt := 63) t58_49 rfl
theorem k58_52 {X : Nat × (Nat → Int32)} {I : Nat → Nat → Int32} {v1 : Int32} {v2 : Int32} {v3 : Int32}  : zr X 58 52 [.ref 2, .int v1, .int v2, .int v3] [] (zk I) = zcb (zr X 59 0 [.ref 2, .int v3] [] (zk I)) (fun v m1 => zr X 58 57 [.ref 2, .int v1, .int v2, .int v3] (v.toList ++ []) m1) :=
  (zr_aload_n t58_52 rfl).trans <|
    (zr_iload_n t58_53 rfl).trans <|
    zr_callv t58_54 rfl rfl rfl rfl
theorem k58_57 {X : Nat × (Nat → Int32)} {I : Nat → Nat → Int32} {v1 : Int32} {v2 : Int32} {v3 : Int32} {s0 : Int32}  : zr X 58 57 [.ref 2, .int v1, .int v2, .int v3] [.int s0] (zk I) = if s0 = 0 then zr X 58 63 [.ref 2, .int v1, .int v2, .int v3] [] (zk I) else zr X 58 60 [.ref 2, .int v1, .int v2, .int v3] [] (zk I) :=
  zr_if_eq (tgt := 63) t58_57 rfl
theorem k58_60 {X : Nat × (Nat → Int32)} {I : Nat → Nat → Int32} {v1 : Int32} {v2 : Int32} {v3 : Int32}  : zr X 58 60 [.ref 2, .int v1, .int v2, .int v3] [] (zk I) = zr X 58 11 [.ref 2, .int (v1 + 1), .int v2, .int (v3 + 1)] [] (zk I) :=
  (zr_iinc t58_60 rfl rfl (congrArg (fun z => v1 + z) zci_1) rfl).trans <|
    (zr_iinc t58_63 rfl rfl (congrArg (fun z => v3 + z) zci_1) rfl).trans <|
    zr_goto (tgt := 11) t58_66 rfl
theorem k58_63 {X : Nat × (Nat → Int32)} {I : Nat → Nat → Int32} {v1 : Int32} {v2 : Int32} {v3 : Int32}  : zr X 58 63 [.ref 2, .int v1, .int v2, .int v3] [] (zk I) = zr X 58 11 [.ref 2, .int v1, .int v2, .int (v3 + 1)] [] (zk I) :=
  (zr_iinc t58_63 rfl rfl (congrArg (fun z => v3 + z) zci_1) rfl).trans <|
    zr_goto (tgt := 11) t58_66 rfl
theorem k58_69 {X : Nat × (Nat → Int32)} {I : Nat → Nat → Int32} {v1 : Int32} {v2 : Int32} {v3 : Int32}  : zr X 58 69 [.ref 2, .int v1, .int v2, .int v3] [] (zk I) = zr X 58 5 [.ref 2, .int v1, .int (v2 + (-1)), .int v3] [] (zk I) :=
  (zr_iinc t58_69 rfl rfl (congrArg (fun z => v2 + z) zci_m1) rfl).trans <|
    zr_goto (tgt := 5) t58_72 rfl
theorem k58_75 {X : Nat × (Nat → Int32)} {I : Nat → Nat → Int32} {v1 : Int32} {v2 : Int32} {v3 : Value}  : zr X 58 75 [.ref 2, .int v1, .int v2, v3] [] (zk I) = some (some (.int v1), zk I) :=
  (zr_iload_n t58_75 rfl).trans <|
    zr_iret t58_76 rfl
/-! X4_isAcceptedByVerdict FiveInks$Sheet.isAcceptedByVerdict -/
theorem k59_0 {X : Nat × (Nat → Int32)} {I : Nat → Nat → Int32} {v1 : Int32}  : zr X 59 0 [.ref 2, .int v1] [] (zk I) = zcb (zr X 57 0 [.ref 2, .int v1] [] (zk I)) (fun v m1 => zr X 59 5 [.ref 2, .int v1] (v.toList ++ []) m1) :=
  (zr_aload_n t59_0 rfl).trans <|
    (zr_iload_n t59_1 rfl).trans <|
    zr_callv t59_2 rfl rfl rfl rfl
theorem k59_5 {X : Nat × (Nat → Int32)} {I : Nat → Nat → Int32} {v1 : Int32} {s0 : Int32}  : zr X 59 5 [.ref 2, .int v1] [.int s0] (zk I) = if s0 = 0 then zr X 59 19 [.ref 2, .int v1] [] (zk I) else zr X 59 8 [.ref 2, .int v1] [] (zk I) :=
  zr_if_eq (tgt := 19) t59_5 rfl
theorem k59_8 {X : Nat × (Nat → Int32)} {I : Nat → Nat → Int32} {v1 : Int32}  : zr X 59 8 [.ref 2, .int v1] [] (zk I) = zcb (zr X 19 0 [.ref 5, .int v1, .null, .null] [] (zk I)) (fun v m1 => zr X 59 16 [.ref 2, .int v1] (v.toList ++ []) m1) :=
  (zr_aload_n t59_8 rfl).trans <|
    (zr_getR (u := 5) t59_9 (rfl)).trans <|
    (zr_iload_n t59_12 rfl).trans <|
    zr_callv t59_13 rfl rfl rfl rfl
theorem k59_16 {X : Nat × (Nat → Int32)} {I : Nat → Nat → Int32} {v1 : Int32} {s0 : Int32}  : zr X 59 16 [.ref 2, .int v1] [.int s0] (zk I) = some (some (.int 1), zk I) :=
  (zr_pop t59_16 rfl).trans <|
    (zr_iconst t59_17 zci_1).trans <|
    zr_zret t59_18 rfl (Or.inr rfl)
theorem k59_19 {X : Nat × (Nat → Int32)} {I : Nat → Nat → Int32} {v1 : Int32} (q1 : zin v1 20 = true) : zr X 59 19 [.ref 2, .int v1] [] (zk I) = some (some (.int 0), zk (zs1 I 10 (zx v1) 2)) :=
  (zr_aload_n t59_19 rfl).trans <|
    (zr_getR (u := 5) t59_20 (rfl)).trans <|
    (zr_getR (u := 10) t59_23 (rfl)).trans <|
    (zr_iload_n t59_26 rfl).trans <|
    (zr_iconst t59_27 zci_2).trans <|
    (zr_iast (j := zx v1) t59_28 (N := 20) rfl rfl q1).trans <|
    (zr_iconst t59_29 zci_0).trans <|
    zr_zret t59_30 rfl (Or.inl rfl)
/-! X4_shipAs FiveInks$Sheet.shipAs -/
theorem k60_0 {X : Nat × (Nat → Int32)} {I : Nat → Nat → Int32}   : zr X 60 0 [.ref 2, .ref 153, .null] [] (zk I) = zcb (zr X 65 0 [.ref 3] [] (zk I)) (fun v m1 => zr X 60 7 [.ref 2, .ref 153, .null] (v.toList ++ []) m1) :=
  (zr_aload_n t60_0 rfl).trans <|
    (zr_getR (u := 3) t60_1 (rfl)).trans <|
    zr_callv t60_4 rfl rfl rfl rfl
theorem k60_7 {X : Nat × (Nat → Int32)} {I : Nat → Nat → Int32}   : zr X 60 7 [.ref 2, .ref 153, .null] [] (zk I) = zr X 60 9 [.ref 2, .ref 153, .int 0] [] (zk I) :=
  (zr_iconst t60_7 zci_0).trans <|
    zr_istore_n t60_8 rfl rfl
theorem k60_9 {X : Nat × (Nat → Int32)} {I : Nat → Nat → Int32} {v2 : Int32}  : zr X 60 9 [.ref 2, .ref 153, .int v2] [] (zk I) = if (I 153 4) ≤ v2 then zr X 60 35 [.ref 2, .ref 153, .int v2] [] (zk I) else zr X 60 17 [.ref 2, .ref 153, .int v2] [] (zk I) :=
  (zr_iload_n t60_9 rfl).trans <|
    (zr_aload_n t60_10 rfl).trans <|
    (zr_getI t60_11 (rfl)).trans <|
    zr_ic_ge (tgt := 35) t60_14 rfl
theorem k60_17 {X : Nat × (Nat → Int32)} {I : Nat → Nat → Int32} {v2 : Int32}  : zr X 60 17 [.ref 2, .ref 153, .int v2] [] (zk I) = zcb (zr X 80 0 [.ref 153, .int v2] [] (zk I)) (fun v m1 => zr X 60 26 [.ref 2, .ref 153, .int v2] (v.toList ++ [.ref 3]) m1) :=
  (zr_aload_n t60_17 rfl).trans <|
    (zr_getR (u := 3) t60_18 (rfl)).trans <|
    (zr_aload_n t60_21 rfl).trans <|
    (zr_iload_n t60_22 rfl).trans <|
    zr_callv t60_23 rfl rfl rfl rfl
theorem k60_26 {X : Nat × (Nat → Int32)} {I : Nat → Nat → Int32} {v2 : Int32} {s1 : Int32}  : zr X 60 26 [.ref 2, .ref 153, .int v2] [.int s1, .ref 3] (zk I) = zcb (zr X 66 0 [.ref 3, .int s1] [] (zk I)) (fun v m1 => zr X 60 29 [.ref 2, .ref 153, .int v2] (v.toList ++ []) m1) :=
  zr_callv t60_26 rfl rfl rfl rfl
theorem k60_29 {X : Nat × (Nat → Int32)} {I : Nat → Nat → Int32} {v2 : Int32}  : zr X 60 29 [.ref 2, .ref 153, .int v2] [] (zk I) = zr X 60 9 [.ref 2, .ref 153, .int (v2 + 1)] [] (zk I) :=
  (zr_iinc t60_29 rfl rfl (congrArg (fun z => v2 + z) zci_1) rfl).trans <|
    zr_goto (tgt := 9) t60_32 rfl
theorem k60_35 {X : Nat × (Nat → Int32)} {I : Nat → Nat → Int32} {v2 : Int32}  : zr X 60 35 [.ref 2, .ref 153, .int v2] [] (zk I) = zcb (zr X 73 0 [.ref 13, .ref 3, .null] [] (zk I)) (fun v m1 => zr X 60 46 [.ref 2, .ref 153, .int v2] (v.toList ++ []) m1) :=
  (zr_aload_n t60_35 rfl).trans <|
    (zr_getR (u := 13) t60_36 (rfl)).trans <|
    (zr_aload_n t60_39 rfl).trans <|
    (zr_getR (u := 3) t60_40 (rfl)).trans <|
    zr_callv t60_43 rfl rfl rfl rfl
theorem k60_46 {X : Nat × (Nat → Int32)} {I : Nat → Nat → Int32} {v2 : Int32}  : zr X 60 46 [.ref 2, .ref 153, .int v2] [] (zk I) = zcb (zr X 29 0 [.ref 5, .null, .null] [] (zk I)) (fun v m1 => zr X 60 53 [.ref 2, .ref 153, .int v2] (v.toList ++ []) m1) :=
  (zr_aload_n t60_46 rfl).trans <|
    (zr_getR (u := 5) t60_47 (rfl)).trans <|
    zr_callv t60_50 rfl rfl rfl rfl
theorem k60_53 {X : Nat × (Nat → Int32)} {I : Nat → Nat → Int32} {v2 : Int32}  : zr X 60 53 [.ref 2, .ref 153, .int v2] [] (zk I) = some (none, zk I) :=
  zr_vret t60_53 rfl
/-! X5_isSlot FiveInks$Slots.isSlot -/
theorem k62_0 {X : Nat × (Nat → Int32)} {I : Nat → Nat → Int32} {v0 : Int32}  : zr X 62 0 [.int v0] [] (zk I) = if v0 < 0 then zr X 62 13 [.int v0] [] (zk I) else zr X 62 4 [.int v0] [] (zk I) :=
  (zr_iload_n t62_0 rfl).trans <|
    zr_if_lt (tgt := 13) t62_1 rfl
theorem k62_4 {X : Nat × (Nat → Int32)} {I : Nat → Nat → Int32} {v0 : Int32}  : zr X 62 4 [.int v0] [] (zk I) = if 2 ≤ v0 then zr X 62 13 [.int v0] [] (zk I) else zr X 62 9 [.int v0] [] (zk I) :=
  (zr_iload_n t62_4 rfl).trans <|
    (zr_iconst t62_5 zci_2).trans <|
    zr_ic_ge (tgt := 13) t62_6 rfl
theorem k62_9 {X : Nat × (Nat → Int32)} {I : Nat → Nat → Int32} {v0 : Int32}  : zr X 62 9 [.int v0] [] (zk I) = some (some (.int 1), zk I) :=
  (zr_iconst t62_9 zci_1).trans <|
    (zr_goto (tgt := 14) t62_10 rfl).trans <|
    zr_zret t62_14 rfl (Or.inr rfl)
theorem k62_13 {X : Nat × (Nat → Int32)} {I : Nat → Nat → Int32} {v0 : Int32}  : zr X 62 13 [.int v0] [] (zk I) = some (some (.int 0), zk I) :=
  (zr_iconst t62_13 zci_0).trans <|
    zr_zret t62_14 rfl (Or.inl rfl)
/-! X5_keep FiveInks$Slots.keep -/
theorem k63_0 {X : Nat × (Nat → Int32)} {I : Nat → Nat → Int32} {v1 : Int32} (q1 : zin v1 2 = true) (q2 : zSb ((zR0.getD 110 []).getD (zx v1) 0) = true) : zr X 63 0 [.ref 109, .int v1, .ref 2] [] (zk I) = zcb (zr X 51 0 [.ref ((zR0.getD 110 []).getD (zx v1) 0), .ref 2] [] (zk I)) (fun v m1 => zr X 63 10 [.ref 109, .int v1, .ref 2] (v.toList ++ []) m1) :=
  (zr_aload_n t63_0 rfl).trans <|
    (zr_getR (u := 110) t63_1 (rfl)).trans <|
    (zr_iload_n t63_4 rfl).trans <|
    (zr_aald (N := 2) t63_5 rfl q1 rfl (zSb_ne q2)).trans <|
    (zr_aload_n t63_6 rfl).trans <|
    zr_callv t63_7 (zcok_recv (t := ((zR0.getD 110 []).getD (zx v1) 0)) (zbase q2 (fun z => zKb z 4) (by decide)) rfl rfl) rfl rfl rfl
theorem k63_10 {X : Nat × (Nat → Int32)} {I : Nat → Nat → Int32} {v1 : Int32} (q1 : zin v1 2 = true) : zr X 63 10 [.ref 109, .int v1, .ref 2] [] (zk I) = some (none, zk (zs1 I 111 (zx v1) 1)) :=
  (zr_aload_n t63_10 rfl).trans <|
    (zr_getR (u := 111) t63_11 (rfl)).trans <|
    (zr_iload_n t63_14 rfl).trans <|
    (zr_iconst t63_15 zci_1).trans <|
    (zr_bast (j := zx v1) t63_16 (N := 2) rfl rfl q1 (Or.inr rfl)).trans <|
    zr_vret t63_17 rfl
/-! X6_clear FiveInks$Text.clear -/
theorem k65_0 {X : Nat × (Nat → Int32)} {I : Nat → Nat → Int32}   : zr X 65 0 [.ref 3] [] (zk I) = some (none, zk (zs1 I 3 1 0)) :=
  (zr_aload_n t65_0 rfl).trans <|
    (zr_iconst t65_1 zci_0).trans <|
    (zr_putI t65_2 (rfl) (Or.inl rfl)).trans <|
    zr_vret t65_5 rfl
/-! X6_add FiveInks$Text.add -/
theorem k66_0 {X : Nat × (Nat → Int32)} {I : Nat → Nat → Int32} {v1 : Int32}  : zr X 66 0 [.ref 3, .int v1] [] (zk I) = if 60 ≤ (I 3 1) then zr X 66 29 [.ref 3, .int v1] [] (zk I) else zr X 66 9 [.ref 3, .int v1] [] (zk I) :=
  (zr_aload_n t66_0 rfl).trans <|
    (zr_getI t66_1 (rfl)).trans <|
    (zr_bipush t66_4 zcb_60).trans <|
    zr_ic_ge (tgt := 29) t66_6 rfl
theorem k66_9 {X : Nat × (Nat → Int32)} {I : Nat → Nat → Int32} {v1 : Int32} (q1 : zin (I 3 1) 60 = true) : zr X 66 9 [.ref 3, .int v1] [] (zk I) = some (none, zk (zs1 (zs1 I 4 (zx (I 3 1)) v1) 3 1 ((I 3 1) + 1))) :=
  (zr_aload_n t66_9 rfl).trans <|
    (zr_getR (u := 4) t66_10 (rfl)).trans <|
    (zr_aload_n t66_13 rfl).trans <|
    (zr_getI t66_14 (rfl)).trans <|
    (zr_iload_n t66_17 rfl).trans <|
    (zr_iast (j := zx (I 3 1)) t66_18 (N := 60) rfl rfl q1).trans <|
    (zr_aload_n t66_19 rfl).trans <|
    (zr_dup t66_20 rfl).trans <|
    (zr_getI t66_21 (rfl)).trans <|
    (zr_iconst t66_24 zci_1).trans <|
    (zr_iadd t66_25).trans <|
    (zr_putI t66_26 (rfl) (Or.inl rfl)).trans <|
    zr_vret t66_29 rfl
theorem k66_29 {X : Nat × (Nat → Int32)} {I : Nat → Nat → Int32} {v1 : Int32}  : zr X 66 29 [.ref 3, .int v1] [] (zk I) = some (none, zk I) :=
  zr_vret t66_29 rfl
/-! X6_at FiveInks$Text.at -/
theorem k67_0 {X : Nat × (Nat → Int32)} {I : Nat → Nat → Int32} {v1 : Int32}  : zr X 67 0 [.ref 3, .int v1] [] (zk I) = if v1 < 0 then zr X 67 21 [.ref 3, .int v1] [] (zk I) else zr X 67 4 [.ref 3, .int v1] [] (zk I) :=
  (zr_iload_n t67_0 rfl).trans <|
    zr_if_lt (tgt := 21) t67_1 rfl
theorem k67_4 {X : Nat × (Nat → Int32)} {I : Nat → Nat → Int32} {v1 : Int32}  : zr X 67 4 [.ref 3, .int v1] [] (zk I) = if (I 3 1) ≤ v1 then zr X 67 21 [.ref 3, .int v1] [] (zk I) else zr X 67 12 [.ref 3, .int v1] [] (zk I) :=
  (zr_iload_n t67_4 rfl).trans <|
    (zr_aload_n t67_5 rfl).trans <|
    (zr_getI t67_6 (rfl)).trans <|
    zr_ic_ge (tgt := 21) t67_9 rfl
theorem k67_12 {X : Nat × (Nat → Int32)} {I : Nat → Nat → Int32} {v1 : Int32} (q1 : zin v1 60 = true) : zr X 67 12 [.ref 3, .int v1] [] (zk I) = some (some (.int (I 4 (zx v1))), zk I) :=
  (zr_aload_n t67_12 rfl).trans <|
    (zr_getR (u := 4) t67_13 (rfl)).trans <|
    (zr_iload_n t67_16 rfl).trans <|
    (zr_iald (j := zx v1) t67_17 (N := 60) rfl rfl q1).trans <|
    (zr_goto (tgt := 22) t67_18 rfl).trans <|
    zr_iret t67_22 rfl
theorem k67_21 {X : Nat × (Nat → Int32)} {I : Nat → Nat → Int32} {v1 : Int32}  : zr X 67 21 [.ref 3, .int v1] [] (zk I) = some (some (.int (-1)), zk I) :=
  (zr_iconst t67_21 zci_m1).trans <|
    zr_iret t67_22 rfl
/-! X6_takeOver FiveInks$Text.takeOver -/
theorem k68_0 {X : Nat × (Nat → Int32)} {I : Nat → Nat → Int32} {b : Nat} (hb : zSb b = true) : zr X 68 0 [.ref (b + 1), .ref 3] [] (zk I) = some (none, zk (zs1 (zs2 I 4 (b + 2) 0 0 60) (b + 1) 1 ((zs2 I 4 (b + 2) 0 0 60) 3 1))) :=
  (zr_aload_n t68_0 rfl).trans <|
    (zr_getR (u := 4) t68_1 (rfl)).trans <|
    (zr_iconst t68_4 zci_0).trans <|
    (zr_aload_n t68_5 rfl).trans <|
    (zr_getR (u := (b + 2)) t68_6 (zbase hb (fun b => zfR (b + 1) 6 0 (b + 2)) (by decide))).trans <|
    (zr_iconst t68_9 zci_0).trans <|
    (zr_bipush t68_10 zcb_60).trans <|
    (zr_acopy (j := 0) (k := 0) (z := 60) (N := 60) (M := 60) t68_12 (rfl) (zbase hb (fun b => zaI (b + 2) 0 60) (by decide)) (by decide) (by decide) (by decide) (by decide) (by decide) (by decide) (by decide) (by decide)).trans <|
    (zr_aload_n t68_15 rfl).trans <|
    (zr_aload_n t68_16 rfl).trans <|
    (zr_getI t68_17 (rfl)).trans <|
    (zr_putI t68_20 (zbase hb (fun b => zfI (b + 1) 6 1) (by decide)) (Or.inl rfl)).trans <|
    zr_vret t68_23 rfl
/-! X6_takeOver FiveInks$Text.takeOver at ['3', '(b + 1)'] -/
theorem k68b_0 {X : Nat × (Nat → Int32)} {I : Nat → Nat → Int32} {b : Nat} (hb : zSb b = true) : zr X 68 0 [.ref 3, .ref (b + 1)] [] (zk I) = some (none, zk (zs1 (zs2 I (b + 2) 4 0 0 60) 3 1 ((zs2 I (b + 2) 4 0 0 60) (b + 1) 1))) :=
  (zr_aload_n t68_0 rfl).trans <|
    (zr_getR (u := (b + 2)) t68_1 (zbase hb (fun b => zfR (b + 1) 6 0 (b + 2)) (by decide))).trans <|
    (zr_iconst t68_4 zci_0).trans <|
    (zr_aload_n t68_5 rfl).trans <|
    (zr_getR (u := 4) t68_6 (rfl)).trans <|
    (zr_iconst t68_9 zci_0).trans <|
    (zr_bipush t68_10 zcb_60).trans <|
    (zr_acopy (j := 0) (k := 0) (z := 60) (N := 60) (M := 60) t68_12 (zbase hb (fun b => zaI (b + 2) 0 60) (by decide)) (rfl) (by decide) (by decide) (by decide) (by decide) (by decide) (by decide) (by decide) (by decide)).trans <|
    (zr_aload_n t68_15 rfl).trans <|
    (zr_aload_n t68_16 rfl).trans <|
    (zr_getI t68_17 (zbase hb (fun b => zfI (b + 1) 6 1) (by decide))).trans <|
    (zr_putI t68_20 (rfl) (Or.inl rfl)).trans <|
    zr_vret t68_23 rfl
/-! X7_clear FiveInks$Versions.clear -/
theorem k70_0 {X : Nat × (Nat → Int32)} {I : Nat → Nat → Int32}   : zr X 70 0 [.ref 13] [] (zk I) = some (none, zk (zs1 I 13 2 0)) :=
  (zr_aload_n t70_0 rfl).trans <|
    (zr_iconst t70_1 zci_0).trans <|
    (zr_putI t70_2 (rfl) (Or.inl rfl)).trans <|
    zr_vret t70_5 rfl
/-! X7_kept FiveInks$Versions.kept -/
theorem k71_0 {X : Nat × (Nat → Int32)} {I : Nat → Nat → Int32}   : zr X 71 0 [.ref 13] [] (zk I) = some (some (.int (if 6 < (I 13 2) then 6 else (I 13 2))), zk I) :=
  (zr_aload_n t71_0 rfl).trans <|
    (zr_getI t71_1 (rfl)).trans <|
    (zr_bipush t71_4 zcb_6).trans <|
    (zr_min t71_6 rfl).trans <|
    zr_iret t71_9 rfl
/-! X7_has FiveInks$Versions.has -/
theorem k72_0 {X : Nat × (Nat → Int32)} {I : Nat → Nat → Int32} {v1 : Int32}  : zr X 72 0 [.ref 13, .int v1] [] (zk I) = if v1 < 0 then zr X 72 16 [.ref 13, .int v1] [] (zk I) else zr X 72 4 [.ref 13, .int v1] [] (zk I) :=
  (zr_iload_n t72_0 rfl).trans <|
    zr_if_lt (tgt := 16) t72_1 rfl
theorem k72_4 {X : Nat × (Nat → Int32)} {I : Nat → Nat → Int32} {v1 : Int32}  : zr X 72 4 [.ref 13, .int v1] [] (zk I) = zcb (zr X 71 0 [.ref 13] [] (zk I)) (fun v m1 => zr X 72 9 [.ref 13, .int v1] (v.toList ++ [.int v1]) m1) :=
  (zr_iload_n t72_4 rfl).trans <|
    (zr_aload_n t72_5 rfl).trans <|
    zr_callv t72_6 rfl rfl rfl rfl
theorem k72_9 {X : Nat × (Nat → Int32)} {I : Nat → Nat → Int32} {v1 : Int32} {s0 : Int32} {s1 : Int32}  : zr X 72 9 [.ref 13, .int v1] [.int s1, .int s0] (zk I) = if s1 ≤ s0 then zr X 72 16 [.ref 13, .int v1] [] (zk I) else zr X 72 12 [.ref 13, .int v1] [] (zk I) :=
  zr_ic_ge (tgt := 16) t72_9 rfl
theorem k72_12 {X : Nat × (Nat → Int32)} {I : Nat → Nat → Int32} {v1 : Int32}  : zr X 72 12 [.ref 13, .int v1] [] (zk I) = some (some (.int 1), zk I) :=
  (zr_iconst t72_12 zci_1).trans <|
    (zr_goto (tgt := 17) t72_13 rfl).trans <|
    zr_zret t72_17 rfl (Or.inr rfl)
theorem k72_16 {X : Nat × (Nat → Int32)} {I : Nat → Nat → Int32} {v1 : Int32}  : zr X 72 16 [.ref 13, .int v1] [] (zk I) = some (some (.int 0), zk I) :=
  (zr_iconst t72_16 zci_0).trans <|
    zr_zret t72_17 rfl (Or.inl rfl)
/-! X7_add FiveInks$Versions.add -/
theorem k73_0 {X : Nat × (Nat → Int32)} {I : Nat → Nat → Int32}  (q1 : ¬ (((I 13 2) - (I 13 2) / 6 * 6) * 60) < 0) (q2 : zx (((I 13 2) - (I 13 2) / 6 * 6) * 60) + 60 ≤ 360) (q3 : zin ((I 13 2) - (I 13 2) / 6 * 6) 6 = true) : zr X 73 0 [.ref 13, .ref 3, .null] [] (zk I) = some (none, zk (zs1 (zs1 (zs2 I 4 14 0 (zx (((I 13 2) - (I 13 2) / 6 * 6) * 60)) 60) 15 (zx ((I 13 2) - (I 13 2) / 6 * 6)) (I 3 1)) 13 2 ((I 13 2) + 1))) :=
  (zr_aload_n t73_0 rfl).trans <|
    (zr_getI t73_1 (rfl)).trans <|
    (zr_bipush t73_4 zcb_6).trans <|
    (zr_irem t73_6 (by decide)).trans <|
    (zr_istore_n t73_7 rfl rfl).trans <|
    (zr_aload_n t73_8 rfl).trans <|
    (zr_getR (u := 4) t73_9 (rfl)).trans <|
    (zr_iconst t73_12 zci_0).trans <|
    (zr_aload_n t73_13 rfl).trans <|
    (zr_getR (u := 14) t73_14 (rfl)).trans <|
    (zr_iload_n t73_17 rfl).trans <|
    (zr_bipush t73_18 zcb_60).trans <|
    (zr_imul t73_20).trans <|
    (zr_bipush t73_21 zcb_60).trans <|
    (zr_acopy (j := 0) (k := zx (((I 13 2) - (I 13 2) / 6 * 6) * 60)) (z := 60) (N := 60) (M := 360) t73_23 (rfl) (rfl) (by decide) q1 (by decide) (by decide) rfl (by decide) (by decide) q2).trans <|
    (zr_aload_n t73_26 rfl).trans <|
    (zr_getR (u := 15) t73_27 (rfl)).trans <|
    (zr_iload_n t73_30 rfl).trans <|
    (zr_aload_n t73_31 rfl).trans <|
    (zr_getI t73_32 (rfl)).trans <|
    (zr_iast (j := zx ((I 13 2) - (I 13 2) / 6 * 6)) t73_35 (N := 6) rfl rfl q3).trans <|
    (zr_aload_n t73_36 rfl).trans <|
    (zr_dup t73_37 rfl).trans <|
    (zr_getI t73_38 (rfl)).trans <|
    (zr_iconst t73_41 zci_1).trans <|
    (zr_iadd t73_42).trans <|
    (zr_putI t73_43 (rfl) (Or.inl rfl)).trans <|
    zr_vret t73_46 rfl
/-! X7_lengthOf FiveInks$Versions.lengthOf -/
theorem k74_0 {X : Nat × (Nat → Int32)} {I : Nat → Nat → Int32} {v1 : Int32}  : zr X 74 0 [.ref 13, .int v1] [] (zk I) = zcb (zr X 72 0 [.ref 13, .int v1] [] (zk I)) (fun v m1 => zr X 74 5 [.ref 13, .int v1] (v.toList ++ []) m1) :=
  (zr_aload_n t74_0 rfl).trans <|
    (zr_iload_n t74_1 rfl).trans <|
    zr_callv t74_2 rfl rfl rfl rfl
theorem k74_5 {X : Nat × (Nat → Int32)} {I : Nat → Nat → Int32} {v1 : Int32} {s0 : Int32}  : zr X 74 5 [.ref 13, .int v1] [.int s0] (zk I) = if s0 = 0 then zr X 74 21 [.ref 13, .int v1] [] (zk I) else zr X 74 8 [.ref 13, .int v1] [] (zk I) :=
  zr_if_eq (tgt := 21) t74_5 rfl
theorem k74_8 {X : Nat × (Nat → Int32)} {I : Nat → Nat → Int32} {v1 : Int32}  : zr X 74 8 [.ref 13, .int v1] [] (zk I) = zcb (zr X 76 0 [.ref 13, .int v1] [] (zk I)) (fun v m1 => zr X 74 17 [.ref 13, .int v1] (v.toList ++ [.ref 15]) m1) :=
  (zr_aload_n t74_8 rfl).trans <|
    (zr_getR (u := 15) t74_9 (rfl)).trans <|
    (zr_aload_n t74_12 rfl).trans <|
    (zr_iload_n t74_13 rfl).trans <|
    zr_callv t74_14 rfl rfl rfl rfl
theorem k74_17 {X : Nat × (Nat → Int32)} {I : Nat → Nat → Int32} {v1 : Int32} {s1 : Int32} (q1 : zin s1 6 = true) : zr X 74 17 [.ref 13, .int v1] [.int s1, .ref 15] (zk I) = some (some (.int (I 15 (zx s1))), zk I) :=
  (zr_iald (j := zx s1) t74_17 (N := 6) rfl rfl q1).trans <|
    (zr_goto (tgt := 22) t74_18 rfl).trans <|
    zr_iret t74_22 rfl
theorem k74_21 {X : Nat × (Nat → Int32)} {I : Nat → Nat → Int32} {v1 : Int32}  : zr X 74 21 [.ref 13, .int v1] [] (zk I) = some (some (.int 0), zk I) :=
  (zr_iconst t74_21 zci_0).trans <|
    zr_iret t74_22 rfl
/-! X7_at FiveInks$Versions.at -/
theorem k75_0 {X : Nat × (Nat → Int32)} {I : Nat → Nat → Int32} {v1 : Int32} {v2 : Int32}  : zr X 75 0 [.ref 13, .int v1, .int v2] [] (zk I) = if v2 < 0 then zr X 75 13 [.ref 13, .int v1, .int v2] [] (zk I) else zr X 75 4 [.ref 13, .int v1, .int v2] [] (zk I) :=
  (zr_iload_n t75_0 rfl).trans <|
    zr_if_lt (tgt := 13) t75_1 rfl
theorem k75_4 {X : Nat × (Nat → Int32)} {I : Nat → Nat → Int32} {v1 : Int32} {v2 : Int32}  : zr X 75 4 [.ref 13, .int v1, .int v2] [] (zk I) = zcb (zr X 74 0 [.ref 13, .int v1] [] (zk I)) (fun v m1 => zr X 75 10 [.ref 13, .int v1, .int v2] (v.toList ++ [.int v2]) m1) :=
  (zr_iload_n t75_4 rfl).trans <|
    (zr_aload_n t75_5 rfl).trans <|
    (zr_iload_n t75_6 rfl).trans <|
    zr_callv t75_7 rfl rfl rfl rfl
theorem k75_10 {X : Nat × (Nat → Int32)} {I : Nat → Nat → Int32} {v1 : Int32} {v2 : Int32} {s0 : Int32} {s1 : Int32}  : zr X 75 10 [.ref 13, .int v1, .int v2] [.int s1, .int s0] (zk I) = if s0 < s1 then zr X 75 15 [.ref 13, .int v1, .int v2] [] (zk I) else zr X 75 13 [.ref 13, .int v1, .int v2] [] (zk I) :=
  zr_ic_lt (tgt := 15) t75_10 rfl
theorem k75_13 {X : Nat × (Nat → Int32)} {I : Nat → Nat → Int32} {v1 : Int32} {v2 : Int32}  : zr X 75 13 [.ref 13, .int v1, .int v2] [] (zk I) = some (some (.int (-1)), zk I) :=
  (zr_iconst t75_13 zci_m1).trans <|
    zr_iret t75_14 rfl
theorem k75_15 {X : Nat × (Nat → Int32)} {I : Nat → Nat → Int32} {v1 : Int32} {v2 : Int32}  : zr X 75 15 [.ref 13, .int v1, .int v2] [] (zk I) = zcb (zr X 76 0 [.ref 13, .int v1] [] (zk I)) (fun v m1 => zr X 75 24 [.ref 13, .int v1, .int v2] (v.toList ++ [.ref 14]) m1) :=
  (zr_aload_n t75_15 rfl).trans <|
    (zr_getR (u := 14) t75_16 (rfl)).trans <|
    (zr_aload_n t75_19 rfl).trans <|
    (zr_iload_n t75_20 rfl).trans <|
    zr_callv t75_21 rfl rfl rfl rfl
theorem k75_24 {X : Nat × (Nat → Int32)} {I : Nat → Nat → Int32} {v1 : Int32} {v2 : Int32} {s1 : Int32} (q1 : zin ((s1 * 60) + v2) 360 = true) : zr X 75 24 [.ref 13, .int v1, .int v2] [.int s1, .ref 14] (zk I) = some (some (.int (I 14 (zx ((s1 * 60) + v2)))), zk I) :=
  (zr_bipush t75_24 zcb_60).trans <|
    (zr_imul t75_26).trans <|
    (zr_iload_n t75_27 rfl).trans <|
    (zr_iadd t75_28).trans <|
    (zr_iald (j := zx ((s1 * 60) + v2)) t75_29 (N := 360) rfl rfl q1).trans <|
    zr_iret t75_30 rfl
/-! X7_rowOf FiveInks$Versions.rowOf -/
theorem k76_0 {X : Nat × (Nat → Int32)} {I : Nat → Nat → Int32} {v1 : Int32}  : zr X 76 0 [.ref 13, .int v1] [] (zk I) = zcb (zr X 185 0 [.int (((I 13 2) - 1) - v1), .int 6, .null] [] (zk I)) (fun v m1 => zr X 76 13 [.ref 13, .int v1] (v.toList ++ []) m1) :=
  (zr_aload_n t76_0 rfl).trans <|
    (zr_getI t76_1 (rfl)).trans <|
    (zr_iconst t76_4 zci_1).trans <|
    (zr_isub t76_5).trans <|
    (zr_iload_n t76_6 rfl).trans <|
    (zr_isub t76_7).trans <|
    (zr_bipush t76_8 zcb_6).trans <|
    zr_calls t76_10 rfl rfl rfl rfl rfl
theorem k76_13 {X : Nat × (Nat → Int32)} {I : Nat → Nat → Int32} {v1 : Int32} {s0 : Int32}  : zr X 76 13 [.ref 13, .int v1] [.int s0] (zk I) = some (some (.int s0), zk I) :=
  zr_iret t76_13 rfl
/-! X7_distance FiveInks$Versions.distance -/
theorem k77_0 {X : Nat × (Nat → Int32)} {I : Nat → Nat → Int32} {v1 : Int32} {v2 : Int32}  : zr X 77 0 [.ref 13, .int v1, .int v2, .ref 159, .null, .null, .null, .null, .null, .null, .null, .null] [] (zk I) = zcb (zr X 74 0 [.ref 13, .int v1] [] (zk I)) (fun v m1 => zr X 77 5 [.ref 13, .int v1, .int v2, .ref 159, .null, .null, .null, .null, .null, .null, .null, .null] (v.toList ++ []) m1) :=
  (zr_aload_n t77_0 rfl).trans <|
    (zr_iload_n t77_1 rfl).trans <|
    zr_callv t77_2 rfl rfl rfl rfl
theorem k77_5 {X : Nat × (Nat → Int32)} {I : Nat → Nat → Int32} {v1 : Int32} {v2 : Int32} {s0 : Int32}  : zr X 77 5 [.ref 13, .int v1, .int v2, .ref 159, .null, .null, .null, .null, .null, .null, .null, .null] [.int s0] (zk I) = zcb (zr X 74 0 [.ref 13, .int v2] [] (zk I)) (fun v m1 => zr X 77 12 [.ref 13, .int v1, .int v2, .ref 159, .int s0, .null, .null, .null, .null, .null, .null, .null] (v.toList ++ []) m1) :=
  (zr_istore t77_5 rfl rfl).trans <|
    (zr_aload_n t77_7 rfl).trans <|
    (zr_iload_n t77_8 rfl).trans <|
    zr_callv t77_9 rfl rfl rfl rfl
theorem k77_12 {X : Nat × (Nat → Int32)} {I : Nat → Nat → Int32} {v1 : Int32} {v2 : Int32} {v4 : Int32} {s0 : Int32}  : zr X 77 12 [.ref 13, .int v1, .int v2, .ref 159, .int v4, .null, .null, .null, .null, .null, .null, .null] [.int s0] (zk I) = zcb (zr X 76 0 [.ref 13, .int v1] [] (zk I)) (fun v m1 => zr X 77 26 [.ref 13, .int v1, .int v2, .ref 159, .int v4, .int (if (61 - 1) < s0 then (61 - 1) else s0), .null, .null, .null, .null, .null, .null] (v.toList ++ []) m1) :=
  (zr_aload_n t77_12 rfl).trans <|
    (zr_alen (N := 61) (x := 61) t77_13 rfl (by decide)).trans <|
    (zr_iconst t77_14 zci_1).trans <|
    (zr_isub t77_15).trans <|
    (zr_min t77_16 rfl).trans <|
    (zr_istore t77_19 rfl rfl).trans <|
    (zr_aload_n t77_21 rfl).trans <|
    (zr_iload_n t77_22 rfl).trans <|
    zr_callv t77_23 rfl rfl rfl rfl
theorem k77_26 {X : Nat × (Nat → Int32)} {I : Nat → Nat → Int32} {v1 : Int32} {v2 : Int32} {v4 : Int32} {v5 : Int32} {s0 : Int32}  : zr X 77 26 [.ref 13, .int v1, .int v2, .ref 159, .int v4, .int v5, .null, .null, .null, .null, .null, .null] [.int s0] (zk I) = zcb (zr X 76 0 [.ref 13, .int v2] [] (zk I)) (fun v m1 => zr X 77 36 [.ref 13, .int v1, .int v2, .ref 159, .int v4, .int v5, .int (s0 * 60), .null, .null, .null, .null, .null] (v.toList ++ []) m1) :=
  (zr_bipush t77_26 zcb_60).trans <|
    (zr_imul t77_28).trans <|
    (zr_istore t77_29 rfl rfl).trans <|
    (zr_aload_n t77_31 rfl).trans <|
    (zr_iload_n t77_32 rfl).trans <|
    zr_callv t77_33 rfl rfl rfl rfl
theorem k77_36 {X : Nat × (Nat → Int32)} {I : Nat → Nat → Int32} {v1 : Int32} {v2 : Int32} {v4 : Int32} {v5 : Int32} {v6 : Int32} {s0 : Int32}  : zr X 77 36 [.ref 13, .int v1, .int v2, .ref 159, .int v4, .int v5, .int v6, .null, .null, .null, .null, .null] [.int s0] (zk I) = zr X 77 44 [.ref 13, .int v1, .int v2, .ref 159, .int v4, .int v5, .int v6, .int (s0 * 60), .int 0, .null, .null, .null] [] (zk I) :=
  (zr_bipush t77_36 zcb_60).trans <|
    (zr_imul t77_38).trans <|
    (zr_istore t77_39 rfl rfl).trans <|
    (zr_iconst t77_41 zci_0).trans <|
    zr_istore t77_42 rfl rfl
theorem k77_44 {X : Nat × (Nat → Int32)} {I : Nat → Nat → Int32} {v1 : Int32} {v2 : Int32} {v4 : Int32} {v5 : Int32} {v6 : Int32} {v7 : Int32} {v8 : Int32}  : zr X 77 44 [.ref 13, .int v1, .int v2, .ref 159, .int v4, .int v5, .int v6, .int v7, .int v8, .null, .null, .null] [] (zk I) = if v5 < v8 then zr X 77 63 [.ref 13, .int v1, .int v2, .ref 159, .int v4, .int v5, .int v6, .int v7, .int v8, .null, .null, .null] [] (zk I) else zr X 77 51 [.ref 13, .int v1, .int v2, .ref 159, .int v4, .int v5, .int v6, .int v7, .int v8, .null, .null, .null] [] (zk I) :=
  (zr_iload t77_44 rfl).trans <|
    (zr_iload t77_46 rfl).trans <|
    zr_ic_gt (tgt := 63) t77_48 rfl
theorem k77_51 {X : Nat × (Nat → Int32)} {I : Nat → Nat → Int32} {v1 : Int32} {v2 : Int32} {v4 : Int32} {v5 : Int32} {v6 : Int32} {v7 : Int32} {v8 : Int32} (q1 : zin v8 61 = true) : zr X 77 51 [.ref 13, .int v1, .int v2, .ref 159, .int v4, .int v5, .int v6, .int v7, .int v8, .null, .null, .null] [] (zk I) = zr X 77 44 [.ref 13, .int v1, .int v2, .ref 159, .int v4, .int v5, .int v6, .int v7, .int (v8 + 1), .null, .null, .null] [] (zk (zs1 I 159 (zx v8) v8)) :=
  (zr_aload_n t77_51 rfl).trans <|
    (zr_iload t77_52 rfl).trans <|
    (zr_iload t77_54 rfl).trans <|
    (zr_iast (j := zx v8) t77_56 (N := 61) rfl rfl q1).trans <|
    (zr_iinc t77_57 rfl rfl (congrArg (fun z => v8 + z) zci_1) rfl).trans <|
    zr_goto (tgt := 44) t77_60 rfl
theorem k77_63 {X : Nat × (Nat → Int32)} {I : Nat → Nat → Int32} {v1 : Int32} {v2 : Int32} {v4 : Int32} {v5 : Int32} {v6 : Int32} {v7 : Int32} {v8 : Int32}  : zr X 77 63 [.ref 13, .int v1, .int v2, .ref 159, .int v4, .int v5, .int v6, .int v7, .int v8, .null, .null, .null] [] (zk I) = zr X 77 66 [.ref 13, .int v1, .int v2, .ref 159, .int v4, .int v5, .int v6, .int v7, .int 0, .null, .null, .null] [] (zk I) :=
  (zr_iconst t77_63 zci_0).trans <|
    zr_istore t77_64 rfl rfl
theorem k77_66 {X : Nat × (Nat → Int32)} {I : Nat → Nat → Int32} {v1 : Int32} {v2 : Int32} {v4 : Int32} {v5 : Int32} {v6 : Int32} {v7 : Int32} {v8 : Int32} {v9 : Value} {v10 : Value} {v11 : Value}  : zr X 77 66 [.ref 13, .int v1, .int v2, .ref 159, .int v4, .int v5, .int v6, .int v7, .int v8, v9, v10, v11] [] (zk I) = if v4 ≤ v8 then zr X 77 171 [.ref 13, .int v1, .int v2, .ref 159, .int v4, .int v5, .int v6, .int v7, .int v8, v9, v10, v11] [] (zk I) else zr X 77 73 [.ref 13, .int v1, .int v2, .ref 159, .int v4, .int v5, .int v6, .int v7, .int v8, v9, v10, v11] [] (zk I) :=
  (zr_iload t77_66 rfl).trans <|
    (zr_iload t77_68 rfl).trans <|
    zr_ic_ge (tgt := 171) t77_70 rfl
theorem k77_73 {X : Nat × (Nat → Int32)} {I : Nat → Nat → Int32} {v1 : Int32} {v2 : Int32} {v4 : Int32} {v5 : Int32} {v6 : Int32} {v7 : Int32} {v8 : Int32} {v9 : Value} {v10 : Value} {v11 : Value}  : zr X 77 73 [.ref 13, .int v1, .int v2, .ref 159, .int v4, .int v5, .int v6, .int v7, .int v8, v9, v10, v11] [] (zk I) = zr X 77 88 [.ref 13, .int v1, .int v2, .ref 159, .int v4, .int v5, .int v6, .int v7, .int v8, .int (I 159 0), .int 0, v11] [] (zk (zs1 I 159 0 (v8 + 1))) :=
  (zr_aload_n t77_73 rfl).trans <|
    (zr_iconst t77_74 zci_0).trans <|
    (zr_iald (j := 0) t77_75 (N := 61) rfl (by decide) (by decide)).trans <|
    (zr_istore t77_76 rfl rfl).trans <|
    (zr_aload_n t77_78 rfl).trans <|
    (zr_iconst t77_79 zci_0).trans <|
    (zr_iload t77_80 rfl).trans <|
    (zr_iconst t77_82 zci_1).trans <|
    (zr_iadd t77_83).trans <|
    (zr_iast (j := 0) t77_84 (N := 61) rfl (by decide) (by decide)).trans <|
    (zr_iconst t77_85 zci_0).trans <|
    zr_istore t77_86 rfl rfl
theorem k77_88 {X : Nat × (Nat → Int32)} {I : Nat → Nat → Int32} {v1 : Int32} {v2 : Int32} {v4 : Int32} {v5 : Int32} {v6 : Int32} {v7 : Int32} {v8 : Int32} {v9 : Int32} {v10 : Int32} {v11 : Value}  : zr X 77 88 [.ref 13, .int v1, .int v2, .ref 159, .int v4, .int v5, .int v6, .int v7, .int v8, .int v9, .int v10, v11] [] (zk I) = if v5 ≤ v10 then zr X 77 165 [.ref 13, .int v1, .int v2, .ref 159, .int v4, .int v5, .int v6, .int v7, .int v8, .int v9, .int v10, v11] [] (zk I) else zr X 77 95 [.ref 13, .int v1, .int v2, .ref 159, .int v4, .int v5, .int v6, .int v7, .int v8, .int v9, .int v10, v11] [] (zk I) :=
  (zr_iload t77_88 rfl).trans <|
    (zr_iload t77_90 rfl).trans <|
    zr_ic_ge (tgt := 165) t77_92 rfl
theorem k77_95 {X : Nat × (Nat → Int32)} {I : Nat → Nat → Int32} {v1 : Int32} {v2 : Int32} {v4 : Int32} {v5 : Int32} {v6 : Int32} {v7 : Int32} {v8 : Int32} {v9 : Int32} {v10 : Int32} {v11 : Value} (q1 : zin (v6 + v8) 360 = true) (q2 : zin (v7 + v10) 360 = true) : zr X 77 95 [.ref 13, .int v1, .int v2, .ref 159, .int v4, .int v5, .int v6, .int v7, .int v8, .int v9, .int v10, v11] [] (zk I) = if ¬ (I 14 (zx (v6 + v8))) = (I 14 (zx (v7 + v10))) then zr X 77 123 [.ref 13, .int v1, .int v2, .ref 159, .int v4, .int v5, .int v6, .int v7, .int v8, .int v9, .int v10, v11] [] (zk I) else zr X 77 118 [.ref 13, .int v1, .int v2, .ref 159, .int v4, .int v5, .int v6, .int v7, .int v8, .int v9, .int v10, v11] [] (zk I) :=
  (zr_aload_n t77_95 rfl).trans <|
    (zr_getR (u := 14) t77_96 (rfl)).trans <|
    (zr_iload t77_99 rfl).trans <|
    (zr_iload t77_101 rfl).trans <|
    (zr_iadd t77_103).trans <|
    (zr_iald (j := zx (v6 + v8)) t77_104 (N := 360) rfl rfl q1).trans <|
    (zr_aload_n t77_105 rfl).trans <|
    (zr_getR (u := 14) t77_106 (rfl)).trans <|
    (zr_iload t77_109 rfl).trans <|
    (zr_iload t77_111 rfl).trans <|
    (zr_iadd t77_113).trans <|
    (zr_iald (j := zx (v7 + v10)) t77_114 (N := 360) rfl rfl q2).trans <|
    zr_ic_ne (tgt := 123) t77_115 rfl
theorem k77_118 {X : Nat × (Nat → Int32)} {I : Nat → Nat → Int32} {v1 : Int32} {v2 : Int32} {v4 : Int32} {v5 : Int32} {v6 : Int32} {v7 : Int32} {v8 : Int32} {v9 : Int32} {v10 : Int32} {v11 : Value} (q1 : zin (v10 + 1) 61 = true) (q2 : zin v10 61 = true) : zr X 77 118 [.ref 13, .int v1, .int v2, .ref 159, .int v4, .int v5, .int v6, .int v7, .int v8, .int v9, .int v10, v11] [] (zk I) = zr X 77 88 [.ref 13, .int v1, .int v2, .ref 159, .int v4, .int v5, .int v6, .int v7, .int v8, .int (I 159 (zx (v10 + 1))), .int (v10 + 1), .int v9] [] (zk (zs1 I 159 (zx (v10 + 1)) (if (1 + (if (I 159 (zx v10)) < (I 159 (zx (v10 + 1))) then (I 159 (zx v10)) else (I 159 (zx (v10 + 1))))) < v9 then (1 + (if (I 159 (zx v10)) < (I 159 (zx (v10 + 1))) then (I 159 (zx v10)) else (I 159 (zx (v10 + 1))))) else v9))) :=
  (zr_iload t77_118 rfl).trans <|
    (zr_goto (tgt := 127) t77_120 rfl).trans <|
    (zr_istore t77_127 rfl rfl).trans <|
    (zr_aload_n t77_129 rfl).trans <|
    (zr_iload t77_130 rfl).trans <|
    (zr_iconst t77_132 zci_1).trans <|
    (zr_iadd t77_133).trans <|
    (zr_iald (j := zx (v10 + 1)) t77_134 (N := 61) rfl rfl q1).trans <|
    (zr_istore t77_135 rfl rfl).trans <|
    (zr_aload_n t77_137 rfl).trans <|
    (zr_iload t77_138 rfl).trans <|
    (zr_iconst t77_140 zci_1).trans <|
    (zr_iadd t77_141).trans <|
    (zr_iload t77_142 rfl).trans <|
    (zr_iconst t77_144 zci_1).trans <|
    (zr_iload t77_145 rfl).trans <|
    (zr_aload_n t77_147 rfl).trans <|
    (zr_iload t77_148 rfl).trans <|
    (zr_iald (j := zx v10) t77_150 (N := 61) rfl rfl q2).trans <|
    (zr_min t77_151 rfl).trans <|
    (zr_iadd t77_154).trans <|
    (zr_min t77_155 rfl).trans <|
    (zr_iast (j := zx (v10 + 1)) t77_158 (N := 61) rfl rfl q1).trans <|
    (zr_iinc t77_159 rfl rfl (congrArg (fun z => v10 + z) zci_1) rfl).trans <|
    zr_goto (tgt := 88) t77_162 rfl
theorem k77_123 {X : Nat × (Nat → Int32)} {I : Nat → Nat → Int32} {v1 : Int32} {v2 : Int32} {v4 : Int32} {v5 : Int32} {v6 : Int32} {v7 : Int32} {v8 : Int32} {v9 : Int32} {v10 : Int32} {v11 : Value} (q1 : zin (v10 + 1) 61 = true) (q2 : zin v10 61 = true) : zr X 77 123 [.ref 13, .int v1, .int v2, .ref 159, .int v4, .int v5, .int v6, .int v7, .int v8, .int v9, .int v10, v11] [] (zk I) = zr X 77 88 [.ref 13, .int v1, .int v2, .ref 159, .int v4, .int v5, .int v6, .int v7, .int v8, .int (I 159 (zx (v10 + 1))), .int (v10 + 1), .int (v9 + 1)] [] (zk (zs1 I 159 (zx (v10 + 1)) (if (1 + (if (I 159 (zx v10)) < (I 159 (zx (v10 + 1))) then (I 159 (zx v10)) else (I 159 (zx (v10 + 1))))) < (v9 + 1) then (1 + (if (I 159 (zx v10)) < (I 159 (zx (v10 + 1))) then (I 159 (zx v10)) else (I 159 (zx (v10 + 1))))) else (v9 + 1)))) :=
  (zr_iload t77_123 rfl).trans <|
    (zr_iconst t77_125 zci_1).trans <|
    (zr_iadd t77_126).trans <|
    (zr_istore t77_127 rfl rfl).trans <|
    (zr_aload_n t77_129 rfl).trans <|
    (zr_iload t77_130 rfl).trans <|
    (zr_iconst t77_132 zci_1).trans <|
    (zr_iadd t77_133).trans <|
    (zr_iald (j := zx (v10 + 1)) t77_134 (N := 61) rfl rfl q1).trans <|
    (zr_istore t77_135 rfl rfl).trans <|
    (zr_aload_n t77_137 rfl).trans <|
    (zr_iload t77_138 rfl).trans <|
    (zr_iconst t77_140 zci_1).trans <|
    (zr_iadd t77_141).trans <|
    (zr_iload t77_142 rfl).trans <|
    (zr_iconst t77_144 zci_1).trans <|
    (zr_iload t77_145 rfl).trans <|
    (zr_aload_n t77_147 rfl).trans <|
    (zr_iload t77_148 rfl).trans <|
    (zr_iald (j := zx v10) t77_150 (N := 61) rfl rfl q2).trans <|
    (zr_min t77_151 rfl).trans <|
    (zr_iadd t77_154).trans <|
    (zr_min t77_155 rfl).trans <|
    (zr_iast (j := zx (v10 + 1)) t77_158 (N := 61) rfl rfl q1).trans <|
    (zr_iinc t77_159 rfl rfl (congrArg (fun z => v10 + z) zci_1) rfl).trans <|
    zr_goto (tgt := 88) t77_162 rfl
theorem k77_165 {X : Nat × (Nat → Int32)} {I : Nat → Nat → Int32} {v1 : Int32} {v2 : Int32} {v4 : Int32} {v5 : Int32} {v6 : Int32} {v7 : Int32} {v8 : Int32} {v9 : Int32} {v10 : Int32} {v11 : Value}  : zr X 77 165 [.ref 13, .int v1, .int v2, .ref 159, .int v4, .int v5, .int v6, .int v7, .int v8, .int v9, .int v10, v11] [] (zk I) = zr X 77 66 [.ref 13, .int v1, .int v2, .ref 159, .int v4, .int v5, .int v6, .int v7, .int (v8 + 1), .int v9, .int v10, v11] [] (zk I) :=
  (zr_iinc t77_165 rfl rfl (congrArg (fun z => v8 + z) zci_1) rfl).trans <|
    zr_goto (tgt := 66) t77_168 rfl
theorem k77_171 {X : Nat × (Nat → Int32)} {I : Nat → Nat → Int32} {v1 : Int32} {v2 : Int32} {v4 : Int32} {v5 : Int32} {v6 : Int32} {v7 : Int32} {v8 : Int32} {v9 : Value} {v10 : Value} {v11 : Value} (q1 : zin v5 61 = true) : zr X 77 171 [.ref 13, .int v1, .int v2, .ref 159, .int v4, .int v5, .int v6, .int v7, .int v8, v9, v10, v11] [] (zk I) = some (some (.int (I 159 (zx v5))), zk I) :=
  (zr_aload_n t77_171 rfl).trans <|
    (zr_iload t77_172 rfl).trans <|
    (zr_iald (j := zx v5) t77_174 (N := 61) rfl rfl q1).trans <|
    zr_iret t77_175 rfl
/-! X7_takeOver FiveInks$Versions.takeOver -/
theorem k78_0 {X : Nat × (Nat → Int32)} {I : Nat → Nat → Int32} {b : Nat} (hb : zSb b = true) : zr X 78 0 [.ref (b + 11), .ref 13] [] (zk I) = some (none, zk (zs1 (zs2 (zs2 I 14 (b + 12) 0 0 360) 15 (b + 13) 0 0 6) (b + 11) 2 ((zs2 (zs2 I 14 (b + 12) 0 0 360) 15 (b + 13) 0 0 6) 13 2))) :=
  (zr_aload_n t78_0 rfl).trans <|
    (zr_getR (u := 14) t78_1 (rfl)).trans <|
    (zr_iconst t78_4 zci_0).trans <|
    (zr_aload_n t78_5 rfl).trans <|
    (zr_getR (u := (b + 12)) t78_6 (zbase hb (fun b => zfR (b + 11) 7 0 (b + 12)) (by decide))).trans <|
    (zr_iconst t78_9 zci_0).trans <|
    (zr_sipush t78_10 zcs_360).trans <|
    (zr_acopy (j := 0) (k := 0) (z := 360) (N := 360) (M := 360) t78_13 (rfl) (zbase hb (fun b => zaI (b + 12) 0 360) (by decide)) (by decide) (by decide) (by decide) (by decide) (by decide) (by decide) (by decide) (by decide)).trans <|
    (zr_aload_n t78_16 rfl).trans <|
    (zr_getR (u := 15) t78_17 (rfl)).trans <|
    (zr_iconst t78_20 zci_0).trans <|
    (zr_aload_n t78_21 rfl).trans <|
    (zr_getR (u := (b + 13)) t78_22 (zbase hb (fun b => zfR (b + 11) 7 1 (b + 13)) (by decide))).trans <|
    (zr_iconst t78_25 zci_0).trans <|
    (zr_bipush t78_26 zcb_6).trans <|
    (zr_acopy (j := 0) (k := 0) (z := 6) (N := 6) (M := 6) t78_28 (rfl) (zbase hb (fun b => zaI (b + 13) 0 6) (by decide)) (by decide) (by decide) (by decide) (by decide) (by decide) (by decide) (by decide) (by decide)).trans <|
    (zr_aload_n t78_31 rfl).trans <|
    (zr_aload_n t78_32 rfl).trans <|
    (zr_getI t78_33 (rfl)).trans <|
    (zr_putI t78_36 (zbase hb (fun b => zfI (b + 11) 7 2) (by decide)) (Or.inl rfl)).trans <|
    zr_vret t78_39 rfl
/-! X7_takeOver FiveInks$Versions.takeOver at ['13', '(b + 11)'] -/
theorem k78b_0 {X : Nat × (Nat → Int32)} {I : Nat → Nat → Int32} {b : Nat} (hb : zSb b = true) : zr X 78 0 [.ref 13, .ref (b + 11)] [] (zk I) = some (none, zk (zs1 (zs2 (zs2 I (b + 12) 14 0 0 360) (b + 13) 15 0 0 6) 13 2 ((zs2 (zs2 I (b + 12) 14 0 0 360) (b + 13) 15 0 0 6) (b + 11) 2))) :=
  (zr_aload_n t78_0 rfl).trans <|
    (zr_getR (u := (b + 12)) t78_1 (zbase hb (fun b => zfR (b + 11) 7 0 (b + 12)) (by decide))).trans <|
    (zr_iconst t78_4 zci_0).trans <|
    (zr_aload_n t78_5 rfl).trans <|
    (zr_getR (u := 14) t78_6 (rfl)).trans <|
    (zr_iconst t78_9 zci_0).trans <|
    (zr_sipush t78_10 zcs_360).trans <|
    (zr_acopy (j := 0) (k := 0) (z := 360) (N := 360) (M := 360) t78_13 (zbase hb (fun b => zaI (b + 12) 0 360) (by decide)) (rfl) (by decide) (by decide) (by decide) (by decide) (by decide) (by decide) (by decide) (by decide)).trans <|
    (zr_aload_n t78_16 rfl).trans <|
    (zr_getR (u := (b + 13)) t78_17 (zbase hb (fun b => zfR (b + 11) 7 1 (b + 13)) (by decide))).trans <|
    (zr_iconst t78_20 zci_0).trans <|
    (zr_aload_n t78_21 rfl).trans <|
    (zr_getR (u := 15) t78_22 (rfl)).trans <|
    (zr_iconst t78_25 zci_0).trans <|
    (zr_bipush t78_26 zcb_6).trans <|
    (zr_acopy (j := 0) (k := 0) (z := 6) (N := 6) (M := 6) t78_28 (zbase hb (fun b => zaI (b + 13) 0 6) (by decide)) (rfl) (by decide) (by decide) (by decide) (by decide) (by decide) (by decide) (by decide) (by decide)).trans <|
    (zr_aload_n t78_31 rfl).trans <|
    (zr_aload_n t78_32 rfl).trans <|
    (zr_getI t78_33 (zbase hb (fun b => zfI (b + 11) 7 2) (by decide))).trans <|
    (zr_putI t78_36 (rfl) (Or.inl rfl)).trans <|
    zr_vret t78_39 rfl
