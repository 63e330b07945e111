theorem t88_0 : zT 88 0 = some (.aload_n 0, 1, 0, 0, 0) := by rfl
theorem t88_1 : zT 88 1 = some (.getfield 33, 3, 9, 3, 295) := by rfl
theorem t88_4 : zT 88 4 = some (.invokevirtual 58, 3, 38, 0, 321) := by rfl
theorem t88_7 : zT 88 7 = some (.ifCond .ne 6, 3, 0, 0, 0) := by rfl
theorem t88_10 : zT 88 10 = some (.bipush (-3), 2, 0, 0, 0) := by rfl
theorem t88_12 : zT 88 12 = some (.ireturn, 1, 0, 0, 0) := by rfl
theorem t88_13 : zT 88 13 = some (.aload_n 0, 1, 0, 0, 0) := by rfl
theorem t88_14 : zT 88 14 = some (.getfield 19, 3, 9, 1, 293) := by rfl
theorem t88_17 : zT 88 17 = some (.aload_n 0, 1, 0, 0, 0) := by rfl
theorem t88_18 : zT 88 18 = some (.getfield 12, 3, 9, 0, 292) := by rfl
theorem t88_21 : zT 88 21 = some (.invokevirtual 62, 3, 1, 0, 333) := by rfl
theorem t88_24 : zT 88 24 = some (.aload_n 0, 1, 0, 0, 0) := by rfl
theorem t88_25 : zT 88 25 = some (.getfield 12, 3, 9, 0, 292) := by rfl
theorem t88_28 : zT 88 28 = some (.aload_n 0, 1, 0, 0, 0) := by rfl
theorem t88_29 : zT 88 29 = some (.getfield 33, 3, 9, 3, 295) := by rfl
theorem t88_32 : zT 88 32 = some (.invokevirtual 66, 3, 52, 0, 362) := by rfl
theorem t88_35 : zT 88 35 = some (.aload_n 0, 1, 0, 0, 0) := by rfl
theorem t88_36 : zT 88 36 = some (.getfield 33, 3, 9, 3, 295) := by rfl
theorem t88_39 : zT 88 39 = some (.invokevirtual 70, 3, 35, 0, 383) := by rfl
theorem t88_42 : zT 88 42 = some (.aload_n 0, 1, 0, 0, 0) := by rfl
theorem t88_43 : zT 88 43 = some (.getfield 12, 3, 9, 0, 292) := by rfl
theorem t88_46 : zT 88 46 = some (.getfield 73, 3, 4, 0, 180) := by rfl
theorem t88_49 : zT 88 49 = some (.getfield 77, 3, 6, 1, 100) := by rfl
theorem t88_52 : zT 88 52 = some (.ireturn, 1, 0, 0, 0) := by rfl
theorem t89_0 : zT 89 0 = some (.iload_n 1, 1, 0, 0, 0) := by rfl
theorem t89_1 : zT 89 1 = some (.invokestatic 83, 3, 113, 0, 391) := by rfl
theorem t89_4 : zT 89 4 = some (.ifCond .ne 5, 3, 0, 0, 0) := by rfl
theorem t89_7 : zT 89 7 = some (.iconst (-1), 1, 0, 0, 0) := by rfl
theorem t89_8 : zT 89 8 = some (.ireturn, 1, 0, 0, 0) := by rfl
theorem t89_9 : zT 89 9 = some (.iload_n 2, 1, 0, 0, 0) := by rfl
theorem t89_10 : zT 89 10 = some (.ifCond .lt 9, 3, 0, 0, 0) := by rfl
theorem t89_13 : zT 89 13 = some (.iload_n 2, 1, 0, 0, 0) := by rfl
theorem t89_14 : zT 89 14 = some (.bipush 9, 2, 0, 0, 0) := by rfl
theorem t89_16 : zT 89 16 = some (.if_icmp .le 6, 3, 0, 0, 0) := by rfl
theorem t89_19 : zT 89 19 = some (.bipush (-2), 2, 0, 0, 0) := by rfl
theorem t89_21 : zT 89 21 = some (.ireturn, 1, 0, 0, 0) := by rfl
theorem t89_22 : zT 89 22 = some (.aload_n 0, 1, 0, 0, 0) := by rfl
theorem t89_23 : zT 89 23 = some (.getfield 19, 3, 9, 1, 293) := by rfl
theorem t89_26 : zT 89 26 = some (.aload_n 0, 1, 0, 0, 0) := by rfl
theorem t89_27 : zT 89 27 = some (.getfield 12, 3, 9, 0, 292) := by rfl
theorem t89_30 : zT 89 30 = some (.invokevirtual 62, 3, 1, 0, 333) := by rfl
theorem t89_33 : zT 89 33 = some (.aload_n 0, 1, 0, 0, 0) := by rfl
theorem t89_34 : zT 89 34 = some (.getfield 12, 3, 9, 0, 292) := by rfl
theorem t89_37 : zT 89 37 = some (.getfield 87, 3, 4, 3, 188) := by rfl
theorem t89_40 : zT 89 40 = some (.iload_n 1, 1, 0, 0, 0) := by rfl
theorem t89_41 : zT 89 41 = some (.iaload, 1, 0, 0, 0) := by rfl
theorem t89_42 : zT 89 42 = some (.istore_n 3, 1, 0, 0, 0) := by rfl
theorem t89_43 : zT 89 43 = some (.aload_n 0, 1, 0, 0, 0) := by rfl
theorem t89_44 : zT 89 44 = some (.getfield 12, 3, 9, 0, 292) := by rfl
theorem t89_47 : zT 89 47 = some (.getfield 87, 3, 4, 3, 188) := by rfl
theorem t89_50 : zT 89 50 = some (.iload_n 1, 1, 0, 0, 0) := by rfl
theorem t89_51 : zT 89 51 = some (.iload_n 2, 1, 0, 0, 0) := by rfl
theorem t89_52 : zT 89 52 = some (.iastore, 1, 0, 0, 0) := by rfl
theorem t89_53 : zT 89 53 = some (.iload_n 3, 1, 0, 0, 0) := by rfl
theorem t89_54 : zT 89 54 = some (.ireturn, 1, 0, 0, 0) := by rfl
theorem t90_0 : zT 90 0 = some (.aload_n 0, 1, 0, 0, 0) := by rfl
theorem t90_1 : zT 90 1 = some (.getfield 40, 3, 9, 4, 296) := by rfl
theorem t90_4 : zT 90 4 = some (.aload_n 0, 1, 0, 0, 0) := by rfl
theorem t90_5 : zT 90 5 = some (.getfield 33, 3, 9, 3, 295) := by rfl
theorem t90_8 : zT 90 8 = some (.invokevirtual 90, 3, 42, 0, 398) := by rfl
theorem t90_11 : zT 90 11 = some (.bipush (-6), 2, 0, 0, 0) := by rfl
theorem t90_13 : zT 90 13 = some (.if_icmp .eq 6, 3, 0, 0, 0) := by rfl
theorem t90_16 : zT 90 16 = some (.bipush (-3), 2, 0, 0, 0) := by rfl
theorem t90_18 : zT 90 18 = some (.ireturn, 1, 0, 0, 0) := by rfl
theorem t90_19 : zT 90 19 = some (.aload_n 0, 1, 0, 0, 0) := by rfl
theorem t90_20 : zT 90 20 = some (.getfield 19, 3, 9, 1, 293) := by rfl
theorem t90_23 : zT 90 23 = some (.aload_n 0, 1, 0, 0, 0) := by rfl
theorem t90_24 : zT 90 24 = some (.getfield 12, 3, 9, 0, 292) := by rfl
theorem t90_27 : zT 90 27 = some (.invokevirtual 62, 3, 1, 0, 333) := by rfl
theorem t90_30 : zT 90 30 = some (.iconst 0, 1, 0, 0, 0) := by rfl
theorem t90_31 : zT 90 31 = some (.istore_n 1, 1, 0, 0, 0) := by rfl
theorem t90_32 : zT 90 32 = some (.iload_n 1, 1, 0, 0, 0) := by rfl
theorem t90_33 : zT 90 33 = some (.aload_n 0, 1, 0, 0, 0) := by rfl
theorem t90_34 : zT 90 34 = some (.getfield 40, 3, 9, 4, 296) := by rfl
theorem t90_37 : zT 90 37 = some (.getfield 94, 3, 3, 0, 261) := by rfl
theorem t90_40 : zT 90 40 = some (.getfield 98, 3, 1, 7, 143) := by rfl
theorem t90_43 : zT 90 43 = some (.if_icmp .ge 45, 3, 0, 0, 0) := by rfl
theorem t90_46 : zT 90 46 = some (.aload_n 0, 1, 0, 0, 0) := by rfl
theorem t90_47 : zT 90 47 = some (.getfield 12, 3, 9, 0, 292) := by rfl
theorem t90_50 : zT 90 50 = some (.aload_n 0, 1, 0, 0, 0) := by rfl
theorem t90_51 : zT 90 51 = some (.getfield 40, 3, 9, 4, 296) := by rfl
theorem t90_54 : zT 90 54 = some (.getfield 94, 3, 3, 0, 261) := by rfl
theorem t90_57 : zT 90 57 = some (.iload_n 1, 1, 0, 0, 0) := by rfl
theorem t90_58 : zT 90 58 = some (.invokevirtual 103, 3, 54, 0, 442) := by rfl
theorem t90_61 : zT 90 61 = some (.ifCond .eq 27, 3, 0, 0, 0) := by rfl
theorem t90_64 : zT 90 64 = some (.aload_n 0, 1, 0, 0, 0) := by rfl
theorem t90_65 : zT 90 65 = some (.getfield 12, 3, 9, 0, 292) := by rfl
theorem t90_68 : zT 90 68 = some (.getfield 107, 3, 4, 1, 184) := by rfl
theorem t90_71 : zT 90 71 = some (.aload_n 0, 1, 0, 0, 0) := by rfl
theorem t90_72 : zT 90 72 = some (.getfield 40, 3, 9, 4, 296) := by rfl
theorem t90_75 : zT 90 75 = some (.getfield 94, 3, 3, 0, 261) := by rfl
theorem t90_78 : zT 90 78 = some (.iload_n 1, 1, 0, 0, 0) := by rfl
theorem t90_79 : zT 90 79 = some (.invokevirtual 110, 3, 8, 0, 458) := by rfl
theorem t90_82 : zT 90 82 = some (.iinc 1 1, 3, 0, 0, 0) := by rfl
theorem t90_85 : zT 90 85 = some (.goto (-53), 3, 0, 0, 0) := by rfl
theorem t90_88 : zT 90 88 = some (.aload_n 0, 1, 0, 0, 0) := by rfl
theorem t90_89 : zT 90 89 = some (.getfield 33, 3, 9, 3, 295) := by rfl
theorem t90_92 : zT 90 92 = some (.invokevirtual 70, 3, 35, 0, 383) := by rfl
theorem t90_95 : zT 90 95 = some (.iload_n 1, 1, 0, 0, 0) := by rfl
theorem t90_96 : zT 90 96 = some (.ireturn, 1, 0, 0, 0) := by rfl
theorem t91_0 : zT 91 0 = some (.iload_n 1, 1, 0, 0, 0) := by rfl
theorem t91_1 : zT 91 1 = some (.invokestatic 83, 3, 113, 0, 391) := by rfl
theorem t91_4 : zT 91 4 = some (.ifCond .eq 25, 3, 0, 0, 0) := by rfl
theorem t91_7 : zT 91 7 = some (.aload_n 0, 1, 0, 0, 0) := by rfl
theorem t91_8 : zT 91 8 = some (.getfield 12, 3, 9, 0, 292) := by rfl
theorem t91_11 : zT 91 11 = some (.iload_n 2, 1, 0, 0, 0) := by rfl
theorem t91_12 : zT 91 12 = some (.invokevirtual 114, 3, 53, 0, 470) := by rfl
theorem t91_15 : zT 91 15 = some (.ifCond .eq 14, 3, 0, 0, 0) := by rfl
theorem t91_18 : zT 91 18 = some (.aload_n 0, 1, 0, 0, 0) := by rfl
theorem t91_19 : zT 91 19 = some (.getfield 12, 3, 9, 0, 292) := by rfl
theorem t91_22 : zT 91 22 = some (.iload_n 3, 1, 0, 0, 0) := by rfl
theorem t91_23 : zT 91 23 = some (.invokevirtual 114, 3, 53, 0, 470) := by rfl
theorem t91_26 : zT 91 26 = some (.ifCond .ne 5, 3, 0, 0, 0) := by rfl
theorem t91_29 : zT 91 29 = some (.iconst (-1), 1, 0, 0, 0) := by rfl
theorem t91_30 : zT 91 30 = some (.ireturn, 1, 0, 0, 0) := by rfl
theorem t91_31 : zT 91 31 = some (.iload_n 3, 1, 0, 0, 0) := by rfl
theorem t91_32 : zT 91 32 = some (.iload_n 2, 1, 0, 0, 0) := by rfl
theorem t91_33 : zT 91 33 = some (.if_icmp .gt 6, 3, 0, 0, 0) := by rfl
theorem t91_36 : zT 91 36 = some (.bipush (-2), 2, 0, 0, 0) := by rfl
theorem t91_38 : zT 91 38 = some (.ireturn, 1, 0, 0, 0) := by rfl
theorem t91_39 : zT 91 39 = some (.aload_n 0, 1, 0, 0, 0) := by rfl
theorem t91_40 : zT 91 40 = some (.getfield 12, 3, 9, 0, 292) := by rfl
theorem t91_43 : zT 91 43 = some (.getfield 107, 3, 4, 1, 184) := by rfl
theorem t91_46 : zT 91 46 = some (.getfield 98, 3, 1, 7, 143) := by rfl
theorem t91_49 : zT 91 49 = some (.bipush 20, 2, 0, 0, 0) := by rfl
theorem t91_51 : zT 91 51 = some (.if_icmp .lt 6, 3, 0, 0, 0) := by rfl
theorem t91_54 : zT 91 54 = some (.bipush (-4), 2, 0, 0, 0) := by rfl
theorem t91_56 : zT 91 56 = some (.ireturn, 1, 0, 0, 0) := by rfl
theorem t91_57 : zT 91 57 = some (.aload_n 0, 1, 0, 0, 0) := by rfl
theorem t91_58 : zT 91 58 = some (.getfield 40, 3, 9, 4, 296) := by rfl
theorem t91_61 : zT 91 61 = some (.getfield 94, 3, 3, 0, 261) := by rfl
theorem t91_64 : zT 91 64 = some (.astore 4, 2, 0, 0, 0) := by rfl
theorem t91_66 : zT 91 66 = some (.aload 4, 2, 0, 0, 0) := by rfl
theorem t91_68 : zT 91 68 = some (.invokevirtual 117, 3, 4, 0, 471) := by rfl
theorem t91_71 : zT 91 71 = some (.aload 4, 2, 0, 0, 0) := by rfl
theorem t91_73 : zT 91 73 = some (.iload_n 1, 1, 0, 0, 0) := by rfl
theorem t91_74 : zT 91 74 = some (.iconst 0, 1, 0, 0, 0) := by rfl
theorem t91_75 : zT 91 75 = some (.iload_n 2, 1, 0, 0, 0) := by rfl
theorem t91_76 : zT 91 76 = some (.iload_n 3, 1, 0, 0, 0) := by rfl
theorem t91_77 : zT 91 77 = some (.invokevirtual 118, 3, 6, 0, 472) := by rfl
theorem t91_80 : zT 91 80 = some (.aload_n 0, 1, 0, 0, 0) := by rfl
theorem t91_81 : zT 91 81 = some (.getfield 12, 3, 9, 0, 292) := by rfl
theorem t91_84 : zT 91 84 = some (.getfield 107, 3, 4, 1, 184) := by rfl
theorem t91_87 : zT 91 87 = some (.aload 4, 2, 0, 0, 0) := by rfl
theorem t91_89 : zT 91 89 = some (.iconst 0, 1, 0, 0, 0) := by rfl
theorem t91_90 : zT 91 90 = some (.invokevirtual 122, 3, 15, 0, 473) := by rfl
theorem t91_93 : zT 91 93 = some (.ifCond .eq 6, 3, 0, 0, 0) := by rfl
theorem t91_96 : zT 91 96 = some (.bipush (-5), 2, 0, 0, 0) := by rfl
theorem t91_98 : zT 91 98 = some (.ireturn, 1, 0, 0, 0) := by rfl
theorem t91_99 : zT 91 99 = some (.aload_n 0, 1, 0, 0, 0) := by rfl
theorem t91_100 : zT 91 100 = some (.getfield 19, 3, 9, 1, 293) := by rfl
theorem t91_103 : zT 91 103 = some (.aload_n 0, 1, 0, 0, 0) := by rfl
theorem t91_104 : zT 91 104 = some (.getfield 12, 3, 9, 0, 292) := by rfl
theorem t91_107 : zT 91 107 = some (.invokevirtual 62, 3, 1, 0, 333) := by rfl
theorem t91_110 : zT 91 110 = some (.aload_n 0, 1, 0, 0, 0) := by rfl
theorem t91_111 : zT 91 111 = some (.getfield 12, 3, 9, 0, 292) := by rfl
theorem t91_114 : zT 91 114 = some (.getfield 107, 3, 4, 1, 184) := by rfl
theorem t91_117 : zT 91 117 = some (.aload 4, 2, 0, 0, 0) := by rfl
theorem t91_119 : zT 91 119 = some (.iconst 0, 1, 0, 0, 0) := by rfl
theorem t91_120 : zT 91 120 = some (.invokevirtual 110, 3, 8, 0, 458) := by rfl
theorem t91_123 : zT 91 123 = some (.aload_n 0, 1, 0, 0, 0) := by rfl
theorem t91_124 : zT 91 124 = some (.getfield 12, 3, 9, 0, 292) := by rfl
theorem t91_127 : zT 91 127 = some (.getfield 107, 3, 4, 1, 184) := by rfl
theorem t91_130 : zT 91 130 = some (.getfield 98, 3, 1, 7, 143) := by rfl
theorem t91_133 : zT 91 133 = some (.iconst 1, 1, 0, 0, 0) := by rfl
theorem t91_134 : zT 91 134 = some (.isub, 1, 0, 0, 0) := by rfl
theorem t91_135 : zT 91 135 = some (.ireturn, 1, 0, 0, 0) := by rfl
theorem t92_0 : zT 92 0 = some (.aload_n 0, 1, 0, 0, 0) := by rfl
theorem t92_1 : zT 92 1 = some (.getfield 12, 3, 9, 0, 292) := by rfl
theorem t92_4 : zT 92 4 = some (.getfield 107, 3, 4, 1, 184) := by rfl
theorem t92_7 : zT 92 7 = some (.iload_n 1, 1, 0, 0, 0) := by rfl
theorem t92_8 : zT 92 8 = some (.invokevirtual 125, 3, 5, 0, 478) := by rfl
theorem t92_11 : zT 92 11 = some (.ifCond .ne 5, 3, 0, 0, 0) := by rfl
theorem t92_14 : zT 92 14 = some (.iconst (-1), 1, 0, 0, 0) := by rfl
theorem t92_15 : zT 92 15 = some (.ireturn, 1, 0, 0, 0) := by rfl
theorem t92_16 : zT 92 16 = some (.aload_n 0, 1, 0, 0, 0) := by rfl
theorem t92_17 : zT 92 17 = some (.getfield 12, 3, 9, 0, 292) := by rfl
theorem t92_20 : zT 92 20 = some (.iload_n 1, 1, 0, 0, 0) := by rfl
theorem t92_21 : zT 92 21 = some (.invokevirtual 128, 3, 57, 0, 482) := by rfl
theorem t92_24 : zT 92 24 = some (.ifCond .ne 6, 3, 0, 0, 0) := by rfl
theorem t92_27 : zT 92 27 = some (.bipush (-5), 2, 0, 0, 0) := by rfl
theorem t92_29 : zT 92 29 = some (.ireturn, 1, 0, 0, 0) := by rfl
theorem t92_30 : zT 92 30 = some (.aload_n 0, 1, 0, 0, 0) := by rfl
theorem t92_31 : zT 92 31 = some (.getfield 19, 3, 9, 1, 293) := by rfl
theorem t92_34 : zT 92 34 = some (.aload_n 0, 1, 0, 0, 0) := by rfl
theorem t92_35 : zT 92 35 = some (.getfield 12, 3, 9, 0, 292) := by rfl
theorem t92_38 : zT 92 38 = some (.invokevirtual 62, 3, 1, 0, 333) := by rfl
theorem t92_41 : zT 92 41 = some (.aload_n 0, 1, 0, 0, 0) := by rfl
theorem t92_42 : zT 92 42 = some (.getfield 12, 3, 9, 0, 292) := by rfl
theorem t92_45 : zT 92 45 = some (.getfield 107, 3, 4, 1, 184) := by rfl
theorem t92_48 : zT 92 48 = some (.iload_n 1, 1, 0, 0, 0) := by rfl
theorem t92_49 : zT 92 49 = some (.invokevirtual 131, 3, 19, 0, 507) := by rfl
theorem t92_52 : zT 92 52 = some (.ireturn, 1, 0, 0, 0) := by rfl
theorem t93_0 : zT 93 0 = some (.aload_n 0, 1, 0, 0, 0) := by rfl
theorem t93_1 : zT 93 1 = some (.getfield 12, 3, 9, 0, 292) := by rfl
theorem t93_4 : zT 93 4 = some (.getfield 107, 3, 4, 1, 184) := by rfl
theorem t93_7 : zT 93 7 = some (.iload_n 1, 1, 0, 0, 0) := by rfl
theorem t93_8 : zT 93 8 = some (.invokevirtual 125, 3, 5, 0, 478) := by rfl
theorem t93_11 : zT 93 11 = some (.ifCond .ne 5, 3, 0, 0, 0) := by rfl
theorem t93_14 : zT 93 14 = some (.iconst (-1), 1, 0, 0, 0) := by rfl
theorem t93_15 : zT 93 15 = some (.ireturn, 1, 0, 0, 0) := by rfl
theorem t93_16 : zT 93 16 = some (.aload_n 0, 1, 0, 0, 0) := by rfl
theorem t93_17 : zT 93 17 = some (.getfield 12, 3, 9, 0, 292) := by rfl
theorem t93_20 : zT 93 20 = some (.getfield 107, 3, 4, 1, 184) := by rfl
theorem t93_23 : zT 93 23 = some (.getfield 135, 3, 1, 4, 135) := by rfl
theorem t93_26 : zT 93 26 = some (.iload_n 1, 1, 0, 0, 0) := by rfl
theorem t93_27 : zT 93 27 = some (.iaload, 1, 0, 0, 0) := by rfl
theorem t93_28 : zT 93 28 = some (.ifCond .eq 6, 3, 0, 0, 0) := by rfl
theorem t93_31 : zT 93 31 = some (.bipush (-5), 2, 0, 0, 0) := by rfl
theorem t93_33 : zT 93 33 = some (.ireturn, 1, 0, 0, 0) := by rfl
theorem t93_34 : zT 93 34 = some (.aload_n 0, 1, 0, 0, 0) := by rfl
theorem t93_35 : zT 93 35 = some (.getfield 19, 3, 9, 1, 293) := by rfl
theorem t93_38 : zT 93 38 = some (.aload_n 0, 1, 0, 0, 0) := by rfl
theorem t93_39 : zT 93 39 = some (.getfield 12, 3, 9, 0, 292) := by rfl
theorem t93_42 : zT 93 42 = some (.invokevirtual 62, 3, 1, 0, 333) := by rfl
theorem t93_45 : zT 93 45 = some (.aload_n 0, 1, 0, 0, 0) := by rfl
theorem t93_46 : zT 93 46 = some (.getfield 12, 3, 9, 0, 292) := by rfl
theorem t93_49 : zT 93 49 = some (.getfield 107, 3, 4, 1, 184) := by rfl
theorem t93_52 : zT 93 52 = some (.getfield 135, 3, 1, 4, 135) := by rfl
theorem t93_55 : zT 93 55 = some (.iload_n 1, 1, 0, 0, 0) := by rfl
theorem t93_56 : zT 93 56 = some (.iconst 2, 1, 0, 0, 0) := by rfl
theorem t93_57 : zT 93 57 = some (.iastore, 1, 0, 0, 0) := by rfl
theorem t93_58 : zT 93 58 = some (.aload_n 0, 1, 0, 0, 0) := by rfl
theorem t93_59 : zT 93 59 = some (.getfield 12, 3, 9, 0, 292) := by rfl
theorem t93_62 : zT 93 62 = some (.getfield 107, 3, 4, 1, 184) := by rfl
theorem t93_65 : zT 93 65 = some (.iconst 0, 1, 0, 0, 0) := by rfl
theorem t93_66 : zT 93 66 = some (.invokevirtual 138, 3, 25, 0, 515) := by rfl
theorem t93_69 : zT 93 69 = some (.ireturn, 1, 0, 0, 0) := by rfl
theorem t94_0 : zT 94 0 = some (.aload_n 0, 1, 0, 0, 0) := by rfl
theorem t94_1 : zT 94 1 = some (.getfield 12, 3, 9, 0, 292) := by rfl
theorem t94_4 : zT 94 4 = some (.getfield 107, 3, 4, 1, 184) := by rfl
theorem t94_7 : zT 94 7 = some (.iload_n 1, 1, 0, 0, 0) := by rfl
theorem t94_8 : zT 94 8 = some (.invokevirtual 125, 3, 5, 0, 478) := by rfl
theorem t94_11 : zT 94 11 = some (.ifCond .ne 5, 3, 0, 0, 0) := by rfl
theorem t94_14 : zT 94 14 = some (.iconst (-1), 1, 0, 0, 0) := by rfl
theorem t94_15 : zT 94 15 = some (.ireturn, 1, 0, 0, 0) := by rfl
theorem t94_16 : zT 94 16 = some (.aload_n 0, 1, 0, 0, 0) := by rfl
theorem t94_17 : zT 94 17 = some (.getfield 12, 3, 9, 0, 292) := by rfl
theorem t94_20 : zT 94 20 = some (.iload_n 1, 1, 0, 0, 0) := by rfl
theorem t94_21 : zT 94 21 = some (.invokevirtual 141, 3, 56, 0, 523) := by rfl
theorem t94_24 : zT 94 24 = some (.bipush 60, 2, 0, 0, 0) := by rfl
theorem t94_26 : zT 94 26 = some (.if_icmp .le 6, 3, 0, 0, 0) := by rfl
theorem t94_29 : zT 94 29 = some (.bipush (-5), 2, 0, 0, 0) := by rfl
theorem t94_31 : zT 94 31 = some (.ireturn, 1, 0, 0, 0) := by rfl
theorem t94_32 : zT 94 32 = some (.aload_n 0, 1, 0, 0, 0) := by rfl
theorem t94_33 : zT 94 33 = some (.getfield 19, 3, 9, 1, 293) := by rfl
theorem t94_36 : zT 94 36 = some (.aload_n 0, 1, 0, 0, 0) := by rfl
theorem t94_37 : zT 94 37 = some (.getfield 12, 3, 9, 0, 292) := by rfl
theorem t94_40 : zT 94 40 = some (.invokevirtual 62, 3, 1, 0, 333) := by rfl
theorem t94_43 : zT 94 43 = some (.aload_n 0, 1, 0, 0, 0) := by rfl
theorem t94_44 : zT 94 44 = some (.getfield 12, 3, 9, 0, 292) := by rfl
theorem t94_47 : zT 94 47 = some (.getfield 107, 3, 4, 1, 184) := by rfl
theorem t94_50 : zT 94 50 = some (.iload_n 1, 1, 0, 0, 0) := by rfl
theorem t94_51 : zT 94 51 = some (.invokevirtual 144, 3, 9, 0, 527) := by rfl
theorem t94_54 : zT 94 54 = some (.aload_n 0, 1, 0, 0, 0) := by rfl
theorem t94_55 : zT 94 55 = some (.getfield 12, 3, 9, 0, 292) := by rfl
theorem t94_58 : zT 94 58 = some (.getfield 107, 3, 4, 1, 184) := by rfl
theorem t94_61 : zT 94 61 = some (.getfield 98, 3, 1, 7, 143) := by rfl
theorem t94_64 : zT 94 64 = some (.ireturn, 1, 0, 0, 0) := by rfl
theorem t95_0 : zT 95 0 = some (.aload_n 0, 1, 0, 0, 0) := by rfl
theorem t95_1 : zT 95 1 = some (.getfield 19, 3, 9, 1, 293) := by rfl
theorem t95_4 : zT 95 4 = some (.aload_n 0, 1, 0, 0, 0) := by rfl
theorem t95_5 : zT 95 5 = some (.getfield 12, 3, 9, 0, 292) := by rfl
theorem t95_8 : zT 95 8 = some (.invokevirtual 62, 3, 1, 0, 333) := by rfl
theorem t95_11 : zT 95 11 = some (.aload_n 0, 1, 0, 0, 0) := by rfl
theorem t95_12 : zT 95 12 = some (.getfield 12, 3, 9, 0, 292) := by rfl
theorem t95_15 : zT 95 15 = some (.invokevirtual 148, 3, 58, 0, 535) := by rfl
theorem t95_18 : zT 95 18 = some (.ireturn, 1, 0, 0, 0) := by rfl
theorem t96_0 : zT 96 0 = some (.aload_n 0, 1, 0, 0, 0) := by rfl
theorem t96_1 : zT 96 1 = some (.getfield 19, 3, 9, 1, 293) := by rfl
theorem t96_4 : zT 96 4 = some (.aload_n 0, 1, 0, 0, 0) := by rfl
theorem t96_5 : zT 96 5 = some (.getfield 12, 3, 9, 0, 292) := by rfl
theorem t96_8 : zT 96 8 = some (.invokevirtual 62, 3, 1, 0, 333) := by rfl
theorem t96_11 : zT 96 11 = some (.aload_n 0, 1, 0, 0, 0) := by rfl
theorem t96_12 : zT 96 12 = some (.getfield 47, 3, 9, 5, 297) := by rfl
theorem t96_15 : zT 96 15 = some (.aload_n 0, 1, 0, 0, 0) := by rfl
theorem t96_16 : zT 96 16 = some (.getfield 12, 3, 9, 0, 292) := by rfl
theorem t96_19 : zT 96 19 = some (.invokevirtual 152, 3, 81, 0, 549) := by rfl
theorem t96_22 : zT 96 22 = some (.aload_n 0, 1, 0, 0, 0) := by rfl
theorem t96_23 : zT 96 23 = some (.getfield 12, 3, 9, 0, 292) := by rfl
theorem t96_26 : zT 96 26 = some (.aload_n 0, 1, 0, 0, 0) := by rfl
theorem t96_27 : zT 96 27 = some (.getfield 47, 3, 9, 5, 297) := by rfl
theorem t96_30 : zT 96 30 = some (.invokevirtual 155, 3, 60, 0, 569) := by rfl
theorem t96_33 : zT 96 33 = some (.aload_n 0, 1, 0, 0, 0) := by rfl
theorem t96_34 : zT 96 34 = some (.getfield 12, 3, 9, 0, 292) := by rfl
theorem t96_37 : zT 96 37 = some (.getfield 159, 3, 4, 2, 186) := by rfl
theorem t96_40 : zT 96 40 = some (.getfield 163, 3, 7, 2, 171) := by rfl
theorem t96_43 : zT 96 43 = some (.iconst 1, 1, 0, 0, 0) := by rfl
theorem t96_44 : zT 96 44 = some (.isub, 1, 0, 0, 0) := by rfl
theorem t96_45 : zT 96 45 = some (.ireturn, 1, 0, 0, 0) := by rfl
theorem t97_0 : zT 97 0 = some (.iload_n 1, 1, 0, 0, 0) := by rfl
theorem t97_1 : zT 97 1 = some (.ifCond .ne 15, 3, 0, 0, 0) := by rfl
theorem t97_4 : zT 97 4 = some (.aload_n 0, 1, 0, 0, 0) := by rfl
theorem t97_5 : zT 97 5 = some (.getfield 12, 3, 9, 0, 292) := by rfl
theorem t97_8 : zT 97 8 = some (.getfield 73, 3, 4, 0, 180) := by rfl
theorem t97_11 : zT 97 11 = some (.iload_n 2, 1, 0, 0, 0) := by rfl
theorem t97_12 : zT 97 12 = some (.invokevirtual 168, 3, 67, 0, 606) := by rfl
theorem t97_15 : zT 97 15 = some (.ireturn, 1, 0, 0, 0) := by rfl
theorem t97_16 : zT 97 16 = some (.iload_n 1, 1, 0, 0, 0) := by rfl
theorem t97_17 : zT 97 17 = some (.iconst 1, 1, 0, 0, 0) := by rfl
theorem t97_18 : zT 97 18 = some (.if_icmp .ne 23, 3, 0, 0, 0) := by rfl
theorem t97_21 : zT 97 21 = some (.aload_n 0, 1, 0, 0, 0) := by rfl
theorem t97_22 : zT 97 22 = some (.getfield 47, 3, 9, 5, 297) := by rfl
theorem t97_25 : zT 97 25 = some (.aload_n 0, 1, 0, 0, 0) := by rfl
theorem t97_26 : zT 97 26 = some (.getfield 12, 3, 9, 0, 292) := by rfl
theorem t97_29 : zT 97 29 = some (.invokevirtual 152, 3, 81, 0, 549) := by rfl
theorem t97_32 : zT 97 32 = some (.aload_n 0, 1, 0, 0, 0) := by rfl
theorem t97_33 : zT 97 33 = some (.getfield 47, 3, 9, 5, 297) := by rfl
theorem t97_36 : zT 97 36 = some (.iload_n 2, 1, 0, 0, 0) := by rfl
theorem t97_37 : zT 97 37 = some (.invokevirtual 171, 3, 80, 0, 610) := by rfl
theorem t97_40 : zT 97 40 = some (.ireturn, 1, 0, 0, 0) := by rfl
theorem t97_41 : zT 97 41 = some (.bipush (-2), 2, 0, 0, 0) := by rfl
theorem t97_43 : zT 97 43 = some (.ireturn, 1, 0, 0, 0) := by rfl
theorem t98_0 : zT 98 0 = some (.iload_n 1, 1, 0, 0, 0) := by rfl
theorem t98_1 : zT 98 1 = some (.invokestatic 83, 3, 113, 0, 391) := by rfl
theorem t98_4 : zT 98 4 = some (.ifCond .ne 5, 3, 0, 0, 0) := by rfl
theorem t98_7 : zT 98 7 = some (.iconst (-1), 1, 0, 0, 0) := by rfl
theorem t98_8 : zT 98 8 = some (.ireturn, 1, 0, 0, 0) := by rfl
theorem t98_9 : zT 98 9 = some (.aload_n 0, 1, 0, 0, 0) := by rfl
theorem t98_10 : zT 98 10 = some (.getfield 47, 3, 9, 5, 297) := by rfl
theorem t98_13 : zT 98 13 = some (.iload_n 1, 1, 0, 0, 0) := by rfl
theorem t98_14 : zT 98 14 = some (.aload_n 0, 1, 0, 0, 0) := by rfl
theorem t98_15 : zT 98 15 = some (.getfield 12, 3, 9, 0, 292) := by rfl
theorem t98_18 : zT 98 18 = some (.invokevirtual 172, 3, 82, 0, 615) := by rfl
theorem t98_21 : zT 98 21 = some (.aload_n 0, 1, 0, 0, 0) := by rfl
theorem t98_22 : zT 98 22 = some (.getfield 47, 3, 9, 5, 297) := by rfl
theorem t98_25 : zT 98 25 = some (.iload_n 2, 1, 0, 0, 0) := by rfl
theorem t98_26 : zT 98 26 = some (.invokevirtual 171, 3, 80, 0, 610) := by rfl
theorem t98_29 : zT 98 29 = some (.ireturn, 1, 0, 0, 0) := by rfl
theorem t99_0 : zT 99 0 = some (.aload_n 0, 1, 0, 0, 0) := by rfl
theorem t99_1 : zT 99 1 = some (.getfield 12, 3, 9, 0, 292) := by rfl
theorem t99_4 : zT 99 4 = some (.getfield 107, 3, 4, 1, 184) := by rfl
theorem t99_7 : zT 99 7 = some (.astore_n 3, 1, 0, 0, 0) := by rfl
theorem t99_8 : zT 99 8 = some (.aload_n 3, 1, 0, 0, 0) := by rfl
theorem t99_9 : zT 99 9 = some (.iload_n 1, 1, 0, 0, 0) := by rfl
theorem t99_10 : zT 99 10 = some (.invokevirtual 125, 3, 5, 0, 478) := by rfl
theorem t99_13 : zT 99 13 = some (.ifCond .ne 5, 3, 0, 0, 0) := by rfl
theorem t99_16 : zT 99 16 = some (.iconst (-1), 1, 0, 0, 0) := by rfl
theorem t99_17 : zT 99 17 = some (.ireturn, 1, 0, 0, 0) := by rfl
theorem t99_18 : zT 99 18 = some (.iload_n 2, 1, 0, 0, 0) := by rfl
theorem t99_19 : zT 99 19 = some (.tableswitch 102 0 7 #[45, 52, 59, 66, 73, 80, 87, 93], 45, 0, 0, 0) := by rfl
theorem t99_64 : zT 99 64 = some (.aload_n 3, 1, 0, 0, 0) := by rfl
theorem t99_65 : zT 99 65 = some (.getfield 176, 3, 1, 0, 119) := by rfl
theorem t99_68 : zT 99 68 = some (.iload_n 1, 1, 0, 0, 0) := by rfl
theorem t99_69 : zT 99 69 = some (.iaload, 1, 0, 0, 0) := by rfl
theorem t99_70 : zT 99 70 = some (.ireturn, 1, 0, 0, 0) := by rfl
theorem t99_71 : zT 99 71 = some (.aload_n 3, 1, 0, 0, 0) := by rfl
theorem t99_72 : zT 99 72 = some (.getfield 179, 3, 1, 1, 123) := by rfl
theorem t99_75 : zT 99 75 = some (.iload_n 1, 1, 0, 0, 0) := by rfl
theorem t99_76 : zT 99 76 = some (.iaload, 1, 0, 0, 0) := by rfl
theorem t99_77 : zT 99 77 = some (.ireturn, 1, 0, 0, 0) := by rfl
theorem t99_78 : zT 99 78 = some (.aload_n 3, 1, 0, 0, 0) := by rfl
theorem t99_79 : zT 99 79 = some (.getfield 182, 3, 1, 2, 127) := by rfl
theorem t99_82 : zT 99 82 = some (.iload_n 1, 1, 0, 0, 0) := by rfl
theorem t99_83 : zT 99 83 = some (.iaload, 1, 0, 0, 0) := by rfl
theorem t99_84 : zT 99 84 = some (.ireturn, 1, 0, 0, 0) := by rfl
theorem t99_85 : zT 99 85 = some (.aload_n 3, 1, 0, 0, 0) := by rfl
theorem t99_86 : zT 99 86 = some (.getfield 185, 3, 1, 3, 131) := by rfl
theorem t99_89 : zT 99 89 = some (.iload_n 1, 1, 0, 0, 0) := by rfl
theorem t99_90 : zT 99 90 = some (.iaload, 1, 0, 0, 0) := by rfl
theorem t99_91 : zT 99 91 = some (.ireturn, 1, 0, 0, 0) := by rfl
theorem t99_92 : zT 99 92 = some (.aload_n 3, 1, 0, 0, 0) := by rfl
theorem t99_93 : zT 99 93 = some (.getfield 188, 3, 1, 5, 138) := by rfl
theorem t99_96 : zT 99 96 = some (.iload_n 1, 1, 0, 0, 0) := by rfl
theorem t99_97 : zT 99 97 = some (.iaload, 1, 0, 0, 0) := by rfl
theorem t99_98 : zT 99 98 = some (.ireturn, 1, 0, 0, 0) := by rfl
theorem t99_99 : zT 99 99 = some (.aload_n 3, 1, 0, 0, 0) := by rfl
theorem t99_100 : zT 99 100 = some (.getfield 135, 3, 1, 4, 135) := by rfl
theorem t99_103 : zT 99 103 = some (.iload_n 1, 1, 0, 0, 0) := by rfl
theorem t99_104 : zT 99 104 = some (.iaload, 1, 0, 0, 0) := by rfl
theorem t99_105 : zT 99 105 = some (.ireturn, 1, 0, 0, 0) := by rfl
theorem t99_106 : zT 99 106 = some (.aload_n 3, 1, 0, 0, 0) := by rfl
theorem t99_107 : zT 99 107 = some (.iload_n 1, 1, 0, 0, 0) := by rfl
theorem t99_108 : zT 99 108 = some (.invokevirtual 191, 3, 22, 0, 627) := by rfl
theorem t99_111 : zT 99 111 = some (.ireturn, 1, 0, 0, 0) := by rfl
theorem t99_112 : zT 99 112 = some (.aload_n 3, 1, 0, 0, 0) := by rfl
theorem t99_113 : zT 99 113 = some (.iload_n 1, 1, 0, 0, 0) := by rfl
theorem t99_114 : zT 99 114 = some (.invokevirtual 194, 3, 20, 0, 635) := by rfl
theorem t99_117 : zT 99 117 = some (.bipush 100, 2, 0, 0, 0) := by rfl
theorem t99_119 : zT 99 119 = some (.iadd, 1, 0, 0, 0) := by rfl
theorem t99_120 : zT 99 120 = some (.ireturn, 1, 0, 0, 0) := by rfl
theorem t99_121 : zT 99 121 = some (.bipush (-2), 2, 0, 0, 0) := by rfl
theorem t99_123 : zT 99 123 = some (.ireturn, 1, 0, 0, 0) := by rfl
theorem t100_0 : zT 100 0 = some (.aload_n 0, 1, 0, 0, 0) := by rfl
theorem t100_1 : zT 100 1 = some (.getfield 12, 3, 9, 0, 292) := by rfl
theorem t100_4 : zT 100 4 = some (.getfield 107, 3, 4, 1, 184) := by rfl
theorem t100_7 : zT 100 7 = some (.iload_n 1, 1, 0, 0, 0) := by rfl
theorem t100_8 : zT 100 8 = some (.invokevirtual 125, 3, 5, 0, 478) := by rfl
theorem t100_11 : zT 100 11 = some (.ifCond .eq 17, 3, 0, 0, 0) := by rfl
theorem t100_14 : zT 100 14 = some (.aload_n 0, 1, 0, 0, 0) := by rfl
theorem t100_15 : zT 100 15 = some (.getfield 12, 3, 9, 0, 292) := by rfl
theorem t100_18 : zT 100 18 = some (.getfield 107, 3, 4, 1, 184) := by rfl
theorem t100_21 : zT 100 21 = some (.iload_n 2, 1, 0, 0, 0) := by rfl
theorem t100_22 : zT 100 22 = some (.invokevirtual 125, 3, 5, 0, 478) := by rfl
theorem t100_25 : zT 100 25 = some (.ifCond .ne 5, 3, 0, 0, 0) := by rfl
theorem t100_28 : zT 100 28 = some (.iconst (-1), 1, 0, 0, 0) := by rfl
theorem t100_29 : zT 100 29 = some (.ireturn, 1, 0, 0, 0) := by rfl
theorem t100_30 : zT 100 30 = some (.iload_n 1, 1, 0, 0, 0) := by rfl
theorem t100_31 : zT 100 31 = some (.iload_n 2, 1, 0, 0, 0) := by rfl
theorem t100_32 : zT 100 32 = some (.if_icmp .ne 6, 3, 0, 0, 0) := by rfl
theorem t100_35 : zT 100 35 = some (.bipush (-2), 2, 0, 0, 0) := by rfl
theorem t100_37 : zT 100 37 = some (.ireturn, 1, 0, 0, 0) := by rfl
theorem t100_38 : zT 100 38 = some (.aload_n 0, 1, 0, 0, 0) := by rfl
theorem t100_39 : zT 100 39 = some (.getfield 12, 3, 9, 0, 292) := by rfl
theorem t100_42 : zT 100 42 = some (.getfield 107, 3, 4, 1, 184) := by rfl
theorem t100_45 : zT 100 45 = some (.iload_n 1, 1, 0, 0, 0) := by rfl
theorem t100_46 : zT 100 46 = some (.iload_n 2, 1, 0, 0, 0) := by rfl
theorem t100_47 : zT 100 47 = some (.invokevirtual 197, 3, 12, 0, 640) := by rfl
theorem t100_50 : zT 100 50 = some (.ifCond .ne 5, 3, 0, 0, 0) := by rfl
theorem t100_53 : zT 100 53 = some (.iconst 0, 1, 0, 0, 0) := by rfl
theorem t100_54 : zT 100 54 = some (.ireturn, 1, 0, 0, 0) := by rfl
theorem t100_55 : zT 100 55 = some (.aload_n 0, 1, 0, 0, 0) := by rfl
theorem t100_56 : zT 100 56 = some (.getfield 12, 3, 9, 0, 292) := by rfl
theorem t100_59 : zT 100 59 = some (.getfield 107, 3, 4, 1, 184) := by rfl
theorem t100_62 : zT 100 62 = some (.iload_n 1, 1, 0, 0, 0) := by rfl
theorem t100_63 : zT 100 63 = some (.iload_n 2, 1, 0, 0, 0) := by rfl
theorem t100_64 : zT 100 64 = some (.invokevirtual 201, 3, 14, 0, 641) := by rfl
theorem t100_67 : zT 100 67 = some (.ifCond .eq 7, 3, 0, 0, 0) := by rfl
theorem t100_70 : zT 100 70 = some (.iconst 2, 1, 0, 0, 0) := by rfl
theorem t100_71 : zT 100 71 = some (.goto 4, 3, 0, 0, 0) := by rfl
theorem t100_74 : zT 100 74 = some (.iconst 1, 1, 0, 0, 0) := by rfl
theorem t100_75 : zT 100 75 = some (.ireturn, 1, 0, 0, 0) := by rfl
theorem t101_0 : zT 101 0 = some (.iload_n 1, 1, 0, 0, 0) := by rfl
theorem t101_1 : zT 101 1 = some (.invokestatic 83, 3, 113, 0, 391) := by rfl
theorem t101_4 : zT 101 4 = some (.ifCond .ne 5, 3, 0, 0, 0) := by rfl
theorem t101_7 : zT 101 7 = some (.iconst (-1), 1, 0, 0, 0) := by rfl
theorem t101_8 : zT 101 8 = some (.ireturn, 1, 0, 0, 0) := by rfl
theorem t101_9 : zT 101 9 = some (.iload_n 2, 1, 0, 0, 0) := by rfl
theorem t101_10 : zT 101 10 = some (.tableswitch 121 0 6 #[42, 52, 64, 77, 90, 103, 115], 42, 0, 0, 0) := by rfl
theorem t101_52 : zT 101 52 = some (.aload_n 0, 1, 0, 0, 0) := by rfl
theorem t101_53 : zT 101 53 = some (.getfield 12, 3, 9, 0, 292) := by rfl
theorem t101_56 : zT 101 56 = some (.getfield 87, 3, 4, 3, 188) := by rfl
theorem t101_59 : zT 101 59 = some (.iload_n 1, 1, 0, 0, 0) := by rfl
theorem t101_60 : zT 101 60 = some (.iaload, 1, 0, 0, 0) := by rfl
theorem t101_61 : zT 101 61 = some (.ireturn, 1, 0, 0, 0) := by rfl
theorem t101_62 : zT 101 62 = some (.aload_n 0, 1, 0, 0, 0) := by rfl
theorem t101_63 : zT 101 63 = some (.getfield 12, 3, 9, 0, 292) := by rfl
theorem t101_66 : zT 101 66 = some (.getfield 107, 3, 4, 1, 184) := by rfl
theorem t101_69 : zT 101 69 = some (.iload_n 1, 1, 0, 0, 0) := by rfl
theorem t101_70 : zT 101 70 = some (.invokevirtual 204, 3, 26, 0, 646) := by rfl
theorem t101_73 : zT 101 73 = some (.ireturn, 1, 0, 0, 0) := by rfl
theorem t101_74 : zT 101 74 = some (.aload_n 0, 1, 0, 0, 0) := by rfl
theorem t101_75 : zT 101 75 = some (.getfield 12, 3, 9, 0, 292) := by rfl
theorem t101_78 : zT 101 78 = some (.getfield 107, 3, 4, 1, 184) := by rfl
theorem t101_81 : zT 101 81 = some (.iload_n 1, 1, 0, 0, 0) := by rfl
theorem t101_82 : zT 101 82 = some (.iconst 0, 1, 0, 0, 0) := by rfl
theorem t101_83 : zT 101 83 = some (.invokevirtual 207, 3, 27, 0, 650) := by rfl
theorem t101_86 : zT 101 86 = some (.ireturn, 1, 0, 0, 0) := by rfl
theorem t101_87 : zT 101 87 = some (.aload_n 0, 1, 0, 0, 0) := by rfl
theorem t101_88 : zT 101 88 = some (.getfield 12, 3, 9, 0, 292) := by rfl
theorem t101_91 : zT 101 91 = some (.getfield 107, 3, 4, 1, 184) := by rfl
theorem t101_94 : zT 101 94 = some (.iload_n 1, 1, 0, 0, 0) := by rfl
theorem t101_95 : zT 101 95 = some (.iconst 1, 1, 0, 0, 0) := by rfl
theorem t101_96 : zT 101 96 = some (.invokevirtual 207, 3, 27, 0, 650) := by rfl
theorem t101_99 : zT 101 99 = some (.ireturn, 1, 0, 0, 0) := by rfl
theorem t101_100 : zT 101 100 = some (.aload_n 0, 1, 0, 0, 0) := by rfl
theorem t101_101 : zT 101 101 = some (.getfield 12, 3, 9, 0, 292) := by rfl
theorem t101_104 : zT 101 104 = some (.getfield 107, 3, 4, 1, 184) := by rfl
theorem t101_107 : zT 101 107 = some (.iload_n 1, 1, 0, 0, 0) := by rfl
theorem t101_108 : zT 101 108 = some (.iconst 2, 1, 0, 0, 0) := by rfl
theorem t101_109 : zT 101 109 = some (.invokevirtual 207, 3, 27, 0, 650) := by rfl
theorem t101_112 : zT 101 112 = some (.ireturn, 1, 0, 0, 0) := by rfl
theorem t101_113 : zT 101 113 = some (.aload_n 0, 1, 0, 0, 0) := by rfl
theorem t101_114 : zT 101 114 = some (.getfield 12, 3, 9, 0, 292) := by rfl
theorem t101_117 : zT 101 117 = some (.getfield 107, 3, 4, 1, 184) := by rfl
theorem t101_120 : zT 101 120 = some (.iload_n 1, 1, 0, 0, 0) := by rfl
theorem t101_121 : zT 101 121 = some (.invokevirtual 211, 3, 23, 0, 654) := by rfl
theorem t101_124 : zT 101 124 = some (.ireturn, 1, 0, 0, 0) := by rfl
theorem t101_125 : zT 101 125 = some (.aload_n 0, 1, 0, 0, 0) := by rfl
theorem t101_126 : zT 101 126 = some (.iload_n 1, 1, 0, 0, 0) := by rfl
theorem t101_127 : zT 101 127 = some (.invokevirtual 214, 3, 114, 0, 659) := by rfl
theorem t101_130 : zT 101 130 = some (.ireturn, 1, 0, 0, 0) := by rfl
theorem t101_131 : zT 101 131 = some (.bipush (-2), 2, 0, 0, 0) := by rfl
theorem t101_133 : zT 101 133 = some (.ireturn, 1, 0, 0, 0) := by rfl
theorem t102_0 : zT 102 0 = some (.iload_n 1, 1, 0, 0, 0) := by rfl
theorem t102_1 : zT 102 1 = some (.tableswitch 158 0 9 #[55, 66, 74, 85, 97, 109, 120, 131, 142, 150], 55, 0, 0, 0) := by rfl
theorem t102_56 : zT 102 56 = some (.aload_n 0, 1, 0, 0, 0) := by rfl
theorem t102_57 : zT 102 57 = some (.getfield 12, 3, 9, 0, 292) := by rfl
theorem t102_60 : zT 102 60 = some (.getfield 73, 3, 4, 0, 180) := by rfl
theorem t102_63 : zT 102 63 = some (.getfield 77, 3, 6, 1, 100) := by rfl
theorem t102_66 : zT 102 66 = some (.ireturn, 1, 0, 0, 0) := by rfl
theorem t102_67 : zT 102 67 = some (.aload_n 0, 1, 0, 0, 0) := by rfl
theorem t102_68 : zT 102 68 = some (.getfield 12, 3, 9, 0, 292) := by rfl
theorem t102_71 : zT 102 71 = some (.invokevirtual 217, 3, 55, 0, 667) := by rfl
theorem t102_74 : zT 102 74 = some (.ireturn, 1, 0, 0, 0) := by rfl
theorem t102_75 : zT 102 75 = some (.aload_n 0, 1, 0, 0, 0) := by rfl
theorem t102_76 : zT 102 76 = some (.getfield 12, 3, 9, 0, 292) := by rfl
theorem t102_79 : zT 102 79 = some (.getfield 107, 3, 4, 1, 184) := by rfl
theorem t102_82 : zT 102 82 = some (.getfield 98, 3, 1, 7, 143) := by rfl
theorem t102_85 : zT 102 85 = some (.ireturn, 1, 0, 0, 0) := by rfl
theorem t102_86 : zT 102 86 = some (.aload_n 0, 1, 0, 0, 0) := by rfl
theorem t102_87 : zT 102 87 = some (.getfield 12, 3, 9, 0, 292) := by rfl
theorem t102_90 : zT 102 90 = some (.getfield 107, 3, 4, 1, 184) := by rfl
theorem t102_93 : zT 102 93 = some (.iconst 0, 1, 0, 0, 0) := by rfl
theorem t102_94 : zT 102 94 = some (.invokevirtual 138, 3, 25, 0, 515) := by rfl
theorem t102_97 : zT 102 97 = some (.ireturn, 1, 0, 0, 0) := by rfl
theorem t102_98 : zT 102 98 = some (.aload_n 0, 1, 0, 0, 0) := by rfl
theorem t102_99 : zT 102 99 = some (.getfield 12, 3, 9, 0, 292) := by rfl
theorem t102_102 : zT 102 102 = some (.getfield 107, 3, 4, 1, 184) := by rfl
theorem t102_105 : zT 102 105 = some (.iconst 1, 1, 0, 0, 0) := by rfl
theorem t102_106 : zT 102 106 = some (.invokevirtual 138, 3, 25, 0, 515) := by rfl
theorem t102_109 : zT 102 109 = some (.ireturn, 1, 0, 0, 0) := by rfl
theorem t102_110 : zT 102 110 = some (.aload_n 0, 1, 0, 0, 0) := by rfl
theorem t102_111 : zT 102 111 = some (.getfield 12, 3, 9, 0, 292) := by rfl
theorem t102_114 : zT 102 114 = some (.getfield 107, 3, 4, 1, 184) := by rfl
theorem t102_117 : zT 102 117 = some (.invokevirtual 220, 3, 24, 0, 668) := by rfl
theorem t102_120 : zT 102 120 = some (.ireturn, 1, 0, 0, 0) := by rfl
theorem t102_121 : zT 102 121 = some (.aload_n 0, 1, 0, 0, 0) := by rfl
theorem t102_122 : zT 102 122 = some (.getfield 12, 3, 9, 0, 292) := by rfl
theorem t102_125 : zT 102 125 = some (.getfield 159, 3, 4, 2, 186) := by rfl
theorem t102_128 : zT 102 128 = some (.getfield 163, 3, 7, 2, 171) := by rfl
theorem t102_131 : zT 102 131 = some (.ireturn, 1, 0, 0, 0) := by rfl
theorem t102_132 : zT 102 132 = some (.aload_n 0, 1, 0, 0, 0) := by rfl
theorem t102_133 : zT 102 133 = some (.getfield 12, 3, 9, 0, 292) := by rfl
theorem t102_136 : zT 102 136 = some (.getfield 159, 3, 4, 2, 186) := by rfl
theorem t102_139 : zT 102 139 = some (.invokevirtual 223, 3, 71, 0, 672) := by rfl
theorem t102_142 : zT 102 142 = some (.ireturn, 1, 0, 0, 0) := by rfl
theorem t102_143 : zT 102 143 = some (.aload_n 0, 1, 0, 0, 0) := by rfl
theorem t102_144 : zT 102 144 = some (.getfield 33, 3, 9, 3, 295) := by rfl
theorem t102_147 : zT 102 147 = some (.getfield 226, 3, 2, 1, 246) := by rfl
theorem t102_150 : zT 102 150 = some (.ireturn, 1, 0, 0, 0) := by rfl
theorem t102_151 : zT 102 151 = some (.aload_n 0, 1, 0, 0, 0) := by rfl
theorem t102_152 : zT 102 152 = some (.getfield 19, 3, 9, 1, 293) := by rfl
theorem t102_155 : zT 102 155 = some (.getfield 227, 3, 0, 2, 210) := by rfl
theorem t102_158 : zT 102 158 = some (.ireturn, 1, 0, 0, 0) := by rfl
theorem t102_159 : zT 102 159 = some (.bipush (-2), 2, 0, 0, 0) := by rfl
theorem t102_161 : zT 102 161 = some (.ireturn, 1, 0, 0, 0) := by rfl
theorem t103_0 : zT 103 0 = some (.aload_n 0, 1, 0, 0, 0) := by rfl
theorem t103_1 : zT 103 1 = some (.getfield 12, 3, 9, 0, 292) := by rfl
theorem t103_4 : zT 103 4 = some (.getfield 159, 3, 4, 2, 186) := by rfl
theorem t103_7 : zT 103 7 = some (.iload_n 1, 1, 0, 0, 0) := by rfl
theorem t103_8 : zT 103 8 = some (.invokevirtual 228, 3, 72, 0, 681) := by rfl
theorem t103_11 : zT 103 11 = some (.ifCond .ne 5, 3, 0, 0, 0) := by rfl
theorem t103_14 : zT 103 14 = some (.iconst (-1), 1, 0, 0, 0) := by rfl
theorem t103_15 : zT 103 15 = some (.ireturn, 1, 0, 0, 0) := by rfl
theorem t103_16 : zT 103 16 = some (.iload_n 2, 1, 0, 0, 0) := by rfl
theorem t103_17 : zT 103 17 = some (.bipush (-6), 2, 0, 0, 0) := by rfl
theorem t103_19 : zT 103 19 = some (.if_icmp .ne 15, 3, 0, 0, 0) := by rfl
theorem t103_22 : zT 103 22 = some (.aload_n 0, 1, 0, 0, 0) := by rfl
theorem t103_23 : zT 103 23 = some (.getfield 12, 3, 9, 0, 292) := by rfl
theorem t103_26 : zT 103 26 = some (.getfield 159, 3, 4, 2, 186) := by rfl
theorem t103_29 : zT 103 29 = some (.iload_n 1, 1, 0, 0, 0) := by rfl
theorem t103_30 : zT 103 30 = some (.invokevirtual 229, 3, 74, 0, 686) := by rfl
theorem t103_33 : zT 103 33 = some (.ireturn, 1, 0, 0, 0) := by rfl
theorem t103_34 : zT 103 34 = some (.aload_n 0, 1, 0, 0, 0) := by rfl
theorem t103_35 : zT 103 35 = some (.getfield 12, 3, 9, 0, 292) := by rfl
theorem t103_38 : zT 103 38 = some (.getfield 159, 3, 4, 2, 186) := by rfl
theorem t103_41 : zT 103 41 = some (.iload_n 1, 1, 0, 0, 0) := by rfl
theorem t103_42 : zT 103 42 = some (.iload_n 2, 1, 0, 0, 0) := by rfl
theorem t103_43 : zT 103 43 = some (.invokevirtual 232, 3, 75, 0, 698) := by rfl
theorem t103_46 : zT 103 46 = some (.ireturn, 1, 0, 0, 0) := by rfl
theorem t104_0 : zT 104 0 = some (.aload_n 0, 1, 0, 0, 0) := by rfl
theorem t104_1 : zT 104 1 = some (.getfield 12, 3, 9, 0, 292) := by rfl
theorem t104_4 : zT 104 4 = some (.getfield 159, 3, 4, 2, 186) := by rfl
theorem t104_7 : zT 104 7 = some (.iload_n 1, 1, 0, 0, 0) := by rfl
theorem t104_8 : zT 104 8 = some (.invokevirtual 228, 3, 72, 0, 681) := by rfl
theorem t104_11 : zT 104 11 = some (.ifCond .eq 17, 3, 0, 0, 0) := by rfl
theorem t104_14 : zT 104 14 = some (.aload_n 0, 1, 0, 0, 0) := by rfl
theorem t104_15 : zT 104 15 = some (.getfield 12, 3, 9, 0, 292) := by rfl
theorem t104_18 : zT 104 18 = some (.getfield 159, 3, 4, 2, 186) := by rfl
theorem t104_21 : zT 104 21 = some (.iload_n 2, 1, 0, 0, 0) := by rfl
theorem t104_22 : zT 104 22 = some (.invokevirtual 228, 3, 72, 0, 681) := by rfl
theorem t104_25 : zT 104 25 = some (.ifCond .ne 5, 3, 0, 0, 0) := by rfl
theorem t104_28 : zT 104 28 = some (.iconst (-1), 1, 0, 0, 0) := by rfl
theorem t104_29 : zT 104 29 = some (.ireturn, 1, 0, 0, 0) := by rfl
theorem t104_30 : zT 104 30 = some (.aload_n 0, 1, 0, 0, 0) := by rfl
theorem t104_31 : zT 104 31 = some (.getfield 12, 3, 9, 0, 292) := by rfl
theorem t104_34 : zT 104 34 = some (.getfield 159, 3, 4, 2, 186) := by rfl
theorem t104_37 : zT 104 37 = some (.iload_n 1, 1, 0, 0, 0) := by rfl
theorem t104_38 : zT 104 38 = some (.iload_n 2, 1, 0, 0, 0) := by rfl
theorem t104_39 : zT 104 39 = some (.aload_n 0, 1, 0, 0, 0) := by rfl
theorem t104_40 : zT 104 40 = some (.getfield 55, 3, 9, 7, 299) := by rfl
theorem t104_43 : zT 104 43 = some (.invokevirtual 234, 3, 77, 0, 707) := by rfl
theorem t104_46 : zT 104 46 = some (.ireturn, 1, 0, 0, 0) := by rfl
theorem t105_0 : zT 105 0 = some (.aload_n 0, 1, 0, 0, 0) := by rfl
theorem t105_1 : zT 105 1 = some (.getfield 12, 3, 9, 0, 292) := by rfl
theorem t105_4 : zT 105 4 = some (.getfield 107, 3, 4, 1, 184) := by rfl
theorem t105_7 : zT 105 7 = some (.iload_n 1, 1, 0, 0, 0) := by rfl
theorem t105_8 : zT 105 8 = some (.invokevirtual 125, 3, 5, 0, 478) := by rfl
theorem t105_11 : zT 105 11 = some (.ifCond .ne 5, 3, 0, 0, 0) := by rfl
theorem t105_14 : zT 105 14 = some (.iconst (-1), 1, 0, 0, 0) := by rfl
theorem t105_15 : zT 105 15 = some (.ireturn, 1, 0, 0, 0) := by rfl
theorem t105_16 : zT 105 16 = some (.iload_n 2, 1, 0, 0, 0) := by rfl
theorem t105_17 : zT 105 17 = some (.ifCond .eq 11, 3, 0, 0, 0) := by rfl
theorem t105_20 : zT 105 20 = some (.iload_n 2, 1, 0, 0, 0) := by rfl
theorem t105_21 : zT 105 21 = some (.iconst 1, 1, 0, 0, 0) := by rfl
theorem t105_22 : zT 105 22 = some (.if_icmp .eq 6, 3, 0, 0, 0) := by rfl
theorem t105_25 : zT 105 25 = some (.bipush (-2), 2, 0, 0, 0) := by rfl
theorem t105_27 : zT 105 27 = some (.ireturn, 1, 0, 0, 0) := by rfl
theorem t105_28 : zT 105 28 = some (.aload_n 0, 1, 0, 0, 0) := by rfl
theorem t105_29 : zT 105 29 = some (.getfield 12, 3, 9, 0, 292) := by rfl
theorem t105_32 : zT 105 32 = some (.getfield 107, 3, 4, 1, 184) := by rfl
theorem t105_35 : zT 105 35 = some (.getfield 135, 3, 1, 4, 135) := by rfl
theorem t105_38 : zT 105 38 = some (.iload_n 1, 1, 0, 0, 0) := by rfl
theorem t105_39 : zT 105 39 = some (.iaload, 1, 0, 0, 0) := by rfl
theorem t105_40 : zT 105 40 = some (.ifCond .ne 18, 3, 0, 0, 0) := by rfl
theorem t105_43 : zT 105 43 = some (.aload_n 0, 1, 0, 0, 0) := by rfl
theorem t105_44 : zT 105 44 = some (.getfield 12, 3, 9, 0, 292) := by rfl
theorem t105_47 : zT 105 47 = some (.getfield 107, 3, 4, 1, 184) := by rfl
theorem t105_50 : zT 105 50 = some (.iload_n 1, 1, 0, 0, 0) := by rfl
theorem t105_51 : zT 105 51 = some (.iconst 1, 1, 0, 0, 0) := by rfl
theorem t105_52 : zT 105 52 = some (.invokevirtual 238, 3, 16, 0, 715) := by rfl
theorem t105_55 : zT 105 55 = some (.ifCond .eq 6, 3, 0, 0, 0) := by rfl
theorem t105_58 : zT 105 58 = some (.bipush (-5), 2, 0, 0, 0) := by rfl
theorem t105_60 : zT 105 60 = some (.ireturn, 1, 0, 0, 0) := by rfl
theorem t105_61 : zT 105 61 = some (.iload_n 2, 1, 0, 0, 0) := by rfl
theorem t105_62 : zT 105 62 = some (.ifCond .ne 17, 3, 0, 0, 0) := by rfl
theorem t105_65 : zT 105 65 = some (.aload_n 0, 1, 0, 0, 0) := by rfl
theorem t105_66 : zT 105 66 = some (.getfield 12, 3, 9, 0, 292) := by rfl
theorem t105_69 : zT 105 69 = some (.getfield 107, 3, 4, 1, 184) := by rfl
theorem t105_72 : zT 105 72 = some (.iload_n 1, 1, 0, 0, 0) := by rfl
theorem t105_73 : zT 105 73 = some (.invokevirtual 241, 3, 18, 0, 716) := by rfl
theorem t105_76 : zT 105 76 = some (.goto 22, 3, 0, 0, 0) := by rfl
theorem t105_79 : zT 105 79 = some (.aload_n 0, 1, 0, 0, 0) := by rfl
theorem t105_80 : zT 105 80 = some (.getfield 12, 3, 9, 0, 292) := by rfl
theorem t105_83 : zT 105 83 = some (.invokevirtual 217, 3, 55, 0, 667) := by rfl
theorem t105_86 : zT 105 86 = some (.aload_n 0, 1, 0, 0, 0) := by rfl
theorem t105_87 : zT 105 87 = some (.getfield 12, 3, 9, 0, 292) := by rfl
theorem t105_90 : zT 105 90 = some (.getfield 107, 3, 4, 1, 184) := by rfl
theorem t105_93 : zT 105 93 = some (.iload_n 1, 1, 0, 0, 0) := by rfl
theorem t105_94 : zT 105 94 = some (.invokevirtual 194, 3, 20, 0, 635) := by rfl
theorem t105_97 : zT 105 97 = some (.iadd, 1, 0, 0, 0) := by rfl
theorem t105_98 : zT 105 98 = some (.ireturn, 1, 0, 0, 0) := by rfl
theorem t106_0 : zT 106 0 = some (.iload_n 1, 1, 0, 0, 0) := by rfl
theorem t106_1 : zT 106 1 = some (.ifCond .lt 8, 3, 0, 0, 0) := by rfl
theorem t106_4 : zT 106 4 = some (.iload_n 1, 1, 0, 0, 0) := by rfl
theorem t106_5 : zT 106 5 = some (.iconst 5, 1, 0, 0, 0) := by rfl
theorem t106_6 : zT 106 6 = some (.if_icmp .le 6, 3, 0, 0, 0) := by rfl
theorem t106_9 : zT 106 9 = some (.bipush (-2), 2, 0, 0, 0) := by rfl
theorem t106_11 : zT 106 11 = some (.ireturn, 1, 0, 0, 0) := by rfl
theorem t106_12 : zT 106 12 = some (.aload_n 0, 1, 0, 0, 0) := by rfl
theorem t106_13 : zT 106 13 = some (.getfield 12, 3, 9, 0, 292) := by rfl
theorem t106_16 : zT 106 16 = some (.getfield 107, 3, 4, 1, 184) := by rfl
theorem t106_19 : zT 106 19 = some (.getfield 135, 3, 1, 4, 135) := by rfl
theorem t106_22 : zT 106 22 = some (.iconst 0, 1, 0, 0, 0) := by rfl
theorem t106_23 : zT 106 23 = some (.aload_n 0, 1, 0, 0, 0) := by rfl
theorem t106_24 : zT 106 24 = some (.getfield 51, 3, 9, 6, 298) := by rfl
theorem t106_27 : zT 106 27 = some (.iconst 0, 1, 0, 0, 0) := by rfl
theorem t106_28 : zT 106 28 = some (.bipush 20, 2, 0, 0, 0) := by rfl
theorem t106_30 : zT 106 30 = some (.invokestatic 244, 3, 1001, 0, 724) := by rfl
theorem t106_33 : zT 106 33 = some (.aload_n 0, 1, 0, 0, 0) := by rfl
theorem t106_34 : zT 106 34 = some (.getfield 12, 3, 9, 0, 292) := by rfl
theorem t106_37 : zT 106 37 = some (.invokevirtual 148, 3, 58, 0, 535) := by rfl
theorem t106_40 : zT 106 40 = some (.pop, 1, 0, 0, 0) := by rfl
theorem t106_41 : zT 106 41 = some (.iload_n 1, 1, 0, 0, 0) := by rfl
theorem t106_42 : zT 106 42 = some (.iconst 5, 1, 0, 0, 0) := by rfl
theorem t106_43 : zT 106 43 = some (.if_icmp .ne 13, 3, 0, 0, 0) := by rfl
theorem t106_46 : zT 106 46 = some (.aload_n 0, 1, 0, 0, 0) := by rfl
theorem t106_47 : zT 106 47 = some (.getfield 12, 3, 9, 0, 292) := by rfl
theorem t106_50 : zT 106 50 = some (.invokevirtual 217, 3, 55, 0, 667) := by rfl
theorem t106_53 : zT 106 53 = some (.goto 18, 3, 0, 0, 0) := by rfl
theorem t106_56 : zT 106 56 = some (.aload_n 0, 1, 0, 0, 0) := by rfl
theorem t106_57 : zT 106 57 = some (.getfield 12, 3, 9, 0, 292) := by rfl
theorem t106_60 : zT 106 60 = some (.getfield 107, 3, 4, 1, 184) := by rfl
theorem t106_63 : zT 106 63 = some (.aload_n 0, 1, 0, 0, 0) := by rfl
theorem t106_64 : zT 106 64 = some (.getfield 51, 3, 9, 6, 298) := by rfl
theorem t106_67 : zT 106 67 = some (.iload_n 1, 1, 0, 0, 0) := by rfl
theorem t106_68 : zT 106 68 = some (.invokevirtual 250, 3, 28, 0, 725) := by rfl
theorem t106_71 : zT 106 71 = some (.istore_n 2, 1, 0, 0, 0) := by rfl
theorem t106_72 : zT 106 72 = some (.aload_n 0, 1, 0, 0, 0) := by rfl
theorem t106_73 : zT 106 73 = some (.getfield 51, 3, 9, 6, 298) := by rfl
theorem t106_76 : zT 106 76 = some (.iconst 0, 1, 0, 0, 0) := by rfl
theorem t106_77 : zT 106 77 = some (.aload_n 0, 1, 0, 0, 0) := by rfl
theorem t106_78 : zT 106 78 = some (.getfield 12, 3, 9, 0, 292) := by rfl
theorem t106_81 : zT 106 81 = some (.getfield 107, 3, 4, 1, 184) := by rfl
theorem t106_84 : zT 106 84 = some (.getfield 135, 3, 1, 4, 135) := by rfl
theorem t106_87 : zT 106 87 = some (.iconst 0, 1, 0, 0, 0) := by rfl
theorem t106_88 : zT 106 88 = some (.bipush 20, 2, 0, 0, 0) := by rfl
theorem t106_90 : zT 106 90 = some (.invokestatic 244, 3, 1001, 0, 724) := by rfl
theorem t106_93 : zT 106 93 = some (.iload_n 2, 1, 0, 0, 0) := by rfl
theorem t106_94 : zT 106 94 = some (.ireturn, 1, 0, 0, 0) := by rfl
theorem t107_0 : zT 107 0 = some (.lload_n 1, 1, 0, 0, 0) := by rfl
theorem t107_1 : zT 107 1 = some (.invokestatic 254, 3, 39, 0, 733) := by rfl
theorem t107_4 : zT 107 4 = some (.istore_n 3, 1, 0, 0, 0) := by rfl
theorem t107_5 : zT 107 5 = some (.iload_n 3, 1, 0, 0, 0) := by rfl
theorem t107_6 : zT 107 6 = some (.bipush (-6), 2, 0, 0, 0) := by rfl
theorem t107_8 : zT 107 8 = some (.if_icmp .ne 6, 3, 0, 0, 0) := by rfl
theorem t107_11 : zT 107 11 = some (.bipush (-2), 2, 0, 0, 0) := by rfl
theorem t107_13 : zT 107 13 = some (.ireturn, 1, 0, 0, 0) := by rfl
theorem t107_14 : zT 107 14 = some (.aload_n 0, 1, 0, 0, 0) := by rfl
theorem t107_15 : zT 107 15 = some (.getfield 33, 3, 9, 3, 295) := by rfl
theorem t107_18 : zT 107 18 = some (.getfield 226, 3, 2, 1, 246) := by rfl
theorem t107_21 : zT 107 21 = some (.iload_n 3, 1, 0, 0, 0) := by rfl
theorem t107_22 : zT 107 22 = some (.iadd, 1, 0, 0, 0) := by rfl
theorem t107_23 : zT 107 23 = some (.bipush 60, 2, 0, 0, 0) := by rfl
theorem t107_25 : zT 107 25 = some (.if_icmp .le 6, 3, 0, 0, 0) := by rfl
theorem t107_28 : zT 107 28 = some (.bipush (-4), 2, 0, 0, 0) := by rfl
theorem t107_30 : zT 107 30 = some (.ireturn, 1, 0, 0, 0) := by rfl
theorem t107_31 : zT 107 31 = some (.aload_n 0, 1, 0, 0, 0) := by rfl
theorem t107_32 : zT 107 32 = some (.getfield 33, 3, 9, 3, 295) := by rfl
theorem t107_35 : zT 107 35 = some (.lload_n 1, 1, 0, 0, 0) := by rfl
theorem t107_36 : zT 107 36 = some (.iload_n 3, 1, 0, 0, 0) := by rfl
theorem t107_37 : zT 107 37 = some (.invokevirtual 258, 3, 40, 0, 740) := by rfl
theorem t107_40 : zT 107 40 = some (.aload_n 0, 1, 0, 0, 0) := by rfl
theorem t107_41 : zT 107 41 = some (.getfield 33, 3, 9, 3, 295) := by rfl
theorem t107_44 : zT 107 44 = some (.getfield 226, 3, 2, 1, 246) := by rfl
theorem t107_47 : zT 107 47 = some (.ireturn, 1, 0, 0, 0) := by rfl
theorem t108_0 : zT 108 0 = some (.aload_n 0, 1, 0, 0, 0) := by rfl
theorem t108_1 : zT 108 1 = some (.getfield 33, 3, 9, 3, 295) := by rfl
theorem t108_4 : zT 108 4 = some (.getfield 226, 3, 2, 1, 246) := by rfl
theorem t108_7 : zT 108 7 = some (.istore_n 1, 1, 0, 0, 0) := by rfl
theorem t108_8 : zT 108 8 = some (.aload_n 0, 1, 0, 0, 0) := by rfl
theorem t108_9 : zT 108 9 = some (.getfield 33, 3, 9, 3, 295) := by rfl
theorem t108_12 : zT 108 12 = some (.invokevirtual 70, 3, 35, 0, 383) := by rfl
theorem t108_15 : zT 108 15 = some (.iload_n 1, 1, 0, 0, 0) := by rfl
theorem t108_16 : zT 108 16 = some (.ireturn, 1, 0, 0, 0) := by rfl
theorem t109_0 : zT 109 0 = some (.aload_n 0, 1, 0, 0, 0) := by rfl
theorem t109_1 : zT 109 1 = some (.getfield 40, 3, 9, 4, 296) := by rfl
theorem t109_4 : zT 109 4 = some (.aload_n 0, 1, 0, 0, 0) := by rfl
theorem t109_5 : zT 109 5 = some (.getfield 33, 3, 9, 3, 295) := by rfl
theorem t109_8 : zT 109 8 = some (.invokevirtual 90, 3, 42, 0, 398) := by rfl
theorem t109_11 : zT 109 11 = some (.ireturn, 1, 0, 0, 0) := by rfl
theorem t110_0 : zT 110 0 = some (.aload_n 0, 1, 0, 0, 0) := by rfl
theorem t110_1 : zT 110 1 = some (.getfield 19, 3, 9, 1, 293) := by rfl
theorem t110_4 : zT 110 4 = some (.getfield 227, 3, 0, 2, 210) := by rfl
theorem t110_7 : zT 110 7 = some (.ifCond .ne 6, 3, 0, 0, 0) := by rfl
theorem t110_10 : zT 110 10 = some (.bipush (-5), 2, 0, 0, 0) := by rfl
theorem t110_12 : zT 110 12 = some (.ireturn, 1, 0, 0, 0) := by rfl
theorem t110_13 : zT 110 13 = some (.aload_n 0, 1, 0, 0, 0) := by rfl
theorem t110_14 : zT 110 14 = some (.getfield 19, 3, 9, 1, 293) := by rfl
theorem t110_17 : zT 110 17 = some (.aload_n 0, 1, 0, 0, 0) := by rfl
theorem t110_18 : zT 110 18 = some (.getfield 12, 3, 9, 0, 292) := by rfl
theorem t110_21 : zT 110 21 = some (.invokevirtual 262, 3, 2, 0, 756) := by rfl
theorem t110_24 : zT 110 24 = some (.aload_n 0, 1, 0, 0, 0) := by rfl
theorem t110_25 : zT 110 25 = some (.getfield 19, 3, 9, 1, 293) := by rfl
theorem t110_28 : zT 110 28 = some (.getfield 227, 3, 0, 2, 210) := by rfl
theorem t110_31 : zT 110 31 = some (.ireturn, 1, 0, 0, 0) := by rfl
theorem t111_0 : zT 111 0 = some (.iload_n 1, 1, 0, 0, 0) := by rfl
theorem t111_1 : zT 111 1 = some (.invokestatic 265, 3, 62, 0, 764) := by rfl
theorem t111_4 : zT 111 4 = some (.ifCond .ne 6, 3, 0, 0, 0) := by rfl
theorem t111_7 : zT 111 7 = some (.bipush (-2), 2, 0, 0, 0) := by rfl
theorem t111_9 : zT 111 9 = some (.ireturn, 1, 0, 0, 0) := by rfl
theorem t111_10 : zT 111 10 = some (.aload_n 0, 1, 0, 0, 0) := by rfl
theorem t111_11 : zT 111 11 = some (.getfield 26, 3, 9, 2, 294) := by rfl
theorem t111_14 : zT 111 14 = some (.iload_n 1, 1, 0, 0, 0) := by rfl
theorem t111_15 : zT 111 15 = some (.aload_n 0, 1, 0, 0, 0) := by rfl
theorem t111_16 : zT 111 16 = some (.getfield 12, 3, 9, 0, 292) := by rfl
theorem t111_19 : zT 111 19 = some (.invokevirtual 268, 3, 63, 0, 767) := by rfl
theorem t111_22 : zT 111 22 = some (.aload_n 0, 1, 0, 0, 0) := by rfl
theorem t111_23 : zT 111 23 = some (.getfield 12, 3, 9, 0, 292) := by rfl
theorem t111_26 : zT 111 26 = some (.getfield 107, 3, 4, 1, 184) := by rfl
theorem t111_29 : zT 111 29 = some (.getfield 98, 3, 1, 7, 143) := by rfl
theorem t111_32 : zT 111 32 = some (.ireturn, 1, 0, 0, 0) := by rfl
theorem t112_0 : zT 112 0 = some (.iload_n 1, 1, 0, 0, 0) := by rfl
theorem t112_1 : zT 112 1 = some (.invokestatic 265, 3, 62, 0, 764) := by rfl
theorem t112_4 : zT 112 4 = some (.ifCond .ne 6, 3, 0, 0, 0) := by rfl
theorem t112_7 : zT 112 7 = some (.bipush (-2), 2, 0, 0, 0) := by rfl
theorem t112_9 : zT 112 9 = some (.ireturn, 1, 0, 0, 0) := by rfl
theorem t112_10 : zT 112 10 = some (.aload_n 0, 1, 0, 0, 0) := by rfl
theorem t112_11 : zT 112 11 = some (.getfield 26, 3, 9, 2, 294) := by rfl
theorem t112_14 : zT 112 14 = some (.getfield 271, 3, 5, 1, 229) := by rfl
theorem t112_17 : zT 112 17 = some (.iload_n 1, 1, 0, 0, 0) := by rfl
theorem t112_18 : zT 112 18 = some (.baload, 1, 0, 0, 0) := by rfl
theorem t112_19 : zT 112 19 = some (.ifCond .ne 6, 3, 0, 0, 0) := by rfl
theorem t112_22 : zT 112 22 = some (.bipush (-5), 2, 0, 0, 0) := by rfl
theorem t112_24 : zT 112 24 = some (.ireturn, 1, 0, 0, 0) := by rfl
theorem t112_25 : zT 112 25 = some (.aload_n 0, 1, 0, 0, 0) := by rfl
theorem t112_26 : zT 112 26 = some (.getfield 19, 3, 9, 1, 293) := by rfl
theorem t112_29 : zT 112 29 = some (.aload_n 0, 1, 0, 0, 0) := by rfl
theorem t112_30 : zT 112 30 = some (.getfield 12, 3, 9, 0, 292) := by rfl
theorem t112_33 : zT 112 33 = some (.invokevirtual 62, 3, 1, 0, 333) := by rfl
theorem t112_36 : zT 112 36 = some (.aload_n 0, 1, 0, 0, 0) := by rfl
theorem t112_37 : zT 112 37 = some (.getfield 12, 3, 9, 0, 292) := by rfl
theorem t112_40 : zT 112 40 = some (.aload_n 0, 1, 0, 0, 0) := by rfl
theorem t112_41 : zT 112 41 = some (.getfield 26, 3, 9, 2, 294) := by rfl
theorem t112_44 : zT 112 44 = some (.getfield 275, 3, 5, 0, 227) := by rfl
theorem t112_47 : zT 112 47 = some (.iload_n 1, 1, 0, 0, 0) := by rfl
theorem t112_48 : zT 112 48 = some (.aaload, 1, 0, 0, 0) := by rfl
theorem t112_49 : zT 112 49 = some (.invokevirtual 279, 3, 51, 0, 776) := by rfl
theorem t112_52 : zT 112 52 = some (.aload_n 0, 1, 0, 0, 0) := by rfl
theorem t112_53 : zT 112 53 = some (.getfield 12, 3, 9, 0, 292) := by rfl
theorem t112_56 : zT 112 56 = some (.getfield 107, 3, 4, 1, 184) := by rfl
theorem t112_59 : zT 112 59 = some (.getfield 98, 3, 1, 7, 143) := by rfl
theorem t112_62 : zT 112 62 = some (.ireturn, 1, 0, 0, 0) := by rfl
theorem t113_0 : zT 113 0 = some (.iload_n 0, 1, 0, 0, 0) := by rfl
theorem t113_1 : zT 113 1 = some (.ifCond .lt 12, 3, 0, 0, 0) := by rfl
theorem t113_4 : zT 113 4 = some (.iload_n 0, 1, 0, 0, 0) := by rfl
theorem t113_5 : zT 113 5 = some (.iconst 5, 1, 0, 0, 0) := by rfl
theorem t113_6 : zT 113 6 = some (.if_icmp .ge 7, 3, 0, 0, 0) := by rfl
theorem t113_9 : zT 113 9 = some (.iconst 1, 1, 0, 0, 0) := by rfl
theorem t113_10 : zT 113 10 = some (.goto 4, 3, 0, 0, 0) := by rfl
theorem t113_13 : zT 113 13 = some (.iconst 0, 1, 0, 0, 0) := by rfl
theorem t113_14 : zT 113 14 = some (.ireturn, 1, 0, 0, 0) := by rfl
theorem t114_0 : zT 114 0 = some (.aload_n 0, 1, 0, 0, 0) := by rfl
theorem t114_1 : zT 114 1 = some (.getfield 47, 3, 9, 5, 297) := by rfl
theorem t114_4 : zT 114 4 = some (.iload_n 1, 1, 0, 0, 0) := by rfl
theorem t114_5 : zT 114 5 = some (.aload_n 0, 1, 0, 0, 0) := by rfl
theorem t114_6 : zT 114 6 = some (.getfield 12, 3, 9, 0, 292) := by rfl
theorem t114_9 : zT 114 9 = some (.invokevirtual 172, 3, 82, 0, 615) := by rfl
theorem t114_12 : zT 114 12 = some (.aload_n 0, 1, 0, 0, 0) := by rfl
theorem t114_13 : zT 114 13 = some (.getfield 47, 3, 9, 5, 297) := by rfl
theorem t114_16 : zT 114 16 = some (.getfield 282, 3, 8, 4, 280) := by rfl
theorem t114_19 : zT 114 19 = some (.ireturn, 1, 0, 0, 0) := by rfl
/-! X9_begin FiveInks.begin -/
theorem k88_0 {X : Nat × (Nat → Int32)} {I : Nat → Nat → Int32}   : zr X 88 0 [.ref 1] [] (zk I) = zcb (zr X 38 0 [.ref 142, .null] [] (zk I)) (fun v m1 => zr X 88 7 [.ref 1] (v.toList ++ []) m1) :=
  (zr_aload_n t88_0 rfl).trans <|
    (zr_getR (u := 142) t88_1 (rfl)).trans <|
    zr_callv t88_4 rfl rfl rfl rfl
theorem k88_7 {X : Nat × (Nat → Int32)} {I : Nat → Nat → Int32} {s0 : Int32}  : zr X 88 7 [.ref 1] [.int s0] (zk I) = if ¬ s0 = 0 then zr X 88 13 [.ref 1] [] (zk I) else zr X 88 10 [.ref 1] [] (zk I) :=
  zr_if_ne (tgt := 13) t88_7 rfl
theorem k88_10 {X : Nat × (Nat → Int32)} {I : Nat → Nat → Int32}   : zr X 88 10 [.ref 1] [] (zk I) = some (some (.int (-3)), zk I) :=
  (zr_bipush t88_10 zcb_m3).trans <|
    zr_iret t88_12 rfl
theorem k88_13 {X : Nat × (Nat → Int32)} {I : Nat → Nat → Int32}   : zr X 88 13 [.ref 1] [] (zk I) = zcb (zr X 1 0 [.ref 17, .ref 2] [] (zk I)) (fun v m1 => zr X 88 24 [.ref 1] (v.toList ++ []) m1) :=
  (zr_aload_n t88_13 rfl).trans <|
    (zr_getR (u := 17) t88_14 (rfl)).trans <|
    (zr_aload_n t88_17 rfl).trans <|
    (zr_getR (u := 2) t88_18 (rfl)).trans <|
    zr_callv t88_21 rfl rfl rfl rfl
theorem k88_24 {X : Nat × (Nat → Int32)} {I : Nat → Nat → Int32}   : zr X 88 24 [.ref 1] [] (zk I) = zcb (zr X 52 0 [.ref 2, .ref 142, .null] [] (zk I)) (fun v m1 => zr X 88 35 [.ref 1] (v.toList ++ []) m1) :=
  (zr_aload_n t88_24 rfl).trans <|
    (zr_getR (u := 2) t88_25 (rfl)).trans <|
    (zr_aload_n t88_28 rfl).trans <|
    (zr_getR (u := 142) t88_29 (rfl)).trans <|
    zr_callv t88_32 rfl rfl rfl rfl
theorem k88_35 {X : Nat × (Nat → Int32)} {I : Nat → Nat → Int32}   : zr X 88 35 [.ref 1] [] (zk I) = zcb (zr X 35 0 [.ref 142] [] (zk I)) (fun v m1 => zr X 88 42 [.ref 1] (v.toList ++ []) m1) :=
  (zr_aload_n t88_35 rfl).trans <|
    (zr_getR (u := 142) t88_36 (rfl)).trans <|
    zr_callv t88_39 rfl rfl rfl rfl
theorem k88_42 {X : Nat × (Nat → Int32)} {I : Nat → Nat → Int32}   : zr X 88 42 [.ref 1] [] (zk I) = some (some (.int (I 3 1)), zk I) :=
  (zr_aload_n t88_42 rfl).trans <|
    (zr_getR (u := 2) t88_43 (rfl)).trans <|
    (zr_getR (u := 3) t88_46 (rfl)).trans <|
    (zr_getI t88_49 (rfl)).trans <|
    zr_iret t88_52 rfl
/-! X9_rank FiveInks.rank -/
theorem k89_0 {X : Nat × (Nat → Int32)} {I : Nat → Nat → Int32} {v1 : Int32} {v2 : Int32}  : zr X 89 0 [.ref 1, .int v1, .int v2, .null] [] (zk I) = zcb (zr X 113 0 [.int v1] [] (zk I)) (fun v m1 => zr X 89 4 [.ref 1, .int v1, .int v2, .null] (v.toList ++ []) m1) :=
  (zr_iload_n t89_0 rfl).trans <|
    zr_calls t89_1 rfl rfl rfl rfl rfl
theorem k89_4 {X : Nat × (Nat → Int32)} {I : Nat → Nat → Int32} {v1 : Int32} {v2 : Int32} {s0 : Int32}  : zr X 89 4 [.ref 1, .int v1, .int v2, .null] [.int s0] (zk I) = if ¬ s0 = 0 then zr X 89 9 [.ref 1, .int v1, .int v2, .null] [] (zk I) else zr X 89 7 [.ref 1, .int v1, .int v2, .null] [] (zk I) :=
  zr_if_ne (tgt := 9) t89_4 rfl
theorem k89_7 {X : Nat × (Nat → Int32)} {I : Nat → Nat → Int32} {v1 : Int32} {v2 : Int32}  : zr X 89 7 [.ref 1, .int v1, .int v2, .null] [] (zk I) = some (some (.int (-1)), zk I) :=
  (zr_iconst t89_7 zci_m1).trans <|
    zr_iret t89_8 rfl
theorem k89_9 {X : Nat × (Nat → Int32)} {I : Nat → Nat → Int32} {v1 : Int32} {v2 : Int32}  : zr X 89 9 [.ref 1, .int v1, .int v2, .null] [] (zk I) = if v2 < 0 then zr X 89 19 [.ref 1, .int v1, .int v2, .null] [] (zk I) else zr X 89 13 [.ref 1, .int v1, .int v2, .null] [] (zk I) :=
  (zr_iload_n t89_9 rfl).trans <|
    zr_if_lt (tgt := 19) t89_10 rfl
theorem k89_13 {X : Nat × (Nat → Int32)} {I : Nat → Nat → Int32} {v1 : Int32} {v2 : Int32}  : zr X 89 13 [.ref 1, .int v1, .int v2, .null] [] (zk I) = if v2 ≤ 9 then zr X 89 22 [.ref 1, .int v1, .int v2, .null] [] (zk I) else zr X 89 19 [.ref 1, .int v1, .int v2, .null] [] (zk I) :=
  (zr_iload_n t89_13 rfl).trans <|
    (zr_bipush t89_14 zcb_9).trans <|
    zr_ic_le (tgt := 22) t89_16 rfl
theorem k89_19 {X : Nat × (Nat → Int32)} {I : Nat → Nat → Int32} {v1 : Int32} {v2 : Int32}  : zr X 89 19 [.ref 1, .int v1, .int v2, .null] [] (zk I) = some (some (.int (-2)), zk I) :=
  (zr_bipush t89_19 zcb_m2).trans <|
    zr_iret t89_21 rfl
theorem k89_22 {X : Nat × (Nat → Int32)} {I : Nat → Nat → Int32} {v1 : Int32} {v2 : Int32}  : zr X 89 22 [.ref 1, .int v1, .int v2, .null] [] (zk I) = zcb (zr X 1 0 [.ref 17, .ref 2] [] (zk I)) (fun v m1 => zr X 89 33 [.ref 1, .int v1, .int v2, .null] (v.toList ++ []) m1) :=
  (zr_aload_n t89_22 rfl).trans <|
    (zr_getR (u := 17) t89_23 (rfl)).trans <|
    (zr_aload_n t89_26 rfl).trans <|
    (zr_getR (u := 2) t89_27 (rfl)).trans <|
    zr_callv t89_30 rfl rfl rfl rfl
theorem k89_33 {X : Nat × (Nat → Int32)} {I : Nat → Nat → Int32} {v1 : Int32} {v2 : Int32} (q1 : zin v1 5 = true) : zr X 89 33 [.ref 1, .int v1, .int v2, .null] [] (zk I) = some (some (.int (I 16 (zx v1))), zk (zs1 I 16 (zx v1) v2)) :=
  (zr_aload_n t89_33 rfl).trans <|
    (zr_getR (u := 2) t89_34 (rfl)).trans <|
    (zr_getR (u := 16) t89_37 (rfl)).trans <|
    (zr_iload_n t89_40 rfl).trans <|
    (zr_iald (j := zx v1) t89_41 (N := 5) rfl rfl q1).trans <|
    (zr_istore_n t89_42 rfl rfl).trans <|
    (zr_aload_n t89_43 rfl).trans <|
    (zr_getR (u := 2) t89_44 (rfl)).trans <|
    (zr_getR (u := 16) t89_47 (rfl)).trans <|
    (zr_iload_n t89_50 rfl).trans <|
    (zr_iload_n t89_51 rfl).trans <|
    (zr_iast (j := zx v1) t89_52 (N := 5) rfl rfl q1).trans <|
    (zr_iload_n t89_53 rfl).trans <|
    zr_iret t89_54 rfl
/-! X9_mark FiveInks.mark -/
theorem k90_0 {X : Nat × (Nat → Int32)} {I : Nat → Nat → Int32}   : zr X 90 0 [.ref 1, .null] [] (zk I) = zcb (zr X 42 0 [.ref 144, .ref 142, .null, .null] [] (zk I)) (fun v m1 => zr X 90 11 [.ref 1, .null] (v.toList ++ []) m1) :=
  (zr_aload_n t90_0 rfl).trans <|
    (zr_getR (u := 144) t90_1 (rfl)).trans <|
    (zr_aload_n t90_4 rfl).trans <|
    (zr_getR (u := 142) t90_5 (rfl)).trans <|
    zr_callv t90_8 rfl rfl rfl rfl
theorem k90_11 {X : Nat × (Nat → Int32)} {I : Nat → Nat → Int32} {s0 : Int32}  : zr X 90 11 [.ref 1, .null] [.int s0] (zk I) = if s0 = (-6) then zr X 90 19 [.ref 1, .null] [] (zk I) else zr X 90 16 [.ref 1, .null] [] (zk I) :=
  (zr_bipush t90_11 zcb_m6).trans <|
    zr_ic_eq (tgt := 19) t90_13 rfl
theorem k90_16 {X : Nat × (Nat → Int32)} {I : Nat → Nat → Int32}   : zr X 90 16 [.ref 1, .null] [] (zk I) = some (some (.int (-3)), zk I) :=
  (zr_bipush t90_16 zcb_m3).trans <|
    zr_iret t90_18 rfl
theorem k90_19 {X : Nat × (Nat → Int32)} {I : Nat → Nat → Int32}   : zr X 90 19 [.ref 1, .null] [] (zk I) = zcb (zr X 1 0 [.ref 17, .ref 2] [] (zk I)) (fun v m1 => zr X 90 30 [.ref 1, .null] (v.toList ++ []) m1) :=
  (zr_aload_n t90_19 rfl).trans <|
    (zr_getR (u := 17) t90_20 (rfl)).trans <|
    (zr_aload_n t90_23 rfl).trans <|
    (zr_getR (u := 2) t90_24 (rfl)).trans <|
    zr_callv t90_27 rfl rfl rfl rfl
theorem k90_30 {X : Nat × (Nat → Int32)} {I : Nat → Nat → Int32}   : zr X 90 30 [.ref 1, .null] [] (zk I) = zr X 90 32 [.ref 1, .int 0] [] (zk I) :=
  (zr_iconst t90_30 zci_0).trans <|
    zr_istore_n t90_31 rfl rfl
theorem k90_32 {X : Nat × (Nat → Int32)} {I : Nat → Nat → Int32} {v1 : Int32}  : zr X 90 32 [.ref 1, .int v1] [] (zk I) = if (I 145 7) ≤ v1 then zr X 90 88 [.ref 1, .int v1] [] (zk I) else zr X 90 46 [.ref 1, .int v1] [] (zk I) :=
  (zr_iload_n t90_32 rfl).trans <|
    (zr_aload_n t90_33 rfl).trans <|
    (zr_getR (u := 144) t90_34 (rfl)).trans <|
    (zr_getR (u := 145) t90_37 (rfl)).trans <|
    (zr_getI t90_40 (rfl)).trans <|
    zr_ic_ge (tgt := 88) t90_43 rfl
theorem k90_46 {X : Nat × (Nat → Int32)} {I : Nat → Nat → Int32} {v1 : Int32}  : zr X 90 46 [.ref 1, .int v1] [] (zk I) = zcb (zr X 54 0 [.ref 2, .ref 145, .int v1, .null, .null, .null] [] (zk I)) (fun v m1 => zr X 90 61 [.ref 1, .int v1] (v.toList ++ []) m1) :=
  (zr_aload_n t90_46 rfl).trans <|
    (zr_getR (u := 2) t90_47 (rfl)).trans <|
    (zr_aload_n t90_50 rfl).trans <|
    (zr_getR (u := 144) t90_51 (rfl)).trans <|
    (zr_getR (u := 145) t90_54 (rfl)).trans <|
    (zr_iload_n t90_57 rfl).trans <|
    zr_callv t90_58 rfl rfl rfl rfl
theorem k90_61 {X : Nat × (Nat → Int32)} {I : Nat → Nat → Int32} {v1 : Int32} {s0 : Int32}  : zr X 90 61 [.ref 1, .int v1] [.int s0] (zk I) = if s0 = 0 then zr X 90 88 [.ref 1, .int v1] [] (zk I) else zr X 90 64 [.ref 1, .int v1] [] (zk I) :=
  zr_if_eq (tgt := 88) t90_61 rfl
theorem k90_64 {X : Nat × (Nat → Int32)} {I : Nat → Nat → Int32} {v1 : Int32}  : zr X 90 64 [.ref 1, .int v1] [] (zk I) = zcb (zr X 8 0 [.ref 5, .ref 145, .int v1] [] (zk I)) (fun v m1 => zr X 90 82 [.ref 1, .int v1] (v.toList ++ []) m1) :=
  (zr_aload_n t90_64 rfl).trans <|
    (zr_getR (u := 2) t90_65 (rfl)).trans <|
    (zr_getR (u := 5) t90_68 (rfl)).trans <|
    (zr_aload_n t90_71 rfl).trans <|
    (zr_getR (u := 144) t90_72 (rfl)).trans <|
    (zr_getR (u := 145) t90_75 (rfl)).trans <|
    (zr_iload_n t90_78 rfl).trans <|
    zr_callv t90_79 rfl rfl rfl rfl
theorem k90_82 {X : Nat × (Nat → Int32)} {I : Nat → Nat → Int32} {v1 : Int32}  : zr X 90 82 [.ref 1, .int v1] [] (zk I) = zr X 90 32 [.ref 1, .int (v1 + 1)] [] (zk I) :=
  (zr_iinc t90_82 rfl rfl (congrArg (fun z => v1 + z) zci_1) rfl).trans <|
    zr_goto (tgt := 32) t90_85 rfl
theorem k90_88 {X : Nat × (Nat → Int32)} {I : Nat → Nat → Int32} {v1 : Int32}  : zr X 90 88 [.ref 1, .int v1] [] (zk I) = zcb (zr X 35 0 [.ref 142] [] (zk I)) (fun v m1 => zr X 90 95 [.ref 1, .int v1] (v.toList ++ []) m1) :=
  (zr_aload_n t90_88 rfl).trans <|
    (zr_getR (u := 142) t90_89 (rfl)).trans <|
    zr_callv t90_92 rfl rfl rfl rfl
theorem k90_95 {X : Nat × (Nat → Int32)} {I : Nat → Nat → Int32} {v1 : Int32}  : zr X 90 95 [.ref 1, .int v1] [] (zk I) = some (some (.int v1), zk I) :=
  (zr_iload_n t90_95 rfl).trans <|
    zr_iret t90_96 rfl
/-! X9_strike FiveInks.strike -/
theorem k91_0 {X : Nat × (Nat → Int32)} {I : Nat → Nat → Int32} {v1 : Int32} {v2 : Int32} {v3 : Int32}  : zr X 91 0 [.ref 1, .int v1, .int v2, .int v3, .null] [] (zk I) = zcb (zr X 113 0 [.int v1] [] (zk I)) (fun v m1 => zr X 91 4 [.ref 1, .int v1, .int v2, .int v3, .null] (v.toList ++ []) m1) :=
  (zr_iload_n t91_0 rfl).trans <|
    zr_calls t91_1 rfl rfl rfl rfl rfl
theorem k91_4 {X : Nat × (Nat → Int32)} {I : Nat → Nat → Int32} {v1 : Int32} {v2 : Int32} {v3 : Int32} {s0 : Int32}  : zr X 91 4 [.ref 1, .int v1, .int v2, .int v3, .null] [.int s0] (zk I) = if s0 = 0 then zr X 91 29 [.ref 1, .int v1, .int v2, .int v3, .null] [] (zk I) else zr X 91 7 [.ref 1, .int v1, .int v2, .int v3, .null] [] (zk I) :=
  zr_if_eq (tgt := 29) t91_4 rfl
theorem k91_7 {X : Nat × (Nat → Int32)} {I : Nat → Nat → Int32} {v1 : Int32} {v2 : Int32} {v3 : Int32}  : zr X 91 7 [.ref 1, .int v1, .int v2, .int v3, .null] [] (zk I) = zcb (zr X 53 0 [.ref 2, .int v2] [] (zk I)) (fun v m1 => zr X 91 15 [.ref 1, .int v1, .int v2, .int v3, .null] (v.toList ++ []) m1) :=
  (zr_aload_n t91_7 rfl).trans <|
    (zr_getR (u := 2) t91_8 (rfl)).trans <|
    (zr_iload_n t91_11 rfl).trans <|
    zr_callv t91_12 rfl rfl rfl rfl
theorem k91_15 {X : Nat × (Nat → Int32)} {I : Nat → Nat → Int32} {v1 : Int32} {v2 : Int32} {v3 : Int32} {s0 : Int32}  : zr X 91 15 [.ref 1, .int v1, .int v2, .int v3, .null] [.int s0] (zk I) = if s0 = 0 then zr X 91 29 [.ref 1, .int v1, .int v2, .int v3, .null] [] (zk I) else zr X 91 18 [.ref 1, .int v1, .int v2, .int v3, .null] [] (zk I) :=
  zr_if_eq (tgt := 29) t91_15 rfl
theorem k91_18 {X : Nat × (Nat → Int32)} {I : Nat → Nat → Int32} {v1 : Int32} {v2 : Int32} {v3 : Int32}  : zr X 91 18 [.ref 1, .int v1, .int v2, .int v3, .null] [] (zk I) = zcb (zr X 53 0 [.ref 2, .int v3] [] (zk I)) (fun v m1 => zr X 91 26 [.ref 1, .int v1, .int v2, .int v3, .null] (v.toList ++ []) m1) :=
  (zr_aload_n t91_18 rfl).trans <|
    (zr_getR (u := 2) t91_19 (rfl)).trans <|
    (zr_iload_n t91_22 rfl).trans <|
    zr_callv t91_23 rfl rfl rfl rfl
theorem k91_26 {X : Nat × (Nat → Int32)} {I : Nat → Nat → Int32} {v1 : Int32} {v2 : Int32} {v3 : Int32} {s0 : Int32}  : zr X 91 26 [.ref 1, .int v1, .int v2, .int v3, .null] [.int s0] (zk I) = if ¬ s0 = 0 then zr X 91 31 [.ref 1, .int v1, .int v2, .int v3, .null] [] (zk I) else zr X 91 29 [.ref 1, .int v1, .int v2, .int v3, .null] [] (zk I) :=
  zr_if_ne (tgt := 31) t91_26 rfl
theorem k91_29 {X : Nat × (Nat → Int32)} {I : Nat → Nat → Int32} {v1 : Int32} {v2 : Int32} {v3 : Int32}  : zr X 91 29 [.ref 1, .int v1, .int v2, .int v3, .null] [] (zk I) = some (some (.int (-1)), zk I) :=
  (zr_iconst t91_29 zci_m1).trans <|
    zr_iret t91_30 rfl
theorem k91_31 {X : Nat × (Nat → Int32)} {I : Nat → Nat → Int32} {v1 : Int32} {v2 : Int32} {v3 : Int32}  : zr X 91 31 [.ref 1, .int v1, .int v2, .int v3, .null] [] (zk I) = if v2 < v3 then zr X 91 39 [.ref 1, .int v1, .int v2, .int v3, .null] [] (zk I) else zr X 91 36 [.ref 1, .int v1, .int v2, .int v3, .null] [] (zk I) :=
  (zr_iload_n t91_31 rfl).trans <|
    (zr_iload_n t91_32 rfl).trans <|
    zr_ic_gt (tgt := 39) t91_33 rfl
theorem k91_36 {X : Nat × (Nat → Int32)} {I : Nat → Nat → Int32} {v1 : Int32} {v2 : Int32} {v3 : Int32}  : zr X 91 36 [.ref 1, .int v1, .int v2, .int v3, .null] [] (zk I) = some (some (.int (-2)), zk I) :=
  (zr_bipush t91_36 zcb_m2).trans <|
    zr_iret t91_38 rfl
theorem k91_39 {X : Nat × (Nat → Int32)} {I : Nat → Nat → Int32} {v1 : Int32} {v2 : Int32} {v3 : Int32}  : zr X 91 39 [.ref 1, .int v1, .int v2, .int v3, .null] [] (zk I) = if (I 5 7) < 20 then zr X 91 57 [.ref 1, .int v1, .int v2, .int v3, .null] [] (zk I) else zr X 91 54 [.ref 1, .int v1, .int v2, .int v3, .null] [] (zk I) :=
  (zr_aload_n t91_39 rfl).trans <|
    (zr_getR (u := 2) t91_40 (rfl)).trans <|
    (zr_getR (u := 5) t91_43 (rfl)).trans <|
    (zr_getI t91_46 (rfl)).trans <|
    (zr_bipush t91_49 zcb_20).trans <|
    zr_ic_lt (tgt := 57) t91_51 rfl
theorem k91_54 {X : Nat × (Nat → Int32)} {I : Nat → Nat → Int32} {v1 : Int32} {v2 : Int32} {v3 : Int32}  : zr X 91 54 [.ref 1, .int v1, .int v2, .int v3, .null] [] (zk I) = some (some (.int (-4)), zk I) :=
  (zr_bipush t91_54 zcb_m4).trans <|
    zr_iret t91_56 rfl
theorem k91_57 {X : Nat × (Nat → Int32)} {I : Nat → Nat → Int32} {v1 : Int32} {v2 : Int32} {v3 : Int32}  : zr X 91 57 [.ref 1, .int v1, .int v2, .int v3, .null] [] (zk I) = zcb (zr X 4 0 [.ref 145] [] (zk I)) (fun v m1 => zr X 91 71 [.ref 1, .int v1, .int v2, .int v3, .ref 145] (v.toList ++ []) m1) :=
  (zr_aload_n t91_57 rfl).trans <|
    (zr_getR (u := 144) t91_58 (rfl)).trans <|
    (zr_getR (u := 145) t91_61 (rfl)).trans <|
    (zr_astore t91_64 rfl rfl).trans <|
    (zr_aload t91_66 rfl).trans <|
    zr_callv t91_68 rfl rfl rfl rfl
theorem k91_71 {X : Nat × (Nat → Int32)} {I : Nat → Nat → Int32} {v1 : Int32} {v2 : Int32} {v3 : Int32}  : zr X 91 71 [.ref 1, .int v1, .int v2, .int v3, .ref 145] [] (zk I) = zcb (zr X 6 0 [.ref 145, .int v1, .int 0, .int v2, .int v3] [] (zk I)) (fun v m1 => zr X 91 80 [.ref 1, .int v1, .int v2, .int v3, .ref 145] (v.toList ++ []) m1) :=
  (zr_aload t91_71 rfl).trans <|
    (zr_iload_n t91_73 rfl).trans <|
    (zr_iconst t91_74 zci_0).trans <|
    (zr_iload_n t91_75 rfl).trans <|
    (zr_iload_n t91_76 rfl).trans <|
    zr_callv t91_77 rfl rfl rfl rfl
theorem k91_80 {X : Nat × (Nat → Int32)} {I : Nat → Nat → Int32} {v1 : Int32} {v2 : Int32} {v3 : Int32}  : zr X 91 80 [.ref 1, .int v1, .int v2, .int v3, .ref 145] [] (zk I) = zcb (zr X 15 0 [.ref 5, .ref 145, .int 0, .null] [] (zk I)) (fun v m1 => zr X 91 93 [.ref 1, .int v1, .int v2, .int v3, .ref 145] (v.toList ++ []) m1) :=
  (zr_aload_n t91_80 rfl).trans <|
    (zr_getR (u := 2) t91_81 (rfl)).trans <|
    (zr_getR (u := 5) t91_84 (rfl)).trans <|
    (zr_aload t91_87 rfl).trans <|
    (zr_iconst t91_89 zci_0).trans <|
    zr_callv t91_90 rfl rfl rfl rfl
theorem k91_93 {X : Nat × (Nat → Int32)} {I : Nat → Nat → Int32} {v1 : Int32} {v2 : Int32} {v3 : Int32} {s0 : Int32}  : zr X 91 93 [.ref 1, .int v1, .int v2, .int v3, .ref 145] [.int s0] (zk I) = if s0 = 0 then zr X 91 99 [.ref 1, .int v1, .int v2, .int v3, .ref 145] [] (zk I) else zr X 91 96 [.ref 1, .int v1, .int v2, .int v3, .ref 145] [] (zk I) :=
  zr_if_eq (tgt := 99) t91_93 rfl
theorem k91_96 {X : Nat × (Nat → Int32)} {I : Nat → Nat → Int32} {v1 : Int32} {v2 : Int32} {v3 : Int32}  : zr X 91 96 [.ref 1, .int v1, .int v2, .int v3, .ref 145] [] (zk I) = some (some (.int (-5)), zk I) :=
  (zr_bipush t91_96 zcb_m5).trans <|
    zr_iret t91_98 rfl
theorem k91_99 {X : Nat × (Nat → Int32)} {I : Nat → Nat → Int32} {v1 : Int32} {v2 : Int32} {v3 : Int32}  : zr X 91 99 [.ref 1, .int v1, .int v2, .int v3, .ref 145] [] (zk I) = zcb (zr X 1 0 [.ref 17, .ref 2] [] (zk I)) (fun v m1 => zr X 91 110 [.ref 1, .int v1, .int v2, .int v3, .ref 145] (v.toList ++ []) m1) :=
  (zr_aload_n t91_99 rfl).trans <|
    (zr_getR (u := 17) t91_100 (rfl)).trans <|
    (zr_aload_n t91_103 rfl).trans <|
    (zr_getR (u := 2) t91_104 (rfl)).trans <|
    zr_callv t91_107 rfl rfl rfl rfl
theorem k91_110 {X : Nat × (Nat → Int32)} {I : Nat → Nat → Int32} {v1 : Int32} {v2 : Int32} {v3 : Int32}  : zr X 91 110 [.ref 1, .int v1, .int v2, .int v3, .ref 145] [] (zk I) = zcb (zr X 8 0 [.ref 5, .ref 145, .int 0] [] (zk I)) (fun v m1 => zr X 91 123 [.ref 1, .int v1, .int v2, .int v3, .ref 145] (v.toList ++ []) m1) :=
  (zr_aload_n t91_110 rfl).trans <|
    (zr_getR (u := 2) t91_111 (rfl)).trans <|
    (zr_getR (u := 5) t91_114 (rfl)).trans <|
    (zr_aload t91_117 rfl).trans <|
    (zr_iconst t91_119 zci_0).trans <|
    zr_callv t91_120 rfl rfl rfl rfl
theorem k91_123 {X : Nat × (Nat → Int32)} {I : Nat → Nat → Int32} {v1 : Int32} {v2 : Int32} {v3 : Int32}  : zr X 91 123 [.ref 1, .int v1, .int v2, .int v3, .ref 145] [] (zk I) = some (some (.int ((I 5 7) - 1)), zk I) :=
  (zr_aload_n t91_123 rfl).trans <|
    (zr_getR (u := 2) t91_124 (rfl)).trans <|
    (zr_getR (u := 5) t91_127 (rfl)).trans <|
    (zr_getI t91_130 (rfl)).trans <|
    (zr_iconst t91_133 zci_1).trans <|
    (zr_isub t91_134).trans <|
    zr_iret t91_135 rfl
/-! X9_accept FiveInks.accept -/
theorem k92_0 {X : Nat × (Nat → Int32)} {I : Nat → Nat → Int32} {v1 : Int32}  : zr X 92 0 [.ref 1, .int v1] [] (zk I) = zcb (zr X 5 0 [.ref 5, .int v1] [] (zk I)) (fun v m1 => zr X 92 11 [.ref 1, .int v1] (v.toList ++ []) m1) :=
  (zr_aload_n t92_0 rfl).trans <|
    (zr_getR (u := 2) t92_1 (rfl)).trans <|
    (zr_getR (u := 5) t92_4 (rfl)).trans <|
    (zr_iload_n t92_7 rfl).trans <|
    zr_callv t92_8 rfl rfl rfl rfl
theorem k92_11 {X : Nat × (Nat → Int32)} {I : Nat → Nat → Int32} {v1 : Int32} {s0 : Int32}  : zr X 92 11 [.ref 1, .int v1] [.int s0] (zk I) = if ¬ s0 = 0 then zr X 92 16 [.ref 1, .int v1] [] (zk I) else zr X 92 14 [.ref 1, .int v1] [] (zk I) :=
  zr_if_ne (tgt := 16) t92_11 rfl
theorem k92_14 {X : Nat × (Nat → Int32)} {I : Nat → Nat → Int32} {v1 : Int32}  : zr X 92 14 [.ref 1, .int v1] [] (zk I) = some (some (.int (-1)), zk I) :=
  (zr_iconst t92_14 zci_m1).trans <|
    zr_iret t92_15 rfl
theorem k92_16 {X : Nat × (Nat → Int32)} {I : Nat → Nat → Int32} {v1 : Int32}  : zr X 92 16 [.ref 1, .int v1] [] (zk I) = zcb (zr X 57 0 [.ref 2, .int v1] [] (zk I)) (fun v m1 => zr X 92 24 [.ref 1, .int v1] (v.toList ++ []) m1) :=
  (zr_aload_n t92_16 rfl).trans <|
    (zr_getR (u := 2) t92_17 (rfl)).trans <|
    (zr_iload_n t92_20 rfl).trans <|
    zr_callv t92_21 rfl rfl rfl rfl
theorem k92_24 {X : Nat × (Nat → Int32)} {I : Nat → Nat → Int32} {v1 : Int32} {s0 : Int32}  : zr X 92 24 [.ref 1, .int v1] [.int s0] (zk I) = if ¬ s0 = 0 then zr X 92 30 [.ref 1, .int v1] [] (zk I) else zr X 92 27 [.ref 1, .int v1] [] (zk I) :=
  zr_if_ne (tgt := 30) t92_24 rfl
theorem k92_27 {X : Nat × (Nat → Int32)} {I : Nat → Nat → Int32} {v1 : Int32}  : zr X 92 27 [.ref 1, .int v1] [] (zk I) = some (some (.int (-5)), zk I) :=
  (zr_bipush t92_27 zcb_m5).trans <|
    zr_iret t92_29 rfl
theorem k92_30 {X : Nat × (Nat → Int32)} {I : Nat → Nat → Int32} {v1 : Int32}  : zr X 92 30 [.ref 1, .int v1] [] (zk I) = zcb (zr X 1 0 [.ref 17, .ref 2] [] (zk I)) (fun v m1 => zr X 92 41 [.ref 1, .int v1] (v.toList ++ []) m1) :=
  (zr_aload_n t92_30 rfl).trans <|
    (zr_getR (u := 17) t92_31 (rfl)).trans <|
    (zr_aload_n t92_34 rfl).trans <|
    (zr_getR (u := 2) t92_35 (rfl)).trans <|
    zr_callv t92_38 rfl rfl rfl rfl
theorem k92_41 {X : Nat × (Nat → Int32)} {I : Nat → Nat → Int32} {v1 : Int32}  : zr X 92 41 [.ref 1, .int v1] [] (zk I) = zcb (zr X 19 0 [.ref 5, .int v1, .null, .null] [] (zk I)) (fun v m1 => zr X 92 52 [.ref 1, .int v1] (v.toList ++ []) m1) :=
  (zr_aload_n t92_41 rfl).trans <|
    (zr_getR (u := 2) t92_42 (rfl)).trans <|
    (zr_getR (u := 5) t92_45 (rfl)).trans <|
    (zr_iload_n t92_48 rfl).trans <|
    zr_callv t92_49 rfl rfl rfl rfl
theorem k92_52 {X : Nat × (Nat → Int32)} {I : Nat → Nat → Int32} {v1 : Int32} {s0 : Int32}  : zr X 92 52 [.ref 1, .int v1] [.int s0] (zk I) = some (some (.int s0), zk I) :=
  zr_iret t92_52 rfl
/-! X9_refuse FiveInks.refuse -/
theorem k93_0 {X : Nat × (Nat → Int32)} {I : Nat → Nat → Int32} {v1 : Int32}  : zr X 93 0 [.ref 1, .int v1] [] (zk I) = zcb (zr X 5 0 [.ref 5, .int v1] [] (zk I)) (fun v m1 => zr X 93 11 [.ref 1, .int v1] (v.toList ++ []) m1) :=
  (zr_aload_n t93_0 rfl).trans <|
    (zr_getR (u := 2) t93_1 (rfl)).trans <|
    (zr_getR (u := 5) t93_4 (rfl)).trans <|
    (zr_iload_n t93_7 rfl).trans <|
    zr_callv t93_8 rfl rfl rfl rfl
theorem k93_11 {X : Nat × (Nat → Int32)} {I : Nat → Nat → Int32} {v1 : Int32} {s0 : Int32}  : zr X 93 11 [.ref 1, .int v1] [.int s0] (zk I) = if ¬ s0 = 0 then zr X 93 16 [.ref 1, .int v1] [] (zk I) else zr X 93 14 [.ref 1, .int v1] [] (zk I) :=
  zr_if_ne (tgt := 16) t93_11 rfl
theorem k93_14 {X : Nat × (Nat → Int32)} {I : Nat → Nat → Int32} {v1 : Int32}  : zr X 93 14 [.ref 1, .int v1] [] (zk I) = some (some (.int (-1)), zk I) :=
  (zr_iconst t93_14 zci_m1).trans <|
    zr_iret t93_15 rfl
theorem k93_16 {X : Nat × (Nat → Int32)} {I : Nat → Nat → Int32} {v1 : Int32} (q1 : zin v1 20 = true) : zr X 93 16 [.ref 1, .int v1] [] (zk I) = if (I 10 (zx v1)) = 0 then zr X 93 34 [.ref 1, .int v1] [] (zk I) else zr X 93 31 [.ref 1, .int v1] [] (zk I) :=
  (zr_aload_n t93_16 rfl).trans <|
    (zr_getR (u := 2) t93_17 (rfl)).trans <|
    (zr_getR (u := 5) t93_20 (rfl)).trans <|
    (zr_getR (u := 10) t93_23 (rfl)).trans <|
    (zr_iload_n t93_26 rfl).trans <|
    (zr_iald (j := zx v1) t93_27 (N := 20) rfl rfl q1).trans <|
    zr_if_eq (tgt := 34) t93_28 rfl
theorem k93_31 {X : Nat × (Nat → Int32)} {I : Nat → Nat → Int32} {v1 : Int32}  : zr X 93 31 [.ref 1, .int v1] [] (zk I) = some (some (.int (-5)), zk I) :=
  (zr_bipush t93_31 zcb_m5).trans <|
    zr_iret t93_33 rfl
theorem k93_34 {X : Nat × (Nat → Int32)} {I : Nat → Nat → Int32} {v1 : Int32}  : zr X 93 34 [.ref 1, .int v1] [] (zk I) = zcb (zr X 1 0 [.ref 17, .ref 2] [] (zk I)) (fun v m1 => zr X 93 45 [.ref 1, .int v1] (v.toList ++ []) m1) :=
  (zr_aload_n t93_34 rfl).trans <|
    (zr_getR (u := 17) t93_35 (rfl)).trans <|
    (zr_aload_n t93_38 rfl).trans <|
    (zr_getR (u := 2) t93_39 (rfl)).trans <|
    zr_callv t93_42 rfl rfl rfl rfl
theorem k93_45 {X : Nat × (Nat → Int32)} {I : Nat → Nat → Int32} {v1 : Int32} (q1 : zin v1 20 = true) : zr X 93 45 [.ref 1, .int v1] [] (zk I) = zcb (zr X 25 0 [.ref 5, .int 0, .null, .null] [] (zk (zs1 I 10 (zx v1) 2))) (fun v m1 => zr X 93 69 [.ref 1, .int v1] (v.toList ++ []) m1) :=
  (zr_aload_n t93_45 rfl).trans <|
    (zr_getR (u := 2) t93_46 (rfl)).trans <|
    (zr_getR (u := 5) t93_49 (rfl)).trans <|
    (zr_getR (u := 10) t93_52 (rfl)).trans <|
    (zr_iload_n t93_55 rfl).trans <|
    (zr_iconst t93_56 zci_2).trans <|
    (zr_iast (j := zx v1) t93_57 (N := 20) rfl rfl q1).trans <|
    (zr_aload_n t93_58 rfl).trans <|
    (zr_getR (u := 2) t93_59 (rfl)).trans <|
    (zr_getR (u := 5) t93_62 (rfl)).trans <|
    (zr_iconst t93_65 zci_0).trans <|
    zr_callv t93_66 rfl rfl rfl rfl
theorem k93_69 {X : Nat × (Nat → Int32)} {I : Nat → Nat → Int32} {v1 : Int32} {s0 : Int32}  : zr X 93 69 [.ref 1, .int v1] [.int s0] (zk I) = some (some (.int s0), zk I) :=
  zr_iret t93_69 rfl
/-! X9_wash FiveInks.wash -/
theorem k94_0 {X : Nat × (Nat → Int32)} {I : Nat → Nat → Int32} {v1 : Int32}  : zr X 94 0 [.ref 1, .int v1] [] (zk I) = zcb (zr X 5 0 [.ref 5, .int v1] [] (zk I)) (fun v m1 => zr X 94 11 [.ref 1, .int v1] (v.toList ++ []) m1) :=
  (zr_aload_n t94_0 rfl).trans <|
    (zr_getR (u := 2) t94_1 (rfl)).trans <|
    (zr_getR (u := 5) t94_4 (rfl)).trans <|
    (zr_iload_n t94_7 rfl).trans <|
    zr_callv t94_8 rfl rfl rfl rfl
theorem k94_11 {X : Nat × (Nat → Int32)} {I : Nat → Nat → Int32} {v1 : Int32} {s0 : Int32}  : zr X 94 11 [.ref 1, .int v1] [.int s0] (zk I) = if ¬ s0 = 0 then zr X 94 16 [.ref 1, .int v1] [] (zk I) else zr X 94 14 [.ref 1, .int v1] [] (zk I) :=
  zr_if_ne (tgt := 16) t94_11 rfl
theorem k94_14 {X : Nat × (Nat → Int32)} {I : Nat → Nat → Int32} {v1 : Int32}  : zr X 94 14 [.ref 1, .int v1] [] (zk I) = some (some (.int (-1)), zk I) :=
  (zr_iconst t94_14 zci_m1).trans <|
    zr_iret t94_15 rfl
theorem k94_16 {X : Nat × (Nat → Int32)} {I : Nat → Nat → Int32} {v1 : Int32}  : zr X 94 16 [.ref 1, .int v1] [] (zk I) = zcb (zr X 56 0 [.ref 2, .int v1] [] (zk I)) (fun v m1 => zr X 94 24 [.ref 1, .int v1] (v.toList ++ []) m1) :=
  (zr_aload_n t94_16 rfl).trans <|
    (zr_getR (u := 2) t94_17 (rfl)).trans <|
    (zr_iload_n t94_20 rfl).trans <|
    zr_callv t94_21 rfl rfl rfl rfl
theorem k94_24 {X : Nat × (Nat → Int32)} {I : Nat → Nat → Int32} {v1 : Int32} {s0 : Int32}  : zr X 94 24 [.ref 1, .int v1] [.int s0] (zk I) = if s0 ≤ 60 then zr X 94 32 [.ref 1, .int v1] [] (zk I) else zr X 94 29 [.ref 1, .int v1] [] (zk I) :=
  (zr_bipush t94_24 zcb_60).trans <|
    zr_ic_le (tgt := 32) t94_26 rfl
theorem k94_29 {X : Nat × (Nat → Int32)} {I : Nat → Nat → Int32} {v1 : Int32}  : zr X 94 29 [.ref 1, .int v1] [] (zk I) = some (some (.int (-5)), zk I) :=
  (zr_bipush t94_29 zcb_m5).trans <|
    zr_iret t94_31 rfl
theorem k94_32 {X : Nat × (Nat → Int32)} {I : Nat → Nat → Int32} {v1 : Int32}  : zr X 94 32 [.ref 1, .int v1] [] (zk I) = zcb (zr X 1 0 [.ref 17, .ref 2] [] (zk I)) (fun v m1 => zr X 94 43 [.ref 1, .int v1] (v.toList ++ []) m1) :=
  (zr_aload_n t94_32 rfl).trans <|
    (zr_getR (u := 17) t94_33 (rfl)).trans <|
    (zr_aload_n t94_36 rfl).trans <|
    (zr_getR (u := 2) t94_37 (rfl)).trans <|
    zr_callv t94_40 rfl rfl rfl rfl
theorem k94_43 {X : Nat × (Nat → Int32)} {I : Nat → Nat → Int32} {v1 : Int32}  : zr X 94 43 [.ref 1, .int v1] [] (zk I) = zcb (zr X 9 0 [.ref 5, .int v1, .null] [] (zk I)) (fun v m1 => zr X 94 54 [.ref 1, .int v1] (v.toList ++ []) m1) :=
  (zr_aload_n t94_43 rfl).trans <|
    (zr_getR (u := 2) t94_44 (rfl)).trans <|
    (zr_getR (u := 5) t94_47 (rfl)).trans <|
    (zr_iload_n t94_50 rfl).trans <|
    zr_callv t94_51 rfl rfl rfl rfl
theorem k94_54 {X : Nat × (Nat → Int32)} {I : Nat → Nat → Int32} {v1 : Int32}  : zr X 94 54 [.ref 1, .int v1] [] (zk I) = some (some (.int (I 5 7)), zk I) :=
  (zr_aload_n t94_54 rfl).trans <|
    (zr_getR (u := 2) t94_55 (rfl)).trans <|
    (zr_getR (u := 5) t94_58 (rfl)).trans <|
    (zr_getI t94_61 (rfl)).trans <|
    zr_iret t94_64 rfl
/-! X9_judge FiveInks.judge -/
theorem k95_0 {X : Nat × (Nat → Int32)} {I : Nat → Nat → Int32}   : zr X 95 0 [.ref 1] [] (zk I) = zcb (zr X 1 0 [.ref 17, .ref 2] [] (zk I)) (fun v m1 => zr X 95 11 [.ref 1] (v.toList ++ []) m1) :=
  (zr_aload_n t95_0 rfl).trans <|
    (zr_getR (u := 17) t95_1 (rfl)).trans <|
    (zr_aload_n t95_4 rfl).trans <|
    (zr_getR (u := 2) t95_5 (rfl)).trans <|
    zr_callv t95_8 rfl rfl rfl rfl
theorem k95_11 {X : Nat × (Nat → Int32)} {I : Nat → Nat → Int32}   : zr X 95 11 [.ref 1] [] (zk I) = zcb (zr X 58 0 [.ref 2, .null, .null, .null] [] (zk I)) (fun v m1 => zr X 95 18 [.ref 1] (v.toList ++ []) m1) :=
  (zr_aload_n t95_11 rfl).trans <|
    (zr_getR (u := 2) t95_12 (rfl)).trans <|
    zr_callv t95_15 rfl rfl rfl rfl
theorem k95_18 {X : Nat × (Nat → Int32)} {I : Nat → Nat → Int32} {s0 : Int32}  : zr X 95 18 [.ref 1] [.int s0] (zk I) = some (some (.int s0), zk I) :=
  zr_iret t95_18 rfl
/-! X9_ship FiveInks.ship -/
theorem k96_0 {X : Nat × (Nat → Int32)} {I : Nat → Nat → Int32}   : zr X 96 0 [.ref 1] [] (zk I) = zcb (zr X 1 0 [.ref 17, .ref 2] [] (zk I)) (fun v m1 => zr X 96 11 [.ref 1] (v.toList ++ []) m1) :=
  (zr_aload_n t96_0 rfl).trans <|
    (zr_getR (u := 17) t96_1 (rfl)).trans <|
    (zr_aload_n t96_4 rfl).trans <|
    (zr_getR (u := 2) t96_5 (rfl)).trans <|
    zr_callv t96_8 rfl rfl rfl rfl
theorem k96_11 {X : Nat × (Nat → Int32)} {I : Nat → Nat → Int32}   : zr X 96 11 [.ref 1] [] (zk I) = zcb (zr X 81 0 [.ref 153, .ref 2, .null] [] (zk I)) (fun v m1 => zr X 96 22 [.ref 1] (v.toList ++ []) m1) :=
  (zr_aload_n t96_11 rfl).trans <|
    (zr_getR (u := 153) t96_12 (rfl)).trans <|
    (zr_aload_n t96_15 rfl).trans <|
    (zr_getR (u := 2) t96_16 (rfl)).trans <|
    zr_callv t96_19 rfl rfl rfl rfl
theorem k96_22 {X : Nat × (Nat → Int32)} {I : Nat → Nat → Int32}   : zr X 96 22 [.ref 1] [] (zk I) = zcb (zr X 60 0 [.ref 2, .ref 153, .null] [] (zk I)) (fun v m1 => zr X 96 33 [.ref 1] (v.toList ++ []) m1) :=
  (zr_aload_n t96_22 rfl).trans <|
    (zr_getR (u := 2) t96_23 (rfl)).trans <|
    (zr_aload_n t96_26 rfl).trans <|
    (zr_getR (u := 153) t96_27 (rfl)).trans <|
    zr_callv t96_30 rfl rfl rfl rfl
theorem k96_33 {X : Nat × (Nat → Int32)} {I : Nat → Nat → Int32}   : zr X 96 33 [.ref 1] [] (zk I) = some (some (.int ((I 13 2) - 1)), zk I) :=
  (zr_aload_n t96_33 rfl).trans <|
    (zr_getR (u := 2) t96_34 (rfl)).trans <|
    (zr_getR (u := 13) t96_37 (rfl)).trans <|
    (zr_getI t96_40 (rfl)).trans <|
    (zr_iconst t96_43 zci_1).trans <|
    (zr_isub t96_44).trans <|
    zr_iret t96_45 rfl
/-! X9_letter FiveInks.letter -/
theorem k97_0 {X : Nat × (Nat → Int32)} {I : Nat → Nat → Int32} {v1 : Int32} {v2 : Int32}  : zr X 97 0 [.ref 1, .int v1, .int v2] [] (zk I) = if ¬ v1 = 0 then zr X 97 16 [.ref 1, .int v1, .int v2] [] (zk I) else zr X 97 4 [.ref 1, .int v1, .int v2] [] (zk I) :=
  (zr_iload_n t97_0 rfl).trans <|
    zr_if_ne (tgt := 16) t97_1 rfl
theorem k97_4 {X : Nat × (Nat → Int32)} {I : Nat → Nat → Int32} {v1 : Int32} {v2 : Int32}  : zr X 97 4 [.ref 1, .int v1, .int v2] [] (zk I) = zcb (zr X 67 0 [.ref 3, .int v2] [] (zk I)) (fun v m1 => zr X 97 15 [.ref 1, .int v1, .int v2] (v.toList ++ []) m1) :=
  (zr_aload_n t97_4 rfl).trans <|
    (zr_getR (u := 2) t97_5 (rfl)).trans <|
    (zr_getR (u := 3) t97_8 (rfl)).trans <|
    (zr_iload_n t97_11 rfl).trans <|
    zr_callv t97_12 rfl rfl rfl rfl
theorem k97_15 {X : Nat × (Nat → Int32)} {I : Nat → Nat → Int32} {v1 : Int32} {v2 : Int32} {s0 : Int32}  : zr X 97 15 [.ref 1, .int v1, .int v2] [.int s0] (zk I) = some (some (.int s0), zk I) :=
  zr_iret t97_15 rfl
theorem k97_16 {X : Nat × (Nat → Int32)} {I : Nat → Nat → Int32} {v1 : Int32} {v2 : Int32}  : zr X 97 16 [.ref 1, .int v1, .int v2] [] (zk I) = if ¬ v1 = 1 then zr X 97 41 [.ref 1, .int v1, .int v2] [] (zk I) else zr X 97 21 [.ref 1, .int v1, .int v2] [] (zk I) :=
  (zr_iload_n t97_16 rfl).trans <|
    (zr_iconst t97_17 zci_1).trans <|
    zr_ic_ne (tgt := 41) t97_18 rfl
theorem k97_21 {X : Nat × (Nat → Int32)} {I : Nat → Nat → Int32} {v1 : Int32} {v2 : Int32}  : zr X 97 21 [.ref 1, .int v1, .int v2] [] (zk I) = zcb (zr X 81 0 [.ref 153, .ref 2, .null] [] (zk I)) (fun v m1 => zr X 97 32 [.ref 1, .int v1, .int v2] (v.toList ++ []) m1) :=
  (zr_aload_n t97_21 rfl).trans <|
    (zr_getR (u := 153) t97_22 (rfl)).trans <|
    (zr_aload_n t97_25 rfl).trans <|
    (zr_getR (u := 2) t97_26 (rfl)).trans <|
    zr_callv t97_29 rfl rfl rfl rfl
theorem k97_32 {X : Nat × (Nat → Int32)} {I : Nat → Nat → Int32} {v1 : Int32} {v2 : Int32}  : zr X 97 32 [.ref 1, .int v1, .int v2] [] (zk I) = zcb (zr X 80 0 [.ref 153, .int v2] [] (zk I)) (fun v m1 => zr X 97 40 [.ref 1, .int v1, .int v2] (v.toList ++ []) m1) :=
  (zr_aload_n t97_32 rfl).trans <|
    (zr_getR (u := 153) t97_33 (rfl)).trans <|
    (zr_iload_n t97_36 rfl).trans <|
    zr_callv t97_37 rfl rfl rfl rfl
theorem k97_40 {X : Nat × (Nat → Int32)} {I : Nat → Nat → Int32} {v1 : Int32} {v2 : Int32} {s0 : Int32}  : zr X 97 40 [.ref 1, .int v1, .int v2] [.int s0] (zk I) = some (some (.int s0), zk I) :=
  zr_iret t97_40 rfl
theorem k97_41 {X : Nat × (Nat → Int32)} {I : Nat → Nat → Int32} {v1 : Int32} {v2 : Int32}  : zr X 97 41 [.ref 1, .int v1, .int v2] [] (zk I) = some (some (.int (-2)), zk I) :=
  (zr_bipush t97_41 zcb_m2).trans <|
    zr_iret t97_43 rfl
/-! X9_seen FiveInks.seen -/
theorem k98_0 {X : Nat × (Nat → Int32)} {I : Nat → Nat → Int32} {v1 : Int32} {v2 : Int32}  : zr X 98 0 [.ref 1, .int v1, .int v2] [] (zk I) = zcb (zr X 113 0 [.int v1] [] (zk I)) (fun v m1 => zr X 98 4 [.ref 1, .int v1, .int v2] (v.toList ++ []) m1) :=
  (zr_iload_n t98_0 rfl).trans <|
    zr_calls t98_1 rfl rfl rfl rfl rfl
theorem k98_4 {X : Nat × (Nat → Int32)} {I : Nat → Nat → Int32} {v1 : Int32} {v2 : Int32} {s0 : Int32}  : zr X 98 4 [.ref 1, .int v1, .int v2] [.int s0] (zk I) = if ¬ s0 = 0 then zr X 98 9 [.ref 1, .int v1, .int v2] [] (zk I) else zr X 98 7 [.ref 1, .int v1, .int v2] [] (zk I) :=
  zr_if_ne (tgt := 9) t98_4 rfl
theorem k98_7 {X : Nat × (Nat → Int32)} {I : Nat → Nat → Int32} {v1 : Int32} {v2 : Int32}  : zr X 98 7 [.ref 1, .int v1, .int v2] [] (zk I) = some (some (.int (-1)), zk I) :=
  (zr_iconst t98_7 zci_m1).trans <|
    zr_iret t98_8 rfl
theorem k98_9 {X : Nat × (Nat → Int32)} {I : Nat → Nat → Int32} {v1 : Int32} {v2 : Int32}  : zr X 98 9 [.ref 1, .int v1, .int v2] [] (zk I) = zcb (zr X 82 0 [.ref 153, .int v1, .ref 2, .null, .null] [] (zk I)) (fun v m1 => zr X 98 21 [.ref 1, .int v1, .int v2] (v.toList ++ []) m1) :=
  (zr_aload_n t98_9 rfl).trans <|
    (zr_getR (u := 153) t98_10 (rfl)).trans <|
    (zr_iload_n t98_13 rfl).trans <|
    (zr_aload_n t98_14 rfl).trans <|
    (zr_getR (u := 2) t98_15 (rfl)).trans <|
    zr_callv t98_18 rfl rfl rfl rfl
theorem k98_21 {X : Nat × (Nat → Int32)} {I : Nat → Nat → Int32} {v1 : Int32} {v2 : Int32}  : zr X 98 21 [.ref 1, .int v1, .int v2] [] (zk I) = zcb (zr X 80 0 [.ref 153, .int v2] [] (zk I)) (fun v m1 => zr X 98 29 [.ref 1, .int v1, .int v2] (v.toList ++ []) m1) :=
  (zr_aload_n t98_21 rfl).trans <|
    (zr_getR (u := 153) t98_22 (rfl)).trans <|
    (zr_iload_n t98_25 rfl).trans <|
    zr_callv t98_26 rfl rfl rfl rfl
theorem k98_29 {X : Nat × (Nat → Int32)} {I : Nat → Nat → Int32} {v1 : Int32} {v2 : Int32} {s0 : Int32}  : zr X 98 29 [.ref 1, .int v1, .int v2] [.int s0] (zk I) = some (some (.int s0), zk I) :=
  zr_iret t98_29 rfl
/-! X9_of FiveInks.of -/
theorem k99_0 {X : Nat × (Nat → Int32)} {I : Nat → Nat → Int32} {v1 : Int32} {v2 : Int32}  : zr X 99 0 [.ref 1, .int v1, .int v2, .null] [] (zk I) = zcb (zr X 5 0 [.ref 5, .int v1] [] (zk I)) (fun v m1 => zr X 99 13 [.ref 1, .int v1, .int v2, .ref 5] (v.toList ++ []) m1) :=
  (zr_aload_n t99_0 rfl).trans <|
    (zr_getR (u := 2) t99_1 (rfl)).trans <|
    (zr_getR (u := 5) t99_4 (rfl)).trans <|
    (zr_astore_n t99_7 rfl rfl).trans <|
    (zr_aload_n t99_8 rfl).trans <|
    (zr_iload_n t99_9 rfl).trans <|
    zr_callv t99_10 rfl rfl rfl rfl
theorem k99_13 {X : Nat × (Nat → Int32)} {I : Nat → Nat → Int32} {v1 : Int32} {v2 : Int32} {s0 : Int32}  : zr X 99 13 [.ref 1, .int v1, .int v2, .ref 5] [.int s0] (zk I) = if ¬ s0 = 0 then zr X 99 18 [.ref 1, .int v1, .int v2, .ref 5] [] (zk I) else zr X 99 16 [.ref 1, .int v1, .int v2, .ref 5] [] (zk I) :=
  zr_if_ne (tgt := 18) t99_13 rfl
theorem k99_16 {X : Nat × (Nat → Int32)} {I : Nat → Nat → Int32} {v1 : Int32} {v2 : Int32}  : zr X 99 16 [.ref 1, .int v1, .int v2, .ref 5] [] (zk I) = some (some (.int (-1)), zk I) :=
  (zr_iconst t99_16 zci_m1).trans <|
    zr_iret t99_17 rfl
theorem k99_18_c0 {X : Nat × (Nat → Int32)} {I : Nat → Nat → Int32} {v1 : Int32} {v2 : Int32}  (qc : v2 = 0) : zr X 99 18 [.ref 1, .int v1, .int v2, .ref 5] [] (zk I) = zr X 99 64 [.ref 1, .int v1, .int v2, .ref 5] [] (zk I) :=
  (zr_iload_n t99_18 rfl).trans <|
    zr_tabI (off := 45) (tgt := 64) t99_19 (by rw [qc]; decide) (by rw [qc]; decide) rfl
theorem k99_18_c1 {X : Nat × (Nat → Int32)} {I : Nat → Nat → Int32} {v1 : Int32} {v2 : Int32}  (qc : v2 = 1) : zr X 99 18 [.ref 1, .int v1, .int v2, .ref 5] [] (zk I) = zr X 99 71 [.ref 1, .int v1, .int v2, .ref 5] [] (zk I) :=
  (zr_iload_n t99_18 rfl).trans <|
    zr_tabI (off := 52) (tgt := 71) t99_19 (by rw [qc]; decide) (by rw [qc]; decide) rfl
theorem k99_18_c2 {X : Nat × (Nat → Int32)} {I : Nat → Nat → Int32} {v1 : Int32} {v2 : Int32}  (qc : v2 = 2) : zr X 99 18 [.ref 1, .int v1, .int v2, .ref 5] [] (zk I) = zr X 99 78 [.ref 1, .int v1, .int v2, .ref 5] [] (zk I) :=
  (zr_iload_n t99_18 rfl).trans <|
    zr_tabI (off := 59) (tgt := 78) t99_19 (by rw [qc]; decide) (by rw [qc]; decide) rfl
theorem k99_18_c3 {X : Nat × (Nat → Int32)} {I : Nat → Nat → Int32} {v1 : Int32} {v2 : Int32}  (qc : v2 = 3) : zr X 99 18 [.ref 1, .int v1, .int v2, .ref 5] [] (zk I) = zr X 99 85 [.ref 1, .int v1, .int v2, .ref 5] [] (zk I) :=
  (zr_iload_n t99_18 rfl).trans <|
    zr_tabI (off := 66) (tgt := 85) t99_19 (by rw [qc]; decide) (by rw [qc]; decide) rfl
theorem k99_18_c4 {X : Nat × (Nat → Int32)} {I : Nat → Nat → Int32} {v1 : Int32} {v2 : Int32}  (qc : v2 = 4) : zr X 99 18 [.ref 1, .int v1, .int v2, .ref 5] [] (zk I) = zr X 99 92 [.ref 1, .int v1, .int v2, .ref 5] [] (zk I) :=
  (zr_iload_n t99_18 rfl).trans <|
    zr_tabI (off := 73) (tgt := 92) t99_19 (by rw [qc]; decide) (by rw [qc]; decide) rfl
theorem k99_18_c5 {X : Nat × (Nat → Int32)} {I : Nat → Nat → Int32} {v1 : Int32} {v2 : Int32}  (qc : v2 = 5) : zr X 99 18 [.ref 1, .int v1, .int v2, .ref 5] [] (zk I) = zr X 99 99 [.ref 1, .int v1, .int v2, .ref 5] [] (zk I) :=
  (zr_iload_n t99_18 rfl).trans <|
    zr_tabI (off := 80) (tgt := 99) t99_19 (by rw [qc]; decide) (by rw [qc]; decide) rfl
theorem k99_18_c6 {X : Nat × (Nat → Int32)} {I : Nat → Nat → Int32} {v1 : Int32} {v2 : Int32}  (qc : v2 = 6) : zr X 99 18 [.ref 1, .int v1, .int v2, .ref 5] [] (zk I) = zr X 99 106 [.ref 1, .int v1, .int v2, .ref 5] [] (zk I) :=
  (zr_iload_n t99_18 rfl).trans <|
    zr_tabI (off := 87) (tgt := 106) t99_19 (by rw [qc]; decide) (by rw [qc]; decide) rfl
theorem k99_18_c7 {X : Nat × (Nat → Int32)} {I : Nat → Nat → Int32} {v1 : Int32} {v2 : Int32}  (qc : v2 = 7) : zr X 99 18 [.ref 1, .int v1, .int v2, .ref 5] [] (zk I) = zr X 99 112 [.ref 1, .int v1, .int v2, .ref 5] [] (zk I) :=
  (zr_iload_n t99_18 rfl).trans <|
    zr_tabI (off := 93) (tgt := 112) t99_19 (by rw [qc]; decide) (by rw [qc]; decide) rfl
theorem k99_18_d {X : Nat × (Nat → Int32)} {I : Nat → Nat → Int32} {v1 : Int32} {v2 : Int32}  (qd : v2.toInt < 0 ∨ 7 < v2.toInt) : zr X 99 18 [.ref 1, .int v1, .int v2, .ref 5] [] (zk I) = zr X 99 121 [.ref 1, .int v1, .int v2, .ref 5] [] (zk I) :=
  (zr_iload_n t99_18 rfl).trans <|
    zr_tabO (tgt := 121) t99_19 qd rfl
theorem k99_64 {X : Nat × (Nat → Int32)} {I : Nat → Nat → Int32} {v1 : Int32} {v2 : Int32} (q1 : zin v1 20 = true) : zr X 99 64 [.ref 1, .int v1, .int v2, .ref 5] [] (zk I) = some (some (.int (I 6 (zx v1))), zk I) :=
  (zr_aload_n t99_64 rfl).trans <|
    (zr_getR (u := 6) t99_65 (rfl)).trans <|
    (zr_iload_n t99_68 rfl).trans <|
    (zr_iald (j := zx v1) t99_69 (N := 20) rfl rfl q1).trans <|
    zr_iret t99_70 rfl
theorem k99_71 {X : Nat × (Nat → Int32)} {I : Nat → Nat → Int32} {v1 : Int32} {v2 : Int32} (q1 : zin v1 20 = true) : zr X 99 71 [.ref 1, .int v1, .int v2, .ref 5] [] (zk I) = some (some (.int (I 7 (zx v1))), zk I) :=
  (zr_aload_n t99_71 rfl).trans <|
    (zr_getR (u := 7) t99_72 (rfl)).trans <|
    (zr_iload_n t99_75 rfl).trans <|
    (zr_iald (j := zx v1) t99_76 (N := 20) rfl rfl q1).trans <|
    zr_iret t99_77 rfl
theorem k99_78 {X : Nat × (Nat → Int32)} {I : Nat → Nat → Int32} {v1 : Int32} {v2 : Int32} (q1 : zin v1 20 = true) : zr X 99 78 [.ref 1, .int v1, .int v2, .ref 5] [] (zk I) = some (some (.int (I 8 (zx v1))), zk I) :=
  (zr_aload_n t99_78 rfl).trans <|
    (zr_getR (u := 8) t99_79 (rfl)).trans <|
    (zr_iload_n t99_82 rfl).trans <|
    (zr_iald (j := zx v1) t99_83 (N := 20) rfl rfl q1).trans <|
    zr_iret t99_84 rfl
theorem k99_85 {X : Nat × (Nat → Int32)} {I : Nat → Nat → Int32} {v1 : Int32} {v2 : Int32} (q1 : zin v1 20 = true) : zr X 99 85 [.ref 1, .int v1, .int v2, .ref 5] [] (zk I) = some (some (.int (I 9 (zx v1))), zk I) :=
  (zr_aload_n t99_85 rfl).trans <|
    (zr_getR (u := 9) t99_86 (rfl)).trans <|
    (zr_iload_n t99_89 rfl).trans <|
    (zr_iald (j := zx v1) t99_90 (N := 20) rfl rfl q1).trans <|
    zr_iret t99_91 rfl
theorem k99_92 {X : Nat × (Nat → Int32)} {I : Nat → Nat → Int32} {v1 : Int32} {v2 : Int32} (q1 : zin v1 20 = true) : zr X 99 92 [.ref 1, .int v1, .int v2, .ref 5] [] (zk I) = some (some (.int (I 11 (zx v1))), zk I) :=
  (zr_aload_n t99_92 rfl).trans <|
    (zr_getR (u := 11) t99_93 (rfl)).trans <|
    (zr_iload_n t99_96 rfl).trans <|
    (zr_iald (j := zx v1) t99_97 (N := 20) rfl rfl q1).trans <|
    zr_iret t99_98 rfl
theorem k99_99 {X : Nat × (Nat → Int32)} {I : Nat → Nat → Int32} {v1 : Int32} {v2 : Int32} (q1 : zin v1 20 = true) : zr X 99 99 [.ref 1, .int v1, .int v2, .ref 5] [] (zk I) = some (some (.int (I 10 (zx v1))), zk I) :=
  (zr_aload_n t99_99 rfl).trans <|
    (zr_getR (u := 10) t99_100 (rfl)).trans <|
    (zr_iload_n t99_103 rfl).trans <|
    (zr_iald (j := zx v1) t99_104 (N := 20) rfl rfl q1).trans <|
    zr_iret t99_105 rfl
theorem k99_106 {X : Nat × (Nat → Int32)} {I : Nat → Nat → Int32} {v1 : Int32} {v2 : Int32}  : zr X 99 106 [.ref 1, .int v1, .int v2, .ref 5] [] (zk I) = zcb (zr X 22 0 [.ref 5, .int v1, .null, .null] [] (zk I)) (fun v m1 => zr X 99 111 [.ref 1, .int v1, .int v2, .ref 5] (v.toList ++ []) m1) :=
  (zr_aload_n t99_106 rfl).trans <|
    (zr_iload_n t99_107 rfl).trans <|
    zr_callv t99_108 rfl rfl rfl rfl
theorem k99_111 {X : Nat × (Nat → Int32)} {I : Nat → Nat → Int32} {v1 : Int32} {v2 : Int32} {s0 : Int32}  : zr X 99 111 [.ref 1, .int v1, .int v2, .ref 5] [.int s0] (zk I) = some (some (.int s0), zk I) :=
  zr_iret t99_111 rfl
theorem k99_112 {X : Nat × (Nat → Int32)} {I : Nat → Nat → Int32} {v1 : Int32} {v2 : Int32}  : zr X 99 112 [.ref 1, .int v1, .int v2, .ref 5] [] (zk I) = zcb (zr X 20 0 [.ref 5, .int v1] [] (zk I)) (fun v m1 => zr X 99 117 [.ref 1, .int v1, .int v2, .ref 5] (v.toList ++ []) m1) :=
  (zr_aload_n t99_112 rfl).trans <|
    (zr_iload_n t99_113 rfl).trans <|
    zr_callv t99_114 rfl rfl rfl rfl
theorem k99_117 {X : Nat × (Nat → Int32)} {I : Nat → Nat → Int32} {v1 : Int32} {v2 : Int32} {s0 : Int32}  : zr X 99 117 [.ref 1, .int v1, .int v2, .ref 5] [.int s0] (zk I) = some (some (.int (s0 + 100)), zk I) :=
  (zr_bipush t99_117 zcb_100).trans <|
    (zr_iadd t99_119).trans <|
    zr_iret t99_120 rfl
theorem k99_121 {X : Nat × (Nat → Int32)} {I : Nat → Nat → Int32} {v1 : Int32} {v2 : Int32}  : zr X 99 121 [.ref 1, .int v1, .int v2, .ref 5] [] (zk I) = some (some (.int (-2)), zk I) :=
  (zr_bipush t99_121 zcb_m2).trans <|
    zr_iret t99_123 rfl
/-! X9_clash FiveInks.clash -/
theorem k100_0 {X : Nat × (Nat → Int32)} {I : Nat → Nat → Int32} {v1 : Int32} {v2 : Int32}  : zr X 100 0 [.ref 1, .int v1, .int v2] [] (zk I) = zcb (zr X 5 0 [.ref 5, .int v1] [] (zk I)) (fun v m1 => zr X 100 11 [.ref 1, .int v1, .int v2] (v.toList ++ []) m1) :=
  (zr_aload_n t100_0 rfl).trans <|
    (zr_getR (u := 2) t100_1 (rfl)).trans <|
    (zr_getR (u := 5) t100_4 (rfl)).trans <|
    (zr_iload_n t100_7 rfl).trans <|
    zr_callv t100_8 rfl rfl rfl rfl
theorem k100_11 {X : Nat × (Nat → Int32)} {I : Nat → Nat → Int32} {v1 : Int32} {v2 : Int32} {s0 : Int32}  : zr X 100 11 [.ref 1, .int v1, .int v2] [.int s0] (zk I) = if s0 = 0 then zr X 100 28 [.ref 1, .int v1, .int v2] [] (zk I) else zr X 100 14 [.ref 1, .int v1, .int v2] [] (zk I) :=
  zr_if_eq (tgt := 28) t100_11 rfl
theorem k100_14 {X : Nat × (Nat → Int32)} {I : Nat → Nat → Int32} {v1 : Int32} {v2 : Int32}  : zr X 100 14 [.ref 1, .int v1, .int v2] [] (zk I) = zcb (zr X 5 0 [.ref 5, .int v2] [] (zk I)) (fun v m1 => zr X 100 25 [.ref 1, .int v1, .int v2] (v.toList ++ []) m1) :=
  (zr_aload_n t100_14 rfl).trans <|
    (zr_getR (u := 2) t100_15 (rfl)).trans <|
    (zr_getR (u := 5) t100_18 (rfl)).trans <|
    (zr_iload_n t100_21 rfl).trans <|
    zr_callv t100_22 rfl rfl rfl rfl
theorem k100_25 {X : Nat × (Nat → Int32)} {I : Nat → Nat → Int32} {v1 : Int32} {v2 : Int32} {s0 : Int32}  : zr X 100 25 [.ref 1, .int v1, .int v2] [.int s0] (zk I) = if ¬ s0 = 0 then zr X 100 30 [.ref 1, .int v1, .int v2] [] (zk I) else zr X 100 28 [.ref 1, .int v1, .int v2] [] (zk I) :=
  zr_if_ne (tgt := 30) t100_25 rfl
theorem k100_28 {X : Nat × (Nat → Int32)} {I : Nat → Nat → Int32} {v1 : Int32} {v2 : Int32}  : zr X 100 28 [.ref 1, .int v1, .int v2] [] (zk I) = some (some (.int (-1)), zk I) :=
  (zr_iconst t100_28 zci_m1).trans <|
    zr_iret t100_29 rfl
theorem k100_30 {X : Nat × (Nat → Int32)} {I : Nat → Nat → Int32} {v1 : Int32} {v2 : Int32}  : zr X 100 30 [.ref 1, .int v1, .int v2] [] (zk I) = if ¬ v1 = v2 then zr X 100 38 [.ref 1, .int v1, .int v2] [] (zk I) else zr X 100 35 [.ref 1, .int v1, .int v2] [] (zk I) :=
  (zr_iload_n t100_30 rfl).trans <|
    (zr_iload_n t100_31 rfl).trans <|
    zr_ic_ne (tgt := 38) t100_32 rfl
theorem k100_35 {X : Nat × (Nat → Int32)} {I : Nat → Nat → Int32} {v1 : Int32} {v2 : Int32}  : zr X 100 35 [.ref 1, .int v1, .int v2] [] (zk I) = some (some (.int (-2)), zk I) :=
  (zr_bipush t100_35 zcb_m2).trans <|
    zr_iret t100_37 rfl
theorem k100_38 {X : Nat × (Nat → Int32)} {I : Nat → Nat → Int32} {v1 : Int32} {v2 : Int32}  : zr X 100 38 [.ref 1, .int v1, .int v2] [] (zk I) = zcb (zr X 12 0 [.ref 5, .int v1, .int v2] [] (zk I)) (fun v m1 => zr X 100 50 [.ref 1, .int v1, .int v2] (v.toList ++ []) m1) :=
  (zr_aload_n t100_38 rfl).trans <|
    (zr_getR (u := 2) t100_39 (rfl)).trans <|
    (zr_getR (u := 5) t100_42 (rfl)).trans <|
    (zr_iload_n t100_45 rfl).trans <|
    (zr_iload_n t100_46 rfl).trans <|
    zr_callv t100_47 rfl rfl rfl rfl
theorem k100_50 {X : Nat × (Nat → Int32)} {I : Nat → Nat → Int32} {v1 : Int32} {v2 : Int32} {s0 : Int32}  : zr X 100 50 [.ref 1, .int v1, .int v2] [.int s0] (zk I) = if ¬ s0 = 0 then zr X 100 55 [.ref 1, .int v1, .int v2] [] (zk I) else zr X 100 53 [.ref 1, .int v1, .int v2] [] (zk I) :=
  zr_if_ne (tgt := 55) t100_50 rfl
theorem k100_53 {X : Nat × (Nat → Int32)} {I : Nat → Nat → Int32} {v1 : Int32} {v2 : Int32}  : zr X 100 53 [.ref 1, .int v1, .int v2] [] (zk I) = some (some (.int 0), zk I) :=
  (zr_iconst t100_53 zci_0).trans <|
    zr_iret t100_54 rfl
theorem k100_55 {X : Nat × (Nat → Int32)} {I : Nat → Nat → Int32} {v1 : Int32} {v2 : Int32}  : zr X 100 55 [.ref 1, .int v1, .int v2] [] (zk I) = zcb (zr X 14 0 [.ref 5, .int v1, .int v2] [] (zk I)) (fun v m1 => zr X 100 67 [.ref 1, .int v1, .int v2] (v.toList ++ []) m1) :=
  (zr_aload_n t100_55 rfl).trans <|
    (zr_getR (u := 2) t100_56 (rfl)).trans <|
    (zr_getR (u := 5) t100_59 (rfl)).trans <|
    (zr_iload_n t100_62 rfl).trans <|
    (zr_iload_n t100_63 rfl).trans <|
    zr_callv t100_64 rfl rfl rfl rfl
theorem k100_67 {X : Nat × (Nat → Int32)} {I : Nat → Nat → Int32} {v1 : Int32} {v2 : Int32} {s0 : Int32}  : zr X 100 67 [.ref 1, .int v1, .int v2] [.int s0] (zk I) = if s0 = 0 then zr X 100 74 [.ref 1, .int v1, .int v2] [] (zk I) else zr X 100 70 [.ref 1, .int v1, .int v2] [] (zk I) :=
  zr_if_eq (tgt := 74) t100_67 rfl
theorem k100_70 {X : Nat × (Nat → Int32)} {I : Nat → Nat → Int32} {v1 : Int32} {v2 : Int32}  : zr X 100 70 [.ref 1, .int v1, .int v2] [] (zk I) = some (some (.int 2), zk I) :=
  (zr_iconst t100_70 zci_2).trans <|
    (zr_goto (tgt := 75) t100_71 rfl).trans <|
    zr_iret t100_75 rfl
theorem k100_74 {X : Nat × (Nat → Int32)} {I : Nat → Nat → Int32} {v1 : Int32} {v2 : Int32}  : zr X 100 74 [.ref 1, .int v1, .int v2] [] (zk I) = some (some (.int 1), zk I) :=
  (zr_iconst t100_74 zci_1).trans <|
    zr_iret t100_75 rfl
/-! X9_editor FiveInks.editor -/
theorem k101_0 {X : Nat × (Nat → Int32)} {I : Nat → Nat → Int32} {v1 : Int32} {v2 : Int32}  : zr X 101 0 [.ref 1, .int v1, .int v2] [] (zk I) = zcb (zr X 113 0 [.int v1] [] (zk I)) (fun v m1 => zr X 101 4 [.ref 1, .int v1, .int v2] (v.toList ++ []) m1) :=
  (zr_iload_n t101_0 rfl).trans <|
    zr_calls t101_1 rfl rfl rfl rfl rfl
theorem k101_4 {X : Nat × (Nat → Int32)} {I : Nat → Nat → Int32} {v1 : Int32} {v2 : Int32} {s0 : Int32}  : zr X 101 4 [.ref 1, .int v1, .int v2] [.int s0] (zk I) = if ¬ s0 = 0 then zr X 101 9 [.ref 1, .int v1, .int v2] [] (zk I) else zr X 101 7 [.ref 1, .int v1, .int v2] [] (zk I) :=
  zr_if_ne (tgt := 9) t101_4 rfl
theorem k101_7 {X : Nat × (Nat → Int32)} {I : Nat → Nat → Int32} {v1 : Int32} {v2 : Int32}  : zr X 101 7 [.ref 1, .int v1, .int v2] [] (zk I) = some (some (.int (-1)), zk I) :=
  (zr_iconst t101_7 zci_m1).trans <|
    zr_iret t101_8 rfl
theorem k101_9_c0 {X : Nat × (Nat → Int32)} {I : Nat → Nat → Int32} {v1 : Int32} {v2 : Int32}  (qc : v2 = 0) : zr X 101 9 [.ref 1, .int v1, .int v2] [] (zk I) = zr X 101 52 [.ref 1, .int v1, .int v2] [] (zk I) :=
  (zr_iload_n t101_9 rfl).trans <|
    zr_tabI (off := 42) (tgt := 52) t101_10 (by rw [qc]; decide) (by rw [qc]; decide) rfl
theorem k101_9_c1 {X : Nat × (Nat → Int32)} {I : Nat → Nat → Int32} {v1 : Int32} {v2 : Int32}  (qc : v2 = 1) : zr X 101 9 [.ref 1, .int v1, .int v2] [] (zk I) = zr X 101 62 [.ref 1, .int v1, .int v2] [] (zk I) :=
  (zr_iload_n t101_9 rfl).trans <|
    zr_tabI (off := 52) (tgt := 62) t101_10 (by rw [qc]; decide) (by rw [qc]; decide) rfl
theorem k101_9_c2 {X : Nat × (Nat → Int32)} {I : Nat → Nat → Int32} {v1 : Int32} {v2 : Int32}  (qc : v2 = 2) : zr X 101 9 [.ref 1, .int v1, .int v2] [] (zk I) = zr X 101 74 [.ref 1, .int v1, .int v2] [] (zk I) :=
  (zr_iload_n t101_9 rfl).trans <|
    zr_tabI (off := 64) (tgt := 74) t101_10 (by rw [qc]; decide) (by rw [qc]; decide) rfl
theorem k101_9_c3 {X : Nat × (Nat → Int32)} {I : Nat → Nat → Int32} {v1 : Int32} {v2 : Int32}  (qc : v2 = 3) : zr X 101 9 [.ref 1, .int v1, .int v2] [] (zk I) = zr X 101 87 [.ref 1, .int v1, .int v2] [] (zk I) :=
  (zr_iload_n t101_9 rfl).trans <|
    zr_tabI (off := 77) (tgt := 87) t101_10 (by rw [qc]; decide) (by rw [qc]; decide) rfl
theorem k101_9_c4 {X : Nat × (Nat → Int32)} {I : Nat → Nat → Int32} {v1 : Int32} {v2 : Int32}  (qc : v2 = 4) : zr X 101 9 [.ref 1, .int v1, .int v2] [] (zk I) = zr X 101 100 [.ref 1, .int v1, .int v2] [] (zk I) :=
  (zr_iload_n t101_9 rfl).trans <|
    zr_tabI (off := 90) (tgt := 100) t101_10 (by rw [qc]; decide) (by rw [qc]; decide) rfl
theorem k101_9_c5 {X : Nat × (Nat → Int32)} {I : Nat → Nat → Int32} {v1 : Int32} {v2 : Int32}  (qc : v2 = 5) : zr X 101 9 [.ref 1, .int v1, .int v2] [] (zk I) = zr X 101 113 [.ref 1, .int v1, .int v2] [] (zk I) :=
  (zr_iload_n t101_9 rfl).trans <|
    zr_tabI (off := 103) (tgt := 113) t101_10 (by rw [qc]; decide) (by rw [qc]; decide) rfl
theorem k101_9_c6 {X : Nat × (Nat → Int32)} {I : Nat → Nat → Int32} {v1 : Int32} {v2 : Int32}  (qc : v2 = 6) : zr X 101 9 [.ref 1, .int v1, .int v2] [] (zk I) = zr X 101 125 [.ref 1, .int v1, .int v2] [] (zk I) :=
  (zr_iload_n t101_9 rfl).trans <|
    zr_tabI (off := 115) (tgt := 125) t101_10 (by rw [qc]; decide) (by rw [qc]; decide) rfl
theorem k101_9_d {X : Nat × (Nat → Int32)} {I : Nat → Nat → Int32} {v1 : Int32} {v2 : Int32}  (qd : v2.toInt < 0 ∨ 6 < v2.toInt) : zr X 101 9 [.ref 1, .int v1, .int v2] [] (zk I) = zr X 101 131 [.ref 1, .int v1, .int v2] [] (zk I) :=
  (zr_iload_n t101_9 rfl).trans <|
    zr_tabO (tgt := 131) t101_10 qd rfl
theorem k101_52 {X : Nat × (Nat → Int32)} {I : Nat → Nat → Int32} {v1 : Int32} {v2 : Int32} (q1 : zin v1 5 = true) : zr X 101 52 [.ref 1, .int v1, .int v2] [] (zk I) = some (some (.int (I 16 (zx v1))), zk I) :=
  (zr_aload_n t101_52 rfl).trans <|
    (zr_getR (u := 2) t101_53 (rfl)).trans <|
    (zr_getR (u := 16) t101_56 (rfl)).trans <|
    (zr_iload_n t101_59 rfl).trans <|
    (zr_iald (j := zx v1) t101_60 (N := 5) rfl rfl q1).trans <|
    zr_iret t101_61 rfl
theorem k101_62 {X : Nat × (Nat → Int32)} {I : Nat → Nat → Int32} {v1 : Int32} {v2 : Int32}  : zr X 101 62 [.ref 1, .int v1, .int v2] [] (zk I) = zcb (zr X 26 0 [.ref 5, .int v1, .null, .null] [] (zk I)) (fun v m1 => zr X 101 73 [.ref 1, .int v1, .int v2] (v.toList ++ []) m1) :=
  (zr_aload_n t101_62 rfl).trans <|
    (zr_getR (u := 2) t101_63 (rfl)).trans <|
    (zr_getR (u := 5) t101_66 (rfl)).trans <|
    (zr_iload_n t101_69 rfl).trans <|
    zr_callv t101_70 rfl rfl rfl rfl
theorem k101_73 {X : Nat × (Nat → Int32)} {I : Nat → Nat → Int32} {v1 : Int32} {v2 : Int32} {s0 : Int32}  : zr X 101 73 [.ref 1, .int v1, .int v2] [.int s0] (zk I) = some (some (.int s0), zk I) :=
  zr_iret t101_73 rfl
theorem k101_74 {X : Nat × (Nat → Int32)} {I : Nat → Nat → Int32} {v1 : Int32} {v2 : Int32}  : zr X 101 74 [.ref 1, .int v1, .int v2] [] (zk I) = zcb (zr X 27 0 [.ref 5, .int v1, .int 0, .null, .null] [] (zk I)) (fun v m1 => zr X 101 86 [.ref 1, .int v1, .int v2] (v.toList ++ []) m1) :=
  (zr_aload_n t101_74 rfl).trans <|
    (zr_getR (u := 2) t101_75 (rfl)).trans <|
    (zr_getR (u := 5) t101_78 (rfl)).trans <|
    (zr_iload_n t101_81 rfl).trans <|
    (zr_iconst t101_82 zci_0).trans <|
    zr_callv t101_83 rfl rfl rfl rfl
theorem k101_86 {X : Nat × (Nat → Int32)} {I : Nat → Nat → Int32} {v1 : Int32} {v2 : Int32} {s0 : Int32}  : zr X 101 86 [.ref 1, .int v1, .int v2] [.int s0] (zk I) = some (some (.int s0), zk I) :=
  zr_iret t101_86 rfl
theorem k101_87 {X : Nat × (Nat → Int32)} {I : Nat → Nat → Int32} {v1 : Int32} {v2 : Int32}  : zr X 101 87 [.ref 1, .int v1, .int v2] [] (zk I) = zcb (zr X 27 0 [.ref 5, .int v1, .int 1, .null, .null] [] (zk I)) (fun v m1 => zr X 101 99 [.ref 1, .int v1, .int v2] (v.toList ++ []) m1) :=
  (zr_aload_n t101_87 rfl).trans <|
    (zr_getR (u := 2) t101_88 (rfl)).trans <|
    (zr_getR (u := 5) t101_91 (rfl)).trans <|
    (zr_iload_n t101_94 rfl).trans <|
    (zr_iconst t101_95 zci_1).trans <|
    zr_callv t101_96 rfl rfl rfl rfl
theorem k101_99 {X : Nat × (Nat → Int32)} {I : Nat → Nat → Int32} {v1 : Int32} {v2 : Int32} {s0 : Int32}  : zr X 101 99 [.ref 1, .int v1, .int v2] [.int s0] (zk I) = some (some (.int s0), zk I) :=
  zr_iret t101_99 rfl
theorem k101_100 {X : Nat × (Nat → Int32)} {I : Nat → Nat → Int32} {v1 : Int32} {v2 : Int32}  : zr X 101 100 [.ref 1, .int v1, .int v2] [] (zk I) = zcb (zr X 27 0 [.ref 5, .int v1, .int 2, .null, .null] [] (zk I)) (fun v m1 => zr X 101 112 [.ref 1, .int v1, .int v2] (v.toList ++ []) m1) :=
  (zr_aload_n t101_100 rfl).trans <|
    (zr_getR (u := 2) t101_101 (rfl)).trans <|
    (zr_getR (u := 5) t101_104 (rfl)).trans <|
    (zr_iload_n t101_107 rfl).trans <|
    (zr_iconst t101_108 zci_2).trans <|
    zr_callv t101_109 rfl rfl rfl rfl
theorem k101_112 {X : Nat × (Nat → Int32)} {I : Nat → Nat → Int32} {v1 : Int32} {v2 : Int32} {s0 : Int32}  : zr X 101 112 [.ref 1, .int v1, .int v2] [.int s0] (zk I) = some (some (.int s0), zk I) :=
  zr_iret t101_112 rfl
theorem k101_113 {X : Nat × (Nat → Int32)} {I : Nat → Nat → Int32} {v1 : Int32} {v2 : Int32}  : zr X 101 113 [.ref 1, .int v1, .int v2] [] (zk I) = zcb (zr X 23 0 [.ref 5, .int v1, .null, .null] [] (zk I)) (fun v m1 => zr X 101 124 [.ref 1, .int v1, .int v2] (v.toList ++ []) m1) :=
  (zr_aload_n t101_113 rfl).trans <|
    (zr_getR (u := 2) t101_114 (rfl)).trans <|
    (zr_getR (u := 5) t101_117 (rfl)).trans <|
    (zr_iload_n t101_120 rfl).trans <|
    zr_callv t101_121 rfl rfl rfl rfl
theorem k101_124 {X : Nat × (Nat → Int32)} {I : Nat → Nat → Int32} {v1 : Int32} {v2 : Int32} {s0 : Int32}  : zr X 101 124 [.ref 1, .int v1, .int v2] [.int s0] (zk I) = some (some (.int s0), zk I) :=
  zr_iret t101_124 rfl
theorem k101_125 {X : Nat × (Nat → Int32)} {I : Nat → Nat → Int32} {v1 : Int32} {v2 : Int32}  : zr X 101 125 [.ref 1, .int v1, .int v2] [] (zk I) = zcb (zr X 114 0 [.ref 1, .int v1] [] (zk I)) (fun v m1 => zr X 101 130 [.ref 1, .int v1, .int v2] (v.toList ++ []) m1) :=
  (zr_aload_n t101_125 rfl).trans <|
    (zr_iload_n t101_126 rfl).trans <|
    zr_callv t101_127 rfl rfl rfl rfl
theorem k101_130 {X : Nat × (Nat → Int32)} {I : Nat → Nat → Int32} {v1 : Int32} {v2 : Int32} {s0 : Int32}  : zr X 101 130 [.ref 1, .int v1, .int v2] [.int s0] (zk I) = some (some (.int s0), zk I) :=
  zr_iret t101_130 rfl
theorem k101_131 {X : Nat × (Nat → Int32)} {I : Nat → Nat → Int32} {v1 : Int32} {v2 : Int32}  : zr X 101 131 [.ref 1, .int v1, .int v2] [] (zk I) = some (some (.int (-2)), zk I) :=
  (zr_bipush t101_131 zcb_m2).trans <|
    zr_iret t101_133 rfl
/-! X9_count FiveInks.count -/
theorem k102_0_c0 {X : Nat × (Nat → Int32)} {I : Nat → Nat → Int32} {v1 : Int32}  (qc : v1 = 0) : zr X 102 0 [.ref 1, .int v1] [] (zk I) = zr X 102 56 [.ref 1, .int v1] [] (zk I) :=
  (zr_iload_n t102_0 rfl).trans <|
    zr_tabI (off := 55) (tgt := 56) t102_1 (by rw [qc]; decide) (by rw [qc]; decide) rfl
theorem k102_0_c1 {X : Nat × (Nat → Int32)} {I : Nat → Nat → Int32} {v1 : Int32}  (qc : v1 = 1) : zr X 102 0 [.ref 1, .int v1] [] (zk I) = zr X 102 67 [.ref 1, .int v1] [] (zk I) :=
  (zr_iload_n t102_0 rfl).trans <|
    zr_tabI (off := 66) (tgt := 67) t102_1 (by rw [qc]; decide) (by rw [qc]; decide) rfl
theorem k102_0_c2 {X : Nat × (Nat → Int32)} {I : Nat → Nat → Int32} {v1 : Int32}  (qc : v1 = 2) : zr X 102 0 [.ref 1, .int v1] [] (zk I) = zr X 102 75 [.ref 1, .int v1] [] (zk I) :=
  (zr_iload_n t102_0 rfl).trans <|
    zr_tabI (off := 74) (tgt := 75) t102_1 (by rw [qc]; decide) (by rw [qc]; decide) rfl
theorem k102_0_c3 {X : Nat × (Nat → Int32)} {I : Nat → Nat → Int32} {v1 : Int32}  (qc : v1 = 3) : zr X 102 0 [.ref 1, .int v1] [] (zk I) = zr X 102 86 [.ref 1, .int v1] [] (zk I) :=
  (zr_iload_n t102_0 rfl).trans <|
    zr_tabI (off := 85) (tgt := 86) t102_1 (by rw [qc]; decide) (by rw [qc]; decide) rfl
theorem k102_0_c4 {X : Nat × (Nat → Int32)} {I : Nat → Nat → Int32} {v1 : Int32}  (qc : v1 = 4) : zr X 102 0 [.ref 1, .int v1] [] (zk I) = zr X 102 98 [.ref 1, .int v1] [] (zk I) :=
  (zr_iload_n t102_0 rfl).trans <|
    zr_tabI (off := 97) (tgt := 98) t102_1 (by rw [qc]; decide) (by rw [qc]; decide) rfl
theorem k102_0_c5 {X : Nat × (Nat → Int32)} {I : Nat → Nat → Int32} {v1 : Int32}  (qc : v1 = 5) : zr X 102 0 [.ref 1, .int v1] [] (zk I) = zr X 102 110 [.ref 1, .int v1] [] (zk I) :=
  (zr_iload_n t102_0 rfl).trans <|
    zr_tabI (off := 109) (tgt := 110) t102_1 (by rw [qc]; decide) (by rw [qc]; decide) rfl
theorem k102_0_c6 {X : Nat × (Nat → Int32)} {I : Nat → Nat → Int32} {v1 : Int32}  (qc : v1 = 6) : zr X 102 0 [.ref 1, .int v1] [] (zk I) = zr X 102 121 [.ref 1, .int v1] [] (zk I) :=
  (zr_iload_n t102_0 rfl).trans <|
    zr_tabI (off := 120) (tgt := 121) t102_1 (by rw [qc]; decide) (by rw [qc]; decide) rfl
theorem k102_0_c7 {X : Nat × (Nat → Int32)} {I : Nat → Nat → Int32} {v1 : Int32}  (qc : v1 = 7) : zr X 102 0 [.ref 1, .int v1] [] (zk I) = zr X 102 132 [.ref 1, .int v1] [] (zk I) :=
  (zr_iload_n t102_0 rfl).trans <|
    zr_tabI (off := 131) (tgt := 132) t102_1 (by rw [qc]; decide) (by rw [qc]; decide) rfl
theorem k102_0_c8 {X : Nat × (Nat → Int32)} {I : Nat → Nat → Int32} {v1 : Int32}  (qc : v1 = 8) : zr X 102 0 [.ref 1, .int v1] [] (zk I) = zr X 102 143 [.ref 1, .int v1] [] (zk I) :=
  (zr_iload_n t102_0 rfl).trans <|
    zr_tabI (off := 142) (tgt := 143) t102_1 (by rw [qc]; decide) (by rw [qc]; decide) rfl
theorem k102_0_c9 {X : Nat × (Nat → Int32)} {I : Nat → Nat → Int32} {v1 : Int32}  (qc : v1 = 9) : zr X 102 0 [.ref 1, .int v1] [] (zk I) = zr X 102 151 [.ref 1, .int v1] [] (zk I) :=
  (zr_iload_n t102_0 rfl).trans <|
    zr_tabI (off := 150) (tgt := 151) t102_1 (by rw [qc]; decide) (by rw [qc]; decide) rfl
theorem k102_0_d {X : Nat × (Nat → Int32)} {I : Nat → Nat → Int32} {v1 : Int32}  (qd : v1.toInt < 0 ∨ 9 < v1.toInt) : zr X 102 0 [.ref 1, .int v1] [] (zk I) = zr X 102 159 [.ref 1, .int v1] [] (zk I) :=
  (zr_iload_n t102_0 rfl).trans <|
    zr_tabO (tgt := 159) t102_1 qd rfl
theorem k102_56 {X : Nat × (Nat → Int32)} {I : Nat → Nat → Int32} {v1 : Int32}  : zr X 102 56 [.ref 1, .int v1] [] (zk I) = some (some (.int (I 3 1)), zk I) :=
  (zr_aload_n t102_56 rfl).trans <|
    (zr_getR (u := 2) t102_57 (rfl)).trans <|
    (zr_getR (u := 3) t102_60 (rfl)).trans <|
    (zr_getI t102_63 (rfl)).trans <|
    zr_iret t102_66 rfl
theorem k102_67 {X : Nat × (Nat → Int32)} {I : Nat → Nat → Int32} {v1 : Int32}  : zr X 102 67 [.ref 1, .int v1] [] (zk I) = zcb (zr X 55 0 [.ref 2] [] (zk I)) (fun v m1 => zr X 102 74 [.ref 1, .int v1] (v.toList ++ []) m1) :=
  (zr_aload_n t102_67 rfl).trans <|
    (zr_getR (u := 2) t102_68 (rfl)).trans <|
    zr_callv t102_71 rfl rfl rfl rfl
theorem k102_74 {X : Nat × (Nat → Int32)} {I : Nat → Nat → Int32} {v1 : Int32} {s0 : Int32}  : zr X 102 74 [.ref 1, .int v1] [.int s0] (zk I) = some (some (.int s0), zk I) :=
  zr_iret t102_74 rfl
theorem k102_75 {X : Nat × (Nat → Int32)} {I : Nat → Nat → Int32} {v1 : Int32}  : zr X 102 75 [.ref 1, .int v1] [] (zk I) = some (some (.int (I 5 7)), zk I) :=
  (zr_aload_n t102_75 rfl).trans <|
    (zr_getR (u := 2) t102_76 (rfl)).trans <|
    (zr_getR (u := 5) t102_79 (rfl)).trans <|
    (zr_getI t102_82 (rfl)).trans <|
    zr_iret t102_85 rfl
theorem k102_86 {X : Nat × (Nat → Int32)} {I : Nat → Nat → Int32} {v1 : Int32}  : zr X 102 86 [.ref 1, .int v1] [] (zk I) = zcb (zr X 25 0 [.ref 5, .int 0, .null, .null] [] (zk I)) (fun v m1 => zr X 102 97 [.ref 1, .int v1] (v.toList ++ []) m1) :=
  (zr_aload_n t102_86 rfl).trans <|
    (zr_getR (u := 2) t102_87 (rfl)).trans <|
    (zr_getR (u := 5) t102_90 (rfl)).trans <|
    (zr_iconst t102_93 zci_0).trans <|
    zr_callv t102_94 rfl rfl rfl rfl
theorem k102_97 {X : Nat × (Nat → Int32)} {I : Nat → Nat → Int32} {v1 : Int32} {s0 : Int32}  : zr X 102 97 [.ref 1, .int v1] [.int s0] (zk I) = some (some (.int s0), zk I) :=
  zr_iret t102_97 rfl
theorem k102_98 {X : Nat × (Nat → Int32)} {I : Nat → Nat → Int32} {v1 : Int32}  : zr X 102 98 [.ref 1, .int v1] [] (zk I) = zcb (zr X 25 0 [.ref 5, .int 1, .null, .null] [] (zk I)) (fun v m1 => zr X 102 109 [.ref 1, .int v1] (v.toList ++ []) m1) :=
  (zr_aload_n t102_98 rfl).trans <|
    (zr_getR (u := 2) t102_99 (rfl)).trans <|
    (zr_getR (u := 5) t102_102 (rfl)).trans <|
    (zr_iconst t102_105 zci_1).trans <|
    zr_callv t102_106 rfl rfl rfl rfl
theorem k102_109 {X : Nat × (Nat → Int32)} {I : Nat → Nat → Int32} {v1 : Int32} {s0 : Int32}  : zr X 102 109 [.ref 1, .int v1] [.int s0] (zk I) = some (some (.int s0), zk I) :=
  zr_iret t102_109 rfl
theorem k102_110 {X : Nat × (Nat → Int32)} {I : Nat → Nat → Int32} {v1 : Int32}  : zr X 102 110 [.ref 1, .int v1] [] (zk I) = zcb (zr X 24 0 [.ref 5, .null, .null, .null] [] (zk I)) (fun v m1 => zr X 102 120 [.ref 1, .int v1] (v.toList ++ []) m1) :=
  (zr_aload_n t102_110 rfl).trans <|
    (zr_getR (u := 2) t102_111 (rfl)).trans <|
    (zr_getR (u := 5) t102_114 (rfl)).trans <|
    zr_callv t102_117 rfl rfl rfl rfl
theorem k102_120 {X : Nat × (Nat → Int32)} {I : Nat → Nat → Int32} {v1 : Int32} {s0 : Int32}  : zr X 102 120 [.ref 1, .int v1] [.int s0] (zk I) = some (some (.int s0), zk I) :=
  zr_iret t102_120 rfl
theorem k102_121 {X : Nat × (Nat → Int32)} {I : Nat → Nat → Int32} {v1 : Int32}  : zr X 102 121 [.ref 1, .int v1] [] (zk I) = some (some (.int (I 13 2)), zk I) :=
  (zr_aload_n t102_121 rfl).trans <|
    (zr_getR (u := 2) t102_122 (rfl)).trans <|
    (zr_getR (u := 13) t102_125 (rfl)).trans <|
    (zr_getI t102_128 (rfl)).trans <|
    zr_iret t102_131 rfl
theorem k102_132 {X : Nat × (Nat → Int32)} {I : Nat → Nat → Int32} {v1 : Int32}  : zr X 102 132 [.ref 1, .int v1] [] (zk I) = zcb (zr X 71 0 [.ref 13] [] (zk I)) (fun v m1 => zr X 102 142 [.ref 1, .int v1] (v.toList ++ []) m1) :=
  (zr_aload_n t102_132 rfl).trans <|
    (zr_getR (u := 2) t102_133 (rfl)).trans <|
    (zr_getR (u := 13) t102_136 (rfl)).trans <|
    zr_callv t102_139 rfl rfl rfl rfl
theorem k102_142 {X : Nat × (Nat → Int32)} {I : Nat → Nat → Int32} {v1 : Int32} {s0 : Int32}  : zr X 102 142 [.ref 1, .int v1] [.int s0] (zk I) = some (some (.int s0), zk I) :=
  zr_iret t102_142 rfl
theorem k102_143 {X : Nat × (Nat → Int32)} {I : Nat → Nat → Int32} {v1 : Int32}  : zr X 102 143 [.ref 1, .int v1] [] (zk I) = some (some (.int (I 142 1)), zk I) :=
  (zr_aload_n t102_143 rfl).trans <|
    (zr_getR (u := 142) t102_144 (rfl)).trans <|
    (zr_getI t102_147 (rfl)).trans <|
    zr_iret t102_150 rfl
theorem k102_151 {X : Nat × (Nat → Int32)} {I : Nat → Nat → Int32} {v1 : Int32}  : zr X 102 151 [.ref 1, .int v1] [] (zk I) = some (some (.int (I 17 2)), zk I) :=
  (zr_aload_n t102_151 rfl).trans <|
    (zr_getR (u := 17) t102_152 (rfl)).trans <|
    (zr_getI t102_155 (rfl)).trans <|
    zr_iret t102_158 rfl
theorem k102_159 {X : Nat × (Nat → Int32)} {I : Nat → Nat → Int32} {v1 : Int32}  : zr X 102 159 [.ref 1, .int v1] [] (zk I) = some (some (.int (-2)), zk I) :=
  (zr_bipush t102_159 zcb_m2).trans <|
    zr_iret t102_161 rfl
/-! X9_version FiveInks.version -/
theorem k103_0 {X : Nat × (Nat → Int32)} {I : Nat → Nat → Int32} {v1 : Int32} {v2 : Int32}  : zr X 103 0 [.ref 1, .int v1, .int v2] [] (zk I) = zcb (zr X 72 0 [.ref 13, .int v1] [] (zk I)) (fun v m1 => zr X 103 11 [.ref 1, .int v1, .int v2] (v.toList ++ []) m1) :=
  (zr_aload_n t103_0 rfl).trans <|
    (zr_getR (u := 2) t103_1 (rfl)).trans <|
    (zr_getR (u := 13) t103_4 (rfl)).trans <|
    (zr_iload_n t103_7 rfl).trans <|
    zr_callv t103_8 rfl rfl rfl rfl
theorem k103_11 {X : Nat × (Nat → Int32)} {I : Nat → Nat → Int32} {v1 : Int32} {v2 : Int32} {s0 : Int32}  : zr X 103 11 [.ref 1, .int v1, .int v2] [.int s0] (zk I) = if ¬ s0 = 0 then zr X 103 16 [.ref 1, .int v1, .int v2] [] (zk I) else zr X 103 14 [.ref 1, .int v1, .int v2] [] (zk I) :=
  zr_if_ne (tgt := 16) t103_11 rfl
theorem k103_14 {X : Nat × (Nat → Int32)} {I : Nat → Nat → Int32} {v1 : Int32} {v2 : Int32}  : zr X 103 14 [.ref 1, .int v1, .int v2] [] (zk I) = some (some (.int (-1)), zk I) :=
  (zr_iconst t103_14 zci_m1).trans <|
    zr_iret t103_15 rfl
theorem k103_16 {X : Nat × (Nat → Int32)} {I : Nat → Nat → Int32} {v1 : Int32} {v2 : Int32}  : zr X 103 16 [.ref 1, .int v1, .int v2] [] (zk I) = if ¬ v2 = (-6) then zr X 103 34 [.ref 1, .int v1, .int v2] [] (zk I) else zr X 103 22 [.ref 1, .int v1, .int v2] [] (zk I) :=
  (zr_iload_n t103_16 rfl).trans <|
    (zr_bipush t103_17 zcb_m6).trans <|
    zr_ic_ne (tgt := 34) t103_19 rfl
theorem k103_22 {X : Nat × (Nat → Int32)} {I : Nat → Nat → Int32} {v1 : Int32} {v2 : Int32}  : zr X 103 22 [.ref 1, .int v1, .int v2] [] (zk I) = zcb (zr X 74 0 [.ref 13, .int v1] [] (zk I)) (fun v m1 => zr X 103 33 [.ref 1, .int v1, .int v2] (v.toList ++ []) m1) :=
  (zr_aload_n t103_22 rfl).trans <|
    (zr_getR (u := 2) t103_23 (rfl)).trans <|
    (zr_getR (u := 13) t103_26 (rfl)).trans <|
    (zr_iload_n t103_29 rfl).trans <|
    zr_callv t103_30 rfl rfl rfl rfl
theorem k103_33 {X : Nat × (Nat → Int32)} {I : Nat → Nat → Int32} {v1 : Int32} {v2 : Int32} {s0 : Int32}  : zr X 103 33 [.ref 1, .int v1, .int v2] [.int s0] (zk I) = some (some (.int s0), zk I) :=
  zr_iret t103_33 rfl
theorem k103_34 {X : Nat × (Nat → Int32)} {I : Nat → Nat → Int32} {v1 : Int32} {v2 : Int32}  : zr X 103 34 [.ref 1, .int v1, .int v2] [] (zk I) = zcb (zr X 75 0 [.ref 13, .int v1, .int v2] [] (zk I)) (fun v m1 => zr X 103 46 [.ref 1, .int v1, .int v2] (v.toList ++ []) m1) :=
  (zr_aload_n t103_34 rfl).trans <|
    (zr_getR (u := 2) t103_35 (rfl)).trans <|
    (zr_getR (u := 13) t103_38 (rfl)).trans <|
    (zr_iload_n t103_41 rfl).trans <|
    (zr_iload_n t103_42 rfl).trans <|
    zr_callv t103_43 rfl rfl rfl rfl
theorem k103_46 {X : Nat × (Nat → Int32)} {I : Nat → Nat → Int32} {v1 : Int32} {v2 : Int32} {s0 : Int32}  : zr X 103 46 [.ref 1, .int v1, .int v2] [.int s0] (zk I) = some (some (.int s0), zk I) :=
  zr_iret t103_46 rfl
/-! X9_apart FiveInks.apart -/
theorem k104_0 {X : Nat × (Nat → Int32)} {I : Nat → Nat → Int32} {v1 : Int32} {v2 : Int32}  : zr X 104 0 [.ref 1, .int v1, .int v2] [] (zk I) = zcb (zr X 72 0 [.ref 13, .int v1] [] (zk I)) (fun v m1 => zr X 104 11 [.ref 1, .int v1, .int v2] (v.toList ++ []) m1) :=
  (zr_aload_n t104_0 rfl).trans <|
    (zr_getR (u := 2) t104_1 (rfl)).trans <|
    (zr_getR (u := 13) t104_4 (rfl)).trans <|
    (zr_iload_n t104_7 rfl).trans <|
    zr_callv t104_8 rfl rfl rfl rfl
theorem k104_11 {X : Nat × (Nat → Int32)} {I : Nat → Nat → Int32} {v1 : Int32} {v2 : Int32} {s0 : Int32}  : zr X 104 11 [.ref 1, .int v1, .int v2] [.int s0] (zk I) = if s0 = 0 then zr X 104 28 [.ref 1, .int v1, .int v2] [] (zk I) else zr X 104 14 [.ref 1, .int v1, .int v2] [] (zk I) :=
  zr_if_eq (tgt := 28) t104_11 rfl
theorem k104_14 {X : Nat × (Nat → Int32)} {I : Nat → Nat → Int32} {v1 : Int32} {v2 : Int32}  : zr X 104 14 [.ref 1, .int v1, .int v2] [] (zk I) = zcb (zr X 72 0 [.ref 13, .int v2] [] (zk I)) (fun v m1 => zr X 104 25 [.ref 1, .int v1, .int v2] (v.toList ++ []) m1) :=
  (zr_aload_n t104_14 rfl).trans <|
    (zr_getR (u := 2) t104_15 (rfl)).trans <|
    (zr_getR (u := 13) t104_18 (rfl)).trans <|
    (zr_iload_n t104_21 rfl).trans <|
    zr_callv t104_22 rfl rfl rfl rfl
theorem k104_25 {X : Nat × (Nat → Int32)} {I : Nat → Nat → Int32} {v1 : Int32} {v2 : Int32} {s0 : Int32}  : zr X 104 25 [.ref 1, .int v1, .int v2] [.int s0] (zk I) = if ¬ s0 = 0 then zr X 104 30 [.ref 1, .int v1, .int v2] [] (zk I) else zr X 104 28 [.ref 1, .int v1, .int v2] [] (zk I) :=
  zr_if_ne (tgt := 30) t104_25 rfl
theorem k104_28 {X : Nat × (Nat → Int32)} {I : Nat → Nat → Int32} {v1 : Int32} {v2 : Int32}  : zr X 104 28 [.ref 1, .int v1, .int v2] [] (zk I) = some (some (.int (-1)), zk I) :=
  (zr_iconst t104_28 zci_m1).trans <|
    zr_iret t104_29 rfl
theorem k104_30 {X : Nat × (Nat → Int32)} {I : Nat → Nat → Int32} {v1 : Int32} {v2 : Int32}  : zr X 104 30 [.ref 1, .int v1, .int v2] [] (zk I) = zcb (zr X 77 0 [.ref 13, .int v1, .int v2, .ref 159, .null, .null, .null, .null, .null, .null, .null, .null] [] (zk I)) (fun v m1 => zr X 104 46 [.ref 1, .int v1, .int v2] (v.toList ++ []) m1) :=
  (zr_aload_n t104_30 rfl).trans <|
    (zr_getR (u := 2) t104_31 (rfl)).trans <|
    (zr_getR (u := 13) t104_34 (rfl)).trans <|
    (zr_iload_n t104_37 rfl).trans <|
    (zr_iload_n t104_38 rfl).trans <|
    (zr_aload_n t104_39 rfl).trans <|
    (zr_getR (u := 159) t104_40 (rfl)).trans <|
    zr_callv t104_43 rfl rfl rfl rfl
theorem k104_46 {X : Nat × (Nat → Int32)} {I : Nat → Nat → Int32} {v1 : Int32} {v2 : Int32} {s0 : Int32}  : zr X 104 46 [.ref 1, .int v1, .int v2] [.int s0] (zk I) = some (some (.int s0), zk I) :=
  zr_iret t104_46 rfl
/-! X9_ifAccepted FiveInks.ifAccepted -/
theorem k105_0 {X : Nat × (Nat → Int32)} {I : Nat → Nat → Int32} {v1 : Int32} {v2 : Int32}  : zr X 105 0 [.ref 1, .int v1, .int v2] [] (zk I) = zcb (zr X 5 0 [.ref 5, .int v1] [] (zk I)) (fun v m1 => zr X 105 11 [.ref 1, .int v1, .int v2] (v.toList ++ []) m1) :=
  (zr_aload_n t105_0 rfl).trans <|
    (zr_getR (u := 2) t105_1 (rfl)).trans <|
    (zr_getR (u := 5) t105_4 (rfl)).trans <|
    (zr_iload_n t105_7 rfl).trans <|
    zr_callv t105_8 rfl rfl rfl rfl
theorem k105_11 {X : Nat × (Nat → Int32)} {I : Nat → Nat → Int32} {v1 : Int32} {v2 : Int32} {s0 : Int32}  : zr X 105 11 [.ref 1, .int v1, .int v2] [.int s0] (zk I) = if ¬ s0 = 0 then zr X 105 16 [.ref 1, .int v1, .int v2] [] (zk I) else zr X 105 14 [.ref 1, .int v1, .int v2] [] (zk I) :=
  zr_if_ne (tgt := 16) t105_11 rfl
theorem k105_14 {X : Nat × (Nat → Int32)} {I : Nat → Nat → Int32} {v1 : Int32} {v2 : Int32}  : zr X 105 14 [.ref 1, .int v1, .int v2] [] (zk I) = some (some (.int (-1)), zk I) :=
  (zr_iconst t105_14 zci_m1).trans <|
    zr_iret t105_15 rfl
theorem k105_16 {X : Nat × (Nat → Int32)} {I : Nat → Nat → Int32} {v1 : Int32} {v2 : Int32}  : zr X 105 16 [.ref 1, .int v1, .int v2] [] (zk I) = if v2 = 0 then zr X 105 28 [.ref 1, .int v1, .int v2] [] (zk I) else zr X 105 20 [.ref 1, .int v1, .int v2] [] (zk I) :=
  (zr_iload_n t105_16 rfl).trans <|
    zr_if_eq (tgt := 28) t105_17 rfl
theorem k105_20 {X : Nat × (Nat → Int32)} {I : Nat → Nat → Int32} {v1 : Int32} {v2 : Int32}  : zr X 105 20 [.ref 1, .int v1, .int v2] [] (zk I) = if v2 = 1 then zr X 105 28 [.ref 1, .int v1, .int v2] [] (zk I) else zr X 105 25 [.ref 1, .int v1, .int v2] [] (zk I) :=
  (zr_iload_n t105_20 rfl).trans <|
    (zr_iconst t105_21 zci_1).trans <|
    zr_ic_eq (tgt := 28) t105_22 rfl
theorem k105_25 {X : Nat × (Nat → Int32)} {I : Nat → Nat → Int32} {v1 : Int32} {v2 : Int32}  : zr X 105 25 [.ref 1, .int v1, .int v2] [] (zk I) = some (some (.int (-2)), zk I) :=
  (zr_bipush t105_25 zcb_m2).trans <|
    zr_iret t105_27 rfl
theorem k105_28 {X : Nat × (Nat → Int32)} {I : Nat → Nat → Int32} {v1 : Int32} {v2 : Int32} (q1 : zin v1 20 = true) : zr X 105 28 [.ref 1, .int v1, .int v2] [] (zk I) = if ¬ (I 10 (zx v1)) = 0 then zr X 105 58 [.ref 1, .int v1, .int v2] [] (zk I) else zr X 105 43 [.ref 1, .int v1, .int v2] [] (zk I) :=
  (zr_aload_n t105_28 rfl).trans <|
    (zr_getR (u := 2) t105_29 (rfl)).trans <|
    (zr_getR (u := 5) t105_32 (rfl)).trans <|
    (zr_getR (u := 10) t105_35 (rfl)).trans <|
    (zr_iload_n t105_38 rfl).trans <|
    (zr_iald (j := zx v1) t105_39 (N := 20) rfl rfl q1).trans <|
    zr_if_ne (tgt := 58) t105_40 rfl
theorem k105_43 {X : Nat × (Nat → Int32)} {I : Nat → Nat → Int32} {v1 : Int32} {v2 : Int32}  : zr X 105 43 [.ref 1, .int v1, .int v2] [] (zk I) = zcb (zr X 16 0 [.ref 5, .int v1, .int 1, .null] [] (zk I)) (fun v m1 => zr X 105 55 [.ref 1, .int v1, .int v2] (v.toList ++ []) m1) :=
  (zr_aload_n t105_43 rfl).trans <|
    (zr_getR (u := 2) t105_44 (rfl)).trans <|
    (zr_getR (u := 5) t105_47 (rfl)).trans <|
    (zr_iload_n t105_50 rfl).trans <|
    (zr_iconst t105_51 zci_1).trans <|
    zr_callv t105_52 rfl rfl rfl rfl
theorem k105_55 {X : Nat × (Nat → Int32)} {I : Nat → Nat → Int32} {v1 : Int32} {v2 : Int32} {s0 : Int32}  : zr X 105 55 [.ref 1, .int v1, .int v2] [.int s0] (zk I) = if s0 = 0 then zr X 105 61 [.ref 1, .int v1, .int v2] [] (zk I) else zr X 105 58 [.ref 1, .int v1, .int v2] [] (zk I) :=
  zr_if_eq (tgt := 61) t105_55 rfl
theorem k105_58 {X : Nat × (Nat → Int32)} {I : Nat → Nat → Int32} {v1 : Int32} {v2 : Int32}  : zr X 105 58 [.ref 1, .int v1, .int v2] [] (zk I) = some (some (.int (-5)), zk I) :=
  (zr_bipush t105_58 zcb_m5).trans <|
    zr_iret t105_60 rfl
theorem k105_61 {X : Nat × (Nat → Int32)} {I : Nat → Nat → Int32} {v1 : Int32} {v2 : Int32}  : zr X 105 61 [.ref 1, .int v1, .int v2] [] (zk I) = if ¬ v2 = 0 then zr X 105 79 [.ref 1, .int v1, .int v2] [] (zk I) else zr X 105 65 [.ref 1, .int v1, .int v2] [] (zk I) :=
  (zr_iload_n t105_61 rfl).trans <|
    zr_if_ne (tgt := 79) t105_62 rfl
theorem k105_65 {X : Nat × (Nat → Int32)} {I : Nat → Nat → Int32} {v1 : Int32} {v2 : Int32}  : zr X 105 65 [.ref 1, .int v1, .int v2] [] (zk I) = zcb (zr X 18 0 [.ref 5, .int v1, .null, .null] [] (zk I)) (fun v m1 => zr X 105 76 [.ref 1, .int v1, .int v2] (v.toList ++ []) m1) :=
  (zr_aload_n t105_65 rfl).trans <|
    (zr_getR (u := 2) t105_66 (rfl)).trans <|
    (zr_getR (u := 5) t105_69 (rfl)).trans <|
    (zr_iload_n t105_72 rfl).trans <|
    zr_callv t105_73 rfl rfl rfl rfl
theorem k105_76 {X : Nat × (Nat → Int32)} {I : Nat → Nat → Int32} {v1 : Int32} {v2 : Int32} {s0 : Int32}  : zr X 105 76 [.ref 1, .int v1, .int v2] [.int s0] (zk I) = some (some (.int s0), zk I) :=
  (zr_goto (tgt := 98) t105_76 rfl).trans <|
    zr_iret t105_98 rfl
theorem k105_79 {X : Nat × (Nat → Int32)} {I : Nat → Nat → Int32} {v1 : Int32} {v2 : Int32}  : zr X 105 79 [.ref 1, .int v1, .int v2] [] (zk I) = zcb (zr X 55 0 [.ref 2] [] (zk I)) (fun v m1 => zr X 105 86 [.ref 1, .int v1, .int v2] (v.toList ++ []) m1) :=
  (zr_aload_n t105_79 rfl).trans <|
    (zr_getR (u := 2) t105_80 (rfl)).trans <|
    zr_callv t105_83 rfl rfl rfl rfl
theorem k105_86 {X : Nat × (Nat → Int32)} {I : Nat → Nat → Int32} {v1 : Int32} {v2 : Int32} {s0 : Int32}  : zr X 105 86 [.ref 1, .int v1, .int v2] [.int s0] (zk I) = zcb (zr X 20 0 [.ref 5, .int v1] [] (zk I)) (fun v m1 => zr X 105 97 [.ref 1, .int v1, .int v2] (v.toList ++ [.int s0]) m1) :=
  (zr_aload_n t105_86 rfl).trans <|
    (zr_getR (u := 2) t105_87 (rfl)).trans <|
    (zr_getR (u := 5) t105_90 (rfl)).trans <|
    (zr_iload_n t105_93 rfl).trans <|
    zr_callv t105_94 rfl rfl rfl rfl
theorem k105_97 {X : Nat × (Nat → Int32)} {I : Nat → Nat → Int32} {v1 : Int32} {v2 : Int32} {s0 : Int32} {s1 : Int32}  : zr X 105 97 [.ref 1, .int v1, .int v2] [.int s1, .int s0] (zk I) = some (some (.int (s0 + s1)), zk I) :=
  (zr_iadd t105_97).trans <|
    zr_iret t105_98 rfl
/-! X9_ifJudged FiveInks.ifJudged -/
theorem k106_0 {X : Nat × (Nat → Int32)} {I : Nat → Nat → Int32} {v1 : Int32}  : zr X 106 0 [.ref 1, .int v1, .null] [] (zk I) = if v1 < 0 then zr X 106 9 [.ref 1, .int v1, .null] [] (zk I) else zr X 106 4 [.ref 1, .int v1, .null] [] (zk I) :=
  (zr_iload_n t106_0 rfl).trans <|
    zr_if_lt (tgt := 9) t106_1 rfl
theorem k106_4 {X : Nat × (Nat → Int32)} {I : Nat → Nat → Int32} {v1 : Int32}  : zr X 106 4 [.ref 1, .int v1, .null] [] (zk I) = if v1 ≤ 5 then zr X 106 12 [.ref 1, .int v1, .null] [] (zk I) else zr X 106 9 [.ref 1, .int v1, .null] [] (zk I) :=
  (zr_iload_n t106_4 rfl).trans <|
    (zr_iconst t106_5 zci_5).trans <|
    zr_ic_le (tgt := 12) t106_6 rfl
theorem k106_9 {X : Nat × (Nat → Int32)} {I : Nat → Nat → Int32} {v1 : Int32}  : zr X 106 9 [.ref 1, .int v1, .null] [] (zk I) = some (some (.int (-2)), zk I) :=
  (zr_bipush t106_9 zcb_m2).trans <|
    zr_iret t106_11 rfl
theorem k106_12 {X : Nat × (Nat → Int32)} {I : Nat → Nat → Int32} {v1 : Int32}  : zr X 106 12 [.ref 1, .int v1, .null] [] (zk I) = zcb (zr X 58 0 [.ref 2, .null, .null, .null] [] (zk (zs2 I 10 158 0 0 20))) (fun v m1 => zr X 106 40 [.ref 1, .int v1, .null] (v.toList ++ []) m1) :=
  (zr_aload_n t106_12 rfl).trans <|
    (zr_getR (u := 2) t106_13 (rfl)).trans <|
    (zr_getR (u := 5) t106_16 (rfl)).trans <|
    (zr_getR (u := 10) t106_19 (rfl)).trans <|
    (zr_iconst t106_22 zci_0).trans <|
    (zr_aload_n t106_23 rfl).trans <|
    (zr_getR (u := 158) t106_24 (rfl)).trans <|
    (zr_iconst t106_27 zci_0).trans <|
    (zr_bipush t106_28 zcb_20).trans <|
    (zr_acopy (j := 0) (k := 0) (z := 20) (N := 20) (M := 20) t106_30 (rfl) (rfl) (by decide) (by decide) (by decide) (by decide) (by decide) (by decide) (by decide) (by decide)).trans <|
    (zr_aload_n t106_33 rfl).trans <|
    (zr_getR (u := 2) t106_34 (rfl)).trans <|
    zr_callv t106_37 rfl rfl rfl rfl
theorem k106_40 {X : Nat × (Nat → Int32)} {I : Nat → Nat → Int32} {v1 : Int32} {s0 : Int32}  : zr X 106 40 [.ref 1, .int v1, .null] [.int s0] (zk I) = if ¬ v1 = 5 then zr X 106 56 [.ref 1, .int v1, .null] [] (zk I) else zr X 106 46 [.ref 1, .int v1, .null] [] (zk I) :=
  (zr_pop t106_40 rfl).trans <|
    (zr_iload_n t106_41 rfl).trans <|
    (zr_iconst t106_42 zci_5).trans <|
    zr_ic_ne (tgt := 56) t106_43 rfl
theorem k106_46 {X : Nat × (Nat → Int32)} {I : Nat → Nat → Int32} {v1 : Int32}  : zr X 106 46 [.ref 1, .int v1, .null] [] (zk I) = zcb (zr X 55 0 [.ref 2] [] (zk I)) (fun v m1 => zr X 106 53 [.ref 1, .int v1, .null] (v.toList ++ []) m1) :=
  (zr_aload_n t106_46 rfl).trans <|
    (zr_getR (u := 2) t106_47 (rfl)).trans <|
    zr_callv t106_50 rfl rfl rfl rfl
theorem k106_53 {X : Nat × (Nat → Int32)} {I : Nat → Nat → Int32} {v1 : Int32} {s0 : Int32}  : zr X 106 53 [.ref 1, .int v1, .null] [.int s0] (zk I) = some (some (.int s0), zk (zs2 I 158 10 0 0 20)) :=
  (zr_goto (tgt := 71) t106_53 rfl).trans <|
    (zr_istore_n t106_71 rfl rfl).trans <|
    (zr_aload_n t106_72 rfl).trans <|
    (zr_getR (u := 158) t106_73 (rfl)).trans <|
    (zr_iconst t106_76 zci_0).trans <|
    (zr_aload_n t106_77 rfl).trans <|
    (zr_getR (u := 2) t106_78 (rfl)).trans <|
    (zr_getR (u := 5) t106_81 (rfl)).trans <|
    (zr_getR (u := 10) t106_84 (rfl)).trans <|
    (zr_iconst t106_87 zci_0).trans <|
    (zr_bipush t106_88 zcb_20).trans <|
    (zr_acopy (j := 0) (k := 0) (z := 20) (N := 20) (M := 20) t106_90 (rfl) (rfl) (by decide) (by decide) (by decide) (by decide) (by decide) (by decide) (by decide) (by decide)).trans <|
    (zr_iload_n t106_93 rfl).trans <|
    zr_iret t106_94 rfl
theorem k106_56 {X : Nat × (Nat → Int32)} {I : Nat → Nat → Int32} {v1 : Int32}  : zr X 106 56 [.ref 1, .int v1, .null] [] (zk I) = zcb (zr X 28 0 [.ref 5, .ref 158, .int v1, .null, .null] [] (zk I)) (fun v m1 => zr X 106 71 [.ref 1, .int v1, .null] (v.toList ++ []) m1) :=
  (zr_aload_n t106_56 rfl).trans <|
    (zr_getR (u := 2) t106_57 (rfl)).trans <|
    (zr_getR (u := 5) t106_60 (rfl)).trans <|
    (zr_aload_n t106_63 rfl).trans <|
    (zr_getR (u := 158) t106_64 (rfl)).trans <|
    (zr_iload_n t106_67 rfl).trans <|
    zr_callv t106_68 rfl rfl rfl rfl
theorem k106_71 {X : Nat × (Nat → Int32)} {I : Nat → Nat → Int32} {v1 : Int32} {s0 : Int32}  : zr X 106 71 [.ref 1, .int v1, .null] [.int s0] (zk I) = some (some (.int s0), zk (zs2 I 158 10 0 0 20)) :=
  (zr_istore_n t106_71 rfl rfl).trans <|
    (zr_aload_n t106_72 rfl).trans <|
    (zr_getR (u := 158) t106_73 (rfl)).trans <|
    (zr_iconst t106_76 zci_0).trans <|
    (zr_aload_n t106_77 rfl).trans <|
    (zr_getR (u := 2) t106_78 (rfl)).trans <|
    (zr_getR (u := 5) t106_81 (rfl)).trans <|
    (zr_getR (u := 10) t106_84 (rfl)).trans <|
    (zr_iconst t106_87 zci_0).trans <|
    (zr_bipush t106_88 zcb_20).trans <|
    (zr_acopy (j := 0) (k := 0) (z := 20) (N := 20) (M := 20) t106_90 (rfl) (rfl) (by decide) (by decide) (by decide) (by decide) (by decide) (by decide) (by decide) (by decide)).trans <|
    (zr_iload_n t106_93 rfl).trans <|
    zr_iret t106_94 rfl
/-! X9_put FiveInks.put -/
theorem k107_0 {X : Nat × (Nat → Int32)} {I : Nat → Nat → Int32} {v1 : Int64}  : zr X 107 0 [.ref 1, .long v1, .null, .null] [] (zk I) = zcb (zr X 39 0 [.long v1, .null, .null, .null] [] (zk I)) (fun v m1 => zr X 107 4 [.ref 1, .long v1, .null, .null] (v.toList ++ []) m1) :=
  (zr_lload_n t107_0 rfl).trans <|
    zr_calls t107_1 rfl rfl rfl rfl rfl
theorem k107_4 {X : Nat × (Nat → Int32)} {I : Nat → Nat → Int32} {v1 : Int64} {s0 : Int32}  : zr X 107 4 [.ref 1, .long v1, .null, .null] [.int s0] (zk I) = if ¬ s0 = (-6) then zr X 107 14 [.ref 1, .long v1, .null, .int s0] [] (zk I) else zr X 107 11 [.ref 1, .long v1, .null, .int s0] [] (zk I) :=
  (zr_istore_n t107_4 rfl rfl).trans <|
    (zr_iload_n t107_5 rfl).trans <|
    (zr_bipush t107_6 zcb_m6).trans <|
    zr_ic_ne (tgt := 14) t107_8 rfl
theorem k107_11 {X : Nat × (Nat → Int32)} {I : Nat → Nat → Int32} {v1 : Int64} {v3 : Int32}  : zr X 107 11 [.ref 1, .long v1, .null, .int v3] [] (zk I) = some (some (.int (-2)), zk I) :=
  (zr_bipush t107_11 zcb_m2).trans <|
    zr_iret t107_13 rfl
theorem k107_14 {X : Nat × (Nat → Int32)} {I : Nat → Nat → Int32} {v1 : Int64} {v3 : Int32}  : zr X 107 14 [.ref 1, .long v1, .null, .int v3] [] (zk I) = if ((I 142 1) + v3) ≤ 60 then zr X 107 31 [.ref 1, .long v1, .null, .int v3] [] (zk I) else zr X 107 28 [.ref 1, .long v1, .null, .int v3] [] (zk I) :=
  (zr_aload_n t107_14 rfl).trans <|
    (zr_getR (u := 142) t107_15 (rfl)).trans <|
    (zr_getI t107_18 (rfl)).trans <|
    (zr_iload_n t107_21 rfl).trans <|
    (zr_iadd t107_22).trans <|
    (zr_bipush t107_23 zcb_60).trans <|
    zr_ic_le (tgt := 31) t107_25 rfl
theorem k107_28 {X : Nat × (Nat → Int32)} {I : Nat → Nat → Int32} {v1 : Int64} {v3 : Int32}  : zr X 107 28 [.ref 1, .long v1, .null, .int v3] [] (zk I) = some (some (.int (-4)), zk I) :=
  (zr_bipush t107_28 zcb_m4).trans <|
    zr_iret t107_30 rfl
theorem k107_31 {X : Nat × (Nat → Int32)} {I : Nat → Nat → Int32} {v1 : Int64} {v3 : Int32}  : zr X 107 31 [.ref 1, .long v1, .null, .int v3] [] (zk I) = zcb (zr X 40 0 [.ref 142, .long v1, .null, .int v3, .null] [] (zk I)) (fun v m1 => zr X 107 40 [.ref 1, .long v1, .null, .int v3] (v.toList ++ []) m1) :=
  (zr_aload_n t107_31 rfl).trans <|
    (zr_getR (u := 142) t107_32 (rfl)).trans <|
    (zr_lload_n t107_35 rfl).trans <|
    (zr_iload_n t107_36 rfl).trans <|
    zr_callv t107_37 rfl rfl rfl rfl
theorem k107_40 {X : Nat × (Nat → Int32)} {I : Nat → Nat → Int32} {v1 : Int64} {v3 : Int32}  : zr X 107 40 [.ref 1, .long v1, .null, .int v3] [] (zk I) = some (some (.int (I 142 1)), zk I) :=
  (zr_aload_n t107_40 rfl).trans <|
    (zr_getR (u := 142) t107_41 (rfl)).trans <|
    (zr_getI t107_44 (rfl)).trans <|
    zr_iret t107_47 rfl
/-! X9_wipe FiveInks.wipe -/
theorem k108_0 {X : Nat × (Nat → Int32)} {I : Nat → Nat → Int32}   : zr X 108 0 [.ref 1, .null] [] (zk I) = zcb (zr X 35 0 [.ref 142] [] (zk I)) (fun v m1 => zr X 108 15 [.ref 1, .int (I 142 1)] (v.toList ++ []) m1) :=
  (zr_aload_n t108_0 rfl).trans <|
    (zr_getR (u := 142) t108_1 (rfl)).trans <|
    (zr_getI t108_4 (rfl)).trans <|
    (zr_istore_n t108_7 rfl rfl).trans <|
    (zr_aload_n t108_8 rfl).trans <|
    (zr_getR (u := 142) t108_9 (rfl)).trans <|
    zr_callv t108_12 rfl rfl rfl rfl
theorem k108_15 {X : Nat × (Nat → Int32)} {I : Nat → Nat → Int32} {v1 : Int32}  : zr X 108 15 [.ref 1, .int v1] [] (zk I) = some (some (.int v1), zk I) :=
  (zr_iload_n t108_15 rfl).trans <|
    zr_iret t108_16 rfl
/-! X9_fault FiveInks.fault -/
theorem k109_0 {X : Nat × (Nat → Int32)} {I : Nat → Nat → Int32}   : zr X 109 0 [.ref 1] [] (zk I) = zcb (zr X 42 0 [.ref 144, .ref 142, .null, .null] [] (zk I)) (fun v m1 => zr X 109 11 [.ref 1] (v.toList ++ []) m1) :=
  (zr_aload_n t109_0 rfl).trans <|
    (zr_getR (u := 144) t109_1 (rfl)).trans <|
    (zr_aload_n t109_4 rfl).trans <|
    (zr_getR (u := 142) t109_5 (rfl)).trans <|
    zr_callv t109_8 rfl rfl rfl rfl
theorem k109_11 {X : Nat × (Nat → Int32)} {I : Nat → Nat → Int32} {s0 : Int32}  : zr X 109 11 [.ref 1] [.int s0] (zk I) = some (some (.int s0), zk I) :=
  zr_iret t109_11 rfl
/-! X9_undo FiveInks.undo -/
theorem k110_0 {X : Nat × (Nat → Int32)} {I : Nat → Nat → Int32}   : zr X 110 0 [.ref 1] [] (zk I) = if ¬ (I 17 2) = 0 then zr X 110 13 [.ref 1] [] (zk I) else zr X 110 10 [.ref 1] [] (zk I) :=
  (zr_aload_n t110_0 rfl).trans <|
    (zr_getR (u := 17) t110_1 (rfl)).trans <|
    (zr_getI t110_4 (rfl)).trans <|
    zr_if_ne (tgt := 13) t110_7 rfl
theorem k110_10 {X : Nat × (Nat → Int32)} {I : Nat → Nat → Int32}   : zr X 110 10 [.ref 1] [] (zk I) = some (some (.int (-5)), zk I) :=
  (zr_bipush t110_10 zcb_m5).trans <|
    zr_iret t110_12 rfl
theorem k110_13 {X : Nat × (Nat → Int32)} {I : Nat → Nat → Int32}   : zr X 110 13 [.ref 1] [] (zk I) = zcb (zr X 2 0 [.ref 17, .ref 2] [] (zk I)) (fun v m1 => zr X 110 24 [.ref 1] (v.toList ++ []) m1) :=
  (zr_aload_n t110_13 rfl).trans <|
    (zr_getR (u := 17) t110_14 (rfl)).trans <|
    (zr_aload_n t110_17 rfl).trans <|
    (zr_getR (u := 2) t110_18 (rfl)).trans <|
    zr_callv t110_21 rfl rfl rfl rfl
theorem k110_24 {X : Nat × (Nat → Int32)} {I : Nat → Nat → Int32}   : zr X 110 24 [.ref 1] [] (zk I) = some (some (.int (I 17 2)), zk I) :=
  (zr_aload_n t110_24 rfl).trans <|
    (zr_getR (u := 17) t110_25 (rfl)).trans <|
    (zr_getI t110_28 (rfl)).trans <|
    zr_iret t110_31 rfl
/-! X9_save FiveInks.save -/
theorem k111_0 {X : Nat × (Nat → Int32)} {I : Nat → Nat → Int32} {v1 : Int32}  : zr X 111 0 [.ref 1, .int v1] [] (zk I) = zcb (zr X 62 0 [.int v1] [] (zk I)) (fun v m1 => zr X 111 4 [.ref 1, .int v1] (v.toList ++ []) m1) :=
  (zr_iload_n t111_0 rfl).trans <|
    zr_calls t111_1 rfl rfl rfl rfl rfl
theorem k111_4 {X : Nat × (Nat → Int32)} {I : Nat → Nat → Int32} {v1 : Int32} {s0 : Int32}  : zr X 111 4 [.ref 1, .int v1] [.int s0] (zk I) = if ¬ s0 = 0 then zr X 111 10 [.ref 1, .int v1] [] (zk I) else zr X 111 7 [.ref 1, .int v1] [] (zk I) :=
  zr_if_ne (tgt := 10) t111_4 rfl
theorem k111_7 {X : Nat × (Nat → Int32)} {I : Nat → Nat → Int32} {v1 : Int32}  : zr X 111 7 [.ref 1, .int v1] [] (zk I) = some (some (.int (-2)), zk I) :=
  (zr_bipush t111_7 zcb_m2).trans <|
    zr_iret t111_9 rfl
theorem k111_10 {X : Nat × (Nat → Int32)} {I : Nat → Nat → Int32} {v1 : Int32}  : zr X 111 10 [.ref 1, .int v1] [] (zk I) = zcb (zr X 63 0 [.ref 109, .int v1, .ref 2] [] (zk I)) (fun v m1 => zr X 111 22 [.ref 1, .int v1] (v.toList ++ []) m1) :=
  (zr_aload_n t111_10 rfl).trans <|
    (zr_getR (u := 109) t111_11 (rfl)).trans <|
    (zr_iload_n t111_14 rfl).trans <|
    (zr_aload_n t111_15 rfl).trans <|
    (zr_getR (u := 2) t111_16 (rfl)).trans <|
    zr_callv t111_19 rfl rfl rfl rfl
theorem k111_22 {X : Nat × (Nat → Int32)} {I : Nat → Nat → Int32} {v1 : Int32}  : zr X 111 22 [.ref 1, .int v1] [] (zk I) = some (some (.int (I 5 7)), zk I) :=
  (zr_aload_n t111_22 rfl).trans <|
    (zr_getR (u := 2) t111_23 (rfl)).trans <|
    (zr_getR (u := 5) t111_26 (rfl)).trans <|
    (zr_getI t111_29 (rfl)).trans <|
    zr_iret t111_32 rfl
/-! X9_restore FiveInks.restore -/
theorem k112_0 {X : Nat × (Nat → Int32)} {I : Nat → Nat → Int32} {v1 : Int32}  : zr X 112 0 [.ref 1, .int v1] [] (zk I) = zcb (zr X 62 0 [.int v1] [] (zk I)) (fun v m1 => zr X 112 4 [.ref 1, .int v1] (v.toList ++ []) m1) :=
  (zr_iload_n t112_0 rfl).trans <|
    zr_calls t112_1 rfl rfl rfl rfl rfl
theorem k112_4 {X : Nat × (Nat → Int32)} {I : Nat → Nat → Int32} {v1 : Int32} {s0 : Int32}  : zr X 112 4 [.ref 1, .int v1] [.int s0] (zk I) = if ¬ s0 = 0 then zr X 112 10 [.ref 1, .int v1] [] (zk I) else zr X 112 7 [.ref 1, .int v1] [] (zk I) :=
  zr_if_ne (tgt := 10) t112_4 rfl
theorem k112_7 {X : Nat × (Nat → Int32)} {I : Nat → Nat → Int32} {v1 : Int32}  : zr X 112 7 [.ref 1, .int v1] [] (zk I) = some (some (.int (-2)), zk I) :=
  (zr_bipush t112_7 zcb_m2).trans <|
    zr_iret t112_9 rfl
theorem k112_10 {X : Nat × (Nat → Int32)} {I : Nat → Nat → Int32} {v1 : Int32} (q1 : zin v1 2 = true) : zr X 112 10 [.ref 1, .int v1] [] (zk I) = if ¬ (I 111 (zx v1)) = 0 then zr X 112 25 [.ref 1, .int v1] [] (zk I) else zr X 112 22 [.ref 1, .int v1] [] (zk I) :=
  (zr_aload_n t112_10 rfl).trans <|
    (zr_getR (u := 109) t112_11 (rfl)).trans <|
    (zr_getR (u := 111) t112_14 (rfl)).trans <|
    (zr_iload_n t112_17 rfl).trans <|
    (zr_bald (j := zx v1) t112_18 (N := 2) rfl rfl q1).trans <|
    zr_if_ne (tgt := 25) t112_19 rfl
theorem k112_22 {X : Nat × (Nat → Int32)} {I : Nat → Nat → Int32} {v1 : Int32}  : zr X 112 22 [.ref 1, .int v1] [] (zk I) = some (some (.int (-5)), zk I) :=
  (zr_bipush t112_22 zcb_m5).trans <|
    zr_iret t112_24 rfl
theorem k112_25 {X : Nat × (Nat → Int32)} {I : Nat → Nat → Int32} {v1 : Int32}  : zr X 112 25 [.ref 1, .int v1] [] (zk I) = zcb (zr X 1 0 [.ref 17, .ref 2] [] (zk I)) (fun v m1 => zr X 112 36 [.ref 1, .int v1] (v.toList ++ []) m1) :=
  (zr_aload_n t112_25 rfl).trans <|
    (zr_getR (u := 17) t112_26 (rfl)).trans <|
    (zr_aload_n t112_29 rfl).trans <|
    (zr_getR (u := 2) t112_30 (rfl)).trans <|
    zr_callv t112_33 rfl rfl rfl rfl
theorem k112_36 {X : Nat × (Nat → Int32)} {I : Nat → Nat → Int32} {v1 : Int32} (q1 : zin v1 2 = true) (q2 : zSb ((zR0.getD 110 []).getD (zx v1) 0) = true) : zr X 112 36 [.ref 1, .int v1] [] (zk I) = zcb (zr X 51 0 [.ref 2, .ref ((zR0.getD 110 []).getD (zx v1) 0)] [] (zk I)) (fun v m1 => zr X 112 52 [.ref 1, .int v1] (v.toList ++ []) m1) :=
  (zr_aload_n t112_36 rfl).trans <|
    (zr_getR (u := 2) t112_37 (rfl)).trans <|
    (zr_aload_n t112_40 rfl).trans <|
    (zr_getR (u := 109) t112_41 (rfl)).trans <|
    (zr_getR (u := 110) t112_44 (rfl)).trans <|
    (zr_iload_n t112_47 rfl).trans <|
    (zr_aald (N := 2) t112_48 rfl q1 rfl (zSb_ne q2)).trans <|
    zr_callv t112_49 rfl rfl rfl rfl
theorem k112_52 {X : Nat × (Nat → Int32)} {I : Nat → Nat → Int32} {v1 : Int32}  : zr X 112 52 [.ref 1, .int v1] [] (zk I) = some (some (.int (I 5 7)), zk I) :=
  (zr_aload_n t112_52 rfl).trans <|
    (zr_getR (u := 2) t112_53 (rfl)).trans <|
    (zr_getR (u := 5) t112_56 (rfl)).trans <|
    (zr_getI t112_59 (rfl)).trans <|
    zr_iret t112_62 rfl
/-! X9_isEditor FiveInks.isEditor -/
theorem k113_0 {X : Nat × (Nat → Int32)} {I : Nat → Nat → Int32} {v0 : Int32}  : zr X 113 0 [.int v0] [] (zk I) = if v0 < 0 then zr X 113 13 [.int v0] [] (zk I) else zr X 113 4 [.int v0] [] (zk I) :=
  (zr_iload_n t113_0 rfl).trans <|
    zr_if_lt (tgt := 13) t113_1 rfl
theorem k113_4 {X : Nat × (Nat → Int32)} {I : Nat → Nat → Int32} {v0 : Int32}  : zr X 113 4 [.int v0] [] (zk I) = if 5 ≤ v0 then zr X 113 13 [.int v0] [] (zk I) else zr X 113 9 [.int v0] [] (zk I) :=
  (zr_iload_n t113_4 rfl).trans <|
    (zr_iconst t113_5 zci_5).trans <|
    zr_ic_ge (tgt := 13) t113_6 rfl
theorem k113_9 {X : Nat × (Nat → Int32)} {I : Nat → Nat → Int32} {v0 : Int32}  : zr X 113 9 [.int v0] [] (zk I) = some (some (.int 1), zk I) :=
  (zr_iconst t113_9 zci_1).trans <|
    (zr_goto (tgt := 14) t113_10 rfl).trans <|
    zr_zret t113_14 rfl (Or.inr rfl)
theorem k113_13 {X : Nat × (Nat → Int32)} {I : Nat → Nat → Int32} {v0 : Int32}  : zr X 113 13 [.int v0] [] (zk I) = some (some (.int 0), zk I) :=
  (zr_iconst t113_13 zci_0).trans <|
    zr_zret t113_14 rfl (Or.inl rfl)
/-! X9_seenLength FiveInks.seenLength -/
theorem k114_0 {X : Nat × (Nat → Int32)} {I : Nat → Nat → Int32} {v1 : Int32}  : zr X 114 0 [.ref 1, .int v1] [] (zk I) = zcb (zr X 82 0 [.ref 153, .int v1, .ref 2, .null, .null] [] (zk I)) (fun v m1 => zr X 114 12 [.ref 1, .int v1] (v.toList ++ []) m1) :=
  (zr_aload_n t114_0 rfl).trans <|
    (zr_getR (u := 153) t114_1 (rfl)).trans <|
    (zr_iload_n t114_4 rfl).trans <|
    (zr_aload_n t114_5 rfl).trans <|
    (zr_getR (u := 2) t114_6 (rfl)).trans <|
    zr_callv t114_9 rfl rfl rfl rfl
theorem k114_12 {X : Nat × (Nat → Int32)} {I : Nat → Nat → Int32} {v1 : Int32}  : zr X 114 12 [.ref 1, .int v1] [] (zk I) = some (some (.int (I 153 4)), zk I) :=
  (zr_aload_n t114_12 rfl).trans <|
    (zr_getR (u := 153) t114_13 (rfl)).trans <|
    (zr_getI t114_16 (rfl)).trans <|
    zr_iret t114_19 rfl
