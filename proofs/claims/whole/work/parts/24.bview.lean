theorem t80_0 : zT 80 0 = some (.iload_n 1, 1, 0, 0, 0) := by rfl
theorem t80_1 : zT 80 1 = some (.ifCond .lt 20, 3, 0, 0, 0) := by rfl
theorem t80_4 : zT 80 4 = some (.iload_n 1, 1, 0, 0, 0) := by rfl
theorem t80_5 : zT 80 5 = some (.aload_n 0, 1, 0, 0, 0) := by rfl
theorem t80_6 : zT 80 6 = some (.getfield 25, 3, 8, 4, 278) := by rfl
theorem t80_9 : zT 80 9 = some (.if_icmp .ge 12, 3, 0, 0, 0) := by rfl
theorem t80_12 : zT 80 12 = some (.aload_n 0, 1, 0, 0, 0) := by rfl
theorem t80_13 : zT 80 13 = some (.getfield 22, 3, 8, 3, 277) := by rfl
theorem t80_16 : zT 80 16 = some (.iload_n 1, 1, 0, 0, 0) := by rfl
theorem t80_17 : zT 80 17 = some (.iaload, 1, 0, 0, 0) := by rfl
theorem t80_18 : zT 80 18 = some (.goto 4, 3, 0, 0, 0) := by rfl
theorem t80_21 : zT 80 21 = some (.iconst (-1), 1, 0, 0, 0) := by rfl
theorem t80_22 : zT 80 22 = some (.ireturn, 1, 0, 0, 0) := by rfl
theorem t81_0 : zT 81 0 = some (.iconst 0, 1, 0, 0, 0) := by rfl
theorem t81_1 : zT 81 1 = some (.istore_n 2, 1, 0, 0, 0) := by rfl
theorem t81_2 : zT 81 2 = some (.iload_n 2, 1, 0, 0, 0) := by rfl
theorem t81_3 : zT 81 3 = some (.aload_n 1, 1, 0, 0, 0) := by rfl
theorem t81_4 : zT 81 4 = some (.getfield 29, 3, 4, 1, 183) := by rfl
theorem t81_7 : zT 81 7 = some (.getfield 35, 3, 1, 7, 142) := by rfl
theorem t81_10 : zT 81 10 = some (.if_icmp .ge 33, 3, 0, 0, 0) := by rfl
theorem t81_13 : zT 81 13 = some (.aload_n 0, 1, 0, 0, 0) := by rfl
theorem t81_14 : zT 81 14 = some (.getfield 9, 3, 8, 0, 274) := by rfl
theorem t81_17 : zT 81 17 = some (.iload_n 2, 1, 0, 0, 0) := by rfl
theorem t81_18 : zT 81 18 = some (.aload_n 1, 1, 0, 0, 0) := by rfl
theorem t81_19 : zT 81 19 = some (.getfield 29, 3, 4, 1, 183) := by rfl
theorem t81_22 : zT 81 22 = some (.getfield 40, 3, 1, 4, 133) := by rfl
theorem t81_25 : zT 81 25 = some (.iload_n 2, 1, 0, 0, 0) := by rfl
theorem t81_26 : zT 81 26 = some (.iaload, 1, 0, 0, 0) := by rfl
theorem t81_27 : zT 81 27 = some (.iconst 1, 1, 0, 0, 0) := by rfl
theorem t81_28 : zT 81 28 = some (.if_icmp .ne 7, 3, 0, 0, 0) := by rfl
theorem t81_31 : zT 81 31 = some (.iconst 1, 1, 0, 0, 0) := by rfl
theorem t81_32 : zT 81 32 = some (.goto 4, 3, 0, 0, 0) := by rfl
theorem t81_35 : zT 81 35 = some (.iconst 0, 1, 0, 0, 0) := by rfl
theorem t81_36 : zT 81 36 = some (.bastore, 1, 0, 0, 0) := by rfl
theorem t81_37 : zT 81 37 = some (.iinc 2 1, 3, 0, 0, 0) := by rfl
theorem t81_40 : zT 81 40 = some (.goto (-38), 3, 0, 0, 0) := by rfl
theorem t81_43 : zT 81 43 = some (.aload_n 0, 1, 0, 0, 0) := by rfl
theorem t81_44 : zT 81 44 = some (.aload_n 1, 1, 0, 0, 0) := by rfl
theorem t81_45 : zT 81 45 = some (.invokevirtual 43, 3, 83, 0, 553) := by rfl
theorem t81_48 : zT 81 48 = some (.return_, 1, 0, 0, 0) := by rfl
theorem t82_0 : zT 82 0 = some (.aload_n 2, 1, 0, 0, 0) := by rfl
theorem t82_1 : zT 82 1 = some (.getfield 29, 3, 4, 1, 183) := by rfl
theorem t82_4 : zT 82 4 = some (.astore_n 3, 1, 0, 0, 0) := by rfl
theorem t82_5 : zT 82 5 = some (.iconst 0, 1, 0, 0, 0) := by rfl
theorem t82_6 : zT 82 6 = some (.istore 4, 2, 0, 0, 0) := by rfl
theorem t82_8 : zT 82 8 = some (.iload 4, 2, 0, 0, 0) := by rfl
theorem t82_10 : zT 82 10 = some (.aload_n 3, 1, 0, 0, 0) := by rfl
theorem t82_11 : zT 82 11 = some (.getfield 35, 3, 1, 7, 142) := by rfl
theorem t82_14 : zT 82 14 = some (.if_icmp .ge 78, 3, 0, 0, 0) := by rfl
theorem t82_17 : zT 82 17 = some (.aload_n 3, 1, 0, 0, 0) := by rfl
theorem t82_18 : zT 82 18 = some (.getfield 40, 3, 1, 4, 133) := by rfl
theorem t82_21 : zT 82 21 = some (.iload 4, 2, 0, 0, 0) := by rfl
theorem t82_23 : zT 82 23 = some (.iaload, 1, 0, 0, 0) := by rfl
theorem t82_24 : zT 82 24 = some (.ifCond .ne 29, 3, 0, 0, 0) := by rfl
theorem t82_27 : zT 82 27 = some (.aload_n 0, 1, 0, 0, 0) := by rfl
theorem t82_28 : zT 82 28 = some (.getfield 9, 3, 8, 0, 274) := by rfl
theorem t82_31 : zT 82 31 = some (.iload 4, 2, 0, 0, 0) := by rfl
theorem t82_33 : zT 82 33 = some (.aload_n 3, 1, 0, 0, 0) := by rfl
theorem t82_34 : zT 82 34 = some (.getfield 47, 3, 1, 0, 117) := by rfl
theorem t82_37 : zT 82 37 = some (.iload 4, 2, 0, 0, 0) := by rfl
theorem t82_39 : zT 82 39 = some (.iaload, 1, 0, 0, 0) := by rfl
theorem t82_40 : zT 82 40 = some (.iload_n 1, 1, 0, 0, 0) := by rfl
theorem t82_41 : zT 82 41 = some (.if_icmp .ne 7, 3, 0, 0, 0) := by rfl
theorem t82_44 : zT 82 44 = some (.iconst 1, 1, 0, 0, 0) := by rfl
theorem t82_45 : zT 82 45 = some (.goto 4, 3, 0, 0, 0) := by rfl
theorem t82_48 : zT 82 48 = some (.iconst 0, 1, 0, 0, 0) := by rfl
theorem t82_49 : zT 82 49 = some (.bastore, 1, 0, 0, 0) := by rfl
theorem t82_50 : zT 82 50 = some (.goto 36, 3, 0, 0, 0) := by rfl
theorem t82_53 : zT 82 53 = some (.aload_n 0, 1, 0, 0, 0) := by rfl
theorem t82_54 : zT 82 54 = some (.getfield 9, 3, 8, 0, 274) := by rfl
theorem t82_57 : zT 82 57 = some (.iload 4, 2, 0, 0, 0) := by rfl
theorem t82_59 : zT 82 59 = some (.aload_n 3, 1, 0, 0, 0) := by rfl
theorem t82_60 : zT 82 60 = some (.getfield 40, 3, 1, 4, 133) := by rfl
theorem t82_63 : zT 82 63 = some (.iload 4, 2, 0, 0, 0) := by rfl
theorem t82_65 : zT 82 65 = some (.iaload, 1, 0, 0, 0) := by rfl
theorem t82_66 : zT 82 66 = some (.iconst 1, 1, 0, 0, 0) := by rfl
theorem t82_67 : zT 82 67 = some (.if_icmp .ne 17, 3, 0, 0, 0) := by rfl
theorem t82_70 : zT 82 70 = some (.aload_n 3, 1, 0, 0, 0) := by rfl
theorem t82_71 : zT 82 71 = some (.iload_n 1, 1, 0, 0, 0) := by rfl
theorem t82_72 : zT 82 72 = some (.iload 4, 2, 0, 0, 0) := by rfl
theorem t82_74 : zT 82 74 = some (.invokevirtual 50, 3, 17, 0, 619) := by rfl
theorem t82_77 : zT 82 77 = some (.ifCond .ne 7, 3, 0, 0, 0) := by rfl
theorem t82_80 : zT 82 80 = some (.iconst 1, 1, 0, 0, 0) := by rfl
theorem t82_81 : zT 82 81 = some (.goto 4, 3, 0, 0, 0) := by rfl
theorem t82_84 : zT 82 84 = some (.iconst 0, 1, 0, 0, 0) := by rfl
theorem t82_85 : zT 82 85 = some (.bastore, 1, 0, 0, 0) := by rfl
theorem t82_86 : zT 82 86 = some (.iinc 4 1, 3, 0, 0, 0) := by rfl
theorem t82_89 : zT 82 89 = some (.goto (-81), 3, 0, 0, 0) := by rfl
theorem t82_92 : zT 82 92 = some (.aload_n 0, 1, 0, 0, 0) := by rfl
theorem t82_93 : zT 82 93 = some (.aload_n 2, 1, 0, 0, 0) := by rfl
theorem t82_94 : zT 82 94 = some (.invokevirtual 43, 3, 83, 0, 553) := by rfl
theorem t82_97 : zT 82 97 = some (.return_, 1, 0, 0, 0) := by rfl
theorem t83_0 : zT 83 0 = some (.aload_n 1, 1, 0, 0, 0) := by rfl
theorem t83_1 : zT 83 1 = some (.getfield 29, 3, 4, 1, 183) := by rfl
theorem t83_4 : zT 83 4 = some (.astore_n 2, 1, 0, 0, 0) := by rfl
theorem t83_5 : zT 83 5 = some (.aload_n 1, 1, 0, 0, 0) := by rfl
theorem t83_6 : zT 83 6 = some (.getfield 54, 3, 4, 0, 181) := by rfl
theorem t83_9 : zT 83 9 = some (.getfield 58, 3, 6, 1, 102) := by rfl
theorem t83_12 : zT 83 12 = some (.istore_n 3, 1, 0, 0, 0) := by rfl
theorem t83_13 : zT 83 13 = some (.aload_n 0, 1, 0, 0, 0) := by rfl
theorem t83_14 : zT 83 14 = some (.aload_n 2, 1, 0, 0, 0) := by rfl
theorem t83_15 : zT 83 15 = some (.iload_n 3, 1, 0, 0, 0) := by rfl
theorem t83_16 : zT 83 16 = some (.invokevirtual 61, 3, 84, 0, 557) := by rfl
theorem t83_19 : zT 83 19 = some (.aload_n 0, 1, 0, 0, 0) := by rfl
theorem t83_20 : zT 83 20 = some (.iconst 0, 1, 0, 0, 0) := by rfl
theorem t83_21 : zT 83 21 = some (.putfield 25, 3, 8, 4, 278) := by rfl
theorem t83_24 : zT 83 24 = some (.iconst 0, 1, 0, 0, 0) := by rfl
theorem t83_25 : zT 83 25 = some (.istore 4, 2, 0, 0, 0) := by rfl
theorem t83_27 : zT 83 27 = some (.iconst 0, 1, 0, 0, 0) := by rfl
theorem t83_28 : zT 83 28 = some (.istore 5, 2, 0, 0, 0) := by rfl
theorem t83_30 : zT 83 30 = some (.iload 5, 2, 0, 0, 0) := by rfl
theorem t83_32 : zT 83 32 = some (.iload_n 3, 1, 0, 0, 0) := by rfl
theorem t83_33 : zT 83 33 = some (.if_icmp .gt 80, 3, 0, 0, 0) := by rfl
theorem t83_36 : zT 83 36 = some (.aload_n 0, 1, 0, 0, 0) := by rfl
theorem t83_37 : zT 83 37 = some (.aload_n 2, 1, 0, 0, 0) := by rfl
theorem t83_38 : zT 83 38 = some (.aload_n 0, 1, 0, 0, 0) := by rfl
theorem t83_39 : zT 83 39 = some (.getfield 15, 3, 8, 1, 275) := by rfl
theorem t83_42 : zT 83 42 = some (.iload 5, 2, 0, 0, 0) := by rfl
theorem t83_44 : zT 83 44 = some (.iaload, 1, 0, 0, 0) := by rfl
theorem t83_45 : zT 83 45 = some (.invokevirtual 65, 3, 85, 0, 561) := by rfl
theorem t83_48 : zT 83 48 = some (.aload_n 0, 1, 0, 0, 0) := by rfl
theorem t83_49 : zT 83 49 = some (.getfield 19, 3, 8, 2, 276) := by rfl
theorem t83_52 : zT 83 52 = some (.iload 5, 2, 0, 0, 0) := by rfl
theorem t83_54 : zT 83 54 = some (.iaload, 1, 0, 0, 0) := by rfl
theorem t83_55 : zT 83 55 = some (.istore 6, 2, 0, 0, 0) := by rfl
theorem t83_57 : zT 83 57 = some (.iload 6, 2, 0, 0, 0) := by rfl
theorem t83_59 : zT 83 59 = some (.bipush (-6), 2, 0, 0, 0) := by rfl
theorem t83_61 : zT 83 61 = some (.if_icmp .eq 19, 3, 0, 0, 0) := by rfl
theorem t83_64 : zT 83 64 = some (.aload_n 0, 1, 0, 0, 0) := by rfl
theorem t83_65 : zT 83 65 = some (.aload_n 2, 1, 0, 0, 0) := by rfl
theorem t83_66 : zT 83 66 = some (.iload 6, 2, 0, 0, 0) := by rfl
theorem t83_68 : zT 83 68 = some (.invokevirtual 65, 3, 85, 0, 561) := by rfl
theorem t83_71 : zT 83 71 = some (.aload_n 2, 1, 0, 0, 0) := by rfl
theorem t83_72 : zT 83 72 = some (.getfield 68, 3, 1, 3, 130) := by rfl
theorem t83_75 : zT 83 75 = some (.iload 6, 2, 0, 0, 0) := by rfl
theorem t83_77 : zT 83 77 = some (.iaload, 1, 0, 0, 0) := by rfl
theorem t83_78 : zT 83 78 = some (.istore 4, 2, 0, 0, 0) := by rfl
theorem t83_80 : zT 83 80 = some (.iload 5, 2, 0, 0, 0) := by rfl
theorem t83_82 : zT 83 82 = some (.iload_n 3, 1, 0, 0, 0) := by rfl
theorem t83_83 : zT 83 83 = some (.if_icmp .ge 24, 3, 0, 0, 0) := by rfl
theorem t83_86 : zT 83 86 = some (.iload 5, 2, 0, 0, 0) := by rfl
theorem t83_88 : zT 83 88 = some (.iload 4, 2, 0, 0, 0) := by rfl
theorem t83_90 : zT 83 90 = some (.if_icmp .lt 17, 3, 0, 0, 0) := by rfl
theorem t83_93 : zT 83 93 = some (.aload_n 0, 1, 0, 0, 0) := by rfl
theorem t83_94 : zT 83 94 = some (.aload_n 1, 1, 0, 0, 0) := by rfl
theorem t83_95 : zT 83 95 = some (.getfield 54, 3, 4, 0, 181) := by rfl
theorem t83_98 : zT 83 98 = some (.getfield 71, 3, 6, 0, 98) := by rfl
theorem t83_101 : zT 83 101 = some (.iload 5, 2, 0, 0, 0) := by rfl
theorem t83_103 : zT 83 103 = some (.iaload, 1, 0, 0, 0) := by rfl
theorem t83_104 : zT 83 104 = some (.invokevirtual 72, 3, 86, 0, 565) := by rfl
theorem t83_107 : zT 83 107 = some (.iinc 5 1, 3, 0, 0, 0) := by rfl
theorem t83_110 : zT 83 110 = some (.goto (-80), 3, 0, 0, 0) := by rfl
theorem t83_113 : zT 83 113 = some (.return_, 1, 0, 0, 0) := by rfl
theorem t84_0 : zT 84 0 = some (.iconst 0, 1, 0, 0, 0) := by rfl
theorem t84_1 : zT 84 1 = some (.istore_n 3, 1, 0, 0, 0) := by rfl
theorem t84_2 : zT 84 2 = some (.iload_n 3, 1, 0, 0, 0) := by rfl
theorem t84_3 : zT 84 3 = some (.iload_n 2, 1, 0, 0, 0) := by rfl
theorem t84_4 : zT 84 4 = some (.if_icmp .gt 25, 3, 0, 0, 0) := by rfl
theorem t84_7 : zT 84 7 = some (.aload_n 0, 1, 0, 0, 0) := by rfl
theorem t84_8 : zT 84 8 = some (.getfield 15, 3, 8, 1, 275) := by rfl
theorem t84_11 : zT 84 11 = some (.iload_n 3, 1, 0, 0, 0) := by rfl
theorem t84_12 : zT 84 12 = some (.bipush (-6), 2, 0, 0, 0) := by rfl
theorem t84_14 : zT 84 14 = some (.iastore, 1, 0, 0, 0) := by rfl
theorem t84_15 : zT 84 15 = some (.aload_n 0, 1, 0, 0, 0) := by rfl
theorem t84_16 : zT 84 16 = some (.getfield 19, 3, 8, 2, 276) := by rfl
theorem t84_19 : zT 84 19 = some (.iload_n 3, 1, 0, 0, 0) := by rfl
theorem t84_20 : zT 84 20 = some (.bipush (-6), 2, 0, 0, 0) := by rfl
theorem t84_22 : zT 84 22 = some (.iastore, 1, 0, 0, 0) := by rfl
theorem t84_23 : zT 84 23 = some (.iinc 3 1, 3, 0, 0, 0) := by rfl
theorem t84_26 : zT 84 26 = some (.goto (-24), 3, 0, 0, 0) := by rfl
theorem t84_29 : zT 84 29 = some (.iconst 0, 1, 0, 0, 0) := by rfl
theorem t84_30 : zT 84 30 = some (.istore_n 3, 1, 0, 0, 0) := by rfl
theorem t84_31 : zT 84 31 = some (.iload_n 3, 1, 0, 0, 0) := by rfl
theorem t84_32 : zT 84 32 = some (.aload_n 1, 1, 0, 0, 0) := by rfl
theorem t84_33 : zT 84 33 = some (.getfield 35, 3, 1, 7, 142) := by rfl
theorem t84_36 : zT 84 36 = some (.if_icmp .ge 66, 3, 0, 0, 0) := by rfl
theorem t84_39 : zT 84 39 = some (.aload_n 1, 1, 0, 0, 0) := by rfl
theorem t84_40 : zT 84 40 = some (.getfield 76, 3, 1, 2, 126) := by rfl
theorem t84_43 : zT 84 43 = some (.iload_n 3, 1, 0, 0, 0) := by rfl
theorem t84_44 : zT 84 44 = some (.iaload, 1, 0, 0, 0) := by rfl
theorem t84_45 : zT 84 45 = some (.istore 4, 2, 0, 0, 0) := by rfl
theorem t84_47 : zT 84 47 = some (.aload_n 0, 1, 0, 0, 0) := by rfl
theorem t84_48 : zT 84 48 = some (.getfield 9, 3, 8, 0, 274) := by rfl
theorem t84_51 : zT 84 51 = some (.iload_n 3, 1, 0, 0, 0) := by rfl
theorem t84_52 : zT 84 52 = some (.baload, 1, 0, 0, 0) := by rfl
theorem t84_53 : zT 84 53 = some (.ifCond .eq 43, 3, 0, 0, 0) := by rfl
theorem t84_56 : zT 84 56 = some (.iload 4, 2, 0, 0, 0) := by rfl
theorem t84_58 : zT 84 58 = some (.ifCond .lt 38, 3, 0, 0, 0) := by rfl
theorem t84_61 : zT 84 61 = some (.iload 4, 2, 0, 0, 0) := by rfl
theorem t84_63 : zT 84 63 = some (.iload_n 2, 1, 0, 0, 0) := by rfl
theorem t84_64 : zT 84 64 = some (.if_icmp .gt 32, 3, 0, 0, 0) := by rfl
theorem t84_67 : zT 84 67 = some (.aload_n 1, 1, 0, 0, 0) := by rfl
theorem t84_68 : zT 84 68 = some (.getfield 79, 3, 1, 1, 122) := by rfl
theorem t84_71 : zT 84 71 = some (.iload_n 3, 1, 0, 0, 0) := by rfl
theorem t84_72 : zT 84 72 = some (.iaload, 1, 0, 0, 0) := by rfl
theorem t84_73 : zT 84 73 = some (.iconst 1, 1, 0, 0, 0) := by rfl
theorem t84_74 : zT 84 74 = some (.if_icmp .ne 14, 3, 0, 0, 0) := by rfl
theorem t84_77 : zT 84 77 = some (.aload_n 0, 1, 0, 0, 0) := by rfl
theorem t84_78 : zT 84 78 = some (.getfield 15, 3, 8, 1, 275) := by rfl
theorem t84_81 : zT 84 81 = some (.iload 4, 2, 0, 0, 0) := by rfl
theorem t84_83 : zT 84 83 = some (.iload_n 3, 1, 0, 0, 0) := by rfl
theorem t84_84 : zT 84 84 = some (.iastore, 1, 0, 0, 0) := by rfl
theorem t84_85 : zT 84 85 = some (.goto 11, 3, 0, 0, 0) := by rfl
theorem t84_88 : zT 84 88 = some (.aload_n 0, 1, 0, 0, 0) := by rfl
theorem t84_89 : zT 84 89 = some (.getfield 19, 3, 8, 2, 276) := by rfl
theorem t84_92 : zT 84 92 = some (.iload 4, 2, 0, 0, 0) := by rfl
theorem t84_94 : zT 84 94 = some (.iload_n 3, 1, 0, 0, 0) := by rfl
theorem t84_95 : zT 84 95 = some (.iastore, 1, 0, 0, 0) := by rfl
theorem t84_96 : zT 84 96 = some (.iinc 3 1, 3, 0, 0, 0) := by rfl
theorem t84_99 : zT 84 99 = some (.goto (-68), 3, 0, 0, 0) := by rfl
theorem t84_102 : zT 84 102 = some (.return_, 1, 0, 0, 0) := by rfl
theorem t85_0 : zT 85 0 = some (.iload_n 2, 1, 0, 0, 0) := by rfl
theorem t85_1 : zT 85 1 = some (.bipush (-6), 2, 0, 0, 0) := by rfl
theorem t85_3 : zT 85 3 = some (.if_icmp .ne 4, 3, 0, 0, 0) := by rfl
theorem t85_6 : zT 85 6 = some (.return_, 1, 0, 0, 0) := by rfl
theorem t85_7 : zT 85 7 = some (.iconst 0, 1, 0, 0, 0) := by rfl
theorem t85_8 : zT 85 8 = some (.istore_n 3, 1, 0, 0, 0) := by rfl
theorem t85_9 : zT 85 9 = some (.iload_n 3, 1, 0, 0, 0) := by rfl
theorem t85_10 : zT 85 10 = some (.aload_n 1, 1, 0, 0, 0) := by rfl
theorem t85_11 : zT 85 11 = some (.getfield 82, 3, 1, 5, 137) := by rfl
theorem t85_14 : zT 85 14 = some (.iload_n 2, 1, 0, 0, 0) := by rfl
theorem t85_15 : zT 85 15 = some (.iaload, 1, 0, 0, 0) := by rfl
theorem t85_16 : zT 85 16 = some (.if_icmp .ge 24, 3, 0, 0, 0) := by rfl
theorem t85_19 : zT 85 19 = some (.aload_n 0, 1, 0, 0, 0) := by rfl
theorem t85_20 : zT 85 20 = some (.aload_n 1, 1, 0, 0, 0) := by rfl
theorem t85_21 : zT 85 21 = some (.getfield 85, 3, 1, 6, 140) := by rfl
theorem t85_24 : zT 85 24 = some (.iload_n 2, 1, 0, 0, 0) := by rfl
theorem t85_25 : zT 85 25 = some (.bipush 6, 2, 0, 0, 0) := by rfl
theorem t85_27 : zT 85 27 = some (.imul, 1, 0, 0, 0) := by rfl
theorem t85_28 : zT 85 28 = some (.iload_n 3, 1, 0, 0, 0) := by rfl
theorem t85_29 : zT 85 29 = some (.iadd, 1, 0, 0, 0) := by rfl
theorem t85_30 : zT 85 30 = some (.iaload, 1, 0, 0, 0) := by rfl
theorem t85_31 : zT 85 31 = some (.invokevirtual 72, 3, 86, 0, 565) := by rfl
theorem t85_34 : zT 85 34 = some (.iinc 3 1, 3, 0, 0, 0) := by rfl
theorem t85_37 : zT 85 37 = some (.goto (-28), 3, 0, 0, 0) := by rfl
theorem t85_40 : zT 85 40 = some (.return_, 1, 0, 0, 0) := by rfl
theorem t86_0 : zT 86 0 = some (.aload_n 0, 1, 0, 0, 0) := by rfl
theorem t86_1 : zT 86 1 = some (.getfield 25, 3, 8, 4, 278) := by rfl
theorem t86_4 : zT 86 4 = some (.sipush 180, 3, 0, 0, 0) := by rfl
theorem t86_7 : zT 86 7 = some (.if_icmp .ge 23, 3, 0, 0, 0) := by rfl
theorem t86_10 : zT 86 10 = some (.aload_n 0, 1, 0, 0, 0) := by rfl
theorem t86_11 : zT 86 11 = some (.getfield 22, 3, 8, 3, 277) := by rfl
theorem t86_14 : zT 86 14 = some (.aload_n 0, 1, 0, 0, 0) := by rfl
theorem t86_15 : zT 86 15 = some (.getfield 25, 3, 8, 4, 278) := by rfl
theorem t86_18 : zT 86 18 = some (.iload_n 1, 1, 0, 0, 0) := by rfl
theorem t86_19 : zT 86 19 = some (.iastore, 1, 0, 0, 0) := by rfl
theorem t86_20 : zT 86 20 = some (.aload_n 0, 1, 0, 0, 0) := by rfl
theorem t86_21 : zT 86 21 = some (.dup, 1, 0, 0, 0) := by rfl
theorem t86_22 : zT 86 22 = some (.getfield 25, 3, 8, 4, 278) := by rfl
theorem t86_25 : zT 86 25 = some (.iconst 1, 1, 0, 0, 0) := by rfl
theorem t86_26 : zT 86 26 = some (.iadd, 1, 0, 0, 0) := by rfl
theorem t86_27 : zT 86 27 = some (.putfield 25, 3, 8, 4, 278) := by rfl
theorem t86_30 : zT 86 30 = some (.return_, 1, 0, 0, 0) := by rfl
/-! X8_at FiveInks$View.at -/
theorem k80_0 {X : Nat × (Nat → Int32)} {I : Nat → Nat → Int32} {v1 : Int32}  : zr X 80 0 [.ref 153, .int v1] [] (zk I) = if v1 < 0 then zr X 80 21 [.ref 153, .int v1] [] (zk I) else zr X 80 4 [.ref 153, .int v1] [] (zk I) :=
  (zr_iload_n t80_0 rfl).trans <|
    zr_if_lt (tgt := 21) t80_1 rfl
theorem k80_4 {X : Nat × (Nat → Int32)} {I : Nat → Nat → Int32} {v1 : Int32}  : zr X 80 4 [.ref 153, .int v1] [] (zk I) = if (I 153 4) ≤ v1 then zr X 80 21 [.ref 153, .int v1] [] (zk I) else zr X 80 12 [.ref 153, .int v1] [] (zk I) :=
  (zr_iload_n t80_4 rfl).trans <|
    (zr_aload_n t80_5 rfl).trans <|
    (zr_getI t80_6 (rfl)).trans <|
    zr_ic_ge (tgt := 21) t80_9 rfl
theorem k80_12 {X : Nat × (Nat → Int32)} {I : Nat → Nat → Int32} {v1 : Int32} (q1 : zin v1 180 = true) : zr X 80 12 [.ref 153, .int v1] [] (zk I) = some (some (.int (I 157 (zx v1))), zk I) :=
  (zr_aload_n t80_12 rfl).trans <|
    (zr_getR (u := 157) t80_13 (rfl)).trans <|
    (zr_iload_n t80_16 rfl).trans <|
    (zr_iald (j := zx v1) t80_17 (N := 180) rfl rfl q1).trans <|
    (zr_goto (tgt := 22) t80_18 rfl).trans <|
    zr_iret t80_22 rfl
theorem k80_21 {X : Nat × (Nat → Int32)} {I : Nat → Nat → Int32} {v1 : Int32}  : zr X 80 21 [.ref 153, .int v1] [] (zk I) = some (some (.int (-1)), zk I) :=
  (zr_iconst t80_21 zci_m1).trans <|
    zr_iret t80_22 rfl
/-! X8_showPrint FiveInks$View.showPrint -/
theorem k81_0 {X : Nat × (Nat → Int32)} {I : Nat → Nat → Int32}   : zr X 81 0 [.ref 153, .ref 2, .null] [] (zk I) = zr X 81 2 [.ref 153, .ref 2, .int 0] [] (zk I) :=
  (zr_iconst t81_0 zci_0).trans <|
    zr_istore_n t81_1 rfl rfl
theorem k81_2 {X : Nat × (Nat → Int32)} {I : Nat → Nat → Int32} {v2 : Int32}  : zr X 81 2 [.ref 153, .ref 2, .int v2] [] (zk I) = if (I 5 7) ≤ v2 then zr X 81 43 [.ref 153, .ref 2, .int v2] [] (zk I) else zr X 81 13 [.ref 153, .ref 2, .int v2] [] (zk I) :=
  (zr_iload_n t81_2 rfl).trans <|
    (zr_aload_n t81_3 rfl).trans <|
    (zr_getR (u := 5) t81_4 (rfl)).trans <|
    (zr_getI t81_7 (rfl)).trans <|
    zr_ic_ge (tgt := 43) t81_10 rfl
theorem k81_13 {X : Nat × (Nat → Int32)} {I : Nat → Nat → Int32} {v2 : Int32} (q1 : zin v2 20 = true) : zr X 81 13 [.ref 153, .ref 2, .int v2] [] (zk I) = if ¬ (I 10 (zx v2)) = 1 then zr X 81 35 [.ref 153, .ref 2, .int v2] [.int v2, .ref 154] (zk I) else zr X 81 31 [.ref 153, .ref 2, .int v2] [.int v2, .ref 154] (zk I) :=
  (zr_aload_n t81_13 rfl).trans <|
    (zr_getR (u := 154) t81_14 (rfl)).trans <|
    (zr_iload_n t81_17 rfl).trans <|
    (zr_aload_n t81_18 rfl).trans <|
    (zr_getR (u := 5) t81_19 (rfl)).trans <|
    (zr_getR (u := 10) t81_22 (rfl)).trans <|
    (zr_iload_n t81_25 rfl).trans <|
    (zr_iald (j := zx v2) t81_26 (N := 20) rfl rfl q1).trans <|
    (zr_iconst t81_27 zci_1).trans <|
    zr_ic_ne (tgt := 35) t81_28 rfl
theorem k81_31 {X : Nat × (Nat → Int32)} {I : Nat → Nat → Int32} {v2 : Int32} {s1 : Int32} (q1 : zin s1 20 = true) : zr X 81 31 [.ref 153, .ref 2, .int v2] [.int s1, .ref 154] (zk I) = zr X 81 2 [.ref 153, .ref 2, .int (v2 + 1)] [] (zk (zs1 I 154 (zx s1) 1)) :=
  (zr_iconst t81_31 zci_1).trans <|
    (zr_goto (tgt := 36) t81_32 rfl).trans <|
    (zr_bast (j := zx s1) t81_36 (N := 20) rfl rfl q1 (Or.inr rfl)).trans <|
    (zr_iinc t81_37 rfl rfl (congrArg (fun z => v2 + z) zci_1) rfl).trans <|
    zr_goto (tgt := 2) t81_40 rfl
theorem k81_35 {X : Nat × (Nat → Int32)} {I : Nat → Nat → Int32} {v2 : Int32} {s1 : Int32} (q1 : zin s1 20 = true) : zr X 81 35 [.ref 153, .ref 2, .int v2] [.int s1, .ref 154] (zk I) = zr X 81 2 [.ref 153, .ref 2, .int (v2 + 1)] [] (zk (zs1 I 154 (zx s1) 0)) :=
  (zr_iconst t81_35 zci_0).trans <|
    (zr_bast (j := zx s1) t81_36 (N := 20) rfl rfl q1 (Or.inl rfl)).trans <|
    (zr_iinc t81_37 rfl rfl (congrArg (fun z => v2 + z) zci_1) rfl).trans <|
    zr_goto (tgt := 2) t81_40 rfl
theorem k81_43 {X : Nat × (Nat → Int32)} {I : Nat → Nat → Int32} {v2 : Int32}  : zr X 81 43 [.ref 153, .ref 2, .int v2] [] (zk I) = zcb (zr X 83 0 [.ref 153, .ref 2, .null, .null, .null, .null, .null] [] (zk I)) (fun v m1 => zr X 81 48 [.ref 153, .ref 2, .int v2] (v.toList ++ []) m1) :=
  (zr_aload_n t81_43 rfl).trans <|
    (zr_aload_n t81_44 rfl).trans <|
    zr_callv t81_45 rfl rfl rfl rfl
theorem k81_48 {X : Nat × (Nat → Int32)} {I : Nat → Nat → Int32} {v2 : Int32}  : zr X 81 48 [.ref 153, .ref 2, .int v2] [] (zk I) = some (none, zk I) :=
  zr_vret t81_48 rfl
/-! X8_showSeenBy FiveInks$View.showSeenBy -/
theorem k82_0 {X : Nat × (Nat → Int32)} {I : Nat → Nat → Int32} {v1 : Int32}  : zr X 82 0 [.ref 153, .int v1, .ref 2, .null, .null] [] (zk I) = zr X 82 8 [.ref 153, .int v1, .ref 2, .ref 5, .int 0] [] (zk I) :=
  (zr_aload_n t82_0 rfl).trans <|
    (zr_getR (u := 5) t82_1 (rfl)).trans <|
    (zr_astore_n t82_4 rfl rfl).trans <|
    (zr_iconst t82_5 zci_0).trans <|
    zr_istore t82_6 rfl rfl
theorem k82_8 {X : Nat × (Nat → Int32)} {I : Nat → Nat → Int32} {v1 : Int32} {v4 : Int32}  : zr X 82 8 [.ref 153, .int v1, .ref 2, .ref 5, .int v4] [] (zk I) = if (I 5 7) ≤ v4 then zr X 82 92 [.ref 153, .int v1, .ref 2, .ref 5, .int v4] [] (zk I) else zr X 82 17 [.ref 153, .int v1, .ref 2, .ref 5, .int v4] [] (zk I) :=
  (zr_iload t82_8 rfl).trans <|
    (zr_aload_n t82_10 rfl).trans <|
    (zr_getI t82_11 (rfl)).trans <|
    zr_ic_ge (tgt := 92) t82_14 rfl
theorem k82_17 {X : Nat × (Nat → Int32)} {I : Nat → Nat → Int32} {v1 : Int32} {v4 : Int32} (q1 : zin v4 20 = true) : zr X 82 17 [.ref 153, .int v1, .ref 2, .ref 5, .int v4] [] (zk I) = if ¬ (I 10 (zx v4)) = 0 then zr X 82 53 [.ref 153, .int v1, .ref 2, .ref 5, .int v4] [] (zk I) else zr X 82 27 [.ref 153, .int v1, .ref 2, .ref 5, .int v4] [] (zk I) :=
  (zr_aload_n t82_17 rfl).trans <|
    (zr_getR (u := 10) t82_18 (rfl)).trans <|
    (zr_iload t82_21 rfl).trans <|
    (zr_iald (j := zx v4) t82_23 (N := 20) rfl rfl q1).trans <|
    zr_if_ne (tgt := 53) t82_24 rfl
theorem k82_27 {X : Nat × (Nat → Int32)} {I : Nat → Nat → Int32} {v1 : Int32} {v4 : Int32} (q1 : zin v4 20 = true) : zr X 82 27 [.ref 153, .int v1, .ref 2, .ref 5, .int v4] [] (zk I) = if ¬ (I 6 (zx v4)) = v1 then zr X 82 48 [.ref 153, .int v1, .ref 2, .ref 5, .int v4] [.int v4, .ref 154] (zk I) else zr X 82 44 [.ref 153, .int v1, .ref 2, .ref 5, .int v4] [.int v4, .ref 154] (zk I) :=
  (zr_aload_n t82_27 rfl).trans <|
    (zr_getR (u := 154) t82_28 (rfl)).trans <|
    (zr_iload t82_31 rfl).trans <|
    (zr_aload_n t82_33 rfl).trans <|
    (zr_getR (u := 6) t82_34 (rfl)).trans <|
    (zr_iload t82_37 rfl).trans <|
    (zr_iald (j := zx v4) t82_39 (N := 20) rfl rfl q1).trans <|
    (zr_iload_n t82_40 rfl).trans <|
    zr_ic_ne (tgt := 48) t82_41 rfl
theorem k82_44 {X : Nat × (Nat → Int32)} {I : Nat → Nat → Int32} {v1 : Int32} {v4 : Int32} {s1 : Int32} (q1 : zin s1 20 = true) : zr X 82 44 [.ref 153, .int v1, .ref 2, .ref 5, .int v4] [.int s1, .ref 154] (zk I) = zr X 82 8 [.ref 153, .int v1, .ref 2, .ref 5, .int (v4 + 1)] [] (zk (zs1 I 154 (zx s1) 1)) :=
  (zr_iconst t82_44 zci_1).trans <|
    (zr_goto (tgt := 49) t82_45 rfl).trans <|
    (zr_bast (j := zx s1) t82_49 (N := 20) rfl rfl q1 (Or.inr rfl)).trans <|
    (zr_goto (tgt := 86) t82_50 rfl).trans <|
    (zr_iinc t82_86 rfl rfl (congrArg (fun z => v4 + z) zci_1) rfl).trans <|
    zr_goto (tgt := 8) t82_89 rfl
theorem k82_48 {X : Nat × (Nat → Int32)} {I : Nat → Nat → Int32} {v1 : Int32} {v4 : Int32} {s1 : Int32} (q1 : zin s1 20 = true) : zr X 82 48 [.ref 153, .int v1, .ref 2, .ref 5, .int v4] [.int s1, .ref 154] (zk I) = zr X 82 8 [.ref 153, .int v1, .ref 2, .ref 5, .int (v4 + 1)] [] (zk (zs1 I 154 (zx s1) 0)) :=
  (zr_iconst t82_48 zci_0).trans <|
    (zr_bast (j := zx s1) t82_49 (N := 20) rfl rfl q1 (Or.inl rfl)).trans <|
    (zr_goto (tgt := 86) t82_50 rfl).trans <|
    (zr_iinc t82_86 rfl rfl (congrArg (fun z => v4 + z) zci_1) rfl).trans <|
    zr_goto (tgt := 8) t82_89 rfl
theorem k82_53 {X : Nat × (Nat → Int32)} {I : Nat → Nat → Int32} {v1 : Int32} {v4 : Int32} (q1 : zin v4 20 = true) : zr X 82 53 [.ref 153, .int v1, .ref 2, .ref 5, .int v4] [] (zk I) = if ¬ (I 10 (zx v4)) = 1 then zr X 82 84 [.ref 153, .int v1, .ref 2, .ref 5, .int v4] [.int v4, .ref 154] (zk I) else zr X 82 70 [.ref 153, .int v1, .ref 2, .ref 5, .int v4] [.int v4, .ref 154] (zk I) :=
  (zr_aload_n t82_53 rfl).trans <|
    (zr_getR (u := 154) t82_54 (rfl)).trans <|
    (zr_iload t82_57 rfl).trans <|
    (zr_aload_n t82_59 rfl).trans <|
    (zr_getR (u := 10) t82_60 (rfl)).trans <|
    (zr_iload t82_63 rfl).trans <|
    (zr_iald (j := zx v4) t82_65 (N := 20) rfl rfl q1).trans <|
    (zr_iconst t82_66 zci_1).trans <|
    zr_ic_ne (tgt := 84) t82_67 rfl
theorem k82_70 {X : Nat × (Nat → Int32)} {I : Nat → Nat → Int32} {v1 : Int32} {v4 : Int32} {s1 : Int32}  : zr X 82 70 [.ref 153, .int v1, .ref 2, .ref 5, .int v4] [.int s1, .ref 154] (zk I) = zcb (zr X 17 0 [.ref 5, .int v1, .int v4, .null] [] (zk I)) (fun v m1 => zr X 82 77 [.ref 153, .int v1, .ref 2, .ref 5, .int v4] (v.toList ++ [.int s1, .ref 154]) m1) :=
  (zr_aload_n t82_70 rfl).trans <|
    (zr_iload_n t82_71 rfl).trans <|
    (zr_iload t82_72 rfl).trans <|
    zr_callv t82_74 rfl rfl rfl rfl
theorem k82_77 {X : Nat × (Nat → Int32)} {I : Nat → Nat → Int32} {v1 : Int32} {v4 : Int32} {s1 : Int32} {s2 : Int32}  : zr X 82 77 [.ref 153, .int v1, .ref 2, .ref 5, .int v4] [.int s2, .int s1, .ref 154] (zk I) = if ¬ s2 = 0 then zr X 82 84 [.ref 153, .int v1, .ref 2, .ref 5, .int v4] [.int s1, .ref 154] (zk I) else zr X 82 80 [.ref 153, .int v1, .ref 2, .ref 5, .int v4] [.int s1, .ref 154] (zk I) :=
  zr_if_ne (tgt := 84) t82_77 rfl
theorem k82_80 {X : Nat × (Nat → Int32)} {I : Nat → Nat → Int32} {v1 : Int32} {v4 : Int32} {s1 : Int32} (q1 : zin s1 20 = true) : zr X 82 80 [.ref 153, .int v1, .ref 2, .ref 5, .int v4] [.int s1, .ref 154] (zk I) = zr X 82 8 [.ref 153, .int v1, .ref 2, .ref 5, .int (v4 + 1)] [] (zk (zs1 I 154 (zx s1) 1)) :=
  (zr_iconst t82_80 zci_1).trans <|
    (zr_goto (tgt := 85) t82_81 rfl).trans <|
    (zr_bast (j := zx s1) t82_85 (N := 20) rfl rfl q1 (Or.inr rfl)).trans <|
    (zr_iinc t82_86 rfl rfl (congrArg (fun z => v4 + z) zci_1) rfl).trans <|
    zr_goto (tgt := 8) t82_89 rfl
theorem k82_84 {X : Nat × (Nat → Int32)} {I : Nat → Nat → Int32} {v1 : Int32} {v4 : Int32} {s1 : Int32} (q1 : zin s1 20 = true) : zr X 82 84 [.ref 153, .int v1, .ref 2, .ref 5, .int v4] [.int s1, .ref 154] (zk I) = zr X 82 8 [.ref 153, .int v1, .ref 2, .ref 5, .int (v4 + 1)] [] (zk (zs1 I 154 (zx s1) 0)) :=
  (zr_iconst t82_84 zci_0).trans <|
    (zr_bast (j := zx s1) t82_85 (N := 20) rfl rfl q1 (Or.inl rfl)).trans <|
    (zr_iinc t82_86 rfl rfl (congrArg (fun z => v4 + z) zci_1) rfl).trans <|
    zr_goto (tgt := 8) t82_89 rfl
theorem k82_92 {X : Nat × (Nat → Int32)} {I : Nat → Nat → Int32} {v1 : Int32} {v4 : Int32}  : zr X 82 92 [.ref 153, .int v1, .ref 2, .ref 5, .int v4] [] (zk I) = zcb (zr X 83 0 [.ref 153, .ref 2, .null, .null, .null, .null, .null] [] (zk I)) (fun v m1 => zr X 82 97 [.ref 153, .int v1, .ref 2, .ref 5, .int v4] (v.toList ++ []) m1) :=
  (zr_aload_n t82_92 rfl).trans <|
    (zr_aload_n t82_93 rfl).trans <|
    zr_callv t82_94 rfl rfl rfl rfl
theorem k82_97 {X : Nat × (Nat → Int32)} {I : Nat → Nat → Int32} {v1 : Int32} {v4 : Int32}  : zr X 82 97 [.ref 153, .int v1, .ref 2, .ref 5, .int v4] [] (zk I) = some (none, zk I) :=
  zr_vret t82_97 rfl
/-! X8_carryOut FiveInks$View.carryOut -/
theorem k83_0 {X : Nat × (Nat → Int32)} {I : Nat → Nat → Int32}   : zr X 83 0 [.ref 153, .ref 2, .null, .null, .null, .null, .null] [] (zk I) = zcb (zr X 84 0 [.ref 153, .ref 5, .int (I 3 1), .null, .null] [] (zk I)) (fun v m1 => zr X 83 19 [.ref 153, .ref 2, .ref 5, .int (I 3 1), .null, .null, .null] (v.toList ++ []) m1) :=
  (zr_aload_n t83_0 rfl).trans <|
    (zr_getR (u := 5) t83_1 (rfl)).trans <|
    (zr_astore_n t83_4 rfl rfl).trans <|
    (zr_aload_n t83_5 rfl).trans <|
    (zr_getR (u := 3) t83_6 (rfl)).trans <|
    (zr_getI t83_9 (rfl)).trans <|
    (zr_istore_n t83_12 rfl rfl).trans <|
    (zr_aload_n t83_13 rfl).trans <|
    (zr_aload_n t83_14 rfl).trans <|
    (zr_iload_n t83_15 rfl).trans <|
    zr_callv t83_16 rfl rfl rfl rfl
theorem k83_19 {X : Nat × (Nat → Int32)} {I : Nat → Nat → Int32} {v3 : Int32}  : zr X 83 19 [.ref 153, .ref 2, .ref 5, .int v3, .null, .null, .null] [] (zk I) = zr X 83 30 [.ref 153, .ref 2, .ref 5, .int v3, .int 0, .int 0, .null] [] (zk (zs1 I 153 4 0)) :=
  (zr_aload_n t83_19 rfl).trans <|
    (zr_iconst t83_20 zci_0).trans <|
    (zr_putI t83_21 (rfl) (Or.inl rfl)).trans <|
    (zr_iconst t83_24 zci_0).trans <|
    (zr_istore t83_25 rfl rfl).trans <|
    (zr_iconst t83_27 zci_0).trans <|
    zr_istore t83_28 rfl rfl
theorem k83_30 {X : Nat × (Nat → Int32)} {I : Nat → Nat → Int32} {v3 : Int32} {v4 : Int32} {v5 : Int32} {v6 : Value}  : zr X 83 30 [.ref 153, .ref 2, .ref 5, .int v3, .int v4, .int v5, v6] [] (zk I) = if v3 < v5 then zr X 83 113 [.ref 153, .ref 2, .ref 5, .int v3, .int v4, .int v5, v6] [] (zk I) else zr X 83 36 [.ref 153, .ref 2, .ref 5, .int v3, .int v4, .int v5, v6] [] (zk I) :=
  (zr_iload t83_30 rfl).trans <|
    (zr_iload_n t83_32 rfl).trans <|
    zr_ic_gt (tgt := 113) t83_33 rfl
theorem k83_36 {X : Nat × (Nat → Int32)} {I : Nat → Nat → Int32} {v3 : Int32} {v4 : Int32} {v5 : Int32} {v6 : Value} (q1 : zin v5 61 = true) : zr X 83 36 [.ref 153, .ref 2, .ref 5, .int v3, .int v4, .int v5, v6] [] (zk I) = zcb (zr X 85 0 [.ref 153, .ref 5, .int (I 155 (zx v5)), .null] [] (zk I)) (fun v m1 => zr X 83 48 [.ref 153, .ref 2, .ref 5, .int v3, .int v4, .int v5, v6] (v.toList ++ []) m1) :=
  (zr_aload_n t83_36 rfl).trans <|
    (zr_aload_n t83_37 rfl).trans <|
    (zr_aload_n t83_38 rfl).trans <|
    (zr_getR (u := 155) t83_39 (rfl)).trans <|
    (zr_iload t83_42 rfl).trans <|
    (zr_iald (j := zx v5) t83_44 (N := 61) rfl rfl q1).trans <|
    zr_callv t83_45 rfl rfl rfl rfl
theorem k83_48 {X : Nat × (Nat → Int32)} {I : Nat → Nat → Int32} {v3 : Int32} {v4 : Int32} {v5 : Int32} {v6 : Value} (q1 : zin v5 61 = true) : zr X 83 48 [.ref 153, .ref 2, .ref 5, .int v3, .int v4, .int v5, v6] [] (zk I) = if (I 156 (zx v5)) = (-6) then zr X 83 80 [.ref 153, .ref 2, .ref 5, .int v3, .int v4, .int v5, .int (I 156 (zx v5))] [] (zk I) else zr X 83 64 [.ref 153, .ref 2, .ref 5, .int v3, .int v4, .int v5, .int (I 156 (zx v5))] [] (zk I) :=
  (zr_aload_n t83_48 rfl).trans <|
    (zr_getR (u := 156) t83_49 (rfl)).trans <|
    (zr_iload t83_52 rfl).trans <|
    (zr_iald (j := zx v5) t83_54 (N := 61) rfl rfl q1).trans <|
    (zr_istore t83_55 rfl rfl).trans <|
    (zr_iload t83_57 rfl).trans <|
    (zr_bipush t83_59 zcb_m6).trans <|
    zr_ic_eq (tgt := 80) t83_61 rfl
theorem k83_64 {X : Nat × (Nat → Int32)} {I : Nat → Nat → Int32} {v3 : Int32} {v4 : Int32} {v5 : Int32} {v6 : Int32}  : zr X 83 64 [.ref 153, .ref 2, .ref 5, .int v3, .int v4, .int v5, .int v6] [] (zk I) = zcb (zr X 85 0 [.ref 153, .ref 5, .int v6, .null] [] (zk I)) (fun v m1 => zr X 83 71 [.ref 153, .ref 2, .ref 5, .int v3, .int v4, .int v5, .int v6] (v.toList ++ []) m1) :=
  (zr_aload_n t83_64 rfl).trans <|
    (zr_aload_n t83_65 rfl).trans <|
    (zr_iload t83_66 rfl).trans <|
    zr_callv t83_68 rfl rfl rfl rfl
theorem k83_71 {X : Nat × (Nat → Int32)} {I : Nat → Nat → Int32} {v3 : Int32} {v4 : Int32} {v5 : Int32} {v6 : Int32} (q1 : zin v6 20 = true) : zr X 83 71 [.ref 153, .ref 2, .ref 5, .int v3, .int v4, .int v5, .int v6] [] (zk I) = if v3 ≤ v5 then zr X 83 107 [.ref 153, .ref 2, .ref 5, .int v3, .int (I 9 (zx v6)), .int v5, .int v6] [] (zk I) else zr X 83 86 [.ref 153, .ref 2, .ref 5, .int v3, .int (I 9 (zx v6)), .int v5, .int v6] [] (zk I) :=
  (zr_aload_n t83_71 rfl).trans <|
    (zr_getR (u := 9) t83_72 (rfl)).trans <|
    (zr_iload t83_75 rfl).trans <|
    (zr_iald (j := zx v6) t83_77 (N := 20) rfl rfl q1).trans <|
    (zr_istore t83_78 rfl rfl).trans <|
    (zr_iload t83_80 rfl).trans <|
    (zr_iload_n t83_82 rfl).trans <|
    zr_ic_ge (tgt := 107) t83_83 rfl
theorem k83_80 {X : Nat × (Nat → Int32)} {I : Nat → Nat → Int32} {v3 : Int32} {v4 : Int32} {v5 : Int32} {v6 : Int32}  : zr X 83 80 [.ref 153, .ref 2, .ref 5, .int v3, .int v4, .int v5, .int v6] [] (zk I) = if v3 ≤ v5 then zr X 83 107 [.ref 153, .ref 2, .ref 5, .int v3, .int v4, .int v5, .int v6] [] (zk I) else zr X 83 86 [.ref 153, .ref 2, .ref 5, .int v3, .int v4, .int v5, .int v6] [] (zk I) :=
  (zr_iload t83_80 rfl).trans <|
    (zr_iload_n t83_82 rfl).trans <|
    zr_ic_ge (tgt := 107) t83_83 rfl
theorem k83_86 {X : Nat × (Nat → Int32)} {I : Nat → Nat → Int32} {v3 : Int32} {v4 : Int32} {v5 : Int32} {v6 : Int32}  : zr X 83 86 [.ref 153, .ref 2, .ref 5, .int v3, .int v4, .int v5, .int v6] [] (zk I) = if v5 < v4 then zr X 83 107 [.ref 153, .ref 2, .ref 5, .int v3, .int v4, .int v5, .int v6] [] (zk I) else zr X 83 93 [.ref 153, .ref 2, .ref 5, .int v3, .int v4, .int v5, .int v6] [] (zk I) :=
  (zr_iload t83_86 rfl).trans <|
    (zr_iload t83_88 rfl).trans <|
    zr_ic_lt (tgt := 107) t83_90 rfl
theorem k83_93 {X : Nat × (Nat → Int32)} {I : Nat → Nat → Int32} {v3 : Int32} {v4 : Int32} {v5 : Int32} {v6 : Int32} (q1 : zin v5 60 = true) : zr X 83 93 [.ref 153, .ref 2, .ref 5, .int v3, .int v4, .int v5, .int v6] [] (zk I) = zcb (zr X 86 0 [.ref 153, .int (I 4 (zx v5))] [] (zk I)) (fun v m1 => zr X 83 107 [.ref 153, .ref 2, .ref 5, .int v3, .int v4, .int v5, .int v6] (v.toList ++ []) m1) :=
  (zr_aload_n t83_93 rfl).trans <|
    (zr_aload_n t83_94 rfl).trans <|
    (zr_getR (u := 3) t83_95 (rfl)).trans <|
    (zr_getR (u := 4) t83_98 (rfl)).trans <|
    (zr_iload t83_101 rfl).trans <|
    (zr_iald (j := zx v5) t83_103 (N := 60) rfl rfl q1).trans <|
    zr_callv t83_104 rfl rfl rfl rfl
theorem k83_107 {X : Nat × (Nat → Int32)} {I : Nat → Nat → Int32} {v3 : Int32} {v4 : Int32} {v5 : Int32} {v6 : Int32}  : zr X 83 107 [.ref 153, .ref 2, .ref 5, .int v3, .int v4, .int v5, .int v6] [] (zk I) = zr X 83 30 [.ref 153, .ref 2, .ref 5, .int v3, .int v4, .int (v5 + 1), .int v6] [] (zk I) :=
  (zr_iinc t83_107 rfl rfl (congrArg (fun z => v5 + z) zci_1) rfl).trans <|
    zr_goto (tgt := 30) t83_110 rfl
theorem k83_113 {X : Nat × (Nat → Int32)} {I : Nat → Nat → Int32} {v3 : Int32} {v4 : Int32} {v5 : Int32} {v6 : Value}  : zr X 83 113 [.ref 153, .ref 2, .ref 5, .int v3, .int v4, .int v5, v6] [] (zk I) = some (none, zk I) :=
  zr_vret t83_113 rfl
/-! X8_placeChosen FiveInks$View.placeChosen -/
theorem k84_0 {X : Nat × (Nat → Int32)} {I : Nat → Nat → Int32} {v2 : Int32}  : zr X 84 0 [.ref 153, .ref 5, .int v2, .null, .null] [] (zk I) = zr X 84 2 [.ref 153, .ref 5, .int v2, .int 0, .null] [] (zk I) :=
  (zr_iconst t84_0 zci_0).trans <|
    zr_istore_n t84_1 rfl rfl
theorem k84_2 {X : Nat × (Nat → Int32)} {I : Nat → Nat → Int32} {v2 : Int32} {v3 : Int32}  : zr X 84 2 [.ref 153, .ref 5, .int v2, .int v3, .null] [] (zk I) = if v2 < v3 then zr X 84 29 [.ref 153, .ref 5, .int v2, .int v3, .null] [] (zk I) else zr X 84 7 [.ref 153, .ref 5, .int v2, .int v3, .null] [] (zk I) :=
  (zr_iload_n t84_2 rfl).trans <|
    (zr_iload_n t84_3 rfl).trans <|
    zr_ic_gt (tgt := 29) t84_4 rfl
theorem k84_7 {X : Nat × (Nat → Int32)} {I : Nat → Nat → Int32} {v2 : Int32} {v3 : Int32} (q1 : zin v3 61 = true) : zr X 84 7 [.ref 153, .ref 5, .int v2, .int v3, .null] [] (zk I) = zr X 84 2 [.ref 153, .ref 5, .int v2, .int (v3 + 1), .null] [] (zk (zs1 (zs1 I 155 (zx v3) (-6)) 156 (zx v3) (-6))) :=
  (zr_aload_n t84_7 rfl).trans <|
    (zr_getR (u := 155) t84_8 (rfl)).trans <|
    (zr_iload_n t84_11 rfl).trans <|
    (zr_bipush t84_12 zcb_m6).trans <|
    (zr_iast (j := zx v3) t84_14 (N := 61) rfl rfl q1).trans <|
    (zr_aload_n t84_15 rfl).trans <|
    (zr_getR (u := 156) t84_16 (rfl)).trans <|
    (zr_iload_n t84_19 rfl).trans <|
    (zr_bipush t84_20 zcb_m6).trans <|
    (zr_iast (j := zx v3) t84_22 (N := 61) rfl rfl q1).trans <|
    (zr_iinc t84_23 rfl rfl (congrArg (fun z => v3 + z) zci_1) rfl).trans <|
    zr_goto (tgt := 2) t84_26 rfl
theorem k84_29 {X : Nat × (Nat → Int32)} {I : Nat → Nat → Int32} {v2 : Int32} {v3 : Int32}  : zr X 84 29 [.ref 153, .ref 5, .int v2, .int v3, .null] [] (zk I) = zr X 84 31 [.ref 153, .ref 5, .int v2, .int 0, .null] [] (zk I) :=
  (zr_iconst t84_29 zci_0).trans <|
    zr_istore_n t84_30 rfl rfl
theorem k84_31 {X : Nat × (Nat → Int32)} {I : Nat → Nat → Int32} {v2 : Int32} {v3 : Int32} {v4 : Value}  : zr X 84 31 [.ref 153, .ref 5, .int v2, .int v3, v4] [] (zk I) = if (I 5 7) ≤ v3 then zr X 84 102 [.ref 153, .ref 5, .int v2, .int v3, v4] [] (zk I) else zr X 84 39 [.ref 153, .ref 5, .int v2, .int v3, v4] [] (zk I) :=
  (zr_iload_n t84_31 rfl).trans <|
    (zr_aload_n t84_32 rfl).trans <|
    (zr_getI t84_33 (rfl)).trans <|
    zr_ic_ge (tgt := 102) t84_36 rfl
theorem k84_39 {X : Nat × (Nat → Int32)} {I : Nat → Nat → Int32} {v2 : Int32} {v3 : Int32} {v4 : Value} (q1 : zin v3 20 = true) : zr X 84 39 [.ref 153, .ref 5, .int v2, .int v3, v4] [] (zk I) = if (I 154 (zx v3)) = 0 then zr X 84 96 [.ref 153, .ref 5, .int v2, .int v3, .int (I 8 (zx v3))] [] (zk I) else zr X 84 56 [.ref 153, .ref 5, .int v2, .int v3, .int (I 8 (zx v3))] [] (zk I) :=
  (zr_aload_n t84_39 rfl).trans <|
    (zr_getR (u := 8) t84_40 (rfl)).trans <|
    (zr_iload_n t84_43 rfl).trans <|
    (zr_iald (j := zx v3) t84_44 (N := 20) rfl rfl q1).trans <|
    (zr_istore t84_45 rfl rfl).trans <|
    (zr_aload_n t84_47 rfl).trans <|
    (zr_getR (u := 154) t84_48 (rfl)).trans <|
    (zr_iload_n t84_51 rfl).trans <|
    (zr_bald (j := zx v3) t84_52 (N := 20) rfl rfl q1).trans <|
    zr_if_eq (tgt := 96) t84_53 rfl
theorem k84_56 {X : Nat × (Nat → Int32)} {I : Nat → Nat → Int32} {v2 : Int32} {v3 : Int32} {v4 : Int32}  : zr X 84 56 [.ref 153, .ref 5, .int v2, .int v3, .int v4] [] (zk I) = if v4 < 0 then zr X 84 96 [.ref 153, .ref 5, .int v2, .int v3, .int v4] [] (zk I) else zr X 84 61 [.ref 153, .ref 5, .int v2, .int v3, .int v4] [] (zk I) :=
  (zr_iload t84_56 rfl).trans <|
    zr_if_lt (tgt := 96) t84_58 rfl
theorem k84_61 {X : Nat × (Nat → Int32)} {I : Nat → Nat → Int32} {v2 : Int32} {v3 : Int32} {v4 : Int32}  : zr X 84 61 [.ref 153, .ref 5, .int v2, .int v3, .int v4] [] (zk I) = if v2 < v4 then zr X 84 96 [.ref 153, .ref 5, .int v2, .int v3, .int v4] [] (zk I) else zr X 84 67 [.ref 153, .ref 5, .int v2, .int v3, .int v4] [] (zk I) :=
  (zr_iload t84_61 rfl).trans <|
    (zr_iload_n t84_63 rfl).trans <|
    zr_ic_gt (tgt := 96) t84_64 rfl
theorem k84_67 {X : Nat × (Nat → Int32)} {I : Nat → Nat → Int32} {v2 : Int32} {v3 : Int32} {v4 : Int32} (q1 : zin v3 20 = true) : zr X 84 67 [.ref 153, .ref 5, .int v2, .int v3, .int v4] [] (zk I) = if ¬ (I 7 (zx v3)) = 1 then zr X 84 88 [.ref 153, .ref 5, .int v2, .int v3, .int v4] [] (zk I) else zr X 84 77 [.ref 153, .ref 5, .int v2, .int v3, .int v4] [] (zk I) :=
  (zr_aload_n t84_67 rfl).trans <|
    (zr_getR (u := 7) t84_68 (rfl)).trans <|
    (zr_iload_n t84_71 rfl).trans <|
    (zr_iald (j := zx v3) t84_72 (N := 20) rfl rfl q1).trans <|
    (zr_iconst t84_73 zci_1).trans <|
    zr_ic_ne (tgt := 88) t84_74 rfl
theorem k84_77 {X : Nat × (Nat → Int32)} {I : Nat → Nat → Int32} {v2 : Int32} {v3 : Int32} {v4 : Int32} (q1 : zin v4 61 = true) : zr X 84 77 [.ref 153, .ref 5, .int v2, .int v3, .int v4] [] (zk I) = zr X 84 31 [.ref 153, .ref 5, .int v2, .int (v3 + 1), .int v4] [] (zk (zs1 I 155 (zx v4) v3)) :=
  (zr_aload_n t84_77 rfl).trans <|
    (zr_getR (u := 155) t84_78 (rfl)).trans <|
    (zr_iload t84_81 rfl).trans <|
    (zr_iload_n t84_83 rfl).trans <|
    (zr_iast (j := zx v4) t84_84 (N := 61) rfl rfl q1).trans <|
    (zr_goto (tgt := 96) t84_85 rfl).trans <|
    (zr_iinc t84_96 rfl rfl (congrArg (fun z => v3 + z) zci_1) rfl).trans <|
    zr_goto (tgt := 31) t84_99 rfl
theorem k84_88 {X : Nat × (Nat → Int32)} {I : Nat → Nat → Int32} {v2 : Int32} {v3 : Int32} {v4 : Int32} (q1 : zin v4 61 = true) : zr X 84 88 [.ref 153, .ref 5, .int v2, .int v3, .int v4] [] (zk I) = zr X 84 31 [.ref 153, .ref 5, .int v2, .int (v3 + 1), .int v4] [] (zk (zs1 I 156 (zx v4) v3)) :=
  (zr_aload_n t84_88 rfl).trans <|
    (zr_getR (u := 156) t84_89 (rfl)).trans <|
    (zr_iload t84_92 rfl).trans <|
    (zr_iload_n t84_94 rfl).trans <|
    (zr_iast (j := zx v4) t84_95 (N := 61) rfl rfl q1).trans <|
    (zr_iinc t84_96 rfl rfl (congrArg (fun z => v3 + z) zci_1) rfl).trans <|
    zr_goto (tgt := 31) t84_99 rfl
theorem k84_96 {X : Nat × (Nat → Int32)} {I : Nat → Nat → Int32} {v2 : Int32} {v3 : Int32} {v4 : Int32}  : zr X 84 96 [.ref 153, .ref 5, .int v2, .int v3, .int v4] [] (zk I) = zr X 84 31 [.ref 153, .ref 5, .int v2, .int (v3 + 1), .int v4] [] (zk I) :=
  (zr_iinc t84_96 rfl rfl (congrArg (fun z => v3 + z) zci_1) rfl).trans <|
    zr_goto (tgt := 31) t84_99 rfl
theorem k84_102 {X : Nat × (Nat → Int32)} {I : Nat → Nat → Int32} {v2 : Int32} {v3 : Int32} {v4 : Value}  : zr X 84 102 [.ref 153, .ref 5, .int v2, .int v3, v4] [] (zk I) = some (none, zk I) :=
  zr_vret t84_102 rfl
/-! X8_addLettersOf FiveInks$View.addLettersOf -/
theorem k85_0 {X : Nat × (Nat → Int32)} {I : Nat → Nat → Int32} {v2 : Int32}  : zr X 85 0 [.ref 153, .ref 5, .int v2, .null] [] (zk I) = if ¬ v2 = (-6) then zr X 85 7 [.ref 153, .ref 5, .int v2, .null] [] (zk I) else zr X 85 6 [.ref 153, .ref 5, .int v2, .null] [] (zk I) :=
  (zr_iload_n t85_0 rfl).trans <|
    (zr_bipush t85_1 zcb_m6).trans <|
    zr_ic_ne (tgt := 7) t85_3 rfl
theorem k85_6 {X : Nat × (Nat → Int32)} {I : Nat → Nat → Int32} {v2 : Int32}  : zr X 85 6 [.ref 153, .ref 5, .int v2, .null] [] (zk I) = some (none, zk I) :=
  zr_vret t85_6 rfl
theorem k85_7 {X : Nat × (Nat → Int32)} {I : Nat → Nat → Int32} {v2 : Int32}  : zr X 85 7 [.ref 153, .ref 5, .int v2, .null] [] (zk I) = zr X 85 9 [.ref 153, .ref 5, .int v2, .int 0] [] (zk I) :=
  (zr_iconst t85_7 zci_0).trans <|
    zr_istore_n t85_8 rfl rfl
theorem k85_9 {X : Nat × (Nat → Int32)} {I : Nat → Nat → Int32} {v2 : Int32} {v3 : Int32} (q1 : zin v2 20 = true) : zr X 85 9 [.ref 153, .ref 5, .int v2, .int v3] [] (zk I) = if (I 11 (zx v2)) ≤ v3 then zr X 85 40 [.ref 153, .ref 5, .int v2, .int v3] [] (zk I) else zr X 85 19 [.ref 153, .ref 5, .int v2, .int v3] [] (zk I) :=
  (zr_iload_n t85_9 rfl).trans <|
    (zr_aload_n t85_10 rfl).trans <|
    (zr_getR (u := 11) t85_11 (rfl)).trans <|
    (zr_iload_n t85_14 rfl).trans <|
    (zr_iald (j := zx v2) t85_15 (N := 20) rfl rfl q1).trans <|
    zr_ic_ge (tgt := 40) t85_16 rfl
theorem k85_19 {X : Nat × (Nat → Int32)} {I : Nat → Nat → Int32} {v2 : Int32} {v3 : Int32} (q1 : zin ((v2 * 6) + v3) 120 = true) : zr X 85 19 [.ref 153, .ref 5, .int v2, .int v3] [] (zk I) = zcb (zr X 86 0 [.ref 153, .int (I 12 (zx ((v2 * 6) + v3)))] [] (zk I)) (fun v m1 => zr X 85 34 [.ref 153, .ref 5, .int v2, .int v3] (v.toList ++ []) m1) :=
  (zr_aload_n t85_19 rfl).trans <|
    (zr_aload_n t85_20 rfl).trans <|
    (zr_getR (u := 12) t85_21 (rfl)).trans <|
    (zr_iload_n t85_24 rfl).trans <|
    (zr_bipush t85_25 zcb_6).trans <|
    (zr_imul t85_27).trans <|
    (zr_iload_n t85_28 rfl).trans <|
    (zr_iadd t85_29).trans <|
    (zr_iald (j := zx ((v2 * 6) + v3)) t85_30 (N := 120) rfl rfl q1).trans <|
    zr_callv t85_31 rfl rfl rfl rfl
theorem k85_34 {X : Nat × (Nat → Int32)} {I : Nat → Nat → Int32} {v2 : Int32} {v3 : Int32}  : zr X 85 34 [.ref 153, .ref 5, .int v2, .int v3] [] (zk I) = zr X 85 9 [.ref 153, .ref 5, .int v2, .int (v3 + 1)] [] (zk I) :=
  (zr_iinc t85_34 rfl rfl (congrArg (fun z => v3 + z) zci_1) rfl).trans <|
    zr_goto (tgt := 9) t85_37 rfl
theorem k85_40 {X : Nat × (Nat → Int32)} {I : Nat → Nat → Int32} {v2 : Int32} {v3 : Int32}  : zr X 85 40 [.ref 153, .ref 5, .int v2, .int v3] [] (zk I) = some (none, zk I) :=
  zr_vret t85_40 rfl
/-! X8_add FiveInks$View.add -/
theorem k86_0 {X : Nat × (Nat → Int32)} {I : Nat → Nat → Int32} {v1 : Int32}  : zr X 86 0 [.ref 153, .int v1] [] (zk I) = if 180 ≤ (I 153 4) then zr X 86 30 [.ref 153, .int v1] [] (zk I) else zr X 86 10 [.ref 153, .int v1] [] (zk I) :=
  (zr_aload_n t86_0 rfl).trans <|
    (zr_getI t86_1 (rfl)).trans <|
    (zr_sipush t86_4 zcs_180).trans <|
    zr_ic_ge (tgt := 30) t86_7 rfl
theorem k86_10 {X : Nat × (Nat → Int32)} {I : Nat → Nat → Int32} {v1 : Int32} (q1 : zin (I 153 4) 180 = true) : zr X 86 10 [.ref 153, .int v1] [] (zk I) = some (none, zk (zs1 (zs1 I 157 (zx (I 153 4)) v1) 153 4 ((I 153 4) + 1))) :=
  (zr_aload_n t86_10 rfl).trans <|
    (zr_getR (u := 157) t86_11 (rfl)).trans <|
    (zr_aload_n t86_14 rfl).trans <|
    (zr_getI t86_15 (rfl)).trans <|
    (zr_iload_n t86_18 rfl).trans <|
    (zr_iast (j := zx (I 153 4)) t86_19 (N := 180) rfl rfl q1).trans <|
    (zr_aload_n t86_20 rfl).trans <|
    (zr_dup t86_21 rfl).trans <|
    (zr_getI t86_22 (rfl)).trans <|
    (zr_iconst t86_25 zci_1).trans <|
    (zr_iadd t86_26).trans <|
    (zr_putI t86_27 (rfl) (Or.inl rfl)).trans <|
    zr_vret t86_30 rfl
theorem k86_30 {X : Nat × (Nat → Int32)} {I : Nat → Nat → Int32} {v1 : Int32}  : zr X 86 30 [.ref 153, .int v1] [] (zk I) = some (none, zk I) :=
  zr_vret t86_30 rfl
