theorem t116_0 : zT 116 0 = some (.iload_n 0, 1, 0, 0, 0) := by rfl
theorem t116_1 : zT 116 1 = some (.iload_n 1, 1, 0, 0, 0) := by rfl
theorem t116_2 : zT 116 2 = some (.if_icmp .lt 12, 3, 0, 0, 0) := by rfl
theorem t116_5 : zT 116 5 = some (.iload_n 0, 1, 0, 0, 0) := by rfl
theorem t116_6 : zT 116 6 = some (.iload_n 2, 1, 0, 0, 0) := by rfl
theorem t116_7 : zT 116 7 = some (.if_icmp .gt 7, 3, 0, 0, 0) := by rfl
theorem t116_10 : zT 116 10 = some (.iconst 1, 1, 0, 0, 0) := by rfl
theorem t116_11 : zT 116 11 = some (.goto 4, 3, 0, 0, 0) := by rfl
theorem t116_14 : zT 116 14 = some (.iconst 0, 1, 0, 0, 0) := by rfl
theorem t116_15 : zT 116 15 = some (.ireturn, 1, 0, 0, 0) := by rfl
theorem t117_0 : zT 117 0 = some (.aload_n 0, 1, 0, 0, 0) := by rfl
theorem t117_1 : zT 117 1 = some (.getfield 7, 3, 10, 1, 784) := by rfl
theorem t117_4 : zT 117 4 = some (.bipush 67, 2, 0, 0, 0) := by rfl
theorem t117_6 : zT 117 6 = some (.bipush 12, 2, 0, 0, 0) := by rfl
theorem t117_8 : zT 117 8 = some (.iload_n 1, 1, 0, 0, 0) := by rfl
theorem t117_9 : zT 117 9 = some (.imul, 1, 0, 0, 0) := by rfl
theorem t117_10 : zT 117 10 = some (.iadd, 1, 0, 0, 0) := by rfl
theorem t117_11 : zT 117 11 = some (.iload_n 2, 1, 0, 0, 0) := by rfl
theorem t117_12 : zT 117 12 = some (.iadd, 1, 0, 0, 0) := by rfl
theorem t117_13 : zT 117 13 = some (.iaload, 1, 0, 0, 0) := by rfl
theorem t117_14 : zT 117 14 = some (.ireturn, 1, 0, 0, 0) := by rfl
theorem t118_0 : zT 118 0 = some (.aload_n 0, 1, 0, 0, 0) := by rfl
theorem t118_1 : zT 118 1 = some (.getfield 7, 3, 10, 1, 784) := by rfl
theorem t118_4 : zT 118 4 = some (.bipush 67, 2, 0, 0, 0) := by rfl
theorem t118_6 : zT 118 6 = some (.bipush 12, 2, 0, 0, 0) := by rfl
theorem t118_8 : zT 118 8 = some (.iload_n 1, 1, 0, 0, 0) := by rfl
theorem t118_9 : zT 118 9 = some (.imul, 1, 0, 0, 0) := by rfl
theorem t118_10 : zT 118 10 = some (.iadd, 1, 0, 0, 0) := by rfl
theorem t118_11 : zT 118 11 = some (.iload_n 2, 1, 0, 0, 0) := by rfl
theorem t118_12 : zT 118 12 = some (.iadd, 1, 0, 0, 0) := by rfl
theorem t118_13 : zT 118 13 = some (.iload_n 3, 1, 0, 0, 0) := by rfl
theorem t118_14 : zT 118 14 = some (.iastore, 1, 0, 0, 0) := by rfl
theorem t118_15 : zT 118 15 = some (.return_, 1, 0, 0, 0) := by rfl
theorem t119_0 : zT 119 0 = some (.iload_n 1, 1, 0, 0, 0) := by rfl
theorem t119_1 : zT 119 1 = some (.iconst 0, 1, 0, 0, 0) := by rfl
theorem t119_2 : zT 119 2 = some (.aload_n 0, 1, 0, 0, 0) := by rfl
theorem t119_3 : zT 119 3 = some (.getfield 7, 3, 10, 1, 784) := by rfl
theorem t119_6 : zT 119 6 = some (.bipush 66, 2, 0, 0, 0) := by rfl
theorem t119_8 : zT 119 8 = some (.iaload, 1, 0, 0, 0) := by rfl
theorem t119_9 : zT 119 9 = some (.iconst 1, 1, 0, 0, 0) := by rfl
theorem t119_10 : zT 119 10 = some (.isub, 1, 0, 0, 0) := by rfl
theorem t119_11 : zT 119 11 = some (.invokestatic 51, 3, 116, 0, 845) := by rfl
theorem t119_14 : zT 119 14 = some (.ireturn, 1, 0, 0, 0) := by rfl
theorem t120_0 : zT 120 0 = some (.iload_n 0, 1, 0, 0, 0) := by rfl
theorem t120_1 : zT 120 1 = some (.iconst 0, 1, 0, 0, 0) := by rfl
theorem t120_2 : zT 120 2 = some (.iconst 4, 1, 0, 0, 0) := by rfl
theorem t120_3 : zT 120 3 = some (.invokestatic 51, 3, 116, 0, 845) := by rfl
theorem t120_6 : zT 120 6 = some (.ireturn, 1, 0, 0, 0) := by rfl
theorem t121_0 : zT 121 0 = some (.aload_n 0, 1, 0, 0, 0) := by rfl
theorem t121_1 : zT 121 1 = some (.getfield 55, 3, 10, 4, 787) := by rfl
theorem t121_4 : zT 121 4 = some (.bipush 6, 2, 0, 0, 0) := by rfl
theorem t121_6 : zT 121 6 = some (.if_icmp .ne 44, 3, 0, 0, 0) := by rfl
theorem t121_9 : zT 121 9 = some (.iconst 0, 1, 0, 0, 0) := by rfl
theorem t121_10 : zT 121 10 = some (.istore_n 1, 1, 0, 0, 0) := by rfl
theorem t121_11 : zT 121 11 = some (.iload_n 1, 1, 0, 0, 0) := by rfl
theorem t121_12 : zT 121 12 = some (.sipush 3375, 3, 0, 0, 0) := by rfl
theorem t121_15 : zT 121 15 = some (.if_icmp .ge 25, 3, 0, 0, 0) := by rfl
theorem t121_18 : zT 121 18 = some (.aload_n 0, 1, 0, 0, 0) := by rfl
theorem t121_19 : zT 121 19 = some (.getfield 16, 3, 10, 3, 786) := by rfl
theorem t121_22 : zT 121 22 = some (.iload_n 1, 1, 0, 0, 0) := by rfl
theorem t121_23 : zT 121 23 = some (.aload_n 0, 1, 0, 0, 0) := by rfl
theorem t121_24 : zT 121 24 = some (.getfield 16, 3, 10, 3, 786) := by rfl
theorem t121_27 : zT 121 27 = some (.iload_n 1, 1, 0, 0, 0) := by rfl
theorem t121_28 : zT 121 28 = some (.sipush 675, 3, 0, 0, 0) := by rfl
theorem t121_31 : zT 121 31 = some (.iadd, 1, 0, 0, 0) := by rfl
theorem t121_32 : zT 121 32 = some (.iaload, 1, 0, 0, 0) := by rfl
theorem t121_33 : zT 121 33 = some (.iastore, 1, 0, 0, 0) := by rfl
theorem t121_34 : zT 121 34 = some (.iinc 1 1, 3, 0, 0, 0) := by rfl
theorem t121_37 : zT 121 37 = some (.goto (-26), 3, 0, 0, 0) := by rfl
theorem t121_40 : zT 121 40 = some (.aload_n 0, 1, 0, 0, 0) := by rfl
theorem t121_41 : zT 121 41 = some (.dup, 1, 0, 0, 0) := by rfl
theorem t121_42 : zT 121 42 = some (.getfield 55, 3, 10, 4, 787) := by rfl
theorem t121_45 : zT 121 45 = some (.iconst 1, 1, 0, 0, 0) := by rfl
theorem t121_46 : zT 121 46 = some (.isub, 1, 0, 0, 0) := by rfl
theorem t121_47 : zT 121 47 = some (.putfield 55, 3, 10, 4, 787) := by rfl
theorem t121_50 : zT 121 50 = some (.iconst 0, 1, 0, 0, 0) := by rfl
theorem t121_51 : zT 121 51 = some (.istore_n 1, 1, 0, 0, 0) := by rfl
theorem t121_52 : zT 121 52 = some (.iload_n 1, 1, 0, 0, 0) := by rfl
theorem t121_53 : zT 121 53 = some (.sipush 675, 3, 0, 0, 0) := by rfl
theorem t121_56 : zT 121 56 = some (.if_icmp .ge 30, 3, 0, 0, 0) := by rfl
theorem t121_59 : zT 121 59 = some (.aload_n 0, 1, 0, 0, 0) := by rfl
theorem t121_60 : zT 121 60 = some (.getfield 16, 3, 10, 3, 786) := by rfl
theorem t121_63 : zT 121 63 = some (.sipush 675, 3, 0, 0, 0) := by rfl
theorem t121_66 : zT 121 66 = some (.aload_n 0, 1, 0, 0, 0) := by rfl
theorem t121_67 : zT 121 67 = some (.getfield 55, 3, 10, 4, 787) := by rfl
theorem t121_70 : zT 121 70 = some (.imul, 1, 0, 0, 0) := by rfl
theorem t121_71 : zT 121 71 = some (.iload_n 1, 1, 0, 0, 0) := by rfl
theorem t121_72 : zT 121 72 = some (.iadd, 1, 0, 0, 0) := by rfl
theorem t121_73 : zT 121 73 = some (.aload_n 0, 1, 0, 0, 0) := by rfl
theorem t121_74 : zT 121 74 = some (.getfield 7, 3, 10, 1, 784) := by rfl
theorem t121_77 : zT 121 77 = some (.iload_n 1, 1, 0, 0, 0) := by rfl
theorem t121_78 : zT 121 78 = some (.iaload, 1, 0, 0, 0) := by rfl
theorem t121_79 : zT 121 79 = some (.iastore, 1, 0, 0, 0) := by rfl
theorem t121_80 : zT 121 80 = some (.iinc 1 1, 3, 0, 0, 0) := by rfl
theorem t121_83 : zT 121 83 = some (.goto (-31), 3, 0, 0, 0) := by rfl
theorem t121_86 : zT 121 86 = some (.aload_n 0, 1, 0, 0, 0) := by rfl
theorem t121_87 : zT 121 87 = some (.dup, 1, 0, 0, 0) := by rfl
theorem t121_88 : zT 121 88 = some (.getfield 55, 3, 10, 4, 787) := by rfl
theorem t121_91 : zT 121 91 = some (.iconst 1, 1, 0, 0, 0) := by rfl
theorem t121_92 : zT 121 92 = some (.iadd, 1, 0, 0, 0) := by rfl
theorem t121_93 : zT 121 93 = some (.putfield 55, 3, 10, 4, 787) := by rfl
theorem t121_96 : zT 121 96 = some (.return_, 1, 0, 0, 0) := by rfl
theorem t122_0 : zT 122 0 = some (.iconst 0, 1, 0, 0, 0) := by rfl
theorem t122_1 : zT 122 1 = some (.istore_n 1, 1, 0, 0, 0) := by rfl
theorem t122_2 : zT 122 2 = some (.iload_n 1, 1, 0, 0, 0) := by rfl
theorem t122_3 : zT 122 3 = some (.sipush 675, 3, 0, 0, 0) := by rfl
theorem t122_6 : zT 122 6 = some (.if_icmp .ge 21, 3, 0, 0, 0) := by rfl
theorem t122_9 : zT 122 9 = some (.aload_n 0, 1, 0, 0, 0) := by rfl
theorem t122_10 : zT 122 10 = some (.getfield 13, 3, 10, 2, 785) := by rfl
theorem t122_13 : zT 122 13 = some (.iload_n 1, 1, 0, 0, 0) := by rfl
theorem t122_14 : zT 122 14 = some (.aload_n 0, 1, 0, 0, 0) := by rfl
theorem t122_15 : zT 122 15 = some (.getfield 7, 3, 10, 1, 784) := by rfl
theorem t122_18 : zT 122 18 = some (.iload_n 1, 1, 0, 0, 0) := by rfl
theorem t122_19 : zT 122 19 = some (.iaload, 1, 0, 0, 0) := by rfl
theorem t122_20 : zT 122 20 = some (.iastore, 1, 0, 0, 0) := by rfl
theorem t122_21 : zT 122 21 = some (.iinc 1 1, 3, 0, 0, 0) := by rfl
theorem t122_24 : zT 122 24 = some (.goto (-22), 3, 0, 0, 0) := by rfl
theorem t122_27 : zT 122 27 = some (.return_, 1, 0, 0, 0) := by rfl
theorem t123_0 : zT 123 0 = some (.iconst 0, 1, 0, 0, 0) := by rfl
theorem t123_1 : zT 123 1 = some (.istore_n 1, 1, 0, 0, 0) := by rfl
theorem t123_2 : zT 123 2 = some (.iload_n 1, 1, 0, 0, 0) := by rfl
theorem t123_3 : zT 123 3 = some (.sipush 675, 3, 0, 0, 0) := by rfl
theorem t123_6 : zT 123 6 = some (.if_icmp .ge 21, 3, 0, 0, 0) := by rfl
theorem t123_9 : zT 123 9 = some (.aload_n 0, 1, 0, 0, 0) := by rfl
theorem t123_10 : zT 123 10 = some (.getfield 7, 3, 10, 1, 784) := by rfl
theorem t123_13 : zT 123 13 = some (.iload_n 1, 1, 0, 0, 0) := by rfl
theorem t123_14 : zT 123 14 = some (.aload_n 0, 1, 0, 0, 0) := by rfl
theorem t123_15 : zT 123 15 = some (.getfield 13, 3, 10, 2, 785) := by rfl
theorem t123_18 : zT 123 18 = some (.iload_n 1, 1, 0, 0, 0) := by rfl
theorem t123_19 : zT 123 19 = some (.iaload, 1, 0, 0, 0) := by rfl
theorem t123_20 : zT 123 20 = some (.iastore, 1, 0, 0, 0) := by rfl
theorem t123_21 : zT 123 21 = some (.iinc 1 1, 3, 0, 0, 0) := by rfl
theorem t123_24 : zT 123 24 = some (.goto (-22), 3, 0, 0, 0) := by rfl
theorem t123_27 : zT 123 27 = some (.return_, 1, 0, 0, 0) := by rfl
theorem t124_0 : zT 124 0 = some (.aload_n 0, 1, 0, 0, 0) := by rfl
theorem t124_1 : zT 124 1 = some (.iload_n 1, 1, 0, 0, 0) := by rfl
theorem t124_2 : zT 124 2 = some (.iconst 1, 1, 0, 0, 0) := by rfl
theorem t124_3 : zT 124 3 = some (.invokevirtual 58, 3, 117, 0, 903) := by rfl
theorem t124_6 : zT 124 6 = some (.iconst 1, 1, 0, 0, 0) := by rfl
theorem t124_7 : zT 124 7 = some (.if_icmp .ne 7, 3, 0, 0, 0) := by rfl
theorem t124_10 : zT 124 10 = some (.iconst 1, 1, 0, 0, 0) := by rfl
theorem t124_11 : zT 124 11 = some (.goto 4, 3, 0, 0, 0) := by rfl
theorem t124_14 : zT 124 14 = some (.iconst 0, 1, 0, 0, 0) := by rfl
theorem t124_15 : zT 124 15 = some (.istore_n 3, 1, 0, 0, 0) := by rfl
theorem t124_16 : zT 124 16 = some (.aload_n 0, 1, 0, 0, 0) := by rfl
theorem t124_17 : zT 124 17 = some (.iload_n 2, 1, 0, 0, 0) := by rfl
theorem t124_18 : zT 124 18 = some (.iconst 1, 1, 0, 0, 0) := by rfl
theorem t124_19 : zT 124 19 = some (.invokevirtual 58, 3, 117, 0, 903) := by rfl
theorem t124_22 : zT 124 22 = some (.iconst 1, 1, 0, 0, 0) := by rfl
theorem t124_23 : zT 124 23 = some (.if_icmp .ne 7, 3, 0, 0, 0) := by rfl
theorem t124_26 : zT 124 26 = some (.iconst 1, 1, 0, 0, 0) := by rfl
theorem t124_27 : zT 124 27 = some (.goto 4, 3, 0, 0, 0) := by rfl
theorem t124_30 : zT 124 30 = some (.iconst 0, 1, 0, 0, 0) := by rfl
theorem t124_31 : zT 124 31 = some (.istore 4, 2, 0, 0, 0) := by rfl
theorem t124_33 : zT 124 33 = some (.iload_n 3, 1, 0, 0, 0) := by rfl
theorem t124_34 : zT 124 34 = some (.ifCond .eq 29, 3, 0, 0, 0) := by rfl
theorem t124_37 : zT 124 37 = some (.iload 4, 2, 0, 0, 0) := by rfl
theorem t124_39 : zT 124 39 = some (.ifCond .eq 24, 3, 0, 0, 0) := by rfl
theorem t124_42 : zT 124 42 = some (.aload_n 0, 1, 0, 0, 0) := by rfl
theorem t124_43 : zT 124 43 = some (.iload_n 1, 1, 0, 0, 0) := by rfl
theorem t124_44 : zT 124 44 = some (.iconst 2, 1, 0, 0, 0) := by rfl
theorem t124_45 : zT 124 45 = some (.invokevirtual 58, 3, 117, 0, 903) := by rfl
theorem t124_48 : zT 124 48 = some (.aload_n 0, 1, 0, 0, 0) := by rfl
theorem t124_49 : zT 124 49 = some (.iload_n 2, 1, 0, 0, 0) := by rfl
theorem t124_50 : zT 124 50 = some (.iconst 2, 1, 0, 0, 0) := by rfl
theorem t124_51 : zT 124 51 = some (.invokevirtual 58, 3, 117, 0, 903) := by rfl
theorem t124_54 : zT 124 54 = some (.if_icmp .ne 7, 3, 0, 0, 0) := by rfl
theorem t124_57 : zT 124 57 = some (.iconst 1, 1, 0, 0, 0) := by rfl
theorem t124_58 : zT 124 58 = some (.goto 4, 3, 0, 0, 0) := by rfl
theorem t124_61 : zT 124 61 = some (.iconst 0, 1, 0, 0, 0) := by rfl
theorem t124_62 : zT 124 62 = some (.ireturn, 1, 0, 0, 0) := by rfl
theorem t124_63 : zT 124 63 = some (.iload_n 3, 1, 0, 0, 0) := by rfl
theorem t124_64 : zT 124 64 = some (.ifCond .ne 8, 3, 0, 0, 0) := by rfl
theorem t124_67 : zT 124 67 = some (.iload 4, 2, 0, 0, 0) := by rfl
theorem t124_69 : zT 124 69 = some (.ifCond .eq 60, 3, 0, 0, 0) := by rfl
theorem t124_72 : zT 124 72 = some (.aload_n 0, 1, 0, 0, 0) := by rfl
theorem t124_73 : zT 124 73 = some (.iload_n 3, 1, 0, 0, 0) := by rfl
theorem t124_74 : zT 124 74 = some (.ifCond .eq 7, 3, 0, 0, 0) := by rfl
theorem t124_77 : zT 124 77 = some (.iload_n 1, 1, 0, 0, 0) := by rfl
theorem t124_78 : zT 124 78 = some (.goto 4, 3, 0, 0, 0) := by rfl
theorem t124_81 : zT 124 81 = some (.iload_n 2, 1, 0, 0, 0) := by rfl
theorem t124_82 : zT 124 82 = some (.iconst 2, 1, 0, 0, 0) := by rfl
theorem t124_83 : zT 124 83 = some (.invokevirtual 58, 3, 117, 0, 903) := by rfl
theorem t124_86 : zT 124 86 = some (.istore 5, 2, 0, 0, 0) := by rfl
theorem t124_88 : zT 124 88 = some (.iload_n 3, 1, 0, 0, 0) := by rfl
theorem t124_89 : zT 124 89 = some (.ifCond .eq 7, 3, 0, 0, 0) := by rfl
theorem t124_92 : zT 124 92 = some (.iload_n 2, 1, 0, 0, 0) := by rfl
theorem t124_93 : zT 124 93 = some (.goto 4, 3, 0, 0, 0) := by rfl
theorem t124_96 : zT 124 96 = some (.iload_n 1, 1, 0, 0, 0) := by rfl
theorem t124_97 : zT 124 97 = some (.istore 6, 2, 0, 0, 0) := by rfl
theorem t124_99 : zT 124 99 = some (.iload 5, 2, 0, 0, 0) := by rfl
theorem t124_101 : zT 124 101 = some (.aload_n 0, 1, 0, 0, 0) := by rfl
theorem t124_102 : zT 124 102 = some (.iload 6, 2, 0, 0, 0) := by rfl
theorem t124_104 : zT 124 104 = some (.iconst 2, 1, 0, 0, 0) := by rfl
theorem t124_105 : zT 124 105 = some (.invokevirtual 58, 3, 117, 0, 903) := by rfl
theorem t124_108 : zT 124 108 = some (.if_icmp .le 19, 3, 0, 0, 0) := by rfl
theorem t124_111 : zT 124 111 = some (.iload 5, 2, 0, 0, 0) := by rfl
theorem t124_113 : zT 124 113 = some (.aload_n 0, 1, 0, 0, 0) := by rfl
theorem t124_114 : zT 124 114 = some (.iload 6, 2, 0, 0, 0) := by rfl
theorem t124_116 : zT 124 116 = some (.iconst 3, 1, 0, 0, 0) := by rfl
theorem t124_117 : zT 124 117 = some (.invokevirtual 58, 3, 117, 0, 903) := by rfl
theorem t124_120 : zT 124 120 = some (.if_icmp .ge 7, 3, 0, 0, 0) := by rfl
theorem t124_123 : zT 124 123 = some (.iconst 1, 1, 0, 0, 0) := by rfl
theorem t124_124 : zT 124 124 = some (.goto 4, 3, 0, 0, 0) := by rfl
theorem t124_127 : zT 124 127 = some (.iconst 0, 1, 0, 0, 0) := by rfl
theorem t124_128 : zT 124 128 = some (.ireturn, 1, 0, 0, 0) := by rfl
theorem t124_129 : zT 124 129 = some (.aload_n 0, 1, 0, 0, 0) := by rfl
theorem t124_130 : zT 124 130 = some (.iload_n 1, 1, 0, 0, 0) := by rfl
theorem t124_131 : zT 124 131 = some (.iconst 2, 1, 0, 0, 0) := by rfl
theorem t124_132 : zT 124 132 = some (.invokevirtual 58, 3, 117, 0, 903) := by rfl
theorem t124_135 : zT 124 135 = some (.aload_n 0, 1, 0, 0, 0) := by rfl
theorem t124_136 : zT 124 136 = some (.iload_n 2, 1, 0, 0, 0) := by rfl
theorem t124_137 : zT 124 137 = some (.iconst 3, 1, 0, 0, 0) := by rfl
theorem t124_138 : zT 124 138 = some (.invokevirtual 58, 3, 117, 0, 903) := by rfl
theorem t124_141 : zT 124 141 = some (.if_icmp .ge 22, 3, 0, 0, 0) := by rfl
theorem t124_144 : zT 124 144 = some (.aload_n 0, 1, 0, 0, 0) := by rfl
theorem t124_145 : zT 124 145 = some (.iload_n 2, 1, 0, 0, 0) := by rfl
theorem t124_146 : zT 124 146 = some (.iconst 2, 1, 0, 0, 0) := by rfl
theorem t124_147 : zT 124 147 = some (.invokevirtual 58, 3, 117, 0, 903) := by rfl
theorem t124_150 : zT 124 150 = some (.aload_n 0, 1, 0, 0, 0) := by rfl
theorem t124_151 : zT 124 151 = some (.iload_n 1, 1, 0, 0, 0) := by rfl
theorem t124_152 : zT 124 152 = some (.iconst 3, 1, 0, 0, 0) := by rfl
theorem t124_153 : zT 124 153 = some (.invokevirtual 58, 3, 117, 0, 903) := by rfl
theorem t124_156 : zT 124 156 = some (.if_icmp .ge 7, 3, 0, 0, 0) := by rfl
theorem t124_159 : zT 124 159 = some (.iconst 1, 1, 0, 0, 0) := by rfl
theorem t124_160 : zT 124 160 = some (.goto 4, 3, 0, 0, 0) := by rfl
theorem t124_163 : zT 124 163 = some (.iconst 0, 1, 0, 0, 0) := by rfl
theorem t124_164 : zT 124 164 = some (.ireturn, 1, 0, 0, 0) := by rfl
theorem t125_0 : zT 125 0 = some (.iload_n 1, 1, 0, 0, 0) := by rfl
theorem t125_1 : zT 125 1 = some (.iload_n 2, 1, 0, 0, 0) := by rfl
theorem t125_2 : zT 125 2 = some (.if_icmp .eq 51, 3, 0, 0, 0) := by rfl
theorem t125_5 : zT 125 5 = some (.aload_n 0, 1, 0, 0, 0) := by rfl
theorem t125_6 : zT 125 6 = some (.iload_n 1, 1, 0, 0, 0) := by rfl
theorem t125_7 : zT 125 7 = some (.iconst 5, 1, 0, 0, 0) := by rfl
theorem t125_8 : zT 125 8 = some (.invokevirtual 58, 3, 117, 0, 903) := by rfl
theorem t125_11 : zT 125 11 = some (.iconst 2, 1, 0, 0, 0) := by rfl
theorem t125_12 : zT 125 12 = some (.if_icmp .eq 41, 3, 0, 0, 0) := by rfl
theorem t125_15 : zT 125 15 = some (.aload_n 0, 1, 0, 0, 0) := by rfl
theorem t125_16 : zT 125 16 = some (.iload_n 2, 1, 0, 0, 0) := by rfl
theorem t125_17 : zT 125 17 = some (.iconst 5, 1, 0, 0, 0) := by rfl
theorem t125_18 : zT 125 18 = some (.invokevirtual 58, 3, 117, 0, 903) := by rfl
theorem t125_21 : zT 125 21 = some (.iconst 2, 1, 0, 0, 0) := by rfl
theorem t125_22 : zT 125 22 = some (.if_icmp .eq 31, 3, 0, 0, 0) := by rfl
theorem t125_25 : zT 125 25 = some (.aload_n 0, 1, 0, 0, 0) := by rfl
theorem t125_26 : zT 125 26 = some (.iload_n 1, 1, 0, 0, 0) := by rfl
theorem t125_27 : zT 125 27 = some (.iconst 0, 1, 0, 0, 0) := by rfl
theorem t125_28 : zT 125 28 = some (.invokevirtual 58, 3, 117, 0, 903) := by rfl
theorem t125_31 : zT 125 31 = some (.aload_n 0, 1, 0, 0, 0) := by rfl
theorem t125_32 : zT 125 32 = some (.iload_n 2, 1, 0, 0, 0) := by rfl
theorem t125_33 : zT 125 33 = some (.iconst 0, 1, 0, 0, 0) := by rfl
theorem t125_34 : zT 125 34 = some (.invokevirtual 58, 3, 117, 0, 903) := by rfl
theorem t125_37 : zT 125 37 = some (.if_icmp .eq 16, 3, 0, 0, 0) := by rfl
theorem t125_40 : zT 125 40 = some (.aload_n 0, 1, 0, 0, 0) := by rfl
theorem t125_41 : zT 125 41 = some (.iload_n 1, 1, 0, 0, 0) := by rfl
theorem t125_42 : zT 125 42 = some (.iload_n 2, 1, 0, 0, 0) := by rfl
theorem t125_43 : zT 125 43 = some (.invokevirtual 62, 3, 124, 0, 907) := by rfl
theorem t125_46 : zT 125 46 = some (.ifCond .eq 7, 3, 0, 0, 0) := by rfl
theorem t125_49 : zT 125 49 = some (.iconst 1, 1, 0, 0, 0) := by rfl
theorem t125_50 : zT 125 50 = some (.goto 4, 3, 0, 0, 0) := by rfl
theorem t125_53 : zT 125 53 = some (.iconst 0, 1, 0, 0, 0) := by rfl
theorem t125_54 : zT 125 54 = some (.ireturn, 1, 0, 0, 0) := by rfl
theorem t126_0 : zT 126 0 = some (.iconst 0, 1, 0, 0, 0) := by rfl
theorem t126_1 : zT 126 1 = some (.istore_n 3, 1, 0, 0, 0) := by rfl
theorem t126_2 : zT 126 2 = some (.iconst 0, 1, 0, 0, 0) := by rfl
theorem t126_3 : zT 126 3 = some (.istore 4, 2, 0, 0, 0) := by rfl
theorem t126_5 : zT 126 5 = some (.iload 4, 2, 0, 0, 0) := by rfl
theorem t126_7 : zT 126 7 = some (.aload_n 0, 1, 0, 0, 0) := by rfl
theorem t126_8 : zT 126 8 = some (.getfield 7, 3, 10, 1, 784) := by rfl
theorem t126_11 : zT 126 11 = some (.bipush 66, 2, 0, 0, 0) := by rfl
theorem t126_13 : zT 126 13 = some (.iaload, 1, 0, 0, 0) := by rfl
theorem t126_14 : zT 126 14 = some (.if_icmp .ge 44, 3, 0, 0, 0) := by rfl
theorem t126_17 : zT 126 17 = some (.iload_n 3, 1, 0, 0, 0) := by rfl
theorem t126_18 : zT 126 18 = some (.iload 4, 2, 0, 0, 0) := by rfl
theorem t126_20 : zT 126 20 = some (.iload_n 1, 1, 0, 0, 0) := by rfl
theorem t126_21 : zT 126 21 = some (.if_icmp .eq 28, 3, 0, 0, 0) := by rfl
theorem t126_24 : zT 126 24 = some (.aload_n 0, 1, 0, 0, 0) := by rfl
theorem t126_25 : zT 126 25 = some (.iload 4, 2, 0, 0, 0) := by rfl
theorem t126_27 : zT 126 27 = some (.iconst 5, 1, 0, 0, 0) := by rfl
theorem t126_28 : zT 126 28 = some (.invokevirtual 58, 3, 117, 0, 903) := by rfl
theorem t126_31 : zT 126 31 = some (.iload_n 2, 1, 0, 0, 0) := by rfl
theorem t126_32 : zT 126 32 = some (.if_icmp .ne 17, 3, 0, 0, 0) := by rfl
theorem t126_35 : zT 126 35 = some (.aload_n 0, 1, 0, 0, 0) := by rfl
theorem t126_36 : zT 126 36 = some (.iload_n 1, 1, 0, 0, 0) := by rfl
theorem t126_37 : zT 126 37 = some (.iload 4, 2, 0, 0, 0) := by rfl
theorem t126_39 : zT 126 39 = some (.invokevirtual 62, 3, 124, 0, 907) := by rfl
theorem t126_42 : zT 126 42 = some (.ifCond .eq 7, 3, 0, 0, 0) := by rfl
theorem t126_45 : zT 126 45 = some (.iconst 1, 1, 0, 0, 0) := by rfl
theorem t126_46 : zT 126 46 = some (.goto 4, 3, 0, 0, 0) := by rfl
theorem t126_49 : zT 126 49 = some (.iconst 0, 1, 0, 0, 0) := by rfl
theorem t126_50 : zT 126 50 = some (.iadd, 1, 0, 0, 0) := by rfl
theorem t126_51 : zT 126 51 = some (.istore_n 3, 1, 0, 0, 0) := by rfl
theorem t126_52 : zT 126 52 = some (.iinc 4 1, 3, 0, 0, 0) := by rfl
theorem t126_55 : zT 126 55 = some (.goto (-50), 3, 0, 0, 0) := by rfl
theorem t126_58 : zT 126 58 = some (.iload_n 3, 1, 0, 0, 0) := by rfl
theorem t126_59 : zT 126 59 = some (.ireturn, 1, 0, 0, 0) := by rfl
theorem t127_0 : zT 127 0 = some (.aload_n 0, 1, 0, 0, 0) := by rfl
theorem t127_1 : zT 127 1 = some (.iload_n 1, 1, 0, 0, 0) := by rfl
theorem t127_2 : zT 127 2 = some (.iconst 4, 1, 0, 0, 0) := by rfl
theorem t127_3 : zT 127 3 = some (.invokevirtual 58, 3, 117, 0, 903) := by rfl
theorem t127_6 : zT 127 6 = some (.aload_n 0, 1, 0, 0, 0) := by rfl
theorem t127_7 : zT 127 7 = some (.iload_n 1, 1, 0, 0, 0) := by rfl
theorem t127_8 : zT 127 8 = some (.iconst 3, 1, 0, 0, 0) := by rfl
theorem t127_9 : zT 127 9 = some (.invokevirtual 58, 3, 117, 0, 903) := by rfl
theorem t127_12 : zT 127 12 = some (.aload_n 0, 1, 0, 0, 0) := by rfl
theorem t127_13 : zT 127 13 = some (.iload_n 1, 1, 0, 0, 0) := by rfl
theorem t127_14 : zT 127 14 = some (.iconst 2, 1, 0, 0, 0) := by rfl
theorem t127_15 : zT 127 15 = some (.invokevirtual 58, 3, 117, 0, 903) := by rfl
theorem t127_18 : zT 127 18 = some (.isub, 1, 0, 0, 0) := by rfl
theorem t127_19 : zT 127 19 = some (.isub, 1, 0, 0, 0) := by rfl
theorem t127_20 : zT 127 20 = some (.ireturn, 1, 0, 0, 0) := by rfl
theorem t128_0 : zT 128 0 = some (.aload_n 0, 1, 0, 0, 0) := by rfl
theorem t128_1 : zT 128 1 = some (.getfield 7, 3, 10, 1, 784) := by rfl
theorem t128_4 : zT 128 4 = some (.iconst 0, 1, 0, 0, 0) := by rfl
theorem t128_5 : zT 128 5 = some (.iaload, 1, 0, 0, 0) := by rfl
theorem t128_6 : zT 128 6 = some (.istore_n 1, 1, 0, 0, 0) := by rfl
theorem t128_7 : zT 128 7 = some (.iconst 0, 1, 0, 0, 0) := by rfl
theorem t128_8 : zT 128 8 = some (.istore_n 2, 1, 0, 0, 0) := by rfl
theorem t128_9 : zT 128 9 = some (.iload_n 2, 1, 0, 0, 0) := by rfl
theorem t128_10 : zT 128 10 = some (.aload_n 0, 1, 0, 0, 0) := by rfl
theorem t128_11 : zT 128 11 = some (.getfield 7, 3, 10, 1, 784) := by rfl
theorem t128_14 : zT 128 14 = some (.bipush 66, 2, 0, 0, 0) := by rfl
theorem t128_16 : zT 128 16 = some (.iaload, 1, 0, 0, 0) := by rfl
theorem t128_17 : zT 128 17 = some (.if_icmp .ge 31, 3, 0, 0, 0) := by rfl
theorem t128_20 : zT 128 20 = some (.iload_n 1, 1, 0, 0, 0) := by rfl
theorem t128_21 : zT 128 21 = some (.aload_n 0, 1, 0, 0, 0) := by rfl
theorem t128_22 : zT 128 22 = some (.iload_n 2, 1, 0, 0, 0) := by rfl
theorem t128_23 : zT 128 23 = some (.iconst 5, 1, 0, 0, 0) := by rfl
theorem t128_24 : zT 128 24 = some (.invokevirtual 58, 3, 117, 0, 903) := by rfl
theorem t128_27 : zT 128 27 = some (.iconst 1, 1, 0, 0, 0) := by rfl
theorem t128_28 : zT 128 28 = some (.if_icmp .ne 11, 3, 0, 0, 0) := by rfl
theorem t128_31 : zT 128 31 = some (.aload_n 0, 1, 0, 0, 0) := by rfl
theorem t128_32 : zT 128 32 = some (.iload_n 2, 1, 0, 0, 0) := by rfl
theorem t128_33 : zT 128 33 = some (.invokevirtual 66, 3, 127, 0, 943) := by rfl
theorem t128_36 : zT 128 36 = some (.goto 4, 3, 0, 0, 0) := by rfl
theorem t128_39 : zT 128 39 = some (.iconst 0, 1, 0, 0, 0) := by rfl
theorem t128_40 : zT 128 40 = some (.iadd, 1, 0, 0, 0) := by rfl
theorem t128_41 : zT 128 41 = some (.istore_n 1, 1, 0, 0, 0) := by rfl
theorem t128_42 : zT 128 42 = some (.iinc 2 1, 3, 0, 0, 0) := by rfl
theorem t128_45 : zT 128 45 = some (.goto (-36), 3, 0, 0, 0) := by rfl
theorem t128_48 : zT 128 48 = some (.iload_n 1, 1, 0, 0, 0) := by rfl
theorem t128_49 : zT 128 49 = some (.ireturn, 1, 0, 0, 0) := by rfl
theorem t129_0 : zT 129 0 = some (.aload_n 0, 1, 0, 0, 0) := by rfl
theorem t129_1 : zT 129 1 = some (.getfield 32, 3, 10, 10, 793) := by rfl
theorem t129_4 : zT 129 4 = some (.aload_n 0, 1, 0, 0, 0) := by rfl
theorem t129_5 : zT 129 5 = some (.getfield 70, 3, 10, 11, 794) := by rfl
theorem t129_8 : zT 129 8 = some (.iload_n 1, 1, 0, 0, 0) := by rfl
theorem t129_9 : zT 129 9 = some (.iastore, 1, 0, 0, 0) := by rfl
theorem t129_10 : zT 129 10 = some (.aload_n 0, 1, 0, 0, 0) := by rfl
theorem t129_11 : zT 129 11 = some (.dup, 1, 0, 0, 0) := by rfl
theorem t129_12 : zT 129 12 = some (.getfield 70, 3, 10, 11, 794) := by rfl
theorem t129_15 : zT 129 15 = some (.iconst 1, 1, 0, 0, 0) := by rfl
theorem t129_16 : zT 129 16 = some (.iadd, 1, 0, 0, 0) := by rfl
theorem t129_17 : zT 129 17 = some (.putfield 70, 3, 10, 11, 794) := by rfl
theorem t129_20 : zT 129 20 = some (.return_, 1, 0, 0, 0) := by rfl
theorem t130_0 : zT 130 0 = some (.iconst 0, 1, 0, 0, 0) := by rfl
theorem t130_1 : zT 130 1 = some (.istore_n 3, 1, 0, 0, 0) := by rfl
theorem t130_2 : zT 130 2 = some (.iload_n 3, 1, 0, 0, 0) := by rfl
theorem t130_3 : zT 130 3 = some (.aload_n 0, 1, 0, 0, 0) := by rfl
theorem t130_4 : zT 130 4 = some (.getfield 7, 3, 10, 1, 784) := by rfl
theorem t130_7 : zT 130 7 = some (.bipush 66, 2, 0, 0, 0) := by rfl
theorem t130_9 : zT 130 9 = some (.iaload, 1, 0, 0, 0) := by rfl
theorem t130_10 : zT 130 10 = some (.if_icmp .ge 72, 3, 0, 0, 0) := by rfl
theorem t130_13 : zT 130 13 = some (.iconst 0, 1, 0, 0, 0) := by rfl
theorem t130_14 : zT 130 14 = some (.istore 4, 2, 0, 0, 0) := by rfl
theorem t130_16 : zT 130 16 = some (.iload 4, 2, 0, 0, 0) := by rfl
theorem t130_18 : zT 130 18 = some (.aload_n 0, 1, 0, 0, 0) := by rfl
theorem t130_19 : zT 130 19 = some (.iload_n 3, 1, 0, 0, 0) := by rfl
theorem t130_20 : zT 130 20 = some (.iconst 4, 1, 0, 0, 0) := by rfl
theorem t130_21 : zT 130 21 = some (.invokevirtual 58, 3, 117, 0, 903) := by rfl
theorem t130_24 : zT 130 24 = some (.if_icmp .ge 52, 3, 0, 0, 0) := by rfl
theorem t130_27 : zT 130 27 = some (.aload_n 0, 1, 0, 0, 0) := by rfl
theorem t130_28 : zT 130 28 = some (.getfield 29, 3, 10, 9, 792) := by rfl
theorem t130_31 : zT 130 31 = some (.iload_n 3, 1, 0, 0, 0) := by rfl
theorem t130_32 : zT 130 32 = some (.baload, 1, 0, 0, 0) := by rfl
theorem t130_33 : zT 130 33 = some (.ifCond .eq 43, 3, 0, 0, 0) := by rfl
theorem t130_36 : zT 130 36 = some (.aload_n 0, 1, 0, 0, 0) := by rfl
theorem t130_37 : zT 130 37 = some (.iload_n 3, 1, 0, 0, 0) := by rfl
theorem t130_38 : zT 130 38 = some (.iconst 1, 1, 0, 0, 0) := by rfl
theorem t130_39 : zT 130 39 = some (.invokevirtual 58, 3, 117, 0, 903) := by rfl
theorem t130_42 : zT 130 42 = some (.iload_n 2, 1, 0, 0, 0) := by rfl
theorem t130_43 : zT 130 43 = some (.if_icmp .ne 33, 3, 0, 0, 0) := by rfl
theorem t130_46 : zT 130 46 = some (.aload_n 0, 1, 0, 0, 0) := by rfl
theorem t130_47 : zT 130 47 = some (.iload_n 3, 1, 0, 0, 0) := by rfl
theorem t130_48 : zT 130 48 = some (.iconst 2, 1, 0, 0, 0) := by rfl
theorem t130_49 : zT 130 49 = some (.invokevirtual 58, 3, 117, 0, 903) := by rfl
theorem t130_52 : zT 130 52 = some (.iload_n 1, 1, 0, 0, 0) := by rfl
theorem t130_53 : zT 130 53 = some (.if_icmp .ne 23, 3, 0, 0, 0) := by rfl
theorem t130_56 : zT 130 56 = some (.aload_n 0, 1, 0, 0, 0) := by rfl
theorem t130_57 : zT 130 57 = some (.aload_n 0, 1, 0, 0, 0) := by rfl
theorem t130_58 : zT 130 58 = some (.iload_n 3, 1, 0, 0, 0) := by rfl
theorem t130_59 : zT 130 59 = some (.bipush 6, 2, 0, 0, 0) := by rfl
theorem t130_61 : zT 130 61 = some (.iload 4, 2, 0, 0, 0) := by rfl
theorem t130_63 : zT 130 63 = some (.iadd, 1, 0, 0, 0) := by rfl
theorem t130_64 : zT 130 64 = some (.invokevirtual 58, 3, 117, 0, 903) := by rfl
theorem t130_67 : zT 130 67 = some (.invokevirtual 73, 3, 129, 0, 995) := by rfl
theorem t130_70 : zT 130 70 = some (.iinc 4 1, 3, 0, 0, 0) := by rfl
theorem t130_73 : zT 130 73 = some (.goto (-57), 3, 0, 0, 0) := by rfl
theorem t130_76 : zT 130 76 = some (.iinc 3 1, 3, 0, 0, 0) := by rfl
theorem t130_79 : zT 130 79 = some (.goto (-77), 3, 0, 0, 0) := by rfl
theorem t130_82 : zT 130 82 = some (.return_, 1, 0, 0, 0) := by rfl
theorem t131_0 : zT 131 0 = some (.iconst 0, 1, 0, 0, 0) := by rfl
theorem t131_1 : zT 131 1 = some (.istore_n 2, 1, 0, 0, 0) := by rfl
theorem t131_2 : zT 131 2 = some (.iconst 0, 1, 0, 0, 0) := by rfl
theorem t131_3 : zT 131 3 = some (.istore_n 3, 1, 0, 0, 0) := by rfl
theorem t131_4 : zT 131 4 = some (.iload_n 3, 1, 0, 0, 0) := by rfl
theorem t131_5 : zT 131 5 = some (.aload_n 0, 1, 0, 0, 0) := by rfl
theorem t131_6 : zT 131 6 = some (.getfield 7, 3, 10, 1, 784) := by rfl
theorem t131_9 : zT 131 9 = some (.bipush 66, 2, 0, 0, 0) := by rfl
theorem t131_11 : zT 131 11 = some (.iaload, 1, 0, 0, 0) := by rfl
theorem t131_12 : zT 131 12 = some (.if_icmp .ge 49, 3, 0, 0, 0) := by rfl
theorem t131_15 : zT 131 15 = some (.iload_n 2, 1, 0, 0, 0) := by rfl
theorem t131_16 : zT 131 16 = some (.ifCond .ne 33, 3, 0, 0, 0) := by rfl
theorem t131_19 : zT 131 19 = some (.aload_n 0, 1, 0, 0, 0) := by rfl
theorem t131_20 : zT 131 20 = some (.getfield 29, 3, 10, 9, 792) := by rfl
theorem t131_23 : zT 131 23 = some (.iload_n 3, 1, 0, 0, 0) := by rfl
theorem t131_24 : zT 131 24 = some (.baload, 1, 0, 0, 0) := by rfl
theorem t131_25 : zT 131 25 = some (.ifCond .eq 28, 3, 0, 0, 0) := by rfl
theorem t131_28 : zT 131 28 = some (.iload_n 1, 1, 0, 0, 0) := by rfl
theorem t131_29 : zT 131 29 = some (.aload_n 0, 1, 0, 0, 0) := by rfl
theorem t131_30 : zT 131 30 = some (.iload_n 3, 1, 0, 0, 0) := by rfl
theorem t131_31 : zT 131 31 = some (.iconst 2, 1, 0, 0, 0) := by rfl
theorem t131_32 : zT 131 32 = some (.invokevirtual 58, 3, 117, 0, 903) := by rfl
theorem t131_35 : zT 131 35 = some (.aload_n 0, 1, 0, 0, 0) := by rfl
theorem t131_36 : zT 131 36 = some (.iload_n 3, 1, 0, 0, 0) := by rfl
theorem t131_37 : zT 131 37 = some (.iconst 3, 1, 0, 0, 0) := by rfl
theorem t131_38 : zT 131 38 = some (.invokevirtual 58, 3, 117, 0, 903) := by rfl
theorem t131_41 : zT 131 41 = some (.iconst 1, 1, 0, 0, 0) := by rfl
theorem t131_42 : zT 131 42 = some (.isub, 1, 0, 0, 0) := by rfl
theorem t131_43 : zT 131 43 = some (.invokestatic 51, 3, 116, 0, 845) := by rfl
theorem t131_46 : zT 131 46 = some (.ifCond .eq 7, 3, 0, 0, 0) := by rfl
theorem t131_49 : zT 131 49 = some (.iconst 1, 1, 0, 0, 0) := by rfl
theorem t131_50 : zT 131 50 = some (.goto 4, 3, 0, 0, 0) := by rfl
theorem t131_53 : zT 131 53 = some (.iconst 0, 1, 0, 0, 0) := by rfl
theorem t131_54 : zT 131 54 = some (.istore_n 2, 1, 0, 0, 0) := by rfl
theorem t131_55 : zT 131 55 = some (.iinc 3 1, 3, 0, 0, 0) := by rfl
theorem t131_58 : zT 131 58 = some (.goto (-54), 3, 0, 0, 0) := by rfl
theorem t131_61 : zT 131 61 = some (.iload_n 2, 1, 0, 0, 0) := by rfl
theorem t131_62 : zT 131 62 = some (.ireturn, 1, 0, 0, 0) := by rfl
theorem t132_0 : zT 132 0 = some (.aload_n 0, 1, 0, 0, 0) := by rfl
theorem t132_1 : zT 132 1 = some (.iconst 0, 1, 0, 0, 0) := by rfl
theorem t132_2 : zT 132 2 = some (.putfield 70, 3, 10, 11, 794) := by rfl
theorem t132_5 : zT 132 5 = some (.iconst 0, 1, 0, 0, 0) := by rfl
theorem t132_6 : zT 132 6 = some (.istore_n 1, 1, 0, 0, 0) := by rfl
theorem t132_7 : zT 132 7 = some (.iload_n 1, 1, 0, 0, 0) := by rfl
theorem t132_8 : zT 132 8 = some (.aload_n 0, 1, 0, 0, 0) := by rfl
theorem t132_9 : zT 132 9 = some (.getfield 7, 3, 10, 1, 784) := by rfl
theorem t132_12 : zT 132 12 = some (.iconst 0, 1, 0, 0, 0) := by rfl
theorem t132_13 : zT 132 13 = some (.iaload, 1, 0, 0, 0) := by rfl
theorem t132_14 : zT 132 14 = some (.if_icmp .gt 51, 3, 0, 0, 0) := by rfl
theorem t132_17 : zT 132 17 = some (.aload_n 0, 1, 0, 0, 0) := by rfl
theorem t132_18 : zT 132 18 = some (.iload_n 1, 1, 0, 0, 0) := by rfl
theorem t132_19 : zT 132 19 = some (.iconst 1, 1, 0, 0, 0) := by rfl
theorem t132_20 : zT 132 20 = some (.invokevirtual 77, 3, 130, 0, 991) := by rfl
theorem t132_23 : zT 132 23 = some (.aload_n 0, 1, 0, 0, 0) := by rfl
theorem t132_24 : zT 132 24 = some (.iload_n 1, 1, 0, 0, 0) := by rfl
theorem t132_25 : zT 132 25 = some (.iconst 2, 1, 0, 0, 0) := by rfl
theorem t132_26 : zT 132 26 = some (.invokevirtual 77, 3, 130, 0, 991) := by rfl
theorem t132_29 : zT 132 29 = some (.iload_n 1, 1, 0, 0, 0) := by rfl
theorem t132_30 : zT 132 30 = some (.aload_n 0, 1, 0, 0, 0) := by rfl
theorem t132_31 : zT 132 31 = some (.getfield 7, 3, 10, 1, 784) := by rfl
theorem t132_34 : zT 132 34 = some (.iconst 0, 1, 0, 0, 0) := by rfl
theorem t132_35 : zT 132 35 = some (.iaload, 1, 0, 0, 0) := by rfl
theorem t132_36 : zT 132 36 = some (.if_icmp .ge 23, 3, 0, 0, 0) := by rfl
theorem t132_39 : zT 132 39 = some (.aload_n 0, 1, 0, 0, 0) := by rfl
theorem t132_40 : zT 132 40 = some (.iload_n 1, 1, 0, 0, 0) := by rfl
theorem t132_41 : zT 132 41 = some (.invokevirtual 81, 3, 131, 0, 999) := by rfl
theorem t132_44 : zT 132 44 = some (.ifCond .ne 15, 3, 0, 0, 0) := by rfl
theorem t132_47 : zT 132 47 = some (.aload_n 0, 1, 0, 0, 0) := by rfl
theorem t132_48 : zT 132 48 = some (.aload_n 0, 1, 0, 0, 0) := by rfl
theorem t132_49 : zT 132 49 = some (.getfield 7, 3, 10, 1, 784) := by rfl
theorem t132_52 : zT 132 52 = some (.iconst 1, 1, 0, 0, 0) := by rfl
theorem t132_53 : zT 132 53 = some (.iload_n 1, 1, 0, 0, 0) := by rfl
theorem t132_54 : zT 132 54 = some (.iadd, 1, 0, 0, 0) := by rfl
theorem t132_55 : zT 132 55 = some (.iaload, 1, 0, 0, 0) := by rfl
theorem t132_56 : zT 132 56 = some (.invokevirtual 73, 3, 129, 0, 995) := by rfl
theorem t132_59 : zT 132 59 = some (.iinc 1 1, 3, 0, 0, 0) := by rfl
theorem t132_62 : zT 132 62 = some (.goto (-55), 3, 0, 0, 0) := by rfl
theorem t132_65 : zT 132 65 = some (.return_, 1, 0, 0, 0) := by rfl
theorem t133_0 : zT 133 0 = some (.iconst 0, 1, 0, 0, 0) := by rfl
theorem t133_1 : zT 133 1 = some (.istore_n 1, 1, 0, 0, 0) := by rfl
theorem t133_2 : zT 133 2 = some (.iload_n 1, 1, 0, 0, 0) := by rfl
theorem t133_3 : zT 133 3 = some (.aload_n 0, 1, 0, 0, 0) := by rfl
theorem t133_4 : zT 133 4 = some (.getfield 7, 3, 10, 1, 784) := by rfl
theorem t133_7 : zT 133 7 = some (.bipush 66, 2, 0, 0, 0) := by rfl
theorem t133_9 : zT 133 9 = some (.iaload, 1, 0, 0, 0) := by rfl
theorem t133_10 : zT 133 10 = some (.if_icmp .ge 30, 3, 0, 0, 0) := by rfl
theorem t133_13 : zT 133 13 = some (.aload_n 0, 1, 0, 0, 0) := by rfl
theorem t133_14 : zT 133 14 = some (.getfield 29, 3, 10, 9, 792) := by rfl
theorem t133_17 : zT 133 17 = some (.iload_n 1, 1, 0, 0, 0) := by rfl
theorem t133_18 : zT 133 18 = some (.aload_n 0, 1, 0, 0, 0) := by rfl
theorem t133_19 : zT 133 19 = some (.iload_n 1, 1, 0, 0, 0) := by rfl
theorem t133_20 : zT 133 20 = some (.iconst 5, 1, 0, 0, 0) := by rfl
theorem t133_21 : zT 133 21 = some (.invokevirtual 58, 3, 117, 0, 903) := by rfl
theorem t133_24 : zT 133 24 = some (.iconst 1, 1, 0, 0, 0) := by rfl
theorem t133_25 : zT 133 25 = some (.if_icmp .ne 7, 3, 0, 0, 0) := by rfl
theorem t133_28 : zT 133 28 = some (.iconst 1, 1, 0, 0, 0) := by rfl
theorem t133_29 : zT 133 29 = some (.goto 4, 3, 0, 0, 0) := by rfl
theorem t133_32 : zT 133 32 = some (.iconst 0, 1, 0, 0, 0) := by rfl
theorem t133_33 : zT 133 33 = some (.bastore, 1, 0, 0, 0) := by rfl
theorem t133_34 : zT 133 34 = some (.iinc 1 1, 3, 0, 0, 0) := by rfl
theorem t133_37 : zT 133 37 = some (.goto (-35), 3, 0, 0, 0) := by rfl
theorem t133_40 : zT 133 40 = some (.aload_n 0, 1, 0, 0, 0) := by rfl
theorem t133_41 : zT 133 41 = some (.invokevirtual 85, 3, 132, 0, 987) := by rfl
theorem t133_44 : zT 133 44 = some (.return_, 1, 0, 0, 0) := by rfl
theorem t134_0 : zT 134 0 = some (.iconst 0, 1, 0, 0, 0) := by rfl
theorem t134_1 : zT 134 1 = some (.istore_n 3, 1, 0, 0, 0) := by rfl
theorem t134_2 : zT 134 2 = some (.iconst 0, 1, 0, 0, 0) := by rfl
theorem t134_3 : zT 134 3 = some (.istore 4, 2, 0, 0, 0) := by rfl
theorem t134_5 : zT 134 5 = some (.iload 4, 2, 0, 0, 0) := by rfl
theorem t134_7 : zT 134 7 = some (.aload_n 0, 1, 0, 0, 0) := by rfl
theorem t134_8 : zT 134 8 = some (.getfield 7, 3, 10, 1, 784) := by rfl
theorem t134_11 : zT 134 11 = some (.bipush 66, 2, 0, 0, 0) := by rfl
theorem t134_13 : zT 134 13 = some (.iaload, 1, 0, 0, 0) := by rfl
theorem t134_14 : zT 134 14 = some (.if_icmp .ge 56, 3, 0, 0, 0) := by rfl
theorem t134_17 : zT 134 17 = some (.iload_n 3, 1, 0, 0, 0) := by rfl
theorem t134_18 : zT 134 18 = some (.ifCond .ne 40, 3, 0, 0, 0) := by rfl
theorem t134_21 : zT 134 21 = some (.iload 4, 2, 0, 0, 0) := by rfl
theorem t134_23 : zT 134 23 = some (.iload_n 1, 1, 0, 0, 0) := by rfl
theorem t134_24 : zT 134 24 = some (.if_icmp .eq 38, 3, 0, 0, 0) := by rfl
theorem t134_27 : zT 134 27 = some (.aload_n 0, 1, 0, 0, 0) := by rfl
theorem t134_28 : zT 134 28 = some (.iload 4, 2, 0, 0, 0) := by rfl
theorem t134_30 : zT 134 30 = some (.iconst 0, 1, 0, 0, 0) := by rfl
theorem t134_31 : zT 134 31 = some (.invokevirtual 58, 3, 117, 0, 903) := by rfl
theorem t134_34 : zT 134 34 = some (.iload_n 2, 1, 0, 0, 0) := by rfl
theorem t134_35 : zT 134 35 = some (.if_icmp .ne 27, 3, 0, 0, 0) := by rfl
theorem t134_38 : zT 134 38 = some (.aload_n 0, 1, 0, 0, 0) := by rfl
theorem t134_39 : zT 134 39 = some (.iload 4, 2, 0, 0, 0) := by rfl
theorem t134_41 : zT 134 41 = some (.iconst 5, 1, 0, 0, 0) := by rfl
theorem t134_42 : zT 134 42 = some (.invokevirtual 58, 3, 117, 0, 903) := by rfl
theorem t134_45 : zT 134 45 = some (.ifCond .ne 17, 3, 0, 0, 0) := by rfl
theorem t134_48 : zT 134 48 = some (.aload_n 0, 1, 0, 0, 0) := by rfl
theorem t134_49 : zT 134 49 = some (.iload_n 1, 1, 0, 0, 0) := by rfl
theorem t134_50 : zT 134 50 = some (.iload 4, 2, 0, 0, 0) := by rfl
theorem t134_52 : zT 134 52 = some (.invokevirtual 62, 3, 124, 0, 907) := by rfl
theorem t134_55 : zT 134 55 = some (.ifCond .eq 7, 3, 0, 0, 0) := by rfl
theorem t134_58 : zT 134 58 = some (.iconst 1, 1, 0, 0, 0) := by rfl
theorem t134_59 : zT 134 59 = some (.goto 4, 3, 0, 0, 0) := by rfl
theorem t134_62 : zT 134 62 = some (.iconst 0, 1, 0, 0, 0) := by rfl
theorem t134_63 : zT 134 63 = some (.istore_n 3, 1, 0, 0, 0) := by rfl
theorem t134_64 : zT 134 64 = some (.iinc 4 1, 3, 0, 0, 0) := by rfl
theorem t134_67 : zT 134 67 = some (.goto (-62), 3, 0, 0, 0) := by rfl
theorem t134_70 : zT 134 70 = some (.iload_n 3, 1, 0, 0, 0) := by rfl
theorem t134_71 : zT 134 71 = some (.ireturn, 1, 0, 0, 0) := by rfl
theorem t135_0 : zT 135 0 = some (.iconst 0, 1, 0, 0, 0) := by rfl
theorem t135_1 : zT 135 1 = some (.istore_n 2, 1, 0, 0, 0) := by rfl
theorem t135_2 : zT 135 2 = some (.iload_n 2, 1, 0, 0, 0) := by rfl
theorem t135_3 : zT 135 3 = some (.aload_n 0, 1, 0, 0, 0) := by rfl
theorem t135_4 : zT 135 4 = some (.getfield 7, 3, 10, 1, 784) := by rfl
theorem t135_7 : zT 135 7 = some (.bipush 66, 2, 0, 0, 0) := by rfl
theorem t135_9 : zT 135 9 = some (.iaload, 1, 0, 0, 0) := by rfl
theorem t135_10 : zT 135 10 = some (.if_icmp .ge 66, 3, 0, 0, 0) := by rfl
theorem t135_13 : zT 135 13 = some (.aload_n 0, 1, 0, 0, 0) := by rfl
theorem t135_14 : zT 135 14 = some (.getfield 29, 3, 10, 9, 792) := by rfl
theorem t135_17 : zT 135 17 = some (.iload_n 2, 1, 0, 0, 0) := by rfl
theorem t135_18 : zT 135 18 = some (.aload_n 0, 1, 0, 0, 0) := by rfl
theorem t135_19 : zT 135 19 = some (.iload_n 2, 1, 0, 0, 0) := by rfl
theorem t135_20 : zT 135 20 = some (.iconst 5, 1, 0, 0, 0) := by rfl
theorem t135_21 : zT 135 21 = some (.invokevirtual 58, 3, 117, 0, 903) := by rfl
theorem t135_24 : zT 135 24 = some (.iconst 1, 1, 0, 0, 0) := by rfl
theorem t135_25 : zT 135 25 = some (.if_icmp .ne 20, 3, 0, 0, 0) := by rfl
theorem t135_28 : zT 135 28 = some (.aload_n 0, 1, 0, 0, 0) := by rfl
theorem t135_29 : zT 135 29 = some (.iload_n 2, 1, 0, 0, 0) := by rfl
theorem t135_30 : zT 135 30 = some (.iload_n 1, 1, 0, 0, 0) := by rfl
theorem t135_31 : zT 135 31 = some (.invokevirtual 88, 3, 134, 0, 1023) := by rfl
theorem t135_34 : zT 135 34 = some (.ifCond .ne 7, 3, 0, 0, 0) := by rfl
theorem t135_37 : zT 135 37 = some (.iconst 1, 1, 0, 0, 0) := by rfl
theorem t135_38 : zT 135 38 = some (.goto 31, 3, 0, 0, 0) := by rfl
theorem t135_41 : zT 135 41 = some (.iconst 0, 1, 0, 0, 0) := by rfl
theorem t135_42 : zT 135 42 = some (.goto 27, 3, 0, 0, 0) := by rfl
theorem t135_45 : zT 135 45 = some (.aload_n 0, 1, 0, 0, 0) := by rfl
theorem t135_46 : zT 135 46 = some (.iload_n 2, 1, 0, 0, 0) := by rfl
theorem t135_47 : zT 135 47 = some (.iconst 5, 1, 0, 0, 0) := by rfl
theorem t135_48 : zT 135 48 = some (.invokevirtual 58, 3, 117, 0, 903) := by rfl
theorem t135_51 : zT 135 51 = some (.ifCond .ne 17, 3, 0, 0, 0) := by rfl
theorem t135_54 : zT 135 54 = some (.aload_n 0, 1, 0, 0, 0) := by rfl
theorem t135_55 : zT 135 55 = some (.iload_n 2, 1, 0, 0, 0) := by rfl
theorem t135_56 : zT 135 56 = some (.iconst 0, 1, 0, 0, 0) := by rfl
theorem t135_57 : zT 135 57 = some (.invokevirtual 58, 3, 117, 0, 903) := by rfl
theorem t135_60 : zT 135 60 = some (.iload_n 1, 1, 0, 0, 0) := by rfl
theorem t135_61 : zT 135 61 = some (.if_icmp .ne 7, 3, 0, 0, 0) := by rfl
theorem t135_64 : zT 135 64 = some (.iconst 1, 1, 0, 0, 0) := by rfl
theorem t135_65 : zT 135 65 = some (.goto 4, 3, 0, 0, 0) := by rfl
theorem t135_68 : zT 135 68 = some (.iconst 0, 1, 0, 0, 0) := by rfl
theorem t135_69 : zT 135 69 = some (.bastore, 1, 0, 0, 0) := by rfl
theorem t135_70 : zT 135 70 = some (.iinc 2 1, 3, 0, 0, 0) := by rfl
theorem t135_73 : zT 135 73 = some (.goto (-71), 3, 0, 0, 0) := by rfl
theorem t135_76 : zT 135 76 = some (.aload_n 0, 1, 0, 0, 0) := by rfl
theorem t135_77 : zT 135 77 = some (.invokevirtual 85, 3, 132, 0, 987) := by rfl
theorem t135_80 : zT 135 80 = some (.return_, 1, 0, 0, 0) := by rfl
theorem t136_0 : zT 136 0 = some (.aload_n 0, 1, 0, 0, 0) := by rfl
theorem t136_1 : zT 136 1 = some (.iconst 0, 1, 0, 0, 0) := by rfl
theorem t136_2 : zT 136 2 = some (.putfield 47, 3, 10, 0, 783) := by rfl
theorem t136_5 : zT 136 5 = some (.iconst 0, 1, 0, 0, 0) := by rfl
theorem t136_6 : zT 136 6 = some (.istore_n 1, 1, 0, 0, 0) := by rfl
theorem t136_7 : zT 136 7 = some (.iload_n 1, 1, 0, 0, 0) := by rfl
theorem t136_8 : zT 136 8 = some (.aload_n 0, 1, 0, 0, 0) := by rfl
theorem t136_9 : zT 136 9 = some (.getfield 91, 3, 10, 8, 791) := by rfl
theorem t136_12 : zT 136 12 = some (.if_icmp .ge 28, 3, 0, 0, 0) := by rfl
theorem t136_15 : zT 136 15 = some (.aload_n 0, 1, 0, 0, 0) := by rfl
theorem t136_16 : zT 136 16 = some (.getfield 26, 3, 10, 7, 790) := by rfl
theorem t136_19 : zT 136 19 = some (.iload_n 1, 1, 0, 0, 0) := by rfl
theorem t136_20 : zT 136 20 = some (.iaload, 1, 0, 0, 0) := by rfl
theorem t136_21 : zT 136 21 = some (.bipush 97, 2, 0, 0, 0) := by rfl
theorem t136_23 : zT 136 23 = some (.bipush 122, 2, 0, 0, 0) := by rfl
theorem t136_25 : zT 136 25 = some (.invokestatic 51, 3, 116, 0, 845) := by rfl
theorem t136_28 : zT 136 28 = some (.ifCond .ne 6, 3, 0, 0, 0) := by rfl
theorem t136_31 : zT 136 31 = some (.bipush (-3), 2, 0, 0, 0) := by rfl
theorem t136_33 : zT 136 33 = some (.ireturn, 1, 0, 0, 0) := by rfl
theorem t136_34 : zT 136 34 = some (.iinc 1 1, 3, 0, 0, 0) := by rfl
theorem t136_37 : zT 136 37 = some (.goto (-30), 3, 0, 0, 0) := by rfl
theorem t136_40 : zT 136 40 = some (.aload_n 0, 1, 0, 0, 0) := by rfl
theorem t136_41 : zT 136 41 = some (.invokevirtual 94, 3, 121, 0, 848) := by rfl
theorem t136_44 : zT 136 44 = some (.iconst 0, 1, 0, 0, 0) := by rfl
theorem t136_45 : zT 136 45 = some (.istore_n 1, 1, 0, 0, 0) := by rfl
theorem t136_46 : zT 136 46 = some (.iload_n 1, 1, 0, 0, 0) := by rfl
theorem t136_47 : zT 136 47 = some (.sipush 675, 3, 0, 0, 0) := by rfl
theorem t136_50 : zT 136 50 = some (.if_icmp .ge 36, 3, 0, 0, 0) := by rfl
theorem t136_53 : zT 136 53 = some (.aload_n 0, 1, 0, 0, 0) := by rfl
theorem t136_54 : zT 136 54 = some (.getfield 7, 3, 10, 1, 784) := by rfl
theorem t136_57 : zT 136 57 = some (.iload_n 1, 1, 0, 0, 0) := by rfl
theorem t136_58 : zT 136 58 = some (.iload_n 1, 1, 0, 0, 0) := by rfl
theorem t136_59 : zT 136 59 = some (.bipush 61, 2, 0, 0, 0) := by rfl
theorem t136_61 : zT 136 61 = some (.bipush 65, 2, 0, 0, 0) := by rfl
theorem t136_63 : zT 136 63 = some (.invokestatic 51, 3, 116, 0, 845) := by rfl
theorem t136_66 : zT 136 66 = some (.ifCond .eq 12, 3, 0, 0, 0) := by rfl
theorem t136_69 : zT 136 69 = some (.aload_n 0, 1, 0, 0, 0) := by rfl
theorem t136_70 : zT 136 70 = some (.getfield 7, 3, 10, 1, 784) := by rfl
theorem t136_73 : zT 136 73 = some (.iload_n 1, 1, 0, 0, 0) := by rfl
theorem t136_74 : zT 136 74 = some (.iaload, 1, 0, 0, 0) := by rfl
theorem t136_75 : zT 136 75 = some (.goto 4, 3, 0, 0, 0) := by rfl
theorem t136_78 : zT 136 78 = some (.iconst 0, 1, 0, 0, 0) := by rfl
theorem t136_79 : zT 136 79 = some (.iastore, 1, 0, 0, 0) := by rfl
theorem t136_80 : zT 136 80 = some (.iinc 1 1, 3, 0, 0, 0) := by rfl
theorem t136_83 : zT 136 83 = some (.goto (-37), 3, 0, 0, 0) := by rfl
theorem t136_86 : zT 136 86 = some (.iconst 0, 1, 0, 0, 0) := by rfl
theorem t136_87 : zT 136 87 = some (.istore_n 1, 1, 0, 0, 0) := by rfl
theorem t136_88 : zT 136 88 = some (.iload_n 1, 1, 0, 0, 0) := by rfl
theorem t136_89 : zT 136 89 = some (.aload_n 0, 1, 0, 0, 0) := by rfl
theorem t136_90 : zT 136 90 = some (.getfield 91, 3, 10, 8, 791) := by rfl
theorem t136_93 : zT 136 93 = some (.if_icmp .ge 26, 3, 0, 0, 0) := by rfl
theorem t136_96 : zT 136 96 = some (.aload_n 0, 1, 0, 0, 0) := by rfl
theorem t136_97 : zT 136 97 = some (.getfield 7, 3, 10, 1, 784) := by rfl
theorem t136_100 : zT 136 100 = some (.iconst 1, 1, 0, 0, 0) := by rfl
theorem t136_101 : zT 136 101 = some (.iload_n 1, 1, 0, 0, 0) := by rfl
theorem t136_102 : zT 136 102 = some (.iadd, 1, 0, 0, 0) := by rfl
theorem t136_103 : zT 136 103 = some (.aload_n 0, 1, 0, 0, 0) := by rfl
theorem t136_104 : zT 136 104 = some (.getfield 26, 3, 10, 7, 790) := by rfl
theorem t136_107 : zT 136 107 = some (.iload_n 1, 1, 0, 0, 0) := by rfl
theorem t136_108 : zT 136 108 = some (.iaload, 1, 0, 0, 0) := by rfl
theorem t136_109 : zT 136 109 = some (.bipush 97, 2, 0, 0, 0) := by rfl
theorem t136_111 : zT 136 111 = some (.isub, 1, 0, 0, 0) := by rfl
theorem t136_112 : zT 136 112 = some (.iastore, 1, 0, 0, 0) := by rfl
theorem t136_113 : zT 136 113 = some (.iinc 1 1, 3, 0, 0, 0) := by rfl
theorem t136_116 : zT 136 116 = some (.goto (-28), 3, 0, 0, 0) := by rfl
theorem t136_119 : zT 136 119 = some (.aload_n 0, 1, 0, 0, 0) := by rfl
theorem t136_120 : zT 136 120 = some (.getfield 7, 3, 10, 1, 784) := by rfl
theorem t136_123 : zT 136 123 = some (.iconst 0, 1, 0, 0, 0) := by rfl
theorem t136_124 : zT 136 124 = some (.aload_n 0, 1, 0, 0, 0) := by rfl
theorem t136_125 : zT 136 125 = some (.getfield 91, 3, 10, 8, 791) := by rfl
theorem t136_128 : zT 136 128 = some (.iastore, 1, 0, 0, 0) := by rfl
theorem t136_129 : zT 136 129 = some (.aload_n 0, 1, 0, 0, 0) := by rfl
theorem t136_130 : zT 136 130 = some (.iconst 0, 1, 0, 0, 0) := by rfl
theorem t136_131 : zT 136 131 = some (.putfield 91, 3, 10, 8, 791) := by rfl
theorem t136_134 : zT 136 134 = some (.aload_n 0, 1, 0, 0, 0) := by rfl
theorem t136_135 : zT 136 135 = some (.getfield 7, 3, 10, 1, 784) := by rfl
theorem t136_138 : zT 136 138 = some (.iconst 0, 1, 0, 0, 0) := by rfl
theorem t136_139 : zT 136 139 = some (.iaload, 1, 0, 0, 0) := by rfl
theorem t136_140 : zT 136 140 = some (.ireturn, 1, 0, 0, 0) := by rfl
theorem t137_0 : zT 137 0 = some (.aload_n 0, 1, 0, 0, 0) := by rfl
theorem t137_1 : zT 137 1 = some (.iconst 0, 1, 0, 0, 0) := by rfl
theorem t137_2 : zT 137 2 = some (.putfield 47, 3, 10, 0, 783) := by rfl
theorem t137_5 : zT 137 5 = some (.iload_n 1, 1, 0, 0, 0) := by rfl
theorem t137_6 : zT 137 6 = some (.invokestatic 97, 3, 120, 0, 856) := by rfl
theorem t137_9 : zT 137 9 = some (.ifCond .ne 5, 3, 0, 0, 0) := by rfl
theorem t137_12 : zT 137 12 = some (.iconst (-1), 1, 0, 0, 0) := by rfl
theorem t137_13 : zT 137 13 = some (.ireturn, 1, 0, 0, 0) := by rfl
theorem t137_14 : zT 137 14 = some (.iload_n 2, 1, 0, 0, 0) := by rfl
theorem t137_15 : zT 137 15 = some (.iconst 0, 1, 0, 0, 0) := by rfl
theorem t137_16 : zT 137 16 = some (.bipush 9, 2, 0, 0, 0) := by rfl
theorem t137_18 : zT 137 18 = some (.invokestatic 51, 3, 116, 0, 845) := by rfl
theorem t137_21 : zT 137 21 = some (.ifCond .ne 6, 3, 0, 0, 0) := by rfl
theorem t137_24 : zT 137 24 = some (.bipush (-2), 2, 0, 0, 0) := by rfl
theorem t137_26 : zT 137 26 = some (.ireturn, 1, 0, 0, 0) := by rfl
theorem t137_27 : zT 137 27 = some (.aload_n 0, 1, 0, 0, 0) := by rfl
theorem t137_28 : zT 137 28 = some (.invokevirtual 94, 3, 121, 0, 848) := by rfl
theorem t137_31 : zT 137 31 = some (.aload_n 0, 1, 0, 0, 0) := by rfl
theorem t137_32 : zT 137 32 = some (.getfield 7, 3, 10, 1, 784) := by rfl
theorem t137_35 : zT 137 35 = some (.bipush 61, 2, 0, 0, 0) := by rfl
theorem t137_37 : zT 137 37 = some (.iload_n 1, 1, 0, 0, 0) := by rfl
theorem t137_38 : zT 137 38 = some (.iadd, 1, 0, 0, 0) := by rfl
theorem t137_39 : zT 137 39 = some (.iaload, 1, 0, 0, 0) := by rfl
theorem t137_40 : zT 137 40 = some (.istore_n 3, 1, 0, 0, 0) := by rfl
theorem t137_41 : zT 137 41 = some (.aload_n 0, 1, 0, 0, 0) := by rfl
theorem t137_42 : zT 137 42 = some (.getfield 7, 3, 10, 1, 784) := by rfl
theorem t137_45 : zT 137 45 = some (.bipush 61, 2, 0, 0, 0) := by rfl
theorem t137_47 : zT 137 47 = some (.iload_n 1, 1, 0, 0, 0) := by rfl
theorem t137_48 : zT 137 48 = some (.iadd, 1, 0, 0, 0) := by rfl
theorem t137_49 : zT 137 49 = some (.iload_n 2, 1, 0, 0, 0) := by rfl
theorem t137_50 : zT 137 50 = some (.iastore, 1, 0, 0, 0) := by rfl
theorem t137_51 : zT 137 51 = some (.iload_n 3, 1, 0, 0, 0) := by rfl
theorem t137_52 : zT 137 52 = some (.ireturn, 1, 0, 0, 0) := by rfl
theorem t138_0 : zT 138 0 = some (.iconst 0, 1, 0, 0, 0) := by rfl
theorem t138_1 : zT 138 1 = some (.istore_n 2, 1, 0, 0, 0) := by rfl
theorem t138_2 : zT 138 2 = some (.iconst 0, 1, 0, 0, 0) := by rfl
theorem t138_3 : zT 138 3 = some (.istore_n 3, 1, 0, 0, 0) := by rfl
theorem t138_4 : zT 138 4 = some (.iload_n 3, 1, 0, 0, 0) := by rfl
theorem t138_5 : zT 138 5 = some (.iload_n 1, 1, 0, 0, 0) := by rfl
theorem t138_6 : zT 138 6 = some (.if_icmp .ge 53, 3, 0, 0, 0) := by rfl
theorem t138_9 : zT 138 9 = some (.iload_n 2, 1, 0, 0, 0) := by rfl
theorem t138_10 : zT 138 10 = some (.ifCond .ne 37, 3, 0, 0, 0) := by rfl
theorem t138_13 : zT 138 13 = some (.aload_n 0, 1, 0, 0, 0) := by rfl
theorem t138_14 : zT 138 14 = some (.iload_n 3, 1, 0, 0, 0) := by rfl
theorem t138_15 : zT 138 15 = some (.iconst 0, 1, 0, 0, 0) := by rfl
theorem t138_16 : zT 138 16 = some (.invokevirtual 58, 3, 117, 0, 903) := by rfl
theorem t138_19 : zT 138 19 = some (.aload_n 0, 1, 0, 0, 0) := by rfl
theorem t138_20 : zT 138 20 = some (.iload_n 1, 1, 0, 0, 0) := by rfl
theorem t138_21 : zT 138 21 = some (.iconst 0, 1, 0, 0, 0) := by rfl
theorem t138_22 : zT 138 22 = some (.invokevirtual 58, 3, 117, 0, 903) := by rfl
theorem t138_25 : zT 138 25 = some (.if_icmp .ne 26, 3, 0, 0, 0) := by rfl
theorem t138_28 : zT 138 28 = some (.aload_n 0, 1, 0, 0, 0) := by rfl
theorem t138_29 : zT 138 29 = some (.iload_n 3, 1, 0, 0, 0) := by rfl
theorem t138_30 : zT 138 30 = some (.iconst 5, 1, 0, 0, 0) := by rfl
theorem t138_31 : zT 138 31 = some (.invokevirtual 58, 3, 117, 0, 903) := by rfl
theorem t138_34 : zT 138 34 = some (.iconst 2, 1, 0, 0, 0) := by rfl
theorem t138_35 : zT 138 35 = some (.if_icmp .eq 16, 3, 0, 0, 0) := by rfl
theorem t138_38 : zT 138 38 = some (.aload_n 0, 1, 0, 0, 0) := by rfl
theorem t138_39 : zT 138 39 = some (.iload_n 1, 1, 0, 0, 0) := by rfl
theorem t138_40 : zT 138 40 = some (.iload_n 3, 1, 0, 0, 0) := by rfl
theorem t138_41 : zT 138 41 = some (.invokevirtual 62, 3, 124, 0, 907) := by rfl
theorem t138_44 : zT 138 44 = some (.ifCond .eq 7, 3, 0, 0, 0) := by rfl
theorem t138_47 : zT 138 47 = some (.iconst 1, 1, 0, 0, 0) := by rfl
theorem t138_48 : zT 138 48 = some (.goto 4, 3, 0, 0, 0) := by rfl
theorem t138_51 : zT 138 51 = some (.iconst 0, 1, 0, 0, 0) := by rfl
theorem t138_52 : zT 138 52 = some (.istore_n 2, 1, 0, 0, 0) := by rfl
theorem t138_53 : zT 138 53 = some (.iinc 3 1, 3, 0, 0, 0) := by rfl
theorem t138_56 : zT 138 56 = some (.goto (-52), 3, 0, 0, 0) := by rfl
theorem t138_59 : zT 138 59 = some (.iload_n 2, 1, 0, 0, 0) := by rfl
theorem t138_60 : zT 138 60 = some (.ireturn, 1, 0, 0, 0) := by rfl
theorem t139_0 : zT 139 0 = some (.iconst 0, 1, 0, 0, 0) := by rfl
theorem t139_1 : zT 139 1 = some (.istore_n 2, 1, 0, 0, 0) := by rfl
theorem t139_2 : zT 139 2 = some (.iload_n 2, 1, 0, 0, 0) := by rfl
theorem t139_3 : zT 139 3 = some (.bipush 12, 2, 0, 0, 0) := by rfl
theorem t139_5 : zT 139 5 = some (.if_icmp .ge 16, 3, 0, 0, 0) := by rfl
theorem t139_8 : zT 139 8 = some (.aload_n 0, 1, 0, 0, 0) := by rfl
theorem t139_9 : zT 139 9 = some (.iload_n 1, 1, 0, 0, 0) := by rfl
theorem t139_10 : zT 139 10 = some (.iload_n 2, 1, 0, 0, 0) := by rfl
theorem t139_11 : zT 139 11 = some (.iconst 0, 1, 0, 0, 0) := by rfl
theorem t139_12 : zT 139 12 = some (.invokevirtual 100, 3, 118, 0, 895) := by rfl
theorem t139_15 : zT 139 15 = some (.iinc 2 1, 3, 0, 0, 0) := by rfl
theorem t139_18 : zT 139 18 = some (.goto (-16), 3, 0, 0, 0) := by rfl
theorem t139_21 : zT 139 21 = some (.return_, 1, 0, 0, 0) := by rfl
theorem t140_0 : zT 140 0 = some (.aload_n 0, 1, 0, 0, 0) := by rfl
theorem t140_1 : zT 140 1 = some (.getfield 7, 3, 10, 1, 784) := by rfl
theorem t140_4 : zT 140 4 = some (.bipush 66, 2, 0, 0, 0) := by rfl
theorem t140_6 : zT 140 6 = some (.iaload, 1, 0, 0, 0) := by rfl
theorem t140_7 : zT 140 7 = some (.istore 5, 2, 0, 0, 0) := by rfl
theorem t140_9 : zT 140 9 = some (.aload_n 0, 1, 0, 0, 0) := by rfl
theorem t140_10 : zT 140 10 = some (.iload 5, 2, 0, 0, 0) := by rfl
theorem t140_12 : zT 140 12 = some (.invokevirtual 104, 3, 139, 0, 911) := by rfl
theorem t140_15 : zT 140 15 = some (.aload_n 0, 1, 0, 0, 0) := by rfl
theorem t140_16 : zT 140 16 = some (.iload 5, 2, 0, 0, 0) := by rfl
theorem t140_18 : zT 140 18 = some (.iconst 0, 1, 0, 0, 0) := by rfl
theorem t140_19 : zT 140 19 = some (.iload_n 1, 1, 0, 0, 0) := by rfl
theorem t140_20 : zT 140 20 = some (.invokevirtual 100, 3, 118, 0, 895) := by rfl
theorem t140_23 : zT 140 23 = some (.aload_n 0, 1, 0, 0, 0) := by rfl
theorem t140_24 : zT 140 24 = some (.iload 5, 2, 0, 0, 0) := by rfl
theorem t140_26 : zT 140 26 = some (.iconst 1, 1, 0, 0, 0) := by rfl
theorem t140_27 : zT 140 27 = some (.iload_n 2, 1, 0, 0, 0) := by rfl
theorem t140_28 : zT 140 28 = some (.invokevirtual 100, 3, 118, 0, 895) := by rfl
theorem t140_31 : zT 140 31 = some (.aload_n 0, 1, 0, 0, 0) := by rfl
theorem t140_32 : zT 140 32 = some (.iload 5, 2, 0, 0, 0) := by rfl
theorem t140_34 : zT 140 34 = some (.iconst 2, 1, 0, 0, 0) := by rfl
theorem t140_35 : zT 140 35 = some (.iload_n 3, 1, 0, 0, 0) := by rfl
theorem t140_36 : zT 140 36 = some (.invokevirtual 100, 3, 118, 0, 895) := by rfl
theorem t140_39 : zT 140 39 = some (.aload_n 0, 1, 0, 0, 0) := by rfl
theorem t140_40 : zT 140 40 = some (.iload 5, 2, 0, 0, 0) := by rfl
theorem t140_42 : zT 140 42 = some (.iconst 3, 1, 0, 0, 0) := by rfl
theorem t140_43 : zT 140 43 = some (.iload 4, 2, 0, 0, 0) := by rfl
theorem t140_45 : zT 140 45 = some (.invokevirtual 100, 3, 118, 0, 895) := by rfl
theorem t140_48 : zT 140 48 = some (.return_, 1, 0, 0, 0) := by rfl
theorem t141_0 : zT 141 0 = some (.aload_n 0, 1, 0, 0, 0) := by rfl
theorem t141_1 : zT 141 1 = some (.getfield 44, 3, 10, 17, 800) := by rfl
theorem t141_4 : zT 141 4 = some (.iload_n 1, 1, 0, 0, 0) := by rfl
theorem t141_5 : zT 141 5 = some (.iconst 2, 1, 0, 0, 0) := by rfl
theorem t141_6 : zT 141 6 = some (.iadd, 1, 0, 0, 0) := by rfl
theorem t141_7 : zT 141 7 = some (.iaload, 1, 0, 0, 0) := by rfl
theorem t141_8 : zT 141 8 = some (.aload_n 0, 1, 0, 0, 0) := by rfl
theorem t141_9 : zT 141 9 = some (.getfield 7, 3, 10, 1, 784) := by rfl
theorem t141_12 : zT 141 12 = some (.iconst 0, 1, 0, 0, 0) := by rfl
theorem t141_13 : zT 141 13 = some (.iaload, 1, 0, 0, 0) := by rfl
theorem t141_14 : zT 141 14 = some (.if_icmp .gt 24, 3, 0, 0, 0) := by rfl
theorem t141_17 : zT 141 17 = some (.aload_n 0, 1, 0, 0, 0) := by rfl
theorem t141_18 : zT 141 18 = some (.getfield 44, 3, 10, 17, 800) := by rfl
theorem t141_21 : zT 141 21 = some (.iload_n 1, 1, 0, 0, 0) := by rfl
theorem t141_22 : zT 141 22 = some (.iconst 3, 1, 0, 0, 0) := by rfl
theorem t141_23 : zT 141 23 = some (.iadd, 1, 0, 0, 0) := by rfl
theorem t141_24 : zT 141 24 = some (.iaload, 1, 0, 0, 0) := by rfl
theorem t141_25 : zT 141 25 = some (.aload_n 0, 1, 0, 0, 0) := by rfl
theorem t141_26 : zT 141 26 = some (.getfield 7, 3, 10, 1, 784) := by rfl
theorem t141_29 : zT 141 29 = some (.iconst 0, 1, 0, 0, 0) := by rfl
theorem t141_30 : zT 141 30 = some (.iaload, 1, 0, 0, 0) := by rfl
theorem t141_31 : zT 141 31 = some (.if_icmp .gt 7, 3, 0, 0, 0) := by rfl
theorem t141_34 : zT 141 34 = some (.iconst 1, 1, 0, 0, 0) := by rfl
theorem t141_35 : zT 141 35 = some (.goto 4, 3, 0, 0, 0) := by rfl
theorem t141_38 : zT 141 38 = some (.iconst 0, 1, 0, 0, 0) := by rfl
theorem t141_39 : zT 141 39 = some (.istore_n 2, 1, 0, 0, 0) := by rfl
theorem t141_40 : zT 141 40 = some (.aload_n 0, 1, 0, 0, 0) := by rfl
theorem t141_41 : zT 141 41 = some (.getfield 44, 3, 10, 17, 800) := by rfl
theorem t141_44 : zT 141 44 = some (.iload_n 1, 1, 0, 0, 0) := by rfl
theorem t141_45 : zT 141 45 = some (.iconst 1, 1, 0, 0, 0) := by rfl
theorem t141_46 : zT 141 46 = some (.iadd, 1, 0, 0, 0) := by rfl
theorem t141_47 : zT 141 47 = some (.iaload, 1, 0, 0, 0) := by rfl
theorem t141_48 : zT 141 48 = some (.iconst 1, 1, 0, 0, 0) := by rfl
theorem t141_49 : zT 141 49 = some (.if_icmp .eq 22, 3, 0, 0, 0) := by rfl
theorem t141_52 : zT 141 52 = some (.aload_n 0, 1, 0, 0, 0) := by rfl
theorem t141_53 : zT 141 53 = some (.getfield 44, 3, 10, 17, 800) := by rfl
theorem t141_56 : zT 141 56 = some (.iload_n 1, 1, 0, 0, 0) := by rfl
theorem t141_57 : zT 141 57 = some (.iconst 3, 1, 0, 0, 0) := by rfl
theorem t141_58 : zT 141 58 = some (.iadd, 1, 0, 0, 0) := by rfl
theorem t141_59 : zT 141 59 = some (.iaload, 1, 0, 0, 0) := by rfl
theorem t141_60 : zT 141 60 = some (.aload_n 0, 1, 0, 0, 0) := by rfl
theorem t141_61 : zT 141 61 = some (.getfield 44, 3, 10, 17, 800) := by rfl
theorem t141_64 : zT 141 64 = some (.iload_n 1, 1, 0, 0, 0) := by rfl
theorem t141_65 : zT 141 65 = some (.iconst 2, 1, 0, 0, 0) := by rfl
theorem t141_66 : zT 141 66 = some (.iadd, 1, 0, 0, 0) := by rfl
theorem t141_67 : zT 141 67 = some (.iaload, 1, 0, 0, 0) := by rfl
theorem t141_68 : zT 141 68 = some (.if_icmp .le 7, 3, 0, 0, 0) := by rfl
theorem t141_71 : zT 141 71 = some (.iconst 1, 1, 0, 0, 0) := by rfl
theorem t141_72 : zT 141 72 = some (.goto 4, 3, 0, 0, 0) := by rfl
theorem t141_75 : zT 141 75 = some (.iconst 0, 1, 0, 0, 0) := by rfl
theorem t141_76 : zT 141 76 = some (.istore_n 3, 1, 0, 0, 0) := by rfl
theorem t141_77 : zT 141 77 = some (.iload_n 2, 1, 0, 0, 0) := by rfl
theorem t141_78 : zT 141 78 = some (.ifCond .eq 19, 3, 0, 0, 0) := by rfl
theorem t141_81 : zT 141 81 = some (.iload_n 3, 1, 0, 0, 0) := by rfl
theorem t141_82 : zT 141 82 = some (.ifCond .eq 15, 3, 0, 0, 0) := by rfl
theorem t141_85 : zT 141 85 = some (.aload_n 0, 1, 0, 0, 0) := by rfl
theorem t141_86 : zT 141 86 = some (.getfield 7, 3, 10, 1, 784) := by rfl
theorem t141_89 : zT 141 89 = some (.bipush 66, 2, 0, 0, 0) := by rfl
theorem t141_91 : zT 141 91 = some (.iaload, 1, 0, 0, 0) := by rfl
theorem t141_92 : zT 141 92 = some (.bipush 20, 2, 0, 0, 0) := by rfl
theorem t141_94 : zT 141 94 = some (.if_icmp .ne 5, 3, 0, 0, 0) := by rfl
theorem t141_97 : zT 141 97 = some (.iconst 0, 1, 0, 0, 0) := by rfl
theorem t141_98 : zT 141 98 = some (.ireturn, 1, 0, 0, 0) := by rfl
theorem t141_99 : zT 141 99 = some (.iconst 0, 1, 0, 0, 0) := by rfl
theorem t141_100 : zT 141 100 = some (.istore 4, 2, 0, 0, 0) := by rfl
theorem t141_102 : zT 141 102 = some (.iload 4, 2, 0, 0, 0) := by rfl
theorem t141_104 : zT 141 104 = some (.bipush 12, 2, 0, 0, 0) := by rfl
theorem t141_106 : zT 141 106 = some (.if_icmp .ge 31, 3, 0, 0, 0) := by rfl
theorem t141_109 : zT 141 109 = some (.aload_n 0, 1, 0, 0, 0) := by rfl
theorem t141_110 : zT 141 110 = some (.aload_n 0, 1, 0, 0, 0) := by rfl
theorem t141_111 : zT 141 111 = some (.getfield 7, 3, 10, 1, 784) := by rfl
theorem t141_114 : zT 141 114 = some (.bipush 66, 2, 0, 0, 0) := by rfl
theorem t141_116 : zT 141 116 = some (.iaload, 1, 0, 0, 0) := by rfl
theorem t141_117 : zT 141 117 = some (.iload 4, 2, 0, 0, 0) := by rfl
theorem t141_119 : zT 141 119 = some (.aload_n 0, 1, 0, 0, 0) := by rfl
theorem t141_120 : zT 141 120 = some (.getfield 44, 3, 10, 17, 800) := by rfl
theorem t141_123 : zT 141 123 = some (.iload_n 1, 1, 0, 0, 0) := by rfl
theorem t141_124 : zT 141 124 = some (.iload 4, 2, 0, 0, 0) := by rfl
theorem t141_126 : zT 141 126 = some (.iadd, 1, 0, 0, 0) := by rfl
theorem t141_127 : zT 141 127 = some (.iaload, 1, 0, 0, 0) := by rfl
theorem t141_128 : zT 141 128 = some (.invokevirtual 100, 3, 118, 0, 895) := by rfl
theorem t141_131 : zT 141 131 = some (.iinc 4 1, 3, 0, 0, 0) := by rfl
theorem t141_134 : zT 141 134 = some (.goto (-32), 3, 0, 0, 0) := by rfl
theorem t141_137 : zT 141 137 = some (.aload_n 0, 1, 0, 0, 0) := by rfl
theorem t141_138 : zT 141 138 = some (.aload_n 0, 1, 0, 0, 0) := by rfl
theorem t141_139 : zT 141 139 = some (.getfield 7, 3, 10, 1, 784) := by rfl
theorem t141_142 : zT 141 142 = some (.bipush 66, 2, 0, 0, 0) := by rfl
theorem t141_144 : zT 141 144 = some (.iaload, 1, 0, 0, 0) := by rfl
theorem t141_145 : zT 141 145 = some (.invokevirtual 107, 3, 138, 0, 899) := by rfl
theorem t141_148 : zT 141 148 = some (.ifCond .eq 16, 3, 0, 0, 0) := by rfl
theorem t141_151 : zT 141 151 = some (.aload_n 0, 1, 0, 0, 0) := by rfl
theorem t141_152 : zT 141 152 = some (.aload_n 0, 1, 0, 0, 0) := by rfl
theorem t141_153 : zT 141 153 = some (.getfield 7, 3, 10, 1, 784) := by rfl
theorem t141_156 : zT 141 156 = some (.bipush 66, 2, 0, 0, 0) := by rfl
theorem t141_158 : zT 141 158 = some (.iaload, 1, 0, 0, 0) := by rfl
theorem t141_159 : zT 141 159 = some (.invokevirtual 104, 3, 139, 0, 911) := by rfl
theorem t141_162 : zT 141 162 = some (.iconst 0, 1, 0, 0, 0) := by rfl
theorem t141_163 : zT 141 163 = some (.ireturn, 1, 0, 0, 0) := by rfl
theorem t141_164 : zT 141 164 = some (.aload_n 0, 1, 0, 0, 0) := by rfl
theorem t141_165 : zT 141 165 = some (.getfield 7, 3, 10, 1, 784) := by rfl
theorem t141_168 : zT 141 168 = some (.bipush 66, 2, 0, 0, 0) := by rfl
theorem t141_170 : zT 141 170 = some (.dup2, 1, 0, 0, 0) := by rfl
theorem t141_171 : zT 141 171 = some (.iaload, 1, 0, 0, 0) := by rfl
theorem t141_172 : zT 141 172 = some (.iconst 1, 1, 0, 0, 0) := by rfl
theorem t141_173 : zT 141 173 = some (.iadd, 1, 0, 0, 0) := by rfl
theorem t141_174 : zT 141 174 = some (.iastore, 1, 0, 0, 0) := by rfl
theorem t141_175 : zT 141 175 = some (.iconst 1, 1, 0, 0, 0) := by rfl
theorem t141_176 : zT 141 176 = some (.ireturn, 1, 0, 0, 0) := by rfl
theorem t142_0 : zT 142 0 = some (.aload_n 0, 1, 0, 0, 0) := by rfl
theorem t142_1 : zT 142 1 = some (.iconst 0, 1, 0, 0, 0) := by rfl
theorem t142_2 : zT 142 2 = some (.putfield 47, 3, 10, 0, 783) := by rfl
theorem t142_5 : zT 142 5 = some (.aload_n 0, 1, 0, 0, 0) := by rfl
theorem t142_6 : zT 142 6 = some (.invokevirtual 110, 3, 180, 0, 863) := by rfl
theorem t142_9 : zT 142 9 = some (.bipush (-6), 2, 0, 0, 0) := by rfl
theorem t142_11 : zT 142 11 = some (.if_icmp .eq 6, 3, 0, 0, 0) := by rfl
theorem t142_14 : zT 142 14 = some (.bipush (-3), 2, 0, 0, 0) := by rfl
theorem t142_16 : zT 142 16 = some (.ireturn, 1, 0, 0, 0) := by rfl
theorem t142_17 : zT 142 17 = some (.aload_n 0, 1, 0, 0, 0) := by rfl
theorem t142_18 : zT 142 18 = some (.invokevirtual 94, 3, 121, 0, 848) := by rfl
theorem t142_21 : zT 142 21 = some (.aload_n 0, 1, 0, 0, 0) := by rfl
theorem t142_22 : zT 142 22 = some (.iconst 0, 1, 0, 0, 0) := by rfl
theorem t142_23 : zT 142 23 = some (.putfield 91, 3, 10, 8, 791) := by rfl
theorem t142_26 : zT 142 26 = some (.iconst 0, 1, 0, 0, 0) := by rfl
theorem t142_27 : zT 142 27 = some (.istore_n 1, 1, 0, 0, 0) := by rfl
theorem t142_28 : zT 142 28 = some (.iload_n 1, 1, 0, 0, 0) := by rfl
theorem t142_29 : zT 142 29 = some (.aload_n 0, 1, 0, 0, 0) := by rfl
theorem t142_30 : zT 142 30 = some (.getfield 114, 3, 10, 18, 801) := by rfl
theorem t142_33 : zT 142 33 = some (.if_icmp .ge 20, 3, 0, 0, 0) := by rfl
theorem t142_36 : zT 142 36 = some (.aload_n 0, 1, 0, 0, 0) := by rfl
theorem t142_37 : zT 142 37 = some (.bipush 12, 2, 0, 0, 0) := by rfl
theorem t142_39 : zT 142 39 = some (.iload_n 1, 1, 0, 0, 0) := by rfl
theorem t142_40 : zT 142 40 = some (.imul, 1, 0, 0, 0) := by rfl
theorem t142_41 : zT 142 41 = some (.invokevirtual 117, 3, 141, 0, 891) := by rfl
theorem t142_44 : zT 142 44 = some (.ifCond .eq 9, 3, 0, 0, 0) := by rfl
theorem t142_47 : zT 142 47 = some (.iinc 1 1, 3, 0, 0, 0) := by rfl
theorem t142_50 : zT 142 50 = some (.goto (-22), 3, 0, 0, 0) := by rfl
theorem t142_53 : zT 142 53 = some (.iload_n 1, 1, 0, 0, 0) := by rfl
theorem t142_54 : zT 142 54 = some (.ireturn, 1, 0, 0, 0) := by rfl
theorem t143_0 : zT 143 0 = some (.aload_n 0, 1, 0, 0, 0) := by rfl
theorem t143_1 : zT 143 1 = some (.iconst 0, 1, 0, 0, 0) := by rfl
theorem t143_2 : zT 143 2 = some (.putfield 47, 3, 10, 0, 783) := by rfl
theorem t143_5 : zT 143 5 = some (.iload_n 1, 1, 0, 0, 0) := by rfl
theorem t143_6 : zT 143 6 = some (.invokestatic 97, 3, 120, 0, 856) := by rfl
theorem t143_9 : zT 143 9 = some (.ifCond .eq 31, 3, 0, 0, 0) := by rfl
theorem t143_12 : zT 143 12 = some (.iload_n 2, 1, 0, 0, 0) := by rfl
theorem t143_13 : zT 143 13 = some (.iconst 0, 1, 0, 0, 0) := by rfl
theorem t143_14 : zT 143 14 = some (.aload_n 0, 1, 0, 0, 0) := by rfl
theorem t143_15 : zT 143 15 = some (.getfield 7, 3, 10, 1, 784) := by rfl
theorem t143_18 : zT 143 18 = some (.iconst 0, 1, 0, 0, 0) := by rfl
theorem t143_19 : zT 143 19 = some (.iaload, 1, 0, 0, 0) := by rfl
theorem t143_20 : zT 143 20 = some (.invokestatic 51, 3, 116, 0, 845) := by rfl
theorem t143_23 : zT 143 23 = some (.ifCond .eq 17, 3, 0, 0, 0) := by rfl
theorem t143_26 : zT 143 26 = some (.iload_n 3, 1, 0, 0, 0) := by rfl
theorem t143_27 : zT 143 27 = some (.iconst 0, 1, 0, 0, 0) := by rfl
theorem t143_28 : zT 143 28 = some (.aload_n 0, 1, 0, 0, 0) := by rfl
theorem t143_29 : zT 143 29 = some (.getfield 7, 3, 10, 1, 784) := by rfl
theorem t143_32 : zT 143 32 = some (.iconst 0, 1, 0, 0, 0) := by rfl
theorem t143_33 : zT 143 33 = some (.iaload, 1, 0, 0, 0) := by rfl
theorem t143_34 : zT 143 34 = some (.invokestatic 51, 3, 116, 0, 845) := by rfl
theorem t143_37 : zT 143 37 = some (.ifCond .ne 5, 3, 0, 0, 0) := by rfl
theorem t143_40 : zT 143 40 = some (.iconst (-1), 1, 0, 0, 0) := by rfl
theorem t143_41 : zT 143 41 = some (.ireturn, 1, 0, 0, 0) := by rfl
theorem t143_42 : zT 143 42 = some (.iload_n 3, 1, 0, 0, 0) := by rfl
theorem t143_43 : zT 143 43 = some (.iload_n 2, 1, 0, 0, 0) := by rfl
theorem t143_44 : zT 143 44 = some (.if_icmp .gt 6, 3, 0, 0, 0) := by rfl
theorem t143_47 : zT 143 47 = some (.bipush (-2), 2, 0, 0, 0) := by rfl
theorem t143_49 : zT 143 49 = some (.ireturn, 1, 0, 0, 0) := by rfl
theorem t143_50 : zT 143 50 = some (.aload_n 0, 1, 0, 0, 0) := by rfl
theorem t143_51 : zT 143 51 = some (.getfield 7, 3, 10, 1, 784) := by rfl
theorem t143_54 : zT 143 54 = some (.bipush 66, 2, 0, 0, 0) := by rfl
theorem t143_56 : zT 143 56 = some (.iaload, 1, 0, 0, 0) := by rfl
theorem t143_57 : zT 143 57 = some (.bipush 20, 2, 0, 0, 0) := by rfl
theorem t143_59 : zT 143 59 = some (.if_icmp .ne 6, 3, 0, 0, 0) := by rfl
theorem t143_62 : zT 143 62 = some (.bipush (-4), 2, 0, 0, 0) := by rfl
theorem t143_64 : zT 143 64 = some (.ireturn, 1, 0, 0, 0) := by rfl
theorem t143_65 : zT 143 65 = some (.aload_n 0, 1, 0, 0, 0) := by rfl
theorem t143_66 : zT 143 66 = some (.iload_n 1, 1, 0, 0, 0) := by rfl
theorem t143_67 : zT 143 67 = some (.iconst 0, 1, 0, 0, 0) := by rfl
theorem t143_68 : zT 143 68 = some (.iload_n 2, 1, 0, 0, 0) := by rfl
theorem t143_69 : zT 143 69 = some (.iload_n 3, 1, 0, 0, 0) := by rfl
theorem t143_70 : zT 143 70 = some (.invokevirtual 120, 3, 140, 0, 919) := by rfl
theorem t143_73 : zT 143 73 = some (.aload_n 0, 1, 0, 0, 0) := by rfl
theorem t143_74 : zT 143 74 = some (.aload_n 0, 1, 0, 0, 0) := by rfl
theorem t143_75 : zT 143 75 = some (.getfield 7, 3, 10, 1, 784) := by rfl
theorem t143_78 : zT 143 78 = some (.bipush 66, 2, 0, 0, 0) := by rfl
theorem t143_80 : zT 143 80 = some (.iaload, 1, 0, 0, 0) := by rfl
theorem t143_81 : zT 143 81 = some (.invokevirtual 107, 3, 138, 0, 899) := by rfl
theorem t143_84 : zT 143 84 = some (.istore 4, 2, 0, 0, 0) := by rfl
theorem t143_86 : zT 143 86 = some (.aload_n 0, 1, 0, 0, 0) := by rfl
theorem t143_87 : zT 143 87 = some (.aload_n 0, 1, 0, 0, 0) := by rfl
theorem t143_88 : zT 143 88 = some (.getfield 7, 3, 10, 1, 784) := by rfl
theorem t143_91 : zT 143 91 = some (.bipush 66, 2, 0, 0, 0) := by rfl
theorem t143_93 : zT 143 93 = some (.iaload, 1, 0, 0, 0) := by rfl
theorem t143_94 : zT 143 94 = some (.invokevirtual 104, 3, 139, 0, 911) := by rfl
theorem t143_97 : zT 143 97 = some (.iload 4, 2, 0, 0, 0) := by rfl
theorem t143_99 : zT 143 99 = some (.ifCond .eq 6, 3, 0, 0, 0) := by rfl
theorem t143_102 : zT 143 102 = some (.bipush (-5), 2, 0, 0, 0) := by rfl
theorem t143_104 : zT 143 104 = some (.ireturn, 1, 0, 0, 0) := by rfl
theorem t143_105 : zT 143 105 = some (.aload_n 0, 1, 0, 0, 0) := by rfl
theorem t143_106 : zT 143 106 = some (.invokevirtual 94, 3, 121, 0, 848) := by rfl
theorem t143_109 : zT 143 109 = some (.aload_n 0, 1, 0, 0, 0) := by rfl
theorem t143_110 : zT 143 110 = some (.iload_n 1, 1, 0, 0, 0) := by rfl
theorem t143_111 : zT 143 111 = some (.iconst 0, 1, 0, 0, 0) := by rfl
theorem t143_112 : zT 143 112 = some (.iload_n 2, 1, 0, 0, 0) := by rfl
theorem t143_113 : zT 143 113 = some (.iload_n 3, 1, 0, 0, 0) := by rfl
theorem t143_114 : zT 143 114 = some (.invokevirtual 120, 3, 140, 0, 919) := by rfl
theorem t143_117 : zT 143 117 = some (.aload_n 0, 1, 0, 0, 0) := by rfl
theorem t143_118 : zT 143 118 = some (.getfield 7, 3, 10, 1, 784) := by rfl
theorem t143_121 : zT 143 121 = some (.bipush 66, 2, 0, 0, 0) := by rfl
theorem t143_123 : zT 143 123 = some (.dup2, 1, 0, 0, 0) := by rfl
theorem t143_124 : zT 143 124 = some (.iaload, 1, 0, 0, 0) := by rfl
theorem t143_125 : zT 143 125 = some (.iconst 1, 1, 0, 0, 0) := by rfl
theorem t143_126 : zT 143 126 = some (.iadd, 1, 0, 0, 0) := by rfl
theorem t143_127 : zT 143 127 = some (.iastore, 1, 0, 0, 0) := by rfl
theorem t143_128 : zT 143 128 = some (.aload_n 0, 1, 0, 0, 0) := by rfl
theorem t143_129 : zT 143 129 = some (.getfield 7, 3, 10, 1, 784) := by rfl
theorem t143_132 : zT 143 132 = some (.bipush 66, 2, 0, 0, 0) := by rfl
theorem t143_134 : zT 143 134 = some (.iaload, 1, 0, 0, 0) := by rfl
theorem t143_135 : zT 143 135 = some (.iconst 1, 1, 0, 0, 0) := by rfl
theorem t143_136 : zT 143 136 = some (.isub, 1, 0, 0, 0) := by rfl
theorem t143_137 : zT 143 137 = some (.ireturn, 1, 0, 0, 0) := by rfl
theorem t144_0 : zT 144 0 = some (.aload_n 0, 1, 0, 0, 0) := by rfl
theorem t144_1 : zT 144 1 = some (.iload_n 1, 1, 0, 0, 0) := by rfl
theorem t144_2 : zT 144 2 = some (.iconst 5, 1, 0, 0, 0) := by rfl
theorem t144_3 : zT 144 3 = some (.invokevirtual 58, 3, 117, 0, 903) := by rfl
theorem t144_6 : zT 144 6 = some (.ifCond .ne 31, 3, 0, 0, 0) := by rfl
theorem t144_9 : zT 144 9 = some (.aload_n 0, 1, 0, 0, 0) := by rfl
theorem t144_10 : zT 144 10 = some (.iload_n 1, 1, 0, 0, 0) := by rfl
theorem t144_11 : zT 144 11 = some (.iconst 1, 1, 0, 0, 0) := by rfl
theorem t144_12 : zT 144 12 = some (.invokevirtual 124, 3, 126, 0, 935) := by rfl
theorem t144_15 : zT 144 15 = some (.ifCond .ne 22, 3, 0, 0, 0) := by rfl
theorem t144_18 : zT 144 18 = some (.aload_n 0, 1, 0, 0, 0) := by rfl
theorem t144_19 : zT 144 19 = some (.invokevirtual 127, 3, 128, 0, 939) := by rfl
theorem t144_22 : zT 144 22 = some (.aload_n 0, 1, 0, 0, 0) := by rfl
theorem t144_23 : zT 144 23 = some (.iload_n 1, 1, 0, 0, 0) := by rfl
theorem t144_24 : zT 144 24 = some (.invokevirtual 66, 3, 127, 0, 943) := by rfl
theorem t144_27 : zT 144 27 = some (.iadd, 1, 0, 0, 0) := by rfl
theorem t144_28 : zT 144 28 = some (.bipush 60, 2, 0, 0, 0) := by rfl
theorem t144_30 : zT 144 30 = some (.if_icmp .gt 7, 3, 0, 0, 0) := by rfl
theorem t144_33 : zT 144 33 = some (.iconst 1, 1, 0, 0, 0) := by rfl
theorem t144_34 : zT 144 34 = some (.goto 4, 3, 0, 0, 0) := by rfl
theorem t144_37 : zT 144 37 = some (.iconst 0, 1, 0, 0, 0) := by rfl
theorem t144_38 : zT 144 38 = some (.ireturn, 1, 0, 0, 0) := by rfl
theorem t145_0 : zT 145 0 = some (.iconst 0, 1, 0, 0, 0) := by rfl
theorem t145_1 : zT 145 1 = some (.istore_n 2, 1, 0, 0, 0) := by rfl
theorem t145_2 : zT 145 2 = some (.iconst 0, 1, 0, 0, 0) := by rfl
theorem t145_3 : zT 145 3 = some (.istore_n 3, 1, 0, 0, 0) := by rfl
theorem t145_4 : zT 145 4 = some (.iload_n 3, 1, 0, 0, 0) := by rfl
theorem t145_5 : zT 145 5 = some (.aload_n 0, 1, 0, 0, 0) := by rfl
theorem t145_6 : zT 145 6 = some (.getfield 7, 3, 10, 1, 784) := by rfl
theorem t145_9 : zT 145 9 = some (.bipush 66, 2, 0, 0, 0) := by rfl
theorem t145_11 : zT 145 11 = some (.iaload, 1, 0, 0, 0) := by rfl
theorem t145_12 : zT 145 12 = some (.if_icmp .ge 42, 3, 0, 0, 0) := by rfl
theorem t145_15 : zT 145 15 = some (.iload_n 3, 1, 0, 0, 0) := by rfl
theorem t145_16 : zT 145 16 = some (.iload_n 1, 1, 0, 0, 0) := by rfl
theorem t145_17 : zT 145 17 = some (.if_icmp .eq 31, 3, 0, 0, 0) := by rfl
theorem t145_20 : zT 145 20 = some (.aload_n 0, 1, 0, 0, 0) := by rfl
theorem t145_21 : zT 145 21 = some (.iload_n 3, 1, 0, 0, 0) := by rfl
theorem t145_22 : zT 145 22 = some (.iconst 5, 1, 0, 0, 0) := by rfl
theorem t145_23 : zT 145 23 = some (.invokevirtual 58, 3, 117, 0, 903) := by rfl
theorem t145_26 : zT 145 26 = some (.ifCond .ne 22, 3, 0, 0, 0) := by rfl
theorem t145_29 : zT 145 29 = some (.aload_n 0, 1, 0, 0, 0) := by rfl
theorem t145_30 : zT 145 30 = some (.iload_n 1, 1, 0, 0, 0) := by rfl
theorem t145_31 : zT 145 31 = some (.iload_n 3, 1, 0, 0, 0) := by rfl
theorem t145_32 : zT 145 32 = some (.invokevirtual 62, 3, 124, 0, 907) := by rfl
theorem t145_35 : zT 145 35 = some (.ifCond .eq 13, 3, 0, 0, 0) := by rfl
theorem t145_38 : zT 145 38 = some (.aload_n 0, 1, 0, 0, 0) := by rfl
theorem t145_39 : zT 145 39 = some (.iload_n 3, 1, 0, 0, 0) := by rfl
theorem t145_40 : zT 145 40 = some (.iconst 5, 1, 0, 0, 0) := by rfl
theorem t145_41 : zT 145 41 = some (.iconst 2, 1, 0, 0, 0) := by rfl
theorem t145_42 : zT 145 42 = some (.invokevirtual 100, 3, 118, 0, 895) := by rfl
theorem t145_45 : zT 145 45 = some (.iinc 2 1, 3, 0, 0, 0) := by rfl
theorem t145_48 : zT 145 48 = some (.iinc 3 1, 3, 0, 0, 0) := by rfl
theorem t145_51 : zT 145 51 = some (.goto (-47), 3, 0, 0, 0) := by rfl
theorem t145_54 : zT 145 54 = some (.aload_n 0, 1, 0, 0, 0) := by rfl
theorem t145_55 : zT 145 55 = some (.iload_n 1, 1, 0, 0, 0) := by rfl
theorem t145_56 : zT 145 56 = some (.iconst 5, 1, 0, 0, 0) := by rfl
theorem t145_57 : zT 145 57 = some (.iconst 1, 1, 0, 0, 0) := by rfl
theorem t145_58 : zT 145 58 = some (.invokevirtual 100, 3, 118, 0, 895) := by rfl
theorem t145_61 : zT 145 61 = some (.iload_n 2, 1, 0, 0, 0) := by rfl
theorem t145_62 : zT 145 62 = some (.ireturn, 1, 0, 0, 0) := by rfl
/-! X10_in FiveInksModel.in -/
theorem k116_0 {X : Nat × (Nat → Int32)} {I : Nat → Nat → Int32} {v0 : Int32} {v1 : Int32} {v2 : Int32}  : zr X 116 0 [.int v0, .int v1, .int v2] [] (zk I) = if v0 < v1 then zr X 116 14 [.int v0, .int v1, .int v2] [] (zk I) else zr X 116 5 [.int v0, .int v1, .int v2] [] (zk I) :=
  (zr_iload_n t116_0 rfl).trans <|
    (zr_iload_n t116_1 rfl).trans <|
    zr_ic_lt (tgt := 14) t116_2 rfl
theorem k116_5 {X : Nat × (Nat → Int32)} {I : Nat → Nat → Int32} {v0 : Int32} {v1 : Int32} {v2 : Int32}  : zr X 116 5 [.int v0, .int v1, .int v2] [] (zk I) = if v2 < v0 then zr X 116 14 [.int v0, .int v1, .int v2] [] (zk I) else zr X 116 10 [.int v0, .int v1, .int v2] [] (zk I) :=
  (zr_iload_n t116_5 rfl).trans <|
    (zr_iload_n t116_6 rfl).trans <|
    zr_ic_gt (tgt := 14) t116_7 rfl
theorem k116_10 {X : Nat × (Nat → Int32)} {I : Nat → Nat → Int32} {v0 : Int32} {v1 : Int32} {v2 : Int32}  : zr X 116 10 [.int v0, .int v1, .int v2] [] (zk I) = some (some (.int 1), zk I) :=
  (zr_iconst t116_10 zci_1).trans <|
    (zr_goto (tgt := 15) t116_11 rfl).trans <|
    zr_zret t116_15 rfl (Or.inr rfl)
theorem k116_14 {X : Nat × (Nat → Int32)} {I : Nat → Nat → Int32} {v0 : Int32} {v1 : Int32} {v2 : Int32}  : zr X 116 14 [.int v0, .int v1, .int v2] [] (zk I) = some (some (.int 0), zk I) :=
  (zr_iconst t116_14 zci_0).trans <|
    zr_zret t116_15 rfl (Or.inl rfl)
/-! X10_get FiveInksModel.get -/
theorem k117_0 {X : Nat × (Nat → Int32)} {I : Nat → Nat → Int32} {v1 : Int32} {v2 : Int32} (q1 : zin ((67 + (12 * v1)) + v2) 675 = true) : zr X 117 0 [.ref 160, .int v1, .int v2] [] (zk I) = some (some (.int (I 161 (zx ((67 + (12 * v1)) + v2)))), zk I) :=
  (zr_aload_n t117_0 rfl).trans <|
    (zr_getR (u := 161) t117_1 (rfl)).trans <|
    (zr_bipush t117_4 zcb_67).trans <|
    (zr_bipush t117_6 zcb_12).trans <|
    (zr_iload_n t117_8 rfl).trans <|
    (zr_imul t117_9).trans <|
    (zr_iadd t117_10).trans <|
    (zr_iload_n t117_11 rfl).trans <|
    (zr_iadd t117_12).trans <|
    (zr_iald (j := zx ((67 + (12 * v1)) + v2)) t117_13 (N := 675) rfl rfl q1).trans <|
    zr_iret t117_14 rfl
/-! X10_lays FiveInksModel.lays -/
theorem k118_0 {X : Nat × (Nat → Int32)} {I : Nat → Nat → Int32} {v1 : Int32} {v2 : Int32} {v3 : Int32} (q1 : zin ((67 + (12 * v1)) + v2) 675 = true) : zr X 118 0 [.ref 160, .int v1, .int v2, .int v3] [] (zk I) = some (none, zk (zs1 I 161 (zx ((67 + (12 * v1)) + v2)) v3)) :=
  (zr_aload_n t118_0 rfl).trans <|
    (zr_getR (u := 161) t118_1 (rfl)).trans <|
    (zr_bipush t118_4 zcb_67).trans <|
    (zr_bipush t118_6 zcb_12).trans <|
    (zr_iload_n t118_8 rfl).trans <|
    (zr_imul t118_9).trans <|
    (zr_iadd t118_10).trans <|
    (zr_iload_n t118_11 rfl).trans <|
    (zr_iadd t118_12).trans <|
    (zr_iload_n t118_13 rfl).trans <|
    (zr_iast (j := zx ((67 + (12 * v1)) + v2)) t118_14 (N := 675) rfl rfl q1).trans <|
    zr_vret t118_15 rfl
/-! X10_isMark FiveInksModel.isMark -/
theorem k119_0 {X : Nat × (Nat → Int32)} {I : Nat → Nat → Int32} {v1 : Int32}  : zr X 119 0 [.ref 160, .int v1] [] (zk I) = zcb (zr X 116 0 [.int v1, .int 0, .int ((I 161 66) - 1)] [] (zk I)) (fun v m1 => zr X 119 14 [.ref 160, .int v1] (v.toList ++ []) m1) :=
  (zr_iload_n t119_0 rfl).trans <|
    (zr_iconst t119_1 zci_0).trans <|
    (zr_aload_n t119_2 rfl).trans <|
    (zr_getR (u := 161) t119_3 (rfl)).trans <|
    (zr_bipush t119_6 zcb_66).trans <|
    (zr_iald (j := 66) t119_8 (N := 675) rfl (by decide) (by decide)).trans <|
    (zr_iconst t119_9 zci_1).trans <|
    (zr_isub t119_10).trans <|
    zr_calls t119_11 rfl rfl rfl rfl rfl
theorem k119_14 {X : Nat × (Nat → Int32)} {I : Nat → Nat → Int32} {v1 : Int32} {s0 : Int32} (q1 : s0 = 0 ∨ s0 = 1) : zr X 119 14 [.ref 160, .int v1] [.int s0] (zk I) = some (some (.int s0), zk I) :=
  zr_zret t119_14 rfl q1
/-! X10_isEditor FiveInksModel.isEditor -/
theorem k120_0 {X : Nat × (Nat → Int32)} {I : Nat → Nat → Int32} {v0 : Int32}  : zr X 120 0 [.int v0] [] (zk I) = zcb (zr X 116 0 [.int v0, .int 0, .int 4] [] (zk I)) (fun v m1 => zr X 120 6 [.int v0] (v.toList ++ []) m1) :=
  (zr_iload_n t120_0 rfl).trans <|
    (zr_iconst t120_1 zci_0).trans <|
    (zr_iconst t120_2 zci_4).trans <|
    zr_calls t120_3 rfl rfl rfl rfl rfl
theorem k120_6 {X : Nat × (Nat → Int32)} {I : Nat → Nat → Int32} {v0 : Int32} {s0 : Int32} (q1 : s0 = 0 ∨ s0 = 1) : zr X 120 6 [.int v0] [.int s0] (zk I) = some (some (.int s0), zk I) :=
  zr_zret t120_6 rfl q1
/-! X10_records FiveInksModel.records -/
theorem k121_0 {X : Nat × (Nat → Int32)} {I : Nat → Nat → Int32}   : zr X 121 0 [.ref 160, .null] [] (zk I) = if ¬ (I 160 4) = 6 then zr X 121 50 [.ref 160, .null] [] (zk I) else zr X 121 9 [.ref 160, .null] [] (zk I) :=
  (zr_aload_n t121_0 rfl).trans <|
    (zr_getI t121_1 (rfl)).trans <|
    (zr_bipush t121_4 zcb_6).trans <|
    zr_ic_ne (tgt := 50) t121_6 rfl
theorem k121_9 {X : Nat × (Nat → Int32)} {I : Nat → Nat → Int32}   : zr X 121 9 [.ref 160, .null] [] (zk I) = zr X 121 11 [.ref 160, .int 0] [] (zk I) :=
  (zr_iconst t121_9 zci_0).trans <|
    zr_istore_n t121_10 rfl rfl
theorem k121_11 {X : Nat × (Nat → Int32)} {I : Nat → Nat → Int32} {v1 : Int32}  : zr X 121 11 [.ref 160, .int v1] [] (zk I) = if 3375 ≤ v1 then zr X 121 40 [.ref 160, .int v1] [] (zk I) else zr X 121 18 [.ref 160, .int v1] [] (zk I) :=
  (zr_iload_n t121_11 rfl).trans <|
    (zr_sipush t121_12 zcs_3375).trans <|
    zr_ic_ge (tgt := 40) t121_15 rfl
theorem k121_18 {X : Nat × (Nat → Int32)} {I : Nat → Nat → Int32} {v1 : Int32} (q1 : zin (v1 + 675) 4050 = true) (q2 : zin v1 4050 = true) : zr X 121 18 [.ref 160, .int v1] [] (zk I) = zr X 121 11 [.ref 160, .int (v1 + 1)] [] (zk (zs1 I 163 (zx v1) (I 163 (zx (v1 + 675))))) :=
  (zr_aload_n t121_18 rfl).trans <|
    (zr_getR (u := 163) t121_19 (rfl)).trans <|
    (zr_iload_n t121_22 rfl).trans <|
    (zr_aload_n t121_23 rfl).trans <|
    (zr_getR (u := 163) t121_24 (rfl)).trans <|
    (zr_iload_n t121_27 rfl).trans <|
    (zr_sipush t121_28 zcs_675).trans <|
    (zr_iadd t121_31).trans <|
    (zr_iald (j := zx (v1 + 675)) t121_32 (N := 4050) rfl rfl q1).trans <|
    (zr_iast (j := zx v1) t121_33 (N := 4050) rfl rfl q2).trans <|
    (zr_iinc t121_34 rfl rfl (congrArg (fun z => v1 + z) zci_1) rfl).trans <|
    zr_goto (tgt := 11) t121_37 rfl
theorem k121_40 {X : Nat × (Nat → Int32)} {I : Nat → Nat → Int32} {v1 : Int32}  : zr X 121 40 [.ref 160, .int v1] [] (zk I) = zr X 121 52 [.ref 160, .int 0] [] (zk (zs1 I 160 4 ((I 160 4) - 1))) :=
  (zr_aload_n t121_40 rfl).trans <|
    (zr_dup t121_41 rfl).trans <|
    (zr_getI t121_42 (rfl)).trans <|
    (zr_iconst t121_45 zci_1).trans <|
    (zr_isub t121_46).trans <|
    (zr_putI t121_47 (rfl) (Or.inl rfl)).trans <|
    (zr_iconst t121_50 zci_0).trans <|
    zr_istore_n t121_51 rfl rfl
theorem k121_50 {X : Nat × (Nat → Int32)} {I : Nat → Nat → Int32} {v1 : Value}  : zr X 121 50 [.ref 160, v1] [] (zk I) = zr X 121 52 [.ref 160, .int 0] [] (zk I) :=
  (zr_iconst t121_50 zci_0).trans <|
    zr_istore_n t121_51 rfl rfl
theorem k121_52 {X : Nat × (Nat → Int32)} {I : Nat → Nat → Int32} {v1 : Int32}  : zr X 121 52 [.ref 160, .int v1] [] (zk I) = if 675 ≤ v1 then zr X 121 86 [.ref 160, .int v1] [] (zk I) else zr X 121 59 [.ref 160, .int v1] [] (zk I) :=
  (zr_iload_n t121_52 rfl).trans <|
    (zr_sipush t121_53 zcs_675).trans <|
    zr_ic_ge (tgt := 86) t121_56 rfl
theorem k121_59 {X : Nat × (Nat → Int32)} {I : Nat → Nat → Int32} {v1 : Int32} (q1 : zin v1 675 = true) (q2 : zin ((675 * (I 160 4)) + v1) 4050 = true) : zr X 121 59 [.ref 160, .int v1] [] (zk I) = zr X 121 52 [.ref 160, .int (v1 + 1)] [] (zk (zs1 I 163 (zx ((675 * (I 160 4)) + v1)) (I 161 (zx v1)))) :=
  (zr_aload_n t121_59 rfl).trans <|
    (zr_getR (u := 163) t121_60 (rfl)).trans <|
    (zr_sipush t121_63 zcs_675).trans <|
    (zr_aload_n t121_66 rfl).trans <|
    (zr_getI t121_67 (rfl)).trans <|
    (zr_imul t121_70).trans <|
    (zr_iload_n t121_71 rfl).trans <|
    (zr_iadd t121_72).trans <|
    (zr_aload_n t121_73 rfl).trans <|
    (zr_getR (u := 161) t121_74 (rfl)).trans <|
    (zr_iload_n t121_77 rfl).trans <|
    (zr_iald (j := zx v1) t121_78 (N := 675) rfl rfl q1).trans <|
    (zr_iast (j := zx ((675 * (I 160 4)) + v1)) t121_79 (N := 4050) rfl rfl q2).trans <|
    (zr_iinc t121_80 rfl rfl (congrArg (fun z => v1 + z) zci_1) rfl).trans <|
    zr_goto (tgt := 52) t121_83 rfl
theorem k121_86 {X : Nat × (Nat → Int32)} {I : Nat → Nat → Int32} {v1 : Int32}  : zr X 121 86 [.ref 160, .int v1] [] (zk I) = some (none, zk (zs1 I 160 4 ((I 160 4) + 1))) :=
  (zr_aload_n t121_86 rfl).trans <|
    (zr_dup t121_87 rfl).trans <|
    (zr_getI t121_88 (rfl)).trans <|
    (zr_iconst t121_91 zci_1).trans <|
    (zr_iadd t121_92).trans <|
    (zr_putI t121_93 (rfl) (Or.inl rfl)).trans <|
    zr_vret t121_96 rfl
/-! X10_putAside FiveInksModel.putAside -/
theorem k122_0 {X : Nat × (Nat → Int32)} {I : Nat → Nat → Int32}   : zr X 122 0 [.ref 160, .null] [] (zk I) = zr X 122 2 [.ref 160, .int 0] [] (zk I) :=
  (zr_iconst t122_0 zci_0).trans <|
    zr_istore_n t122_1 rfl rfl
theorem k122_2 {X : Nat × (Nat → Int32)} {I : Nat → Nat → Int32} {v1 : Int32}  : zr X 122 2 [.ref 160, .int v1] [] (zk I) = if 675 ≤ v1 then zr X 122 27 [.ref 160, .int v1] [] (zk I) else zr X 122 9 [.ref 160, .int v1] [] (zk I) :=
  (zr_iload_n t122_2 rfl).trans <|
    (zr_sipush t122_3 zcs_675).trans <|
    zr_ic_ge (tgt := 27) t122_6 rfl
theorem k122_9 {X : Nat × (Nat → Int32)} {I : Nat → Nat → Int32} {v1 : Int32} (q1 : zin v1 675 = true) : zr X 122 9 [.ref 160, .int v1] [] (zk I) = zr X 122 2 [.ref 160, .int (v1 + 1)] [] (zk (zs1 I 162 (zx v1) (I 161 (zx v1)))) :=
  (zr_aload_n t122_9 rfl).trans <|
    (zr_getR (u := 162) t122_10 (rfl)).trans <|
    (zr_iload_n t122_13 rfl).trans <|
    (zr_aload_n t122_14 rfl).trans <|
    (zr_getR (u := 161) t122_15 (rfl)).trans <|
    (zr_iload_n t122_18 rfl).trans <|
    (zr_iald (j := zx v1) t122_19 (N := 675) rfl rfl q1).trans <|
    (zr_iast (j := zx v1) t122_20 (N := 675) rfl rfl q1).trans <|
    (zr_iinc t122_21 rfl rfl (congrArg (fun z => v1 + z) zci_1) rfl).trans <|
    zr_goto (tgt := 2) t122_24 rfl
theorem k122_27 {X : Nat × (Nat → Int32)} {I : Nat → Nat → Int32} {v1 : Int32}  : zr X 122 27 [.ref 160, .int v1] [] (zk I) = some (none, zk I) :=
  zr_vret t122_27 rfl
/-! X10_takeBack FiveInksModel.takeBack -/
theorem k123_0 {X : Nat × (Nat → Int32)} {I : Nat → Nat → Int32}   : zr X 123 0 [.ref 160, .null] [] (zk I) = zr X 123 2 [.ref 160, .int 0] [] (zk I) :=
  (zr_iconst t123_0 zci_0).trans <|
    zr_istore_n t123_1 rfl rfl
theorem k123_2 {X : Nat × (Nat → Int32)} {I : Nat → Nat → Int32} {v1 : Int32}  : zr X 123 2 [.ref 160, .int v1] [] (zk I) = if 675 ≤ v1 then zr X 123 27 [.ref 160, .int v1] [] (zk I) else zr X 123 9 [.ref 160, .int v1] [] (zk I) :=
  (zr_iload_n t123_2 rfl).trans <|
    (zr_sipush t123_3 zcs_675).trans <|
    zr_ic_ge (tgt := 27) t123_6 rfl
theorem k123_9 {X : Nat × (Nat → Int32)} {I : Nat → Nat → Int32} {v1 : Int32} (q1 : zin v1 675 = true) : zr X 123 9 [.ref 160, .int v1] [] (zk I) = zr X 123 2 [.ref 160, .int (v1 + 1)] [] (zk (zs1 I 161 (zx v1) (I 162 (zx v1)))) :=
  (zr_aload_n t123_9 rfl).trans <|
    (zr_getR (u := 161) t123_10 (rfl)).trans <|
    (zr_iload_n t123_13 rfl).trans <|
    (zr_aload_n t123_14 rfl).trans <|
    (zr_getR (u := 162) t123_15 (rfl)).trans <|
    (zr_iload_n t123_18 rfl).trans <|
    (zr_iald (j := zx v1) t123_19 (N := 675) rfl rfl q1).trans <|
    (zr_iast (j := zx v1) t123_20 (N := 675) rfl rfl q1).trans <|
    (zr_iinc t123_21 rfl rfl (congrArg (fun z => v1 + z) zci_1) rfl).trans <|
    zr_goto (tgt := 2) t123_24 rfl
theorem k123_27 {X : Nat × (Nat → Int32)} {I : Nat → Nat → Int32} {v1 : Int32}  : zr X 123 27 [.ref 160, .int v1] [] (zk I) = some (none, zk I) :=
  zr_vret t123_27 rfl
/-! X10_clashes FiveInksModel.clashes -/
theorem k124_0 {X : Nat × (Nat → Int32)} {I : Nat → Nat → Int32} {v1 : Int32} {v2 : Int32}  : zr X 124 0 [.ref 160, .int v1, .int v2, .null, .null, .null, .null] [] (zk I) = zcb (zr X 117 0 [.ref 160, .int v1, .int 1] [] (zk I)) (fun v m1 => zr X 124 6 [.ref 160, .int v1, .int v2, .null, .null, .null, .null] (v.toList ++ []) m1) :=
  (zr_aload_n t124_0 rfl).trans <|
    (zr_iload_n t124_1 rfl).trans <|
    (zr_iconst t124_2 zci_1).trans <|
    zr_callv t124_3 rfl rfl rfl rfl
theorem k124_6 {X : Nat × (Nat → Int32)} {I : Nat → Nat → Int32} {v1 : Int32} {v2 : Int32} {s0 : Int32}  : zr X 124 6 [.ref 160, .int v1, .int v2, .null, .null, .null, .null] [.int s0] (zk I) = if ¬ s0 = 1 then zr X 124 14 [.ref 160, .int v1, .int v2, .null, .null, .null, .null] [] (zk I) else zr X 124 10 [.ref 160, .int v1, .int v2, .null, .null, .null, .null] [] (zk I) :=
  (zr_iconst t124_6 zci_1).trans <|
    zr_ic_ne (tgt := 14) t124_7 rfl
theorem k124_10 {X : Nat × (Nat → Int32)} {I : Nat → Nat → Int32} {v1 : Int32} {v2 : Int32}  : zr X 124 10 [.ref 160, .int v1, .int v2, .null, .null, .null, .null] [] (zk I) = zcb (zr X 117 0 [.ref 160, .int v2, .int 1] [] (zk I)) (fun v m1 => zr X 124 22 [.ref 160, .int v1, .int v2, .int 1, .null, .null, .null] (v.toList ++ []) m1) :=
  (zr_iconst t124_10 zci_1).trans <|
    (zr_goto (tgt := 15) t124_11 rfl).trans <|
    (zr_istore_n t124_15 rfl rfl).trans <|
    (zr_aload_n t124_16 rfl).trans <|
    (zr_iload_n t124_17 rfl).trans <|
    (zr_iconst t124_18 zci_1).trans <|
    zr_callv t124_19 rfl rfl rfl rfl
theorem k124_14 {X : Nat × (Nat → Int32)} {I : Nat → Nat → Int32} {v1 : Int32} {v2 : Int32}  : zr X 124 14 [.ref 160, .int v1, .int v2, .null, .null, .null, .null] [] (zk I) = zcb (zr X 117 0 [.ref 160, .int v2, .int 1] [] (zk I)) (fun v m1 => zr X 124 22 [.ref 160, .int v1, .int v2, .int 0, .null, .null, .null] (v.toList ++ []) m1) :=
  (zr_iconst t124_14 zci_0).trans <|
    (zr_istore_n t124_15 rfl rfl).trans <|
    (zr_aload_n t124_16 rfl).trans <|
    (zr_iload_n t124_17 rfl).trans <|
    (zr_iconst t124_18 zci_1).trans <|
    zr_callv t124_19 rfl rfl rfl rfl
theorem k124_22 {X : Nat × (Nat → Int32)} {I : Nat → Nat → Int32} {v1 : Int32} {v2 : Int32} {v3 : Int32} {s0 : Int32}  : zr X 124 22 [.ref 160, .int v1, .int v2, .int v3, .null, .null, .null] [.int s0] (zk I) = if ¬ s0 = 1 then zr X 124 30 [.ref 160, .int v1, .int v2, .int v3, .null, .null, .null] [] (zk I) else zr X 124 26 [.ref 160, .int v1, .int v2, .int v3, .null, .null, .null] [] (zk I) :=
  (zr_iconst t124_22 zci_1).trans <|
    zr_ic_ne (tgt := 30) t124_23 rfl
theorem k124_26 {X : Nat × (Nat → Int32)} {I : Nat → Nat → Int32} {v1 : Int32} {v2 : Int32} {v3 : Int32}  : zr X 124 26 [.ref 160, .int v1, .int v2, .int v3, .null, .null, .null] [] (zk I) = if v3 = 0 then zr X 124 63 [.ref 160, .int v1, .int v2, .int v3, .int 1, .null, .null] [] (zk I) else zr X 124 37 [.ref 160, .int v1, .int v2, .int v3, .int 1, .null, .null] [] (zk I) :=
  (zr_iconst t124_26 zci_1).trans <|
    (zr_goto (tgt := 31) t124_27 rfl).trans <|
    (zr_istore t124_31 rfl rfl).trans <|
    (zr_iload_n t124_33 rfl).trans <|
    zr_if_eq (tgt := 63) t124_34 rfl
theorem k124_30 {X : Nat × (Nat → Int32)} {I : Nat → Nat → Int32} {v1 : Int32} {v2 : Int32} {v3 : Int32}  : zr X 124 30 [.ref 160, .int v1, .int v2, .int v3, .null, .null, .null] [] (zk I) = if v3 = 0 then zr X 124 63 [.ref 160, .int v1, .int v2, .int v3, .int 0, .null, .null] [] (zk I) else zr X 124 37 [.ref 160, .int v1, .int v2, .int v3, .int 0, .null, .null] [] (zk I) :=
  (zr_iconst t124_30 zci_0).trans <|
    (zr_istore t124_31 rfl rfl).trans <|
    (zr_iload_n t124_33 rfl).trans <|
    zr_if_eq (tgt := 63) t124_34 rfl
theorem k124_37 {X : Nat × (Nat → Int32)} {I : Nat → Nat → Int32} {v1 : Int32} {v2 : Int32} {v3 : Int32} {v4 : Int32}  : zr X 124 37 [.ref 160, .int v1, .int v2, .int v3, .int v4, .null, .null] [] (zk I) = if v4 = 0 then zr X 124 63 [.ref 160, .int v1, .int v2, .int v3, .int v4, .null, .null] [] (zk I) else zr X 124 42 [.ref 160, .int v1, .int v2, .int v3, .int v4, .null, .null] [] (zk I) :=
  (zr_iload t124_37 rfl).trans <|
    zr_if_eq (tgt := 63) t124_39 rfl
theorem k124_42 {X : Nat × (Nat → Int32)} {I : Nat → Nat → Int32} {v1 : Int32} {v2 : Int32} {v3 : Int32} {v4 : Int32}  : zr X 124 42 [.ref 160, .int v1, .int v2, .int v3, .int v4, .null, .null] [] (zk I) = zcb (zr X 117 0 [.ref 160, .int v1, .int 2] [] (zk I)) (fun v m1 => zr X 124 48 [.ref 160, .int v1, .int v2, .int v3, .int v4, .null, .null] (v.toList ++ []) m1) :=
  (zr_aload_n t124_42 rfl).trans <|
    (zr_iload_n t124_43 rfl).trans <|
    (zr_iconst t124_44 zci_2).trans <|
    zr_callv t124_45 rfl rfl rfl rfl
theorem k124_48 {X : Nat × (Nat → Int32)} {I : Nat → Nat → Int32} {v1 : Int32} {v2 : Int32} {v3 : Int32} {v4 : Int32} {s0 : Int32}  : zr X 124 48 [.ref 160, .int v1, .int v2, .int v3, .int v4, .null, .null] [.int s0] (zk I) = zcb (zr X 117 0 [.ref 160, .int v2, .int 2] [] (zk I)) (fun v m1 => zr X 124 54 [.ref 160, .int v1, .int v2, .int v3, .int v4, .null, .null] (v.toList ++ [.int s0]) m1) :=
  (zr_aload_n t124_48 rfl).trans <|
    (zr_iload_n t124_49 rfl).trans <|
    (zr_iconst t124_50 zci_2).trans <|
    zr_callv t124_51 rfl rfl rfl rfl
theorem k124_54 {X : Nat × (Nat → Int32)} {I : Nat → Nat → Int32} {v1 : Int32} {v2 : Int32} {v3 : Int32} {v4 : Int32} {s0 : Int32} {s1 : Int32}  : zr X 124 54 [.ref 160, .int v1, .int v2, .int v3, .int v4, .null, .null] [.int s1, .int s0] (zk I) = if ¬ s0 = s1 then zr X 124 61 [.ref 160, .int v1, .int v2, .int v3, .int v4, .null, .null] [] (zk I) else zr X 124 57 [.ref 160, .int v1, .int v2, .int v3, .int v4, .null, .null] [] (zk I) :=
  zr_ic_ne (tgt := 61) t124_54 rfl
theorem k124_57 {X : Nat × (Nat → Int32)} {I : Nat → Nat → Int32} {v1 : Int32} {v2 : Int32} {v3 : Int32} {v4 : Int32}  : zr X 124 57 [.ref 160, .int v1, .int v2, .int v3, .int v4, .null, .null] [] (zk I) = some (some (.int 1), zk I) :=
  (zr_iconst t124_57 zci_1).trans <|
    (zr_goto (tgt := 62) t124_58 rfl).trans <|
    zr_zret t124_62 rfl (Or.inr rfl)
theorem k124_61 {X : Nat × (Nat → Int32)} {I : Nat → Nat → Int32} {v1 : Int32} {v2 : Int32} {v3 : Int32} {v4 : Int32}  : zr X 124 61 [.ref 160, .int v1, .int v2, .int v3, .int v4, .null, .null] [] (zk I) = some (some (.int 0), zk I) :=
  (zr_iconst t124_61 zci_0).trans <|
    zr_zret t124_62 rfl (Or.inl rfl)
theorem k124_63 {X : Nat × (Nat → Int32)} {I : Nat → Nat → Int32} {v1 : Int32} {v2 : Int32} {v3 : Int32} {v4 : Int32}  : zr X 124 63 [.ref 160, .int v1, .int v2, .int v3, .int v4, .null, .null] [] (zk I) = if ¬ v3 = 0 then zr X 124 72 [.ref 160, .int v1, .int v2, .int v3, .int v4, .null, .null] [] (zk I) else zr X 124 67 [.ref 160, .int v1, .int v2, .int v3, .int v4, .null, .null] [] (zk I) :=
  (zr_iload_n t124_63 rfl).trans <|
    zr_if_ne (tgt := 72) t124_64 rfl
theorem k124_67 {X : Nat × (Nat → Int32)} {I : Nat → Nat → Int32} {v1 : Int32} {v2 : Int32} {v3 : Int32} {v4 : Int32}  : zr X 124 67 [.ref 160, .int v1, .int v2, .int v3, .int v4, .null, .null] [] (zk I) = if v4 = 0 then zr X 124 129 [.ref 160, .int v1, .int v2, .int v3, .int v4, .null, .null] [] (zk I) else zr X 124 72 [.ref 160, .int v1, .int v2, .int v3, .int v4, .null, .null] [] (zk I) :=
  (zr_iload t124_67 rfl).trans <|
    zr_if_eq (tgt := 129) t124_69 rfl
theorem k124_72 {X : Nat × (Nat → Int32)} {I : Nat → Nat → Int32} {v1 : Int32} {v2 : Int32} {v3 : Int32} {v4 : Int32}  : zr X 124 72 [.ref 160, .int v1, .int v2, .int v3, .int v4, .null, .null] [] (zk I) = if v3 = 0 then zr X 124 81 [.ref 160, .int v1, .int v2, .int v3, .int v4, .null, .null] [.ref 160] (zk I) else zr X 124 77 [.ref 160, .int v1, .int v2, .int v3, .int v4, .null, .null] [.ref 160] (zk I) :=
  (zr_aload_n t124_72 rfl).trans <|
    (zr_iload_n t124_73 rfl).trans <|
    zr_if_eq (tgt := 81) t124_74 rfl
theorem k124_77 {X : Nat × (Nat → Int32)} {I : Nat → Nat → Int32} {v1 : Int32} {v2 : Int32} {v3 : Int32} {v4 : Int32}  : zr X 124 77 [.ref 160, .int v1, .int v2, .int v3, .int v4, .null, .null] [.ref 160] (zk I) = zcb (zr X 117 0 [.ref 160, .int v1, .int 2] [] (zk I)) (fun v m1 => zr X 124 86 [.ref 160, .int v1, .int v2, .int v3, .int v4, .null, .null] (v.toList ++ []) m1) :=
  (zr_iload_n t124_77 rfl).trans <|
    (zr_goto (tgt := 82) t124_78 rfl).trans <|
    (zr_iconst t124_82 zci_2).trans <|
    zr_callv t124_83 rfl rfl rfl rfl
theorem k124_81 {X : Nat × (Nat → Int32)} {I : Nat → Nat → Int32} {v1 : Int32} {v2 : Int32} {v3 : Int32} {v4 : Int32}  : zr X 124 81 [.ref 160, .int v1, .int v2, .int v3, .int v4, .null, .null] [.ref 160] (zk I) = zcb (zr X 117 0 [.ref 160, .int v2, .int 2] [] (zk I)) (fun v m1 => zr X 124 86 [.ref 160, .int v1, .int v2, .int v3, .int v4, .null, .null] (v.toList ++ []) m1) :=
  (zr_iload_n t124_81 rfl).trans <|
    (zr_iconst t124_82 zci_2).trans <|
    zr_callv t124_83 rfl rfl rfl rfl
theorem k124_86 {X : Nat × (Nat → Int32)} {I : Nat → Nat → Int32} {v1 : Int32} {v2 : Int32} {v3 : Int32} {v4 : Int32} {s0 : Int32}  : zr X 124 86 [.ref 160, .int v1, .int v2, .int v3, .int v4, .null, .null] [.int s0] (zk I) = if v3 = 0 then zr X 124 96 [.ref 160, .int v1, .int v2, .int v3, .int v4, .int s0, .null] [] (zk I) else zr X 124 92 [.ref 160, .int v1, .int v2, .int v3, .int v4, .int s0, .null] [] (zk I) :=
  (zr_istore t124_86 rfl rfl).trans <|
    (zr_iload_n t124_88 rfl).trans <|
    zr_if_eq (tgt := 96) t124_89 rfl
theorem k124_92 {X : Nat × (Nat → Int32)} {I : Nat → Nat → Int32} {v1 : Int32} {v2 : Int32} {v3 : Int32} {v4 : Int32} {v5 : Int32}  : zr X 124 92 [.ref 160, .int v1, .int v2, .int v3, .int v4, .int v5, .null] [] (zk I) = zcb (zr X 117 0 [.ref 160, .int v2, .int 2] [] (zk I)) (fun v m1 => zr X 124 108 [.ref 160, .int v1, .int v2, .int v3, .int v4, .int v5, .int v2] (v.toList ++ [.int v5]) m1) :=
  (zr_iload_n t124_92 rfl).trans <|
    (zr_goto (tgt := 97) t124_93 rfl).trans <|
    (zr_istore t124_97 rfl rfl).trans <|
    (zr_iload t124_99 rfl).trans <|
    (zr_aload_n t124_101 rfl).trans <|
    (zr_iload t124_102 rfl).trans <|
    (zr_iconst t124_104 zci_2).trans <|
    zr_callv t124_105 rfl rfl rfl rfl
theorem k124_96 {X : Nat × (Nat → Int32)} {I : Nat → Nat → Int32} {v1 : Int32} {v2 : Int32} {v3 : Int32} {v4 : Int32} {v5 : Int32}  : zr X 124 96 [.ref 160, .int v1, .int v2, .int v3, .int v4, .int v5, .null] [] (zk I) = zcb (zr X 117 0 [.ref 160, .int v1, .int 2] [] (zk I)) (fun v m1 => zr X 124 108 [.ref 160, .int v1, .int v2, .int v3, .int v4, .int v5, .int v1] (v.toList ++ [.int v5]) m1) :=
  (zr_iload_n t124_96 rfl).trans <|
    (zr_istore t124_97 rfl rfl).trans <|
    (zr_iload t124_99 rfl).trans <|
    (zr_aload_n t124_101 rfl).trans <|
    (zr_iload t124_102 rfl).trans <|
    (zr_iconst t124_104 zci_2).trans <|
    zr_callv t124_105 rfl rfl rfl rfl
theorem k124_108 {X : Nat × (Nat → Int32)} {I : Nat → Nat → Int32} {v1 : Int32} {v2 : Int32} {v3 : Int32} {v4 : Int32} {v5 : Int32} {v6 : Int32} {s0 : Int32} {s1 : Int32}  : zr X 124 108 [.ref 160, .int v1, .int v2, .int v3, .int v4, .int v5, .int v6] [.int s1, .int s0] (zk I) = if s0 ≤ s1 then zr X 124 127 [.ref 160, .int v1, .int v2, .int v3, .int v4, .int v5, .int v6] [] (zk I) else zr X 124 111 [.ref 160, .int v1, .int v2, .int v3, .int v4, .int v5, .int v6] [] (zk I) :=
  zr_ic_le (tgt := 127) t124_108 rfl
theorem k124_111 {X : Nat × (Nat → Int32)} {I : Nat → Nat → Int32} {v1 : Int32} {v2 : Int32} {v3 : Int32} {v4 : Int32} {v5 : Int32} {v6 : Int32}  : zr X 124 111 [.ref 160, .int v1, .int v2, .int v3, .int v4, .int v5, .int v6] [] (zk I) = zcb (zr X 117 0 [.ref 160, .int v6, .int 3] [] (zk I)) (fun v m1 => zr X 124 120 [.ref 160, .int v1, .int v2, .int v3, .int v4, .int v5, .int v6] (v.toList ++ [.int v5]) m1) :=
  (zr_iload t124_111 rfl).trans <|
    (zr_aload_n t124_113 rfl).trans <|
    (zr_iload t124_114 rfl).trans <|
    (zr_iconst t124_116 zci_3).trans <|
    zr_callv t124_117 rfl rfl rfl rfl
theorem k124_120 {X : Nat × (Nat → Int32)} {I : Nat → Nat → Int32} {v1 : Int32} {v2 : Int32} {v3 : Int32} {v4 : Int32} {v5 : Int32} {v6 : Int32} {s0 : Int32} {s1 : Int32}  : zr X 124 120 [.ref 160, .int v1, .int v2, .int v3, .int v4, .int v5, .int v6] [.int s1, .int s0] (zk I) = if s1 ≤ s0 then zr X 124 127 [.ref 160, .int v1, .int v2, .int v3, .int v4, .int v5, .int v6] [] (zk I) else zr X 124 123 [.ref 160, .int v1, .int v2, .int v3, .int v4, .int v5, .int v6] [] (zk I) :=
  zr_ic_ge (tgt := 127) t124_120 rfl
theorem k124_123 {X : Nat × (Nat → Int32)} {I : Nat → Nat → Int32} {v1 : Int32} {v2 : Int32} {v3 : Int32} {v4 : Int32} {v5 : Int32} {v6 : Int32}  : zr X 124 123 [.ref 160, .int v1, .int v2, .int v3, .int v4, .int v5, .int v6] [] (zk I) = some (some (.int 1), zk I) :=
  (zr_iconst t124_123 zci_1).trans <|
    (zr_goto (tgt := 128) t124_124 rfl).trans <|
    zr_zret t124_128 rfl (Or.inr rfl)
theorem k124_127 {X : Nat × (Nat → Int32)} {I : Nat → Nat → Int32} {v1 : Int32} {v2 : Int32} {v3 : Int32} {v4 : Int32} {v5 : Int32} {v6 : Int32}  : zr X 124 127 [.ref 160, .int v1, .int v2, .int v3, .int v4, .int v5, .int v6] [] (zk I) = some (some (.int 0), zk I) :=
  (zr_iconst t124_127 zci_0).trans <|
    zr_zret t124_128 rfl (Or.inl rfl)
theorem k124_129 {X : Nat × (Nat → Int32)} {I : Nat → Nat → Int32} {v1 : Int32} {v2 : Int32} {v3 : Int32} {v4 : Int32}  : zr X 124 129 [.ref 160, .int v1, .int v2, .int v3, .int v4, .null, .null] [] (zk I) = zcb (zr X 117 0 [.ref 160, .int v1, .int 2] [] (zk I)) (fun v m1 => zr X 124 135 [.ref 160, .int v1, .int v2, .int v3, .int v4, .null, .null] (v.toList ++ []) m1) :=
  (zr_aload_n t124_129 rfl).trans <|
    (zr_iload_n t124_130 rfl).trans <|
    (zr_iconst t124_131 zci_2).trans <|
    zr_callv t124_132 rfl rfl rfl rfl
theorem k124_135 {X : Nat × (Nat → Int32)} {I : Nat → Nat → Int32} {v1 : Int32} {v2 : Int32} {v3 : Int32} {v4 : Int32} {s0 : Int32}  : zr X 124 135 [.ref 160, .int v1, .int v2, .int v3, .int v4, .null, .null] [.int s0] (zk I) = zcb (zr X 117 0 [.ref 160, .int v2, .int 3] [] (zk I)) (fun v m1 => zr X 124 141 [.ref 160, .int v1, .int v2, .int v3, .int v4, .null, .null] (v.toList ++ [.int s0]) m1) :=
  (zr_aload_n t124_135 rfl).trans <|
    (zr_iload_n t124_136 rfl).trans <|
    (zr_iconst t124_137 zci_3).trans <|
    zr_callv t124_138 rfl rfl rfl rfl
theorem k124_141 {X : Nat × (Nat → Int32)} {I : Nat → Nat → Int32} {v1 : Int32} {v2 : Int32} {v3 : Int32} {v4 : Int32} {s0 : Int32} {s1 : Int32}  : zr X 124 141 [.ref 160, .int v1, .int v2, .int v3, .int v4, .null, .null] [.int s1, .int s0] (zk I) = if s1 ≤ s0 then zr X 124 163 [.ref 160, .int v1, .int v2, .int v3, .int v4, .null, .null] [] (zk I) else zr X 124 144 [.ref 160, .int v1, .int v2, .int v3, .int v4, .null, .null] [] (zk I) :=
  zr_ic_ge (tgt := 163) t124_141 rfl
theorem k124_144 {X : Nat × (Nat → Int32)} {I : Nat → Nat → Int32} {v1 : Int32} {v2 : Int32} {v3 : Int32} {v4 : Int32}  : zr X 124 144 [.ref 160, .int v1, .int v2, .int v3, .int v4, .null, .null] [] (zk I) = zcb (zr X 117 0 [.ref 160, .int v2, .int 2] [] (zk I)) (fun v m1 => zr X 124 150 [.ref 160, .int v1, .int v2, .int v3, .int v4, .null, .null] (v.toList ++ []) m1) :=
  (zr_aload_n t124_144 rfl).trans <|
    (zr_iload_n t124_145 rfl).trans <|
    (zr_iconst t124_146 zci_2).trans <|
    zr_callv t124_147 rfl rfl rfl rfl
theorem k124_150 {X : Nat × (Nat → Int32)} {I : Nat → Nat → Int32} {v1 : Int32} {v2 : Int32} {v3 : Int32} {v4 : Int32} {s0 : Int32}  : zr X 124 150 [.ref 160, .int v1, .int v2, .int v3, .int v4, .null, .null] [.int s0] (zk I) = zcb (zr X 117 0 [.ref 160, .int v1, .int 3] [] (zk I)) (fun v m1 => zr X 124 156 [.ref 160, .int v1, .int v2, .int v3, .int v4, .null, .null] (v.toList ++ [.int s0]) m1) :=
  (zr_aload_n t124_150 rfl).trans <|
    (zr_iload_n t124_151 rfl).trans <|
    (zr_iconst t124_152 zci_3).trans <|
    zr_callv t124_153 rfl rfl rfl rfl
theorem k124_156 {X : Nat × (Nat → Int32)} {I : Nat → Nat → Int32} {v1 : Int32} {v2 : Int32} {v3 : Int32} {v4 : Int32} {s0 : Int32} {s1 : Int32}  : zr X 124 156 [.ref 160, .int v1, .int v2, .int v3, .int v4, .null, .null] [.int s1, .int s0] (zk I) = if s1 ≤ s0 then zr X 124 163 [.ref 160, .int v1, .int v2, .int v3, .int v4, .null, .null] [] (zk I) else zr X 124 159 [.ref 160, .int v1, .int v2, .int v3, .int v4, .null, .null] [] (zk I) :=
  zr_ic_ge (tgt := 163) t124_156 rfl
theorem k124_159 {X : Nat × (Nat → Int32)} {I : Nat → Nat → Int32} {v1 : Int32} {v2 : Int32} {v3 : Int32} {v4 : Int32}  : zr X 124 159 [.ref 160, .int v1, .int v2, .int v3, .int v4, .null, .null] [] (zk I) = some (some (.int 1), zk I) :=
  (zr_iconst t124_159 zci_1).trans <|
    (zr_goto (tgt := 164) t124_160 rfl).trans <|
    zr_zret t124_164 rfl (Or.inr rfl)
theorem k124_163 {X : Nat × (Nat → Int32)} {I : Nat → Nat → Int32} {v1 : Int32} {v2 : Int32} {v3 : Int32} {v4 : Int32}  : zr X 124 163 [.ref 160, .int v1, .int v2, .int v3, .int v4, .null, .null] [] (zk I) = some (some (.int 0), zk I) :=
  (zr_iconst t124_163 zci_0).trans <|
    zr_zret t124_164 rfl (Or.inl rfl)
/-! X10_quarrels FiveInksModel.quarrels -/
theorem k125_0 {X : Nat × (Nat → Int32)} {I : Nat → Nat → Int32} {v1 : Int32} {v2 : Int32}  : zr X 125 0 [.ref 160, .int v1, .int v2] [] (zk I) = if v1 = v2 then zr X 125 53 [.ref 160, .int v1, .int v2] [] (zk I) else zr X 125 5 [.ref 160, .int v1, .int v2] [] (zk I) :=
  (zr_iload_n t125_0 rfl).trans <|
    (zr_iload_n t125_1 rfl).trans <|
    zr_ic_eq (tgt := 53) t125_2 rfl
theorem k125_5 {X : Nat × (Nat → Int32)} {I : Nat → Nat → Int32} {v1 : Int32} {v2 : Int32}  : zr X 125 5 [.ref 160, .int v1, .int v2] [] (zk I) = zcb (zr X 117 0 [.ref 160, .int v1, .int 5] [] (zk I)) (fun v m1 => zr X 125 11 [.ref 160, .int v1, .int v2] (v.toList ++ []) m1) :=
  (zr_aload_n t125_5 rfl).trans <|
    (zr_iload_n t125_6 rfl).trans <|
    (zr_iconst t125_7 zci_5).trans <|
    zr_callv t125_8 rfl rfl rfl rfl
theorem k125_11 {X : Nat × (Nat → Int32)} {I : Nat → Nat → Int32} {v1 : Int32} {v2 : Int32} {s0 : Int32}  : zr X 125 11 [.ref 160, .int v1, .int v2] [.int s0] (zk I) = if s0 = 2 then zr X 125 53 [.ref 160, .int v1, .int v2] [] (zk I) else zr X 125 15 [.ref 160, .int v1, .int v2] [] (zk I) :=
  (zr_iconst t125_11 zci_2).trans <|
    zr_ic_eq (tgt := 53) t125_12 rfl
theorem k125_15 {X : Nat × (Nat → Int32)} {I : Nat → Nat → Int32} {v1 : Int32} {v2 : Int32}  : zr X 125 15 [.ref 160, .int v1, .int v2] [] (zk I) = zcb (zr X 117 0 [.ref 160, .int v2, .int 5] [] (zk I)) (fun v m1 => zr X 125 21 [.ref 160, .int v1, .int v2] (v.toList ++ []) m1) :=
  (zr_aload_n t125_15 rfl).trans <|
    (zr_iload_n t125_16 rfl).trans <|
    (zr_iconst t125_17 zci_5).trans <|
    zr_callv t125_18 rfl rfl rfl rfl
theorem k125_21 {X : Nat × (Nat → Int32)} {I : Nat → Nat → Int32} {v1 : Int32} {v2 : Int32} {s0 : Int32}  : zr X 125 21 [.ref 160, .int v1, .int v2] [.int s0] (zk I) = if s0 = 2 then zr X 125 53 [.ref 160, .int v1, .int v2] [] (zk I) else zr X 125 25 [.ref 160, .int v1, .int v2] [] (zk I) :=
  (zr_iconst t125_21 zci_2).trans <|
    zr_ic_eq (tgt := 53) t125_22 rfl
theorem k125_25 {X : Nat × (Nat → Int32)} {I : Nat → Nat → Int32} {v1 : Int32} {v2 : Int32}  : zr X 125 25 [.ref 160, .int v1, .int v2] [] (zk I) = zcb (zr X 117 0 [.ref 160, .int v1, .int 0] [] (zk I)) (fun v m1 => zr X 125 31 [.ref 160, .int v1, .int v2] (v.toList ++ []) m1) :=
  (zr_aload_n t125_25 rfl).trans <|
    (zr_iload_n t125_26 rfl).trans <|
    (zr_iconst t125_27 zci_0).trans <|
    zr_callv t125_28 rfl rfl rfl rfl
theorem k125_31 {X : Nat × (Nat → Int32)} {I : Nat → Nat → Int32} {v1 : Int32} {v2 : Int32} {s0 : Int32}  : zr X 125 31 [.ref 160, .int v1, .int v2] [.int s0] (zk I) = zcb (zr X 117 0 [.ref 160, .int v2, .int 0] [] (zk I)) (fun v m1 => zr X 125 37 [.ref 160, .int v1, .int v2] (v.toList ++ [.int s0]) m1) :=
  (zr_aload_n t125_31 rfl).trans <|
    (zr_iload_n t125_32 rfl).trans <|
    (zr_iconst t125_33 zci_0).trans <|
    zr_callv t125_34 rfl rfl rfl rfl
theorem k125_37 {X : Nat × (Nat → Int32)} {I : Nat → Nat → Int32} {v1 : Int32} {v2 : Int32} {s0 : Int32} {s1 : Int32}  : zr X 125 37 [.ref 160, .int v1, .int v2] [.int s1, .int s0] (zk I) = if s0 = s1 then zr X 125 53 [.ref 160, .int v1, .int v2] [] (zk I) else zr X 125 40 [.ref 160, .int v1, .int v2] [] (zk I) :=
  zr_ic_eq (tgt := 53) t125_37 rfl
theorem k125_40 {X : Nat × (Nat → Int32)} {I : Nat → Nat → Int32} {v1 : Int32} {v2 : Int32}  : zr X 125 40 [.ref 160, .int v1, .int v2] [] (zk I) = zcb (zr X 124 0 [.ref 160, .int v1, .int v2, .null, .null, .null, .null] [] (zk I)) (fun v m1 => zr X 125 46 [.ref 160, .int v1, .int v2] (v.toList ++ []) m1) :=
  (zr_aload_n t125_40 rfl).trans <|
    (zr_iload_n t125_41 rfl).trans <|
    (zr_iload_n t125_42 rfl).trans <|
    zr_callv t125_43 rfl rfl rfl rfl
theorem k125_46 {X : Nat × (Nat → Int32)} {I : Nat → Nat → Int32} {v1 : Int32} {v2 : Int32} {s0 : Int32}  : zr X 125 46 [.ref 160, .int v1, .int v2] [.int s0] (zk I) = if s0 = 0 then zr X 125 53 [.ref 160, .int v1, .int v2] [] (zk I) else zr X 125 49 [.ref 160, .int v1, .int v2] [] (zk I) :=
  zr_if_eq (tgt := 53) t125_46 rfl
theorem k125_49 {X : Nat × (Nat → Int32)} {I : Nat → Nat → Int32} {v1 : Int32} {v2 : Int32}  : zr X 125 49 [.ref 160, .int v1, .int v2] [] (zk I) = some (some (.int 1), zk I) :=
  (zr_iconst t125_49 zci_1).trans <|
    (zr_goto (tgt := 54) t125_50 rfl).trans <|
    zr_zret t125_54 rfl (Or.inr rfl)
theorem k125_53 {X : Nat × (Nat → Int32)} {I : Nat → Nat → Int32} {v1 : Int32} {v2 : Int32}  : zr X 125 53 [.ref 160, .int v1, .int v2] [] (zk I) = some (some (.int 0), zk I) :=
  (zr_iconst t125_53 zci_0).trans <|
    zr_zret t125_54 rfl (Or.inl rfl)
/-! X10_clashing FiveInksModel.clashing -/
theorem k126_0 {X : Nat × (Nat → Int32)} {I : Nat → Nat → Int32} {v1 : Int32} {v2 : Int32}  : zr X 126 0 [.ref 160, .int v1, .int v2, .null, .null] [] (zk I) = zr X 126 5 [.ref 160, .int v1, .int v2, .int 0, .int 0] [] (zk I) :=
  (zr_iconst t126_0 zci_0).trans <|
    (zr_istore_n t126_1 rfl rfl).trans <|
    (zr_iconst t126_2 zci_0).trans <|
    zr_istore t126_3 rfl rfl
theorem k126_5 {X : Nat × (Nat → Int32)} {I : Nat → Nat → Int32} {v1 : Int32} {v2 : Int32} {v3 : Int32} {v4 : Int32}  : zr X 126 5 [.ref 160, .int v1, .int v2, .int v3, .int v4] [] (zk I) = if (I 161 66) ≤ v4 then zr X 126 58 [.ref 160, .int v1, .int v2, .int v3, .int v4] [] (zk I) else zr X 126 17 [.ref 160, .int v1, .int v2, .int v3, .int v4] [] (zk I) :=
  (zr_iload t126_5 rfl).trans <|
    (zr_aload_n t126_7 rfl).trans <|
    (zr_getR (u := 161) t126_8 (rfl)).trans <|
    (zr_bipush t126_11 zcb_66).trans <|
    (zr_iald (j := 66) t126_13 (N := 675) rfl (by decide) (by decide)).trans <|
    zr_ic_ge (tgt := 58) t126_14 rfl
theorem k126_17 {X : Nat × (Nat → Int32)} {I : Nat → Nat → Int32} {v1 : Int32} {v2 : Int32} {v3 : Int32} {v4 : Int32}  : zr X 126 17 [.ref 160, .int v1, .int v2, .int v3, .int v4] [] (zk I) = if v4 = v1 then zr X 126 49 [.ref 160, .int v1, .int v2, .int v3, .int v4] [.int v3] (zk I) else zr X 126 24 [.ref 160, .int v1, .int v2, .int v3, .int v4] [.int v3] (zk I) :=
  (zr_iload_n t126_17 rfl).trans <|
    (zr_iload t126_18 rfl).trans <|
    (zr_iload_n t126_20 rfl).trans <|
    zr_ic_eq (tgt := 49) t126_21 rfl
theorem k126_24 {X : Nat × (Nat → Int32)} {I : Nat → Nat → Int32} {v1 : Int32} {v2 : Int32} {v3 : Int32} {v4 : Int32} {s0 : Int32}  : zr X 126 24 [.ref 160, .int v1, .int v2, .int v3, .int v4] [.int s0] (zk I) = zcb (zr X 117 0 [.ref 160, .int v4, .int 5] [] (zk I)) (fun v m1 => zr X 126 31 [.ref 160, .int v1, .int v2, .int v3, .int v4] (v.toList ++ [.int s0]) m1) :=
  (zr_aload_n t126_24 rfl).trans <|
    (zr_iload t126_25 rfl).trans <|
    (zr_iconst t126_27 zci_5).trans <|
    zr_callv t126_28 rfl rfl rfl rfl
theorem k126_31 {X : Nat × (Nat → Int32)} {I : Nat → Nat → Int32} {v1 : Int32} {v2 : Int32} {v3 : Int32} {v4 : Int32} {s0 : Int32} {s1 : Int32}  : zr X 126 31 [.ref 160, .int v1, .int v2, .int v3, .int v4] [.int s1, .int s0] (zk I) = if ¬ s1 = v2 then zr X 126 49 [.ref 160, .int v1, .int v2, .int v3, .int v4] [.int s0] (zk I) else zr X 126 35 [.ref 160, .int v1, .int v2, .int v3, .int v4] [.int s0] (zk I) :=
  (zr_iload_n t126_31 rfl).trans <|
    zr_ic_ne (tgt := 49) t126_32 rfl
theorem k126_35 {X : Nat × (Nat → Int32)} {I : Nat → Nat → Int32} {v1 : Int32} {v2 : Int32} {v3 : Int32} {v4 : Int32} {s0 : Int32}  : zr X 126 35 [.ref 160, .int v1, .int v2, .int v3, .int v4] [.int s0] (zk I) = zcb (zr X 124 0 [.ref 160, .int v1, .int v4, .null, .null, .null, .null] [] (zk I)) (fun v m1 => zr X 126 42 [.ref 160, .int v1, .int v2, .int v3, .int v4] (v.toList ++ [.int s0]) m1) :=
  (zr_aload_n t126_35 rfl).trans <|
    (zr_iload_n t126_36 rfl).trans <|
    (zr_iload t126_37 rfl).trans <|
    zr_callv t126_39 rfl rfl rfl rfl
theorem k126_42 {X : Nat × (Nat → Int32)} {I : Nat → Nat → Int32} {v1 : Int32} {v2 : Int32} {v3 : Int32} {v4 : Int32} {s0 : Int32} {s1 : Int32}  : zr X 126 42 [.ref 160, .int v1, .int v2, .int v3, .int v4] [.int s1, .int s0] (zk I) = if s1 = 0 then zr X 126 49 [.ref 160, .int v1, .int v2, .int v3, .int v4] [.int s0] (zk I) else zr X 126 45 [.ref 160, .int v1, .int v2, .int v3, .int v4] [.int s0] (zk I) :=
  zr_if_eq (tgt := 49) t126_42 rfl
theorem k126_45 {X : Nat × (Nat → Int32)} {I : Nat → Nat → Int32} {v1 : Int32} {v2 : Int32} {v3 : Int32} {v4 : Int32} {s0 : Int32}  : zr X 126 45 [.ref 160, .int v1, .int v2, .int v3, .int v4] [.int s0] (zk I) = zr X 126 5 [.ref 160, .int v1, .int v2, .int (s0 + 1), .int (v4 + 1)] [] (zk I) :=
  (zr_iconst t126_45 zci_1).trans <|
    (zr_goto (tgt := 50) t126_46 rfl).trans <|
    (zr_iadd t126_50).trans <|
    (zr_istore_n t126_51 rfl rfl).trans <|
    (zr_iinc t126_52 rfl rfl (congrArg (fun z => v4 + z) zci_1) rfl).trans <|
    zr_goto (tgt := 5) t126_55 rfl
theorem k126_49 {X : Nat × (Nat → Int32)} {I : Nat → Nat → Int32} {v1 : Int32} {v2 : Int32} {v3 : Int32} {v4 : Int32} {s0 : Int32}  : zr X 126 49 [.ref 160, .int v1, .int v2, .int v3, .int v4] [.int s0] (zk I) = zr X 126 5 [.ref 160, .int v1, .int v2, .int (s0 + 0), .int (v4 + 1)] [] (zk I) :=
  (zr_iconst t126_49 zci_0).trans <|
    (zr_iadd t126_50).trans <|
    (zr_istore_n t126_51 rfl rfl).trans <|
    (zr_iinc t126_52 rfl rfl (congrArg (fun z => v4 + z) zci_1) rfl).trans <|
    zr_goto (tgt := 5) t126_55 rfl
theorem k126_58 {X : Nat × (Nat → Int32)} {I : Nat → Nat → Int32} {v1 : Int32} {v2 : Int32} {v3 : Int32} {v4 : Int32}  : zr X 126 58 [.ref 160, .int v1, .int v2, .int v3, .int v4] [] (zk I) = some (some (.int v3), zk I) :=
  (zr_iload_n t126_58 rfl).trans <|
    zr_iret t126_59 rfl
/-! X10_longer FiveInksModel.longer -/
theorem k127_0 {X : Nat × (Nat → Int32)} {I : Nat → Nat → Int32} {v1 : Int32}  : zr X 127 0 [.ref 160, .int v1] [] (zk I) = zcb (zr X 117 0 [.ref 160, .int v1, .int 4] [] (zk I)) (fun v m1 => zr X 127 6 [.ref 160, .int v1] (v.toList ++ []) m1) :=
  (zr_aload_n t127_0 rfl).trans <|
    (zr_iload_n t127_1 rfl).trans <|
    (zr_iconst t127_2 zci_4).trans <|
    zr_callv t127_3 rfl rfl rfl rfl
theorem k127_6 {X : Nat × (Nat → Int32)} {I : Nat → Nat → Int32} {v1 : Int32} {s0 : Int32}  : zr X 127 6 [.ref 160, .int v1] [.int s0] (zk I) = zcb (zr X 117 0 [.ref 160, .int v1, .int 3] [] (zk I)) (fun v m1 => zr X 127 12 [.ref 160, .int v1] (v.toList ++ [.int s0]) m1) :=
  (zr_aload_n t127_6 rfl).trans <|
    (zr_iload_n t127_7 rfl).trans <|
    (zr_iconst t127_8 zci_3).trans <|
    zr_callv t127_9 rfl rfl rfl rfl
theorem k127_12 {X : Nat × (Nat → Int32)} {I : Nat → Nat → Int32} {v1 : Int32} {s0 : Int32} {s1 : Int32}  : zr X 127 12 [.ref 160, .int v1] [.int s1, .int s0] (zk I) = zcb (zr X 117 0 [.ref 160, .int v1, .int 2] [] (zk I)) (fun v m1 => zr X 127 18 [.ref 160, .int v1] (v.toList ++ [.int s1, .int s0]) m1) :=
  (zr_aload_n t127_12 rfl).trans <|
    (zr_iload_n t127_13 rfl).trans <|
    (zr_iconst t127_14 zci_2).trans <|
    zr_callv t127_15 rfl rfl rfl rfl
theorem k127_18 {X : Nat × (Nat → Int32)} {I : Nat → Nat → Int32} {v1 : Int32} {s0 : Int32} {s1 : Int32} {s2 : Int32}  : zr X 127 18 [.ref 160, .int v1] [.int s2, .int s1, .int s0] (zk I) = some (some (.int (s0 - (s1 - s2))), zk I) :=
  (zr_isub t127_18).trans <|
    (zr_isub t127_19).trans <|
    zr_iret t127_20 rfl
/-! X10_printMany FiveInksModel.printMany -/
theorem k128_0 {X : Nat × (Nat → Int32)} {I : Nat → Nat → Int32}   : zr X 128 0 [.ref 160, .null, .null] [] (zk I) = zr X 128 9 [.ref 160, .int (I 161 0), .int 0] [] (zk I) :=
  (zr_aload_n t128_0 rfl).trans <|
    (zr_getR (u := 161) t128_1 (rfl)).trans <|
    (zr_iconst t128_4 zci_0).trans <|
    (zr_iald (j := 0) t128_5 (N := 675) rfl (by decide) (by decide)).trans <|
    (zr_istore_n t128_6 rfl rfl).trans <|
    (zr_iconst t128_7 zci_0).trans <|
    zr_istore_n t128_8 rfl rfl
theorem k128_9 {X : Nat × (Nat → Int32)} {I : Nat → Nat → Int32} {v1 : Int32} {v2 : Int32}  : zr X 128 9 [.ref 160, .int v1, .int v2] [] (zk I) = if (I 161 66) ≤ v2 then zr X 128 48 [.ref 160, .int v1, .int v2] [] (zk I) else zr X 128 20 [.ref 160, .int v1, .int v2] [] (zk I) :=
  (zr_iload_n t128_9 rfl).trans <|
    (zr_aload_n t128_10 rfl).trans <|
    (zr_getR (u := 161) t128_11 (rfl)).trans <|
    (zr_bipush t128_14 zcb_66).trans <|
    (zr_iald (j := 66) t128_16 (N := 675) rfl (by decide) (by decide)).trans <|
    zr_ic_ge (tgt := 48) t128_17 rfl
theorem k128_20 {X : Nat × (Nat → Int32)} {I : Nat → Nat → Int32} {v1 : Int32} {v2 : Int32}  : zr X 128 20 [.ref 160, .int v1, .int v2] [] (zk I) = zcb (zr X 117 0 [.ref 160, .int v2, .int 5] [] (zk I)) (fun v m1 => zr X 128 27 [.ref 160, .int v1, .int v2] (v.toList ++ [.int v1]) m1) :=
  (zr_iload_n t128_20 rfl).trans <|
    (zr_aload_n t128_21 rfl).trans <|
    (zr_iload_n t128_22 rfl).trans <|
    (zr_iconst t128_23 zci_5).trans <|
    zr_callv t128_24 rfl rfl rfl rfl
theorem k128_27 {X : Nat × (Nat → Int32)} {I : Nat → Nat → Int32} {v1 : Int32} {v2 : Int32} {s0 : Int32} {s1 : Int32}  : zr X 128 27 [.ref 160, .int v1, .int v2] [.int s1, .int s0] (zk I) = if ¬ s1 = 1 then zr X 128 39 [.ref 160, .int v1, .int v2] [.int s0] (zk I) else zr X 128 31 [.ref 160, .int v1, .int v2] [.int s0] (zk I) :=
  (zr_iconst t128_27 zci_1).trans <|
    zr_ic_ne (tgt := 39) t128_28 rfl
theorem k128_31 {X : Nat × (Nat → Int32)} {I : Nat → Nat → Int32} {v1 : Int32} {v2 : Int32} {s0 : Int32}  : zr X 128 31 [.ref 160, .int v1, .int v2] [.int s0] (zk I) = zcb (zr X 127 0 [.ref 160, .int v2] [] (zk I)) (fun v m1 => zr X 128 36 [.ref 160, .int v1, .int v2] (v.toList ++ [.int s0]) m1) :=
  (zr_aload_n t128_31 rfl).trans <|
    (zr_iload_n t128_32 rfl).trans <|
    zr_callv t128_33 rfl rfl rfl rfl
theorem k128_36 {X : Nat × (Nat → Int32)} {I : Nat → Nat → Int32} {v1 : Int32} {v2 : Int32} {s0 : Int32} {s1 : Int32}  : zr X 128 36 [.ref 160, .int v1, .int v2] [.int s1, .int s0] (zk I) = zr X 128 9 [.ref 160, .int (s0 + s1), .int (v2 + 1)] [] (zk I) :=
  (zr_goto (tgt := 40) t128_36 rfl).trans <|
    (zr_iadd t128_40).trans <|
    (zr_istore_n t128_41 rfl rfl).trans <|
    (zr_iinc t128_42 rfl rfl (congrArg (fun z => v2 + z) zci_1) rfl).trans <|
    zr_goto (tgt := 9) t128_45 rfl
theorem k128_39 {X : Nat × (Nat → Int32)} {I : Nat → Nat → Int32} {v1 : Int32} {v2 : Int32} {s0 : Int32}  : zr X 128 39 [.ref 160, .int v1, .int v2] [.int s0] (zk I) = zr X 128 9 [.ref 160, .int (s0 + 0), .int (v2 + 1)] [] (zk I) :=
  (zr_iconst t128_39 zci_0).trans <|
    (zr_iadd t128_40).trans <|
    (zr_istore_n t128_41 rfl rfl).trans <|
    (zr_iinc t128_42 rfl rfl (congrArg (fun z => v2 + z) zci_1) rfl).trans <|
    zr_goto (tgt := 9) t128_45 rfl
theorem k128_48 {X : Nat × (Nat → Int32)} {I : Nat → Nat → Int32} {v1 : Int32} {v2 : Int32}  : zr X 128 48 [.ref 160, .int v1, .int v2] [] (zk I) = some (some (.int v1), zk I) :=
  (zr_iload_n t128_48 rfl).trans <|
    zr_iret t128_49 rfl
/-! X10_writes FiveInksModel.writes -/
theorem k129_0 {X : Nat × (Nat → Int32)} {I : Nat → Nat → Int32} {v1 : Int32} (q1 : zin (I 160 11) 180 = true) : zr X 129 0 [.ref 160, .int v1] [] (zk I) = some (none, zk (zs1 (zs1 I 168 (zx (I 160 11)) v1) 160 11 ((I 160 11) + 1))) :=
  (zr_aload_n t129_0 rfl).trans <|
    (zr_getR (u := 168) t129_1 (rfl)).trans <|
    (zr_aload_n t129_4 rfl).trans <|
    (zr_getI t129_5 (rfl)).trans <|
    (zr_iload_n t129_8 rfl).trans <|
    (zr_iast (j := zx (I 160 11)) t129_9 (N := 180) rfl rfl q1).trans <|
    (zr_aload_n t129_10 rfl).trans <|
    (zr_dup t129_11 rfl).trans <|
    (zr_getI t129_12 (rfl)).trans <|
    (zr_iconst t129_15 zci_1).trans <|
    (zr_iadd t129_16).trans <|
    (zr_putI t129_17 (rfl) (Or.inl rfl)).trans <|
    zr_vret t129_20 rfl
/-! X10_writesMarks FiveInksModel.writesMarks -/
theorem k130_0 {X : Nat × (Nat → Int32)} {I : Nat → Nat → Int32} {v1 : Int32} {v2 : Int32}  : zr X 130 0 [.ref 160, .int v1, .int v2, .null, .null] [] (zk I) = zr X 130 2 [.ref 160, .int v1, .int v2, .int 0, .null] [] (zk I) :=
  (zr_iconst t130_0 zci_0).trans <|
    zr_istore_n t130_1 rfl rfl
theorem k130_2 {X : Nat × (Nat → Int32)} {I : Nat → Nat → Int32} {v1 : Int32} {v2 : Int32} {v3 : Int32} {v4 : Value}  : zr X 130 2 [.ref 160, .int v1, .int v2, .int v3, v4] [] (zk I) = if (I 161 66) ≤ v3 then zr X 130 82 [.ref 160, .int v1, .int v2, .int v3, v4] [] (zk I) else zr X 130 13 [.ref 160, .int v1, .int v2, .int v3, v4] [] (zk I) :=
  (zr_iload_n t130_2 rfl).trans <|
    (zr_aload_n t130_3 rfl).trans <|
    (zr_getR (u := 161) t130_4 (rfl)).trans <|
    (zr_bipush t130_7 zcb_66).trans <|
    (zr_iald (j := 66) t130_9 (N := 675) rfl (by decide) (by decide)).trans <|
    zr_ic_ge (tgt := 82) t130_10 rfl
theorem k130_13 {X : Nat × (Nat → Int32)} {I : Nat → Nat → Int32} {v1 : Int32} {v2 : Int32} {v3 : Int32} {v4 : Value}  : zr X 130 13 [.ref 160, .int v1, .int v2, .int v3, v4] [] (zk I) = zr X 130 16 [.ref 160, .int v1, .int v2, .int v3, .int 0] [] (zk I) :=
  (zr_iconst t130_13 zci_0).trans <|
    zr_istore t130_14 rfl rfl
theorem k130_16 {X : Nat × (Nat → Int32)} {I : Nat → Nat → Int32} {v1 : Int32} {v2 : Int32} {v3 : Int32} {v4 : Int32}  : zr X 130 16 [.ref 160, .int v1, .int v2, .int v3, .int v4] [] (zk I) = zcb (zr X 117 0 [.ref 160, .int v3, .int 4] [] (zk I)) (fun v m1 => zr X 130 24 [.ref 160, .int v1, .int v2, .int v3, .int v4] (v.toList ++ [.int v4]) m1) :=
  (zr_iload t130_16 rfl).trans <|
    (zr_aload_n t130_18 rfl).trans <|
    (zr_iload_n t130_19 rfl).trans <|
    (zr_iconst t130_20 zci_4).trans <|
    zr_callv t130_21 rfl rfl rfl rfl
theorem k130_24 {X : Nat × (Nat → Int32)} {I : Nat → Nat → Int32} {v1 : Int32} {v2 : Int32} {v3 : Int32} {v4 : Int32} {s0 : Int32} {s1 : Int32}  : zr X 130 24 [.ref 160, .int v1, .int v2, .int v3, .int v4] [.int s1, .int s0] (zk I) = if s1 ≤ s0 then zr X 130 76 [.ref 160, .int v1, .int v2, .int v3, .int v4] [] (zk I) else zr X 130 27 [.ref 160, .int v1, .int v2, .int v3, .int v4] [] (zk I) :=
  zr_ic_ge (tgt := 76) t130_24 rfl
theorem k130_27 {X : Nat × (Nat → Int32)} {I : Nat → Nat → Int32} {v1 : Int32} {v2 : Int32} {v3 : Int32} {v4 : Int32} (q1 : zin v3 20 = true) : zr X 130 27 [.ref 160, .int v1, .int v2, .int v3, .int v4] [] (zk I) = if (I 167 (zx v3)) = 0 then zr X 130 76 [.ref 160, .int v1, .int v2, .int v3, .int v4] [] (zk I) else zr X 130 36 [.ref 160, .int v1, .int v2, .int v3, .int v4] [] (zk I) :=
  (zr_aload_n t130_27 rfl).trans <|
    (zr_getR (u := 167) t130_28 (rfl)).trans <|
    (zr_iload_n t130_31 rfl).trans <|
    (zr_bald (j := zx v3) t130_32 (N := 20) rfl rfl q1).trans <|
    zr_if_eq (tgt := 76) t130_33 rfl
theorem k130_36 {X : Nat × (Nat → Int32)} {I : Nat → Nat → Int32} {v1 : Int32} {v2 : Int32} {v3 : Int32} {v4 : Int32}  : zr X 130 36 [.ref 160, .int v1, .int v2, .int v3, .int v4] [] (zk I) = zcb (zr X 117 0 [.ref 160, .int v3, .int 1] [] (zk I)) (fun v m1 => zr X 130 42 [.ref 160, .int v1, .int v2, .int v3, .int v4] (v.toList ++ []) m1) :=
  (zr_aload_n t130_36 rfl).trans <|
    (zr_iload_n t130_37 rfl).trans <|
    (zr_iconst t130_38 zci_1).trans <|
    zr_callv t130_39 rfl rfl rfl rfl
theorem k130_42 {X : Nat × (Nat → Int32)} {I : Nat → Nat → Int32} {v1 : Int32} {v2 : Int32} {v3 : Int32} {v4 : Int32} {s0 : Int32}  : zr X 130 42 [.ref 160, .int v1, .int v2, .int v3, .int v4] [.int s0] (zk I) = if ¬ s0 = v2 then zr X 130 76 [.ref 160, .int v1, .int v2, .int v3, .int v4] [] (zk I) else zr X 130 46 [.ref 160, .int v1, .int v2, .int v3, .int v4] [] (zk I) :=
  (zr_iload_n t130_42 rfl).trans <|
    zr_ic_ne (tgt := 76) t130_43 rfl
theorem k130_46 {X : Nat × (Nat → Int32)} {I : Nat → Nat → Int32} {v1 : Int32} {v2 : Int32} {v3 : Int32} {v4 : Int32}  : zr X 130 46 [.ref 160, .int v1, .int v2, .int v3, .int v4] [] (zk I) = zcb (zr X 117 0 [.ref 160, .int v3, .int 2] [] (zk I)) (fun v m1 => zr X 130 52 [.ref 160, .int v1, .int v2, .int v3, .int v4] (v.toList ++ []) m1) :=
  (zr_aload_n t130_46 rfl).trans <|
    (zr_iload_n t130_47 rfl).trans <|
    (zr_iconst t130_48 zci_2).trans <|
    zr_callv t130_49 rfl rfl rfl rfl
theorem k130_52 {X : Nat × (Nat → Int32)} {I : Nat → Nat → Int32} {v1 : Int32} {v2 : Int32} {v3 : Int32} {v4 : Int32} {s0 : Int32}  : zr X 130 52 [.ref 160, .int v1, .int v2, .int v3, .int v4] [.int s0] (zk I) = if ¬ s0 = v1 then zr X 130 76 [.ref 160, .int v1, .int v2, .int v3, .int v4] [] (zk I) else zr X 130 56 [.ref 160, .int v1, .int v2, .int v3, .int v4] [] (zk I) :=
  (zr_iload_n t130_52 rfl).trans <|
    zr_ic_ne (tgt := 76) t130_53 rfl
theorem k130_56 {X : Nat × (Nat → Int32)} {I : Nat → Nat → Int32} {v1 : Int32} {v2 : Int32} {v3 : Int32} {v4 : Int32}  : zr X 130 56 [.ref 160, .int v1, .int v2, .int v3, .int v4] [] (zk I) = zcb (zr X 117 0 [.ref 160, .int v3, .int (6 + v4)] [] (zk I)) (fun v m1 => zr X 130 67 [.ref 160, .int v1, .int v2, .int v3, .int v4] (v.toList ++ [.ref 160]) m1) :=
  (zr_aload_n t130_56 rfl).trans <|
    (zr_aload_n t130_57 rfl).trans <|
    (zr_iload_n t130_58 rfl).trans <|
    (zr_bipush t130_59 zcb_6).trans <|
    (zr_iload t130_61 rfl).trans <|
    (zr_iadd t130_63).trans <|
    zr_callv t130_64 rfl rfl rfl rfl
theorem k130_67 {X : Nat × (Nat → Int32)} {I : Nat → Nat → Int32} {v1 : Int32} {v2 : Int32} {v3 : Int32} {v4 : Int32} {s1 : Int32}  : zr X 130 67 [.ref 160, .int v1, .int v2, .int v3, .int v4] [.int s1, .ref 160] (zk I) = zcb (zr X 129 0 [.ref 160, .int s1] [] (zk I)) (fun v m1 => zr X 130 70 [.ref 160, .int v1, .int v2, .int v3, .int v4] (v.toList ++ []) m1) :=
  zr_callv t130_67 rfl rfl rfl rfl
theorem k130_70 {X : Nat × (Nat → Int32)} {I : Nat → Nat → Int32} {v1 : Int32} {v2 : Int32} {v3 : Int32} {v4 : Int32}  : zr X 130 70 [.ref 160, .int v1, .int v2, .int v3, .int v4] [] (zk I) = zr X 130 16 [.ref 160, .int v1, .int v2, .int v3, .int (v4 + 1)] [] (zk I) :=
  (zr_iinc t130_70 rfl rfl (congrArg (fun z => v4 + z) zci_1) rfl).trans <|
    zr_goto (tgt := 16) t130_73 rfl
theorem k130_76 {X : Nat × (Nat → Int32)} {I : Nat → Nat → Int32} {v1 : Int32} {v2 : Int32} {v3 : Int32} {v4 : Int32}  : zr X 130 76 [.ref 160, .int v1, .int v2, .int v3, .int v4] [] (zk I) = zr X 130 2 [.ref 160, .int v1, .int v2, .int (v3 + 1), .int v4] [] (zk I) :=
  (zr_iinc t130_76 rfl rfl (congrArg (fun z => v3 + z) zci_1) rfl).trans <|
    zr_goto (tgt := 2) t130_79 rfl
theorem k130_82 {X : Nat × (Nat → Int32)} {I : Nat → Nat → Int32} {v1 : Int32} {v2 : Int32} {v3 : Int32} {v4 : Value}  : zr X 130 82 [.ref 160, .int v1, .int v2, .int v3, v4] [] (zk I) = some (none, zk I) :=
  zr_vret t130_82 rfl
/-! X10_isLeftOut FiveInksModel.isLeftOut -/
theorem k131_0 {X : Nat × (Nat → Int32)} {I : Nat → Nat → Int32} {v1 : Int32}  : zr X 131 0 [.ref 160, .int v1, .null, .null] [] (zk I) = zr X 131 4 [.ref 160, .int v1, .int 0, .int 0] [] (zk I) :=
  (zr_iconst t131_0 zci_0).trans <|
    (zr_istore_n t131_1 rfl rfl).trans <|
    (zr_iconst t131_2 zci_0).trans <|
    zr_istore_n t131_3 rfl rfl
theorem k131_4 {X : Nat × (Nat → Int32)} {I : Nat → Nat → Int32} {v1 : Int32} {v2 : Int32} {v3 : Int32}  : zr X 131 4 [.ref 160, .int v1, .int v2, .int v3] [] (zk I) = if (I 161 66) ≤ v3 then zr X 131 61 [.ref 160, .int v1, .int v2, .int v3] [] (zk I) else zr X 131 15 [.ref 160, .int v1, .int v2, .int v3] [] (zk I) :=
  (zr_iload_n t131_4 rfl).trans <|
    (zr_aload_n t131_5 rfl).trans <|
    (zr_getR (u := 161) t131_6 (rfl)).trans <|
    (zr_bipush t131_9 zcb_66).trans <|
    (zr_iald (j := 66) t131_11 (N := 675) rfl (by decide) (by decide)).trans <|
    zr_ic_ge (tgt := 61) t131_12 rfl
theorem k131_15 {X : Nat × (Nat → Int32)} {I : Nat → Nat → Int32} {v1 : Int32} {v2 : Int32} {v3 : Int32}  : zr X 131 15 [.ref 160, .int v1, .int v2, .int v3] [] (zk I) = if ¬ v2 = 0 then zr X 131 49 [.ref 160, .int v1, .int v2, .int v3] [] (zk I) else zr X 131 19 [.ref 160, .int v1, .int v2, .int v3] [] (zk I) :=
  (zr_iload_n t131_15 rfl).trans <|
    zr_if_ne (tgt := 49) t131_16 rfl
theorem k131_19 {X : Nat × (Nat → Int32)} {I : Nat → Nat → Int32} {v1 : Int32} {v2 : Int32} {v3 : Int32} (q1 : zin v3 20 = true) : zr X 131 19 [.ref 160, .int v1, .int v2, .int v3] [] (zk I) = if (I 167 (zx v3)) = 0 then zr X 131 53 [.ref 160, .int v1, .int v2, .int v3] [] (zk I) else zr X 131 28 [.ref 160, .int v1, .int v2, .int v3] [] (zk I) :=
  (zr_aload_n t131_19 rfl).trans <|
    (zr_getR (u := 167) t131_20 (rfl)).trans <|
    (zr_iload_n t131_23 rfl).trans <|
    (zr_bald (j := zx v3) t131_24 (N := 20) rfl rfl q1).trans <|
    zr_if_eq (tgt := 53) t131_25 rfl
theorem k131_28 {X : Nat × (Nat → Int32)} {I : Nat → Nat → Int32} {v1 : Int32} {v2 : Int32} {v3 : Int32}  : zr X 131 28 [.ref 160, .int v1, .int v2, .int v3] [] (zk I) = zcb (zr X 117 0 [.ref 160, .int v3, .int 2] [] (zk I)) (fun v m1 => zr X 131 35 [.ref 160, .int v1, .int v2, .int v3] (v.toList ++ [.int v1]) m1) :=
  (zr_iload_n t131_28 rfl).trans <|
    (zr_aload_n t131_29 rfl).trans <|
    (zr_iload_n t131_30 rfl).trans <|
    (zr_iconst t131_31 zci_2).trans <|
    zr_callv t131_32 rfl rfl rfl rfl
theorem k131_35 {X : Nat × (Nat → Int32)} {I : Nat → Nat → Int32} {v1 : Int32} {v2 : Int32} {v3 : Int32} {s0 : Int32} {s1 : Int32}  : zr X 131 35 [.ref 160, .int v1, .int v2, .int v3] [.int s1, .int s0] (zk I) = zcb (zr X 117 0 [.ref 160, .int v3, .int 3] [] (zk I)) (fun v m1 => zr X 131 41 [.ref 160, .int v1, .int v2, .int v3] (v.toList ++ [.int s1, .int s0]) m1) :=
  (zr_aload_n t131_35 rfl).trans <|
    (zr_iload_n t131_36 rfl).trans <|
    (zr_iconst t131_37 zci_3).trans <|
    zr_callv t131_38 rfl rfl rfl rfl
theorem k131_41 {X : Nat × (Nat → Int32)} {I : Nat → Nat → Int32} {v1 : Int32} {v2 : Int32} {v3 : Int32} {s0 : Int32} {s1 : Int32} {s2 : Int32}  : zr X 131 41 [.ref 160, .int v1, .int v2, .int v3] [.int s2, .int s1, .int s0] (zk I) = zcb (zr X 116 0 [.int s0, .int s1, .int (s2 - 1)] [] (zk I)) (fun v m1 => zr X 131 46 [.ref 160, .int v1, .int v2, .int v3] (v.toList ++ []) m1) :=
  (zr_iconst t131_41 zci_1).trans <|
    (zr_isub t131_42).trans <|
    zr_calls t131_43 rfl rfl rfl rfl rfl
theorem k131_46 {X : Nat × (Nat → Int32)} {I : Nat → Nat → Int32} {v1 : Int32} {v2 : Int32} {v3 : Int32} {s0 : Int32}  : zr X 131 46 [.ref 160, .int v1, .int v2, .int v3] [.int s0] (zk I) = if s0 = 0 then zr X 131 53 [.ref 160, .int v1, .int v2, .int v3] [] (zk I) else zr X 131 49 [.ref 160, .int v1, .int v2, .int v3] [] (zk I) :=
  zr_if_eq (tgt := 53) t131_46 rfl
theorem k131_49 {X : Nat × (Nat → Int32)} {I : Nat → Nat → Int32} {v1 : Int32} {v2 : Int32} {v3 : Int32}  : zr X 131 49 [.ref 160, .int v1, .int v2, .int v3] [] (zk I) = zr X 131 4 [.ref 160, .int v1, .int 1, .int (v3 + 1)] [] (zk I) :=
  (zr_iconst t131_49 zci_1).trans <|
    (zr_goto (tgt := 54) t131_50 rfl).trans <|
    (zr_istore_n t131_54 rfl rfl).trans <|
    (zr_iinc t131_55 rfl rfl (congrArg (fun z => v3 + z) zci_1) rfl).trans <|
    zr_goto (tgt := 4) t131_58 rfl
theorem k131_53 {X : Nat × (Nat → Int32)} {I : Nat → Nat → Int32} {v1 : Int32} {v2 : Int32} {v3 : Int32}  : zr X 131 53 [.ref 160, .int v1, .int v2, .int v3] [] (zk I) = zr X 131 4 [.ref 160, .int v1, .int 0, .int (v3 + 1)] [] (zk I) :=
  (zr_iconst t131_53 zci_0).trans <|
    (zr_istore_n t131_54 rfl rfl).trans <|
    (zr_iinc t131_55 rfl rfl (congrArg (fun z => v3 + z) zci_1) rfl).trans <|
    zr_goto (tgt := 4) t131_58 rfl
theorem k131_61 {X : Nat × (Nat → Int32)} {I : Nat → Nat → Int32} {v1 : Int32} {v2 : Int32} {v3 : Int32} (q1 : v2 = 0 ∨ v2 = 1) : zr X 131 61 [.ref 160, .int v1, .int v2, .int v3] [] (zk I) = some (some (.int v2), zk I) :=
  (zr_iload_n t131_61 rfl).trans <|
    zr_zret t131_62 rfl q1
/-! X10_carriesOut FiveInksModel.carriesOut -/
theorem k132_0 {X : Nat × (Nat → Int32)} {I : Nat → Nat → Int32}   : zr X 132 0 [.ref 160, .null] [] (zk I) = zr X 132 7 [.ref 160, .int 0] [] (zk (zs1 I 160 11 0)) :=
  (zr_aload_n t132_0 rfl).trans <|
    (zr_iconst t132_1 zci_0).trans <|
    (zr_putI t132_2 (rfl) (Or.inl rfl)).trans <|
    (zr_iconst t132_5 zci_0).trans <|
    zr_istore_n t132_6 rfl rfl
theorem k132_7 {X : Nat × (Nat → Int32)} {I : Nat → Nat → Int32} {v1 : Int32}  : zr X 132 7 [.ref 160, .int v1] [] (zk I) = if (I 161 0) < v1 then zr X 132 65 [.ref 160, .int v1] [] (zk I) else zr X 132 17 [.ref 160, .int v1] [] (zk I) :=
  (zr_iload_n t132_7 rfl).trans <|
    (zr_aload_n t132_8 rfl).trans <|
    (zr_getR (u := 161) t132_9 (rfl)).trans <|
    (zr_iconst t132_12 zci_0).trans <|
    (zr_iald (j := 0) t132_13 (N := 675) rfl (by decide) (by decide)).trans <|
    zr_ic_gt (tgt := 65) t132_14 rfl
theorem k132_17 {X : Nat × (Nat → Int32)} {I : Nat → Nat → Int32} {v1 : Int32}  : zr X 132 17 [.ref 160, .int v1] [] (zk I) = zcb (zr X 130 0 [.ref 160, .int v1, .int 1, .null, .null] [] (zk I)) (fun v m1 => zr X 132 23 [.ref 160, .int v1] (v.toList ++ []) m1) :=
  (zr_aload_n t132_17 rfl).trans <|
    (zr_iload_n t132_18 rfl).trans <|
    (zr_iconst t132_19 zci_1).trans <|
    zr_callv t132_20 rfl rfl rfl rfl
theorem k132_23 {X : Nat × (Nat → Int32)} {I : Nat → Nat → Int32} {v1 : Int32}  : zr X 132 23 [.ref 160, .int v1] [] (zk I) = zcb (zr X 130 0 [.ref 160, .int v1, .int 2, .null, .null] [] (zk I)) (fun v m1 => zr X 132 29 [.ref 160, .int v1] (v.toList ++ []) m1) :=
  (zr_aload_n t132_23 rfl).trans <|
    (zr_iload_n t132_24 rfl).trans <|
    (zr_iconst t132_25 zci_2).trans <|
    zr_callv t132_26 rfl rfl rfl rfl
theorem k132_29 {X : Nat × (Nat → Int32)} {I : Nat → Nat → Int32} {v1 : Int32}  : zr X 132 29 [.ref 160, .int v1] [] (zk I) = if (I 161 0) ≤ v1 then zr X 132 59 [.ref 160, .int v1] [] (zk I) else zr X 132 39 [.ref 160, .int v1] [] (zk I) :=
  (zr_iload_n t132_29 rfl).trans <|
    (zr_aload_n t132_30 rfl).trans <|
    (zr_getR (u := 161) t132_31 (rfl)).trans <|
    (zr_iconst t132_34 zci_0).trans <|
    (zr_iald (j := 0) t132_35 (N := 675) rfl (by decide) (by decide)).trans <|
    zr_ic_ge (tgt := 59) t132_36 rfl
theorem k132_39 {X : Nat × (Nat → Int32)} {I : Nat → Nat → Int32} {v1 : Int32}  : zr X 132 39 [.ref 160, .int v1] [] (zk I) = zcb (zr X 131 0 [.ref 160, .int v1, .null, .null] [] (zk I)) (fun v m1 => zr X 132 44 [.ref 160, .int v1] (v.toList ++ []) m1) :=
  (zr_aload_n t132_39 rfl).trans <|
    (zr_iload_n t132_40 rfl).trans <|
    zr_callv t132_41 rfl rfl rfl rfl
theorem k132_44 {X : Nat × (Nat → Int32)} {I : Nat → Nat → Int32} {v1 : Int32} {s0 : Int32}  : zr X 132 44 [.ref 160, .int v1] [.int s0] (zk I) = if ¬ s0 = 0 then zr X 132 59 [.ref 160, .int v1] [] (zk I) else zr X 132 47 [.ref 160, .int v1] [] (zk I) :=
  zr_if_ne (tgt := 59) t132_44 rfl
theorem k132_47 {X : Nat × (Nat → Int32)} {I : Nat → Nat → Int32} {v1 : Int32} (q1 : zin (1 + v1) 675 = true) : zr X 132 47 [.ref 160, .int v1] [] (zk I) = zcb (zr X 129 0 [.ref 160, .int (I 161 (zx (1 + v1)))] [] (zk I)) (fun v m1 => zr X 132 59 [.ref 160, .int v1] (v.toList ++ []) m1) :=
  (zr_aload_n t132_47 rfl).trans <|
    (zr_aload_n t132_48 rfl).trans <|
    (zr_getR (u := 161) t132_49 (rfl)).trans <|
    (zr_iconst t132_52 zci_1).trans <|
    (zr_iload_n t132_53 rfl).trans <|
    (zr_iadd t132_54).trans <|
    (zr_iald (j := zx (1 + v1)) t132_55 (N := 675) rfl rfl q1).trans <|
    zr_callv t132_56 rfl rfl rfl rfl
theorem k132_59 {X : Nat × (Nat → Int32)} {I : Nat → Nat → Int32} {v1 : Int32}  : zr X 132 59 [.ref 160, .int v1] [] (zk I) = zr X 132 7 [.ref 160, .int (v1 + 1)] [] (zk I) :=
  (zr_iinc t132_59 rfl rfl (congrArg (fun z => v1 + z) zci_1) rfl).trans <|
    zr_goto (tgt := 7) t132_62 rfl
theorem k132_65 {X : Nat × (Nat → Int32)} {I : Nat → Nat → Int32} {v1 : Int32}  : zr X 132 65 [.ref 160, .int v1] [] (zk I) = some (none, zk I) :=
  zr_vret t132_65 rfl
/-! X10_prints FiveInksModel.prints -/
theorem k133_0 {X : Nat × (Nat → Int32)} {I : Nat → Nat → Int32}   : zr X 133 0 [.ref 160, .null] [] (zk I) = zr X 133 2 [.ref 160, .int 0] [] (zk I) :=
  (zr_iconst t133_0 zci_0).trans <|
    zr_istore_n t133_1 rfl rfl
theorem k133_2 {X : Nat × (Nat → Int32)} {I : Nat → Nat → Int32} {v1 : Int32}  : zr X 133 2 [.ref 160, .int v1] [] (zk I) = if (I 161 66) ≤ v1 then zr X 133 40 [.ref 160, .int v1] [] (zk I) else zr X 133 13 [.ref 160, .int v1] [] (zk I) :=
  (zr_iload_n t133_2 rfl).trans <|
    (zr_aload_n t133_3 rfl).trans <|
    (zr_getR (u := 161) t133_4 (rfl)).trans <|
    (zr_bipush t133_7 zcb_66).trans <|
    (zr_iald (j := 66) t133_9 (N := 675) rfl (by decide) (by decide)).trans <|
    zr_ic_ge (tgt := 40) t133_10 rfl
theorem k133_13 {X : Nat × (Nat → Int32)} {I : Nat → Nat → Int32} {v1 : Int32}  : zr X 133 13 [.ref 160, .int v1] [] (zk I) = zcb (zr X 117 0 [.ref 160, .int v1, .int 5] [] (zk I)) (fun v m1 => zr X 133 24 [.ref 160, .int v1] (v.toList ++ [.int v1, .ref 167]) m1) :=
  (zr_aload_n t133_13 rfl).trans <|
    (zr_getR (u := 167) t133_14 (rfl)).trans <|
    (zr_iload_n t133_17 rfl).trans <|
    (zr_aload_n t133_18 rfl).trans <|
    (zr_iload_n t133_19 rfl).trans <|
    (zr_iconst t133_20 zci_5).trans <|
    zr_callv t133_21 rfl rfl rfl rfl
theorem k133_24 {X : Nat × (Nat → Int32)} {I : Nat → Nat → Int32} {v1 : Int32} {s1 : Int32} {s2 : Int32}  : zr X 133 24 [.ref 160, .int v1] [.int s2, .int s1, .ref 167] (zk I) = if ¬ s2 = 1 then zr X 133 32 [.ref 160, .int v1] [.int s1, .ref 167] (zk I) else zr X 133 28 [.ref 160, .int v1] [.int s1, .ref 167] (zk I) :=
  (zr_iconst t133_24 zci_1).trans <|
    zr_ic_ne (tgt := 32) t133_25 rfl
theorem k133_28 {X : Nat × (Nat → Int32)} {I : Nat → Nat → Int32} {v1 : Int32} {s1 : Int32} (q1 : zin s1 20 = true) : zr X 133 28 [.ref 160, .int v1] [.int s1, .ref 167] (zk I) = zr X 133 2 [.ref 160, .int (v1 + 1)] [] (zk (zs1 I 167 (zx s1) 1)) :=
  (zr_iconst t133_28 zci_1).trans <|
    (zr_goto (tgt := 33) t133_29 rfl).trans <|
    (zr_bast (j := zx s1) t133_33 (N := 20) rfl rfl q1 (Or.inr rfl)).trans <|
    (zr_iinc t133_34 rfl rfl (congrArg (fun z => v1 + z) zci_1) rfl).trans <|
    zr_goto (tgt := 2) t133_37 rfl
theorem k133_32 {X : Nat × (Nat → Int32)} {I : Nat → Nat → Int32} {v1 : Int32} {s1 : Int32} (q1 : zin s1 20 = true) : zr X 133 32 [.ref 160, .int v1] [.int s1, .ref 167] (zk I) = zr X 133 2 [.ref 160, .int (v1 + 1)] [] (zk (zs1 I 167 (zx s1) 0)) :=
  (zr_iconst t133_32 zci_0).trans <|
    (zr_bast (j := zx s1) t133_33 (N := 20) rfl rfl q1 (Or.inl rfl)).trans <|
    (zr_iinc t133_34 rfl rfl (congrArg (fun z => v1 + z) zci_1) rfl).trans <|
    zr_goto (tgt := 2) t133_37 rfl
theorem k133_40 {X : Nat × (Nat → Int32)} {I : Nat → Nat → Int32} {v1 : Int32}  : zr X 133 40 [.ref 160, .int v1] [] (zk I) = zcb (zr X 132 0 [.ref 160, .null] [] (zk I)) (fun v m1 => zr X 133 44 [.ref 160, .int v1] (v.toList ++ []) m1) :=
  (zr_aload_n t133_40 rfl).trans <|
    zr_callv t133_41 rfl rfl rfl rfl
theorem k133_44 {X : Nat × (Nat → Int32)} {I : Nat → Nat → Int32} {v1 : Int32}  : zr X 133 44 [.ref 160, .int v1] [] (zk I) = some (none, zk I) :=
  zr_vret t133_44 rfl
/-! X10_clashesWithOpen FiveInksModel.clashesWithOpen -/
theorem k134_0 {X : Nat × (Nat → Int32)} {I : Nat → Nat → Int32} {v1 : Int32} {v2 : Int32}  : zr X 134 0 [.ref 160, .int v1, .int v2, .null, .null] [] (zk I) = zr X 134 5 [.ref 160, .int v1, .int v2, .int 0, .int 0] [] (zk I) :=
  (zr_iconst t134_0 zci_0).trans <|
    (zr_istore_n t134_1 rfl rfl).trans <|
    (zr_iconst t134_2 zci_0).trans <|
    zr_istore t134_3 rfl rfl
theorem k134_5 {X : Nat × (Nat → Int32)} {I : Nat → Nat → Int32} {v1 : Int32} {v2 : Int32} {v3 : Int32} {v4 : Int32}  : zr X 134 5 [.ref 160, .int v1, .int v2, .int v3, .int v4] [] (zk I) = if (I 161 66) ≤ v4 then zr X 134 70 [.ref 160, .int v1, .int v2, .int v3, .int v4] [] (zk I) else zr X 134 17 [.ref 160, .int v1, .int v2, .int v3, .int v4] [] (zk I) :=
  (zr_iload t134_5 rfl).trans <|
    (zr_aload_n t134_7 rfl).trans <|
    (zr_getR (u := 161) t134_8 (rfl)).trans <|
    (zr_bipush t134_11 zcb_66).trans <|
    (zr_iald (j := 66) t134_13 (N := 675) rfl (by decide) (by decide)).trans <|
    zr_ic_ge (tgt := 70) t134_14 rfl
theorem k134_17 {X : Nat × (Nat → Int32)} {I : Nat → Nat → Int32} {v1 : Int32} {v2 : Int32} {v3 : Int32} {v4 : Int32}  : zr X 134 17 [.ref 160, .int v1, .int v2, .int v3, .int v4] [] (zk I) = if ¬ v3 = 0 then zr X 134 58 [.ref 160, .int v1, .int v2, .int v3, .int v4] [] (zk I) else zr X 134 21 [.ref 160, .int v1, .int v2, .int v3, .int v4] [] (zk I) :=
  (zr_iload_n t134_17 rfl).trans <|
    zr_if_ne (tgt := 58) t134_18 rfl
theorem k134_21 {X : Nat × (Nat → Int32)} {I : Nat → Nat → Int32} {v1 : Int32} {v2 : Int32} {v3 : Int32} {v4 : Int32}  : zr X 134 21 [.ref 160, .int v1, .int v2, .int v3, .int v4] [] (zk I) = if v4 = v1 then zr X 134 62 [.ref 160, .int v1, .int v2, .int v3, .int v4] [] (zk I) else zr X 134 27 [.ref 160, .int v1, .int v2, .int v3, .int v4] [] (zk I) :=
  (zr_iload t134_21 rfl).trans <|
    (zr_iload_n t134_23 rfl).trans <|
    zr_ic_eq (tgt := 62) t134_24 rfl
theorem k134_27 {X : Nat × (Nat → Int32)} {I : Nat → Nat → Int32} {v1 : Int32} {v2 : Int32} {v3 : Int32} {v4 : Int32}  : zr X 134 27 [.ref 160, .int v1, .int v2, .int v3, .int v4] [] (zk I) = zcb (zr X 117 0 [.ref 160, .int v4, .int 0] [] (zk I)) (fun v m1 => zr X 134 34 [.ref 160, .int v1, .int v2, .int v3, .int v4] (v.toList ++ []) m1) :=
  (zr_aload_n t134_27 rfl).trans <|
    (zr_iload t134_28 rfl).trans <|
    (zr_iconst t134_30 zci_0).trans <|
    zr_callv t134_31 rfl rfl rfl rfl
theorem k134_34 {X : Nat × (Nat → Int32)} {I : Nat → Nat → Int32} {v1 : Int32} {v2 : Int32} {v3 : Int32} {v4 : Int32} {s0 : Int32}  : zr X 134 34 [.ref 160, .int v1, .int v2, .int v3, .int v4] [.int s0] (zk I) = if ¬ s0 = v2 then zr X 134 62 [.ref 160, .int v1, .int v2, .int v3, .int v4] [] (zk I) else zr X 134 38 [.ref 160, .int v1, .int v2, .int v3, .int v4] [] (zk I) :=
  (zr_iload_n t134_34 rfl).trans <|
    zr_ic_ne (tgt := 62) t134_35 rfl
theorem k134_38 {X : Nat × (Nat → Int32)} {I : Nat → Nat → Int32} {v1 : Int32} {v2 : Int32} {v3 : Int32} {v4 : Int32}  : zr X 134 38 [.ref 160, .int v1, .int v2, .int v3, .int v4] [] (zk I) = zcb (zr X 117 0 [.ref 160, .int v4, .int 5] [] (zk I)) (fun v m1 => zr X 134 45 [.ref 160, .int v1, .int v2, .int v3, .int v4] (v.toList ++ []) m1) :=
  (zr_aload_n t134_38 rfl).trans <|
    (zr_iload t134_39 rfl).trans <|
    (zr_iconst t134_41 zci_5).trans <|
    zr_callv t134_42 rfl rfl rfl rfl
theorem k134_45 {X : Nat × (Nat → Int32)} {I : Nat → Nat → Int32} {v1 : Int32} {v2 : Int32} {v3 : Int32} {v4 : Int32} {s0 : Int32}  : zr X 134 45 [.ref 160, .int v1, .int v2, .int v3, .int v4] [.int s0] (zk I) = if ¬ s0 = 0 then zr X 134 62 [.ref 160, .int v1, .int v2, .int v3, .int v4] [] (zk I) else zr X 134 48 [.ref 160, .int v1, .int v2, .int v3, .int v4] [] (zk I) :=
  zr_if_ne (tgt := 62) t134_45 rfl
theorem k134_48 {X : Nat × (Nat → Int32)} {I : Nat → Nat → Int32} {v1 : Int32} {v2 : Int32} {v3 : Int32} {v4 : Int32}  : zr X 134 48 [.ref 160, .int v1, .int v2, .int v3, .int v4] [] (zk I) = zcb (zr X 124 0 [.ref 160, .int v1, .int v4, .null, .null, .null, .null] [] (zk I)) (fun v m1 => zr X 134 55 [.ref 160, .int v1, .int v2, .int v3, .int v4] (v.toList ++ []) m1) :=
  (zr_aload_n t134_48 rfl).trans <|
    (zr_iload_n t134_49 rfl).trans <|
    (zr_iload t134_50 rfl).trans <|
    zr_callv t134_52 rfl rfl rfl rfl
theorem k134_55 {X : Nat × (Nat → Int32)} {I : Nat → Nat → Int32} {v1 : Int32} {v2 : Int32} {v3 : Int32} {v4 : Int32} {s0 : Int32}  : zr X 134 55 [.ref 160, .int v1, .int v2, .int v3, .int v4] [.int s0] (zk I) = if s0 = 0 then zr X 134 62 [.ref 160, .int v1, .int v2, .int v3, .int v4] [] (zk I) else zr X 134 58 [.ref 160, .int v1, .int v2, .int v3, .int v4] [] (zk I) :=
  zr_if_eq (tgt := 62) t134_55 rfl
theorem k134_58 {X : Nat × (Nat → Int32)} {I : Nat → Nat → Int32} {v1 : Int32} {v2 : Int32} {v3 : Int32} {v4 : Int32}  : zr X 134 58 [.ref 160, .int v1, .int v2, .int v3, .int v4] [] (zk I) = zr X 134 5 [.ref 160, .int v1, .int v2, .int 1, .int (v4 + 1)] [] (zk I) :=
  (zr_iconst t134_58 zci_1).trans <|
    (zr_goto (tgt := 63) t134_59 rfl).trans <|
    (zr_istore_n t134_63 rfl rfl).trans <|
    (zr_iinc t134_64 rfl rfl (congrArg (fun z => v4 + z) zci_1) rfl).trans <|
    zr_goto (tgt := 5) t134_67 rfl
theorem k134_62 {X : Nat × (Nat → Int32)} {I : Nat → Nat → Int32} {v1 : Int32} {v2 : Int32} {v3 : Int32} {v4 : Int32}  : zr X 134 62 [.ref 160, .int v1, .int v2, .int v3, .int v4] [] (zk I) = zr X 134 5 [.ref 160, .int v1, .int v2, .int 0, .int (v4 + 1)] [] (zk I) :=
  (zr_iconst t134_62 zci_0).trans <|
    (zr_istore_n t134_63 rfl rfl).trans <|
    (zr_iinc t134_64 rfl rfl (congrArg (fun z => v4 + z) zci_1) rfl).trans <|
    zr_goto (tgt := 5) t134_67 rfl
theorem k134_70 {X : Nat × (Nat → Int32)} {I : Nat → Nat → Int32} {v1 : Int32} {v2 : Int32} {v3 : Int32} {v4 : Int32} (q1 : v3 = 0 ∨ v3 = 1) : zr X 134 70 [.ref 160, .int v1, .int v2, .int v3, .int v4] [] (zk I) = some (some (.int v3), zk I) :=
  (zr_iload_n t134_70 rfl).trans <|
    zr_zret t134_71 rfl q1
/-! X10_shows FiveInksModel.shows -/
theorem k135_0 {X : Nat × (Nat → Int32)} {I : Nat → Nat → Int32} {v1 : Int32}  : zr X 135 0 [.ref 160, .int v1, .null] [] (zk I) = zr X 135 2 [.ref 160, .int v1, .int 0] [] (zk I) :=
  (zr_iconst t135_0 zci_0).trans <|
    zr_istore_n t135_1 rfl rfl
theorem k135_2 {X : Nat × (Nat → Int32)} {I : Nat → Nat → Int32} {v1 : Int32} {v2 : Int32}  : zr X 135 2 [.ref 160, .int v1, .int v2] [] (zk I) = if (I 161 66) ≤ v2 then zr X 135 76 [.ref 160, .int v1, .int v2] [] (zk I) else zr X 135 13 [.ref 160, .int v1, .int v2] [] (zk I) :=
  (zr_iload_n t135_2 rfl).trans <|
    (zr_aload_n t135_3 rfl).trans <|
    (zr_getR (u := 161) t135_4 (rfl)).trans <|
    (zr_bipush t135_7 zcb_66).trans <|
    (zr_iald (j := 66) t135_9 (N := 675) rfl (by decide) (by decide)).trans <|
    zr_ic_ge (tgt := 76) t135_10 rfl
theorem k135_13 {X : Nat × (Nat → Int32)} {I : Nat → Nat → Int32} {v1 : Int32} {v2 : Int32}  : zr X 135 13 [.ref 160, .int v1, .int v2] [] (zk I) = zcb (zr X 117 0 [.ref 160, .int v2, .int 5] [] (zk I)) (fun v m1 => zr X 135 24 [.ref 160, .int v1, .int v2] (v.toList ++ [.int v2, .ref 167]) m1) :=
  (zr_aload_n t135_13 rfl).trans <|
    (zr_getR (u := 167) t135_14 (rfl)).trans <|
    (zr_iload_n t135_17 rfl).trans <|
    (zr_aload_n t135_18 rfl).trans <|
    (zr_iload_n t135_19 rfl).trans <|
    (zr_iconst t135_20 zci_5).trans <|
    zr_callv t135_21 rfl rfl rfl rfl
theorem k135_24 {X : Nat × (Nat → Int32)} {I : Nat → Nat → Int32} {v1 : Int32} {v2 : Int32} {s1 : Int32} {s2 : Int32}  : zr X 135 24 [.ref 160, .int v1, .int v2] [.int s2, .int s1, .ref 167] (zk I) = if ¬ s2 = 1 then zr X 135 45 [.ref 160, .int v1, .int v2] [.int s1, .ref 167] (zk I) else zr X 135 28 [.ref 160, .int v1, .int v2] [.int s1, .ref 167] (zk I) :=
  (zr_iconst t135_24 zci_1).trans <|
    zr_ic_ne (tgt := 45) t135_25 rfl
theorem k135_28 {X : Nat × (Nat → Int32)} {I : Nat → Nat → Int32} {v1 : Int32} {v2 : Int32} {s1 : Int32}  : zr X 135 28 [.ref 160, .int v1, .int v2] [.int s1, .ref 167] (zk I) = zcb (zr X 134 0 [.ref 160, .int v2, .int v1, .null, .null] [] (zk I)) (fun v m1 => zr X 135 34 [.ref 160, .int v1, .int v2] (v.toList ++ [.int s1, .ref 167]) m1) :=
  (zr_aload_n t135_28 rfl).trans <|
    (zr_iload_n t135_29 rfl).trans <|
    (zr_iload_n t135_30 rfl).trans <|
    zr_callv t135_31 rfl rfl rfl rfl
theorem k135_34 {X : Nat × (Nat → Int32)} {I : Nat → Nat → Int32} {v1 : Int32} {v2 : Int32} {s1 : Int32} {s2 : Int32}  : zr X 135 34 [.ref 160, .int v1, .int v2] [.int s2, .int s1, .ref 167] (zk I) = if ¬ s2 = 0 then zr X 135 41 [.ref 160, .int v1, .int v2] [.int s1, .ref 167] (zk I) else zr X 135 37 [.ref 160, .int v1, .int v2] [.int s1, .ref 167] (zk I) :=
  zr_if_ne (tgt := 41) t135_34 rfl
theorem k135_37 {X : Nat × (Nat → Int32)} {I : Nat → Nat → Int32} {v1 : Int32} {v2 : Int32} {s1 : Int32} (q1 : zin s1 20 = true) : zr X 135 37 [.ref 160, .int v1, .int v2] [.int s1, .ref 167] (zk I) = zr X 135 2 [.ref 160, .int v1, .int (v2 + 1)] [] (zk (zs1 I 167 (zx s1) 1)) :=
  (zr_iconst t135_37 zci_1).trans <|
    (zr_goto (tgt := 69) t135_38 rfl).trans <|
    (zr_bast (j := zx s1) t135_69 (N := 20) rfl rfl q1 (Or.inr rfl)).trans <|
    (zr_iinc t135_70 rfl rfl (congrArg (fun z => v2 + z) zci_1) rfl).trans <|
    zr_goto (tgt := 2) t135_73 rfl
theorem k135_41 {X : Nat × (Nat → Int32)} {I : Nat → Nat → Int32} {v1 : Int32} {v2 : Int32} {s1 : Int32} (q1 : zin s1 20 = true) : zr X 135 41 [.ref 160, .int v1, .int v2] [.int s1, .ref 167] (zk I) = zr X 135 2 [.ref 160, .int v1, .int (v2 + 1)] [] (zk (zs1 I 167 (zx s1) 0)) :=
  (zr_iconst t135_41 zci_0).trans <|
    (zr_goto (tgt := 69) t135_42 rfl).trans <|
    (zr_bast (j := zx s1) t135_69 (N := 20) rfl rfl q1 (Or.inl rfl)).trans <|
    (zr_iinc t135_70 rfl rfl (congrArg (fun z => v2 + z) zci_1) rfl).trans <|
    zr_goto (tgt := 2) t135_73 rfl
theorem k135_45 {X : Nat × (Nat → Int32)} {I : Nat → Nat → Int32} {v1 : Int32} {v2 : Int32} {s1 : Int32}  : zr X 135 45 [.ref 160, .int v1, .int v2] [.int s1, .ref 167] (zk I) = zcb (zr X 117 0 [.ref 160, .int v2, .int 5] [] (zk I)) (fun v m1 => zr X 135 51 [.ref 160, .int v1, .int v2] (v.toList ++ [.int s1, .ref 167]) m1) :=
  (zr_aload_n t135_45 rfl).trans <|
    (zr_iload_n t135_46 rfl).trans <|
    (zr_iconst t135_47 zci_5).trans <|
    zr_callv t135_48 rfl rfl rfl rfl
theorem k135_51 {X : Nat × (Nat → Int32)} {I : Nat → Nat → Int32} {v1 : Int32} {v2 : Int32} {s1 : Int32} {s2 : Int32}  : zr X 135 51 [.ref 160, .int v1, .int v2] [.int s2, .int s1, .ref 167] (zk I) = if ¬ s2 = 0 then zr X 135 68 [.ref 160, .int v1, .int v2] [.int s1, .ref 167] (zk I) else zr X 135 54 [.ref 160, .int v1, .int v2] [.int s1, .ref 167] (zk I) :=
  zr_if_ne (tgt := 68) t135_51 rfl
theorem k135_54 {X : Nat × (Nat → Int32)} {I : Nat → Nat → Int32} {v1 : Int32} {v2 : Int32} {s1 : Int32}  : zr X 135 54 [.ref 160, .int v1, .int v2] [.int s1, .ref 167] (zk I) = zcb (zr X 117 0 [.ref 160, .int v2, .int 0] [] (zk I)) (fun v m1 => zr X 135 60 [.ref 160, .int v1, .int v2] (v.toList ++ [.int s1, .ref 167]) m1) :=
  (zr_aload_n t135_54 rfl).trans <|
    (zr_iload_n t135_55 rfl).trans <|
    (zr_iconst t135_56 zci_0).trans <|
    zr_callv t135_57 rfl rfl rfl rfl
theorem k135_60 {X : Nat × (Nat → Int32)} {I : Nat → Nat → Int32} {v1 : Int32} {v2 : Int32} {s1 : Int32} {s2 : Int32}  : zr X 135 60 [.ref 160, .int v1, .int v2] [.int s2, .int s1, .ref 167] (zk I) = if ¬ s2 = v1 then zr X 135 68 [.ref 160, .int v1, .int v2] [.int s1, .ref 167] (zk I) else zr X 135 64 [.ref 160, .int v1, .int v2] [.int s1, .ref 167] (zk I) :=
  (zr_iload_n t135_60 rfl).trans <|
    zr_ic_ne (tgt := 68) t135_61 rfl
theorem k135_64 {X : Nat × (Nat → Int32)} {I : Nat → Nat → Int32} {v1 : Int32} {v2 : Int32} {s1 : Int32} (q1 : zin s1 20 = true) : zr X 135 64 [.ref 160, .int v1, .int v2] [.int s1, .ref 167] (zk I) = zr X 135 2 [.ref 160, .int v1, .int (v2 + 1)] [] (zk (zs1 I 167 (zx s1) 1)) :=
  (zr_iconst t135_64 zci_1).trans <|
    (zr_goto (tgt := 69) t135_65 rfl).trans <|
    (zr_bast (j := zx s1) t135_69 (N := 20) rfl rfl q1 (Or.inr rfl)).trans <|
    (zr_iinc t135_70 rfl rfl (congrArg (fun z => v2 + z) zci_1) rfl).trans <|
    zr_goto (tgt := 2) t135_73 rfl
theorem k135_68 {X : Nat × (Nat → Int32)} {I : Nat → Nat → Int32} {v1 : Int32} {v2 : Int32} {s1 : Int32} (q1 : zin s1 20 = true) : zr X 135 68 [.ref 160, .int v1, .int v2] [.int s1, .ref 167] (zk I) = zr X 135 2 [.ref 160, .int v1, .int (v2 + 1)] [] (zk (zs1 I 167 (zx s1) 0)) :=
  (zr_iconst t135_68 zci_0).trans <|
    (zr_bast (j := zx s1) t135_69 (N := 20) rfl rfl q1 (Or.inl rfl)).trans <|
    (zr_iinc t135_70 rfl rfl (congrArg (fun z => v2 + z) zci_1) rfl).trans <|
    zr_goto (tgt := 2) t135_73 rfl
theorem k135_76 {X : Nat × (Nat → Int32)} {I : Nat → Nat → Int32} {v1 : Int32} {v2 : Int32}  : zr X 135 76 [.ref 160, .int v1, .int v2] [] (zk I) = zcb (zr X 132 0 [.ref 160, .null] [] (zk I)) (fun v m1 => zr X 135 80 [.ref 160, .int v1, .int v2] (v.toList ++ []) m1) :=
  (zr_aload_n t135_76 rfl).trans <|
    zr_callv t135_77 rfl rfl rfl rfl
theorem k135_80 {X : Nat × (Nat → Int32)} {I : Nat → Nat → Int32} {v1 : Int32} {v2 : Int32}  : zr X 135 80 [.ref 160, .int v1, .int v2] [] (zk I) = some (none, zk I) :=
  zr_vret t135_80 rfl
/-! X10_begin FiveInksModel.begin -/
theorem k136_0 {X : Nat × (Nat → Int32)} {I : Nat → Nat → Int32}   : zr X 136 0 [.ref 160, .null] [] (zk I) = zr X 136 7 [.ref 160, .int 0] [] (zk (zs1 I 160 0 0)) :=
  (zr_aload_n t136_0 rfl).trans <|
    (zr_iconst t136_1 zci_0).trans <|
    (zr_putI t136_2 (rfl) (Or.inl rfl)).trans <|
    (zr_iconst t136_5 zci_0).trans <|
    zr_istore_n t136_6 rfl rfl
theorem k136_7 {X : Nat × (Nat → Int32)} {I : Nat → Nat → Int32} {v1 : Int32}  : zr X 136 7 [.ref 160, .int v1] [] (zk I) = if (I 160 8) ≤ v1 then zr X 136 40 [.ref 160, .int v1] [] (zk I) else zr X 136 15 [.ref 160, .int v1] [] (zk I) :=
  (zr_iload_n t136_7 rfl).trans <|
    (zr_aload_n t136_8 rfl).trans <|
    (zr_getI t136_9 (rfl)).trans <|
    zr_ic_ge (tgt := 40) t136_12 rfl
theorem k136_15 {X : Nat × (Nat → Int32)} {I : Nat → Nat → Int32} {v1 : Int32} (q1 : zin v1 60 = true) : zr X 136 15 [.ref 160, .int v1] [] (zk I) = zcb (zr X 116 0 [.int (I 166 (zx v1)), .int 97, .int 122] [] (zk I)) (fun v m1 => zr X 136 28 [.ref 160, .int v1] (v.toList ++ []) m1) :=
  (zr_aload_n t136_15 rfl).trans <|
    (zr_getR (u := 166) t136_16 (rfl)).trans <|
    (zr_iload_n t136_19 rfl).trans <|
    (zr_iald (j := zx v1) t136_20 (N := 60) rfl rfl q1).trans <|
    (zr_bipush t136_21 zcb_97).trans <|
    (zr_bipush t136_23 zcb_122).trans <|
    zr_calls t136_25 rfl rfl rfl rfl rfl
theorem k136_28 {X : Nat × (Nat → Int32)} {I : Nat → Nat → Int32} {v1 : Int32} {s0 : Int32}  : zr X 136 28 [.ref 160, .int v1] [.int s0] (zk I) = if ¬ s0 = 0 then zr X 136 34 [.ref 160, .int v1] [] (zk I) else zr X 136 31 [.ref 160, .int v1] [] (zk I) :=
  zr_if_ne (tgt := 34) t136_28 rfl
theorem k136_31 {X : Nat × (Nat → Int32)} {I : Nat → Nat → Int32} {v1 : Int32}  : zr X 136 31 [.ref 160, .int v1] [] (zk I) = some (some (.int (-3)), zk I) :=
  (zr_bipush t136_31 zcb_m3).trans <|
    zr_iret t136_33 rfl
theorem k136_34 {X : Nat × (Nat → Int32)} {I : Nat → Nat → Int32} {v1 : Int32}  : zr X 136 34 [.ref 160, .int v1] [] (zk I) = zr X 136 7 [.ref 160, .int (v1 + 1)] [] (zk I) :=
  (zr_iinc t136_34 rfl rfl (congrArg (fun z => v1 + z) zci_1) rfl).trans <|
    zr_goto (tgt := 7) t136_37 rfl
theorem k136_40 {X : Nat × (Nat → Int32)} {I : Nat → Nat → Int32} {v1 : Int32}  : zr X 136 40 [.ref 160, .int v1] [] (zk I) = zcb (zr X 121 0 [.ref 160, .null] [] (zk I)) (fun v m1 => zr X 136 44 [.ref 160, .int v1] (v.toList ++ []) m1) :=
  (zr_aload_n t136_40 rfl).trans <|
    zr_callv t136_41 rfl rfl rfl rfl
theorem k136_44 {X : Nat × (Nat → Int32)} {I : Nat → Nat → Int32} {v1 : Int32}  : zr X 136 44 [.ref 160, .int v1] [] (zk I) = zr X 136 46 [.ref 160, .int 0] [] (zk I) :=
  (zr_iconst t136_44 zci_0).trans <|
    zr_istore_n t136_45 rfl rfl
theorem k136_46 {X : Nat × (Nat → Int32)} {I : Nat → Nat → Int32} {v1 : Int32}  : zr X 136 46 [.ref 160, .int v1] [] (zk I) = if 675 ≤ v1 then zr X 136 86 [.ref 160, .int v1] [] (zk I) else zr X 136 53 [.ref 160, .int v1] [] (zk I) :=
  (zr_iload_n t136_46 rfl).trans <|
    (zr_sipush t136_47 zcs_675).trans <|
    zr_ic_ge (tgt := 86) t136_50 rfl
theorem k136_53 {X : Nat × (Nat → Int32)} {I : Nat → Nat → Int32} {v1 : Int32}  : zr X 136 53 [.ref 160, .int v1] [] (zk I) = zcb (zr X 116 0 [.int v1, .int 61, .int 65] [] (zk I)) (fun v m1 => zr X 136 66 [.ref 160, .int v1] (v.toList ++ [.int v1, .ref 161]) m1) :=
  (zr_aload_n t136_53 rfl).trans <|
    (zr_getR (u := 161) t136_54 (rfl)).trans <|
    (zr_iload_n t136_57 rfl).trans <|
    (zr_iload_n t136_58 rfl).trans <|
    (zr_bipush t136_59 zcb_61).trans <|
    (zr_bipush t136_61 zcb_65).trans <|
    zr_calls t136_63 rfl rfl rfl rfl rfl
theorem k136_66 {X : Nat × (Nat → Int32)} {I : Nat → Nat → Int32} {v1 : Int32} {s1 : Int32} {s2 : Int32}  : zr X 136 66 [.ref 160, .int v1] [.int s2, .int s1, .ref 161] (zk I) = if s2 = 0 then zr X 136 78 [.ref 160, .int v1] [.int s1, .ref 161] (zk I) else zr X 136 69 [.ref 160, .int v1] [.int s1, .ref 161] (zk I) :=
  zr_if_eq (tgt := 78) t136_66 rfl
theorem k136_69 {X : Nat × (Nat → Int32)} {I : Nat → Nat → Int32} {v1 : Int32} {s1 : Int32} (q1 : zin v1 675 = true) (q2 : zin s1 675 = true) : zr X 136 69 [.ref 160, .int v1] [.int s1, .ref 161] (zk I) = zr X 136 46 [.ref 160, .int (v1 + 1)] [] (zk (zs1 I 161 (zx s1) (I 161 (zx v1)))) :=
  (zr_aload_n t136_69 rfl).trans <|
    (zr_getR (u := 161) t136_70 (rfl)).trans <|
    (zr_iload_n t136_73 rfl).trans <|
    (zr_iald (j := zx v1) t136_74 (N := 675) rfl rfl q1).trans <|
    (zr_goto (tgt := 79) t136_75 rfl).trans <|
    (zr_iast (j := zx s1) t136_79 (N := 675) rfl rfl q2).trans <|
    (zr_iinc t136_80 rfl rfl (congrArg (fun z => v1 + z) zci_1) rfl).trans <|
    zr_goto (tgt := 46) t136_83 rfl
theorem k136_78 {X : Nat × (Nat → Int32)} {I : Nat → Nat → Int32} {v1 : Int32} {s1 : Int32} (q1 : zin s1 675 = true) : zr X 136 78 [.ref 160, .int v1] [.int s1, .ref 161] (zk I) = zr X 136 46 [.ref 160, .int (v1 + 1)] [] (zk (zs1 I 161 (zx s1) 0)) :=
  (zr_iconst t136_78 zci_0).trans <|
    (zr_iast (j := zx s1) t136_79 (N := 675) rfl rfl q1).trans <|
    (zr_iinc t136_80 rfl rfl (congrArg (fun z => v1 + z) zci_1) rfl).trans <|
    zr_goto (tgt := 46) t136_83 rfl
theorem k136_86 {X : Nat × (Nat → Int32)} {I : Nat → Nat → Int32} {v1 : Int32}  : zr X 136 86 [.ref 160, .int v1] [] (zk I) = zr X 136 88 [.ref 160, .int 0] [] (zk I) :=
  (zr_iconst t136_86 zci_0).trans <|
    zr_istore_n t136_87 rfl rfl
theorem k136_88 {X : Nat × (Nat → Int32)} {I : Nat → Nat → Int32} {v1 : Int32}  : zr X 136 88 [.ref 160, .int v1] [] (zk I) = if (I 160 8) ≤ v1 then zr X 136 119 [.ref 160, .int v1] [] (zk I) else zr X 136 96 [.ref 160, .int v1] [] (zk I) :=
  (zr_iload_n t136_88 rfl).trans <|
    (zr_aload_n t136_89 rfl).trans <|
    (zr_getI t136_90 (rfl)).trans <|
    zr_ic_ge (tgt := 119) t136_93 rfl
theorem k136_96 {X : Nat × (Nat → Int32)} {I : Nat → Nat → Int32} {v1 : Int32} (q1 : zin v1 60 = true) (q2 : zin (1 + v1) 675 = true) : zr X 136 96 [.ref 160, .int v1] [] (zk I) = zr X 136 88 [.ref 160, .int (v1 + 1)] [] (zk (zs1 I 161 (zx (1 + v1)) ((I 166 (zx v1)) - 97))) :=
  (zr_aload_n t136_96 rfl).trans <|
    (zr_getR (u := 161) t136_97 (rfl)).trans <|
    (zr_iconst t136_100 zci_1).trans <|
    (zr_iload_n t136_101 rfl).trans <|
    (zr_iadd t136_102).trans <|
    (zr_aload_n t136_103 rfl).trans <|
    (zr_getR (u := 166) t136_104 (rfl)).trans <|
    (zr_iload_n t136_107 rfl).trans <|
    (zr_iald (j := zx v1) t136_108 (N := 60) rfl rfl q1).trans <|
    (zr_bipush t136_109 zcb_97).trans <|
    (zr_isub t136_111).trans <|
    (zr_iast (j := zx (1 + v1)) t136_112 (N := 675) rfl rfl q2).trans <|
    (zr_iinc t136_113 rfl rfl (congrArg (fun z => v1 + z) zci_1) rfl).trans <|
    zr_goto (tgt := 88) t136_116 rfl
theorem k136_119 {X : Nat × (Nat → Int32)} {I : Nat → Nat → Int32} {v1 : Int32}  : zr X 136 119 [.ref 160, .int v1] [] (zk I) = some (some (.int ((zs1 I 161 0 (I 160 8)) 161 0)), zk (zs1 (zs1 I 161 0 (I 160 8)) 160 8 0)) :=
  (zr_aload_n t136_119 rfl).trans <|
    (zr_getR (u := 161) t136_120 (rfl)).trans <|
    (zr_iconst t136_123 zci_0).trans <|
    (zr_aload_n t136_124 rfl).trans <|
    (zr_getI t136_125 (rfl)).trans <|
    (zr_iast (j := 0) t136_128 (N := 675) rfl (by decide) (by decide)).trans <|
    (zr_aload_n t136_129 rfl).trans <|
    (zr_iconst t136_130 zci_0).trans <|
    (zr_putI t136_131 (rfl) (Or.inl rfl)).trans <|
    (zr_aload_n t136_134 rfl).trans <|
    (zr_getR (u := 161) t136_135 (rfl)).trans <|
    (zr_iconst t136_138 zci_0).trans <|
    (zr_iald (j := 0) t136_139 (N := 675) rfl (by decide) (by decide)).trans <|
    zr_iret t136_140 rfl
/-! X10_rank FiveInksModel.rank -/
theorem k137_0 {X : Nat × (Nat → Int32)} {I : Nat → Nat → Int32} {v1 : Int32} {v2 : Int32}  : zr X 137 0 [.ref 160, .int v1, .int v2, .null] [] (zk I) = zcb (zr X 120 0 [.int v1] [] (zk (zs1 I 160 0 0))) (fun v m1 => zr X 137 9 [.ref 160, .int v1, .int v2, .null] (v.toList ++ []) m1) :=
  (zr_aload_n t137_0 rfl).trans <|
    (zr_iconst t137_1 zci_0).trans <|
    (zr_putI t137_2 (rfl) (Or.inl rfl)).trans <|
    (zr_iload_n t137_5 rfl).trans <|
    zr_calls t137_6 rfl rfl rfl rfl rfl
theorem k137_9 {X : Nat × (Nat → Int32)} {I : Nat → Nat → Int32} {v1 : Int32} {v2 : Int32} {s0 : Int32}  : zr X 137 9 [.ref 160, .int v1, .int v2, .null] [.int s0] (zk I) = if ¬ s0 = 0 then zr X 137 14 [.ref 160, .int v1, .int v2, .null] [] (zk I) else zr X 137 12 [.ref 160, .int v1, .int v2, .null] [] (zk I) :=
  zr_if_ne (tgt := 14) t137_9 rfl
theorem k137_12 {X : Nat × (Nat → Int32)} {I : Nat → Nat → Int32} {v1 : Int32} {v2 : Int32}  : zr X 137 12 [.ref 160, .int v1, .int v2, .null] [] (zk I) = some (some (.int (-1)), zk I) :=
  (zr_iconst t137_12 zci_m1).trans <|
    zr_iret t137_13 rfl
theorem k137_14 {X : Nat × (Nat → Int32)} {I : Nat → Nat → Int32} {v1 : Int32} {v2 : Int32}  : zr X 137 14 [.ref 160, .int v1, .int v2, .null] [] (zk I) = zcb (zr X 116 0 [.int v2, .int 0, .int 9] [] (zk I)) (fun v m1 => zr X 137 21 [.ref 160, .int v1, .int v2, .null] (v.toList ++ []) m1) :=
  (zr_iload_n t137_14 rfl).trans <|
    (zr_iconst t137_15 zci_0).trans <|
    (zr_bipush t137_16 zcb_9).trans <|
    zr_calls t137_18 rfl rfl rfl rfl rfl
theorem k137_21 {X : Nat × (Nat → Int32)} {I : Nat → Nat → Int32} {v1 : Int32} {v2 : Int32} {s0 : Int32}  : zr X 137 21 [.ref 160, .int v1, .int v2, .null] [.int s0] (zk I) = if ¬ s0 = 0 then zr X 137 27 [.ref 160, .int v1, .int v2, .null] [] (zk I) else zr X 137 24 [.ref 160, .int v1, .int v2, .null] [] (zk I) :=
  zr_if_ne (tgt := 27) t137_21 rfl
theorem k137_24 {X : Nat × (Nat → Int32)} {I : Nat → Nat → Int32} {v1 : Int32} {v2 : Int32}  : zr X 137 24 [.ref 160, .int v1, .int v2, .null] [] (zk I) = some (some (.int (-2)), zk I) :=
  (zr_bipush t137_24 zcb_m2).trans <|
    zr_iret t137_26 rfl
theorem k137_27 {X : Nat × (Nat → Int32)} {I : Nat → Nat → Int32} {v1 : Int32} {v2 : Int32}  : zr X 137 27 [.ref 160, .int v1, .int v2, .null] [] (zk I) = zcb (zr X 121 0 [.ref 160, .null] [] (zk I)) (fun v m1 => zr X 137 31 [.ref 160, .int v1, .int v2, .null] (v.toList ++ []) m1) :=
  (zr_aload_n t137_27 rfl).trans <|
    zr_callv t137_28 rfl rfl rfl rfl
theorem k137_31 {X : Nat × (Nat → Int32)} {I : Nat → Nat → Int32} {v1 : Int32} {v2 : Int32} (q1 : zin (61 + v1) 675 = true) : zr X 137 31 [.ref 160, .int v1, .int v2, .null] [] (zk I) = some (some (.int (I 161 (zx (61 + v1)))), zk (zs1 I 161 (zx (61 + v1)) v2)) :=
  (zr_aload_n t137_31 rfl).trans <|
    (zr_getR (u := 161) t137_32 (rfl)).trans <|
    (zr_bipush t137_35 zcb_61).trans <|
    (zr_iload_n t137_37 rfl).trans <|
    (zr_iadd t137_38).trans <|
    (zr_iald (j := zx (61 + v1)) t137_39 (N := 675) rfl rfl q1).trans <|
    (zr_istore_n t137_40 rfl rfl).trans <|
    (zr_aload_n t137_41 rfl).trans <|
    (zr_getR (u := 161) t137_42 (rfl)).trans <|
    (zr_bipush t137_45 zcb_61).trans <|
    (zr_iload_n t137_47 rfl).trans <|
    (zr_iadd t137_48).trans <|
    (zr_iload_n t137_49 rfl).trans <|
    (zr_iast (j := zx (61 + v1)) t137_50 (N := 675) rfl rfl q1).trans <|
    (zr_iload_n t137_51 rfl).trans <|
    zr_iret t137_52 rfl
/-! X10_isAgainstOwn FiveInksModel.isAgainstOwn -/
theorem k138_0 {X : Nat × (Nat → Int32)} {I : Nat → Nat → Int32} {v1 : Int32}  : zr X 138 0 [.ref 160, .int v1, .null, .null] [] (zk I) = zr X 138 4 [.ref 160, .int v1, .int 0, .int 0] [] (zk I) :=
  (zr_iconst t138_0 zci_0).trans <|
    (zr_istore_n t138_1 rfl rfl).trans <|
    (zr_iconst t138_2 zci_0).trans <|
    zr_istore_n t138_3 rfl rfl
theorem k138_4 {X : Nat × (Nat → Int32)} {I : Nat → Nat → Int32} {v1 : Int32} {v2 : Int32} {v3 : Int32}  : zr X 138 4 [.ref 160, .int v1, .int v2, .int v3] [] (zk I) = if v1 ≤ v3 then zr X 138 59 [.ref 160, .int v1, .int v2, .int v3] [] (zk I) else zr X 138 9 [.ref 160, .int v1, .int v2, .int v3] [] (zk I) :=
  (zr_iload_n t138_4 rfl).trans <|
    (zr_iload_n t138_5 rfl).trans <|
    zr_ic_ge (tgt := 59) t138_6 rfl
theorem k138_9 {X : Nat × (Nat → Int32)} {I : Nat → Nat → Int32} {v1 : Int32} {v2 : Int32} {v3 : Int32}  : zr X 138 9 [.ref 160, .int v1, .int v2, .int v3] [] (zk I) = if ¬ v2 = 0 then zr X 138 47 [.ref 160, .int v1, .int v2, .int v3] [] (zk I) else zr X 138 13 [.ref 160, .int v1, .int v2, .int v3] [] (zk I) :=
  (zr_iload_n t138_9 rfl).trans <|
    zr_if_ne (tgt := 47) t138_10 rfl
theorem k138_13 {X : Nat × (Nat → Int32)} {I : Nat → Nat → Int32} {v1 : Int32} {v2 : Int32} {v3 : Int32}  : zr X 138 13 [.ref 160, .int v1, .int v2, .int v3] [] (zk I) = zcb (zr X 117 0 [.ref 160, .int v3, .int 0] [] (zk I)) (fun v m1 => zr X 138 19 [.ref 160, .int v1, .int v2, .int v3] (v.toList ++ []) m1) :=
  (zr_aload_n t138_13 rfl).trans <|
    (zr_iload_n t138_14 rfl).trans <|
    (zr_iconst t138_15 zci_0).trans <|
    zr_callv t138_16 rfl rfl rfl rfl
theorem k138_19 {X : Nat × (Nat → Int32)} {I : Nat → Nat → Int32} {v1 : Int32} {v2 : Int32} {v3 : Int32} {s0 : Int32}  : zr X 138 19 [.ref 160, .int v1, .int v2, .int v3] [.int s0] (zk I) = zcb (zr X 117 0 [.ref 160, .int v1, .int 0] [] (zk I)) (fun v m1 => zr X 138 25 [.ref 160, .int v1, .int v2, .int v3] (v.toList ++ [.int s0]) m1) :=
  (zr_aload_n t138_19 rfl).trans <|
    (zr_iload_n t138_20 rfl).trans <|
    (zr_iconst t138_21 zci_0).trans <|
    zr_callv t138_22 rfl rfl rfl rfl
theorem k138_25 {X : Nat × (Nat → Int32)} {I : Nat → Nat → Int32} {v1 : Int32} {v2 : Int32} {v3 : Int32} {s0 : Int32} {s1 : Int32}  : zr X 138 25 [.ref 160, .int v1, .int v2, .int v3] [.int s1, .int s0] (zk I) = if ¬ s0 = s1 then zr X 138 51 [.ref 160, .int v1, .int v2, .int v3] [] (zk I) else zr X 138 28 [.ref 160, .int v1, .int v2, .int v3] [] (zk I) :=
  zr_ic_ne (tgt := 51) t138_25 rfl
theorem k138_28 {X : Nat × (Nat → Int32)} {I : Nat → Nat → Int32} {v1 : Int32} {v2 : Int32} {v3 : Int32}  : zr X 138 28 [.ref 160, .int v1, .int v2, .int v3] [] (zk I) = zcb (zr X 117 0 [.ref 160, .int v3, .int 5] [] (zk I)) (fun v m1 => zr X 138 34 [.ref 160, .int v1, .int v2, .int v3] (v.toList ++ []) m1) :=
  (zr_aload_n t138_28 rfl).trans <|
    (zr_iload_n t138_29 rfl).trans <|
    (zr_iconst t138_30 zci_5).trans <|
    zr_callv t138_31 rfl rfl rfl rfl
theorem k138_34 {X : Nat × (Nat → Int32)} {I : Nat → Nat → Int32} {v1 : Int32} {v2 : Int32} {v3 : Int32} {s0 : Int32}  : zr X 138 34 [.ref 160, .int v1, .int v2, .int v3] [.int s0] (zk I) = if s0 = 2 then zr X 138 51 [.ref 160, .int v1, .int v2, .int v3] [] (zk I) else zr X 138 38 [.ref 160, .int v1, .int v2, .int v3] [] (zk I) :=
  (zr_iconst t138_34 zci_2).trans <|
    zr_ic_eq (tgt := 51) t138_35 rfl
theorem k138_38 {X : Nat × (Nat → Int32)} {I : Nat → Nat → Int32} {v1 : Int32} {v2 : Int32} {v3 : Int32}  : zr X 138 38 [.ref 160, .int v1, .int v2, .int v3] [] (zk I) = zcb (zr X 124 0 [.ref 160, .int v1, .int v3, .null, .null, .null, .null] [] (zk I)) (fun v m1 => zr X 138 44 [.ref 160, .int v1, .int v2, .int v3] (v.toList ++ []) m1) :=
  (zr_aload_n t138_38 rfl).trans <|
    (zr_iload_n t138_39 rfl).trans <|
    (zr_iload_n t138_40 rfl).trans <|
    zr_callv t138_41 rfl rfl rfl rfl
theorem k138_44 {X : Nat × (Nat → Int32)} {I : Nat → Nat → Int32} {v1 : Int32} {v2 : Int32} {v3 : Int32} {s0 : Int32}  : zr X 138 44 [.ref 160, .int v1, .int v2, .int v3] [.int s0] (zk I) = if s0 = 0 then zr X 138 51 [.ref 160, .int v1, .int v2, .int v3] [] (zk I) else zr X 138 47 [.ref 160, .int v1, .int v2, .int v3] [] (zk I) :=
  zr_if_eq (tgt := 51) t138_44 rfl
theorem k138_47 {X : Nat × (Nat → Int32)} {I : Nat → Nat → Int32} {v1 : Int32} {v2 : Int32} {v3 : Int32}  : zr X 138 47 [.ref 160, .int v1, .int v2, .int v3] [] (zk I) = zr X 138 4 [.ref 160, .int v1, .int 1, .int (v3 + 1)] [] (zk I) :=
  (zr_iconst t138_47 zci_1).trans <|
    (zr_goto (tgt := 52) t138_48 rfl).trans <|
    (zr_istore_n t138_52 rfl rfl).trans <|
    (zr_iinc t138_53 rfl rfl (congrArg (fun z => v3 + z) zci_1) rfl).trans <|
    zr_goto (tgt := 4) t138_56 rfl
theorem k138_51 {X : Nat × (Nat → Int32)} {I : Nat → Nat → Int32} {v1 : Int32} {v2 : Int32} {v3 : Int32}  : zr X 138 51 [.ref 160, .int v1, .int v2, .int v3] [] (zk I) = zr X 138 4 [.ref 160, .int v1, .int 0, .int (v3 + 1)] [] (zk I) :=
  (zr_iconst t138_51 zci_0).trans <|
    (zr_istore_n t138_52 rfl rfl).trans <|
    (zr_iinc t138_53 rfl rfl (congrArg (fun z => v3 + z) zci_1) rfl).trans <|
    zr_goto (tgt := 4) t138_56 rfl
theorem k138_59 {X : Nat × (Nat → Int32)} {I : Nat → Nat → Int32} {v1 : Int32} {v2 : Int32} {v3 : Int32} (q1 : v2 = 0 ∨ v2 = 1) : zr X 138 59 [.ref 160, .int v1, .int v2, .int v3] [] (zk I) = some (some (.int v2), zk I) :=
  (zr_iload_n t138_59 rfl).trans <|
    zr_zret t138_60 rfl q1
/-! X10_clears FiveInksModel.clears -/
theorem k139_0 {X : Nat × (Nat → Int32)} {I : Nat → Nat → Int32} {v1 : Int32}  : zr X 139 0 [.ref 160, .int v1, .null] [] (zk I) = zr X 139 2 [.ref 160, .int v1, .int 0] [] (zk I) :=
  (zr_iconst t139_0 zci_0).trans <|
    zr_istore_n t139_1 rfl rfl
theorem k139_2 {X : Nat × (Nat → Int32)} {I : Nat → Nat → Int32} {v1 : Int32} {v2 : Int32}  : zr X 139 2 [.ref 160, .int v1, .int v2] [] (zk I) = if 12 ≤ v2 then zr X 139 21 [.ref 160, .int v1, .int v2] [] (zk I) else zr X 139 8 [.ref 160, .int v1, .int v2] [] (zk I) :=
  (zr_iload_n t139_2 rfl).trans <|
    (zr_bipush t139_3 zcb_12).trans <|
    zr_ic_ge (tgt := 21) t139_5 rfl
theorem k139_8 {X : Nat × (Nat → Int32)} {I : Nat → Nat → Int32} {v1 : Int32} {v2 : Int32}  : zr X 139 8 [.ref 160, .int v1, .int v2] [] (zk I) = zcb (zr X 118 0 [.ref 160, .int v1, .int v2, .int 0] [] (zk I)) (fun v m1 => zr X 139 15 [.ref 160, .int v1, .int v2] (v.toList ++ []) m1) :=
  (zr_aload_n t139_8 rfl).trans <|
    (zr_iload_n t139_9 rfl).trans <|
    (zr_iload_n t139_10 rfl).trans <|
    (zr_iconst t139_11 zci_0).trans <|
    zr_callv t139_12 rfl rfl rfl rfl
theorem k139_15 {X : Nat × (Nat → Int32)} {I : Nat → Nat → Int32} {v1 : Int32} {v2 : Int32}  : zr X 139 15 [.ref 160, .int v1, .int v2] [] (zk I) = zr X 139 2 [.ref 160, .int v1, .int (v2 + 1)] [] (zk I) :=
  (zr_iinc t139_15 rfl rfl (congrArg (fun z => v2 + z) zci_1) rfl).trans <|
    zr_goto (tgt := 2) t139_18 rfl
theorem k139_21 {X : Nat × (Nat → Int32)} {I : Nat → Nat → Int32} {v1 : Int32} {v2 : Int32}  : zr X 139 21 [.ref 160, .int v1, .int v2] [] (zk I) = some (none, zk I) :=
  zr_vret t139_21 rfl
/-! X10_laysMark FiveInksModel.laysMark -/
theorem k140_0 {X : Nat × (Nat → Int32)} {I : Nat → Nat → Int32} {v1 : Int32} {v2 : Int32} {v3 : Int32} {v4 : Int32}  : zr X 140 0 [.ref 160, .int v1, .int v2, .int v3, .int v4, .null] [] (zk I) = zcb (zr X 139 0 [.ref 160, .int (I 161 66), .null] [] (zk I)) (fun v m1 => zr X 140 15 [.ref 160, .int v1, .int v2, .int v3, .int v4, .int (I 161 66)] (v.toList ++ []) m1) :=
  (zr_aload_n t140_0 rfl).trans <|
    (zr_getR (u := 161) t140_1 (rfl)).trans <|
    (zr_bipush t140_4 zcb_66).trans <|
    (zr_iald (j := 66) t140_6 (N := 675) rfl (by decide) (by decide)).trans <|
    (zr_istore t140_7 rfl rfl).trans <|
    (zr_aload_n t140_9 rfl).trans <|
    (zr_iload t140_10 rfl).trans <|
    zr_callv t140_12 rfl rfl rfl rfl
theorem k140_15 {X : Nat × (Nat → Int32)} {I : Nat → Nat → Int32} {v1 : Int32} {v2 : Int32} {v3 : Int32} {v4 : Int32} {v5 : Int32}  : zr X 140 15 [.ref 160, .int v1, .int v2, .int v3, .int v4, .int v5] [] (zk I) = zcb (zr X 118 0 [.ref 160, .int v5, .int 0, .int v1] [] (zk I)) (fun v m1 => zr X 140 23 [.ref 160, .int v1, .int v2, .int v3, .int v4, .int v5] (v.toList ++ []) m1) :=
  (zr_aload_n t140_15 rfl).trans <|
    (zr_iload t140_16 rfl).trans <|
    (zr_iconst t140_18 zci_0).trans <|
    (zr_iload_n t140_19 rfl).trans <|
    zr_callv t140_20 rfl rfl rfl rfl
theorem k140_23 {X : Nat × (Nat → Int32)} {I : Nat → Nat → Int32} {v1 : Int32} {v2 : Int32} {v3 : Int32} {v4 : Int32} {v5 : Int32}  : zr X 140 23 [.ref 160, .int v1, .int v2, .int v3, .int v4, .int v5] [] (zk I) = zcb (zr X 118 0 [.ref 160, .int v5, .int 1, .int v2] [] (zk I)) (fun v m1 => zr X 140 31 [.ref 160, .int v1, .int v2, .int v3, .int v4, .int v5] (v.toList ++ []) m1) :=
  (zr_aload_n t140_23 rfl).trans <|
    (zr_iload t140_24 rfl).trans <|
    (zr_iconst t140_26 zci_1).trans <|
    (zr_iload_n t140_27 rfl).trans <|
    zr_callv t140_28 rfl rfl rfl rfl
theorem k140_31 {X : Nat × (Nat → Int32)} {I : Nat → Nat → Int32} {v1 : Int32} {v2 : Int32} {v3 : Int32} {v4 : Int32} {v5 : Int32}  : zr X 140 31 [.ref 160, .int v1, .int v2, .int v3, .int v4, .int v5] [] (zk I) = zcb (zr X 118 0 [.ref 160, .int v5, .int 2, .int v3] [] (zk I)) (fun v m1 => zr X 140 39 [.ref 160, .int v1, .int v2, .int v3, .int v4, .int v5] (v.toList ++ []) m1) :=
  (zr_aload_n t140_31 rfl).trans <|
    (zr_iload t140_32 rfl).trans <|
    (zr_iconst t140_34 zci_2).trans <|
    (zr_iload_n t140_35 rfl).trans <|
    zr_callv t140_36 rfl rfl rfl rfl
theorem k140_39 {X : Nat × (Nat → Int32)} {I : Nat → Nat → Int32} {v1 : Int32} {v2 : Int32} {v3 : Int32} {v4 : Int32} {v5 : Int32}  : zr X 140 39 [.ref 160, .int v1, .int v2, .int v3, .int v4, .int v5] [] (zk I) = zcb (zr X 118 0 [.ref 160, .int v5, .int 3, .int v4] [] (zk I)) (fun v m1 => zr X 140 48 [.ref 160, .int v1, .int v2, .int v3, .int v4, .int v5] (v.toList ++ []) m1) :=
  (zr_aload_n t140_39 rfl).trans <|
    (zr_iload t140_40 rfl).trans <|
    (zr_iconst t140_42 zci_3).trans <|
    (zr_iload t140_43 rfl).trans <|
    zr_callv t140_45 rfl rfl rfl rfl
theorem k140_48 {X : Nat × (Nat → Int32)} {I : Nat → Nat → Int32} {v1 : Int32} {v2 : Int32} {v3 : Int32} {v4 : Int32} {v5 : Int32}  : zr X 140 48 [.ref 160, .int v1, .int v2, .int v3, .int v4, .int v5] [] (zk I) = some (none, zk I) :=
  zr_vret t140_48 rfl
/-! X10_makes FiveInksModel.makes -/
theorem k141_0 {X : Nat × (Nat → Int32)} {I : Nat → Nat → Int32} {v1 : Int32} (q1 : zin (v1 + 2) 192 = true) : zr X 141 0 [.ref 160, .int v1, .null, .null, .null] [] (zk I) = if (I 161 0) < (I 172 (zx (v1 + 2))) then zr X 141 38 [.ref 160, .int v1, .null, .null, .null] [] (zk I) else zr X 141 17 [.ref 160, .int v1, .null, .null, .null] [] (zk I) :=
  (zr_aload_n t141_0 rfl).trans <|
    (zr_getR (u := 172) t141_1 (rfl)).trans <|
    (zr_iload_n t141_4 rfl).trans <|
    (zr_iconst t141_5 zci_2).trans <|
    (zr_iadd t141_6).trans <|
    (zr_iald (j := zx (v1 + 2)) t141_7 (N := 192) rfl rfl q1).trans <|
    (zr_aload_n t141_8 rfl).trans <|
    (zr_getR (u := 161) t141_9 (rfl)).trans <|
    (zr_iconst t141_12 zci_0).trans <|
    (zr_iald (j := 0) t141_13 (N := 675) rfl (by decide) (by decide)).trans <|
    zr_ic_gt (tgt := 38) t141_14 rfl
theorem k141_17 {X : Nat × (Nat → Int32)} {I : Nat → Nat → Int32} {v1 : Int32} (q1 : zin (v1 + 3) 192 = true) : zr X 141 17 [.ref 160, .int v1, .null, .null, .null] [] (zk I) = if (I 161 0) < (I 172 (zx (v1 + 3))) then zr X 141 38 [.ref 160, .int v1, .null, .null, .null] [] (zk I) else zr X 141 34 [.ref 160, .int v1, .null, .null, .null] [] (zk I) :=
  (zr_aload_n t141_17 rfl).trans <|
    (zr_getR (u := 172) t141_18 (rfl)).trans <|
    (zr_iload_n t141_21 rfl).trans <|
    (zr_iconst t141_22 zci_3).trans <|
    (zr_iadd t141_23).trans <|
    (zr_iald (j := zx (v1 + 3)) t141_24 (N := 192) rfl rfl q1).trans <|
    (zr_aload_n t141_25 rfl).trans <|
    (zr_getR (u := 161) t141_26 (rfl)).trans <|
    (zr_iconst t141_29 zci_0).trans <|
    (zr_iald (j := 0) t141_30 (N := 675) rfl (by decide) (by decide)).trans <|
    zr_ic_gt (tgt := 38) t141_31 rfl
theorem k141_34 {X : Nat × (Nat → Int32)} {I : Nat → Nat → Int32} {v1 : Int32} (q1 : zin (v1 + 1) 192 = true) : zr X 141 34 [.ref 160, .int v1, .null, .null, .null] [] (zk I) = if (I 172 (zx (v1 + 1))) = 1 then zr X 141 71 [.ref 160, .int v1, .int 1, .null, .null] [] (zk I) else zr X 141 52 [.ref 160, .int v1, .int 1, .null, .null] [] (zk I) :=
  (zr_iconst t141_34 zci_1).trans <|
    (zr_goto (tgt := 39) t141_35 rfl).trans <|
    (zr_istore_n t141_39 rfl rfl).trans <|
    (zr_aload_n t141_40 rfl).trans <|
    (zr_getR (u := 172) t141_41 (rfl)).trans <|
    (zr_iload_n t141_44 rfl).trans <|
    (zr_iconst t141_45 zci_1).trans <|
    (zr_iadd t141_46).trans <|
    (zr_iald (j := zx (v1 + 1)) t141_47 (N := 192) rfl rfl q1).trans <|
    (zr_iconst t141_48 zci_1).trans <|
    zr_ic_eq (tgt := 71) t141_49 rfl
theorem k141_38 {X : Nat × (Nat → Int32)} {I : Nat → Nat → Int32} {v1 : Int32} (q1 : zin (v1 + 1) 192 = true) : zr X 141 38 [.ref 160, .int v1, .null, .null, .null] [] (zk I) = if (I 172 (zx (v1 + 1))) = 1 then zr X 141 71 [.ref 160, .int v1, .int 0, .null, .null] [] (zk I) else zr X 141 52 [.ref 160, .int v1, .int 0, .null, .null] [] (zk I) :=
  (zr_iconst t141_38 zci_0).trans <|
    (zr_istore_n t141_39 rfl rfl).trans <|
    (zr_aload_n t141_40 rfl).trans <|
    (zr_getR (u := 172) t141_41 (rfl)).trans <|
    (zr_iload_n t141_44 rfl).trans <|
    (zr_iconst t141_45 zci_1).trans <|
    (zr_iadd t141_46).trans <|
    (zr_iald (j := zx (v1 + 1)) t141_47 (N := 192) rfl rfl q1).trans <|
    (zr_iconst t141_48 zci_1).trans <|
    zr_ic_eq (tgt := 71) t141_49 rfl
theorem k141_52 {X : Nat × (Nat → Int32)} {I : Nat → Nat → Int32} {v1 : Int32} {v2 : Int32} (q1 : zin (v1 + 3) 192 = true) (q2 : zin (v1 + 2) 192 = true) : zr X 141 52 [.ref 160, .int v1, .int v2, .null, .null] [] (zk I) = if (I 172 (zx (v1 + 3))) ≤ (I 172 (zx (v1 + 2))) then zr X 141 75 [.ref 160, .int v1, .int v2, .null, .null] [] (zk I) else zr X 141 71 [.ref 160, .int v1, .int v2, .null, .null] [] (zk I) :=
  (zr_aload_n t141_52 rfl).trans <|
    (zr_getR (u := 172) t141_53 (rfl)).trans <|
    (zr_iload_n t141_56 rfl).trans <|
    (zr_iconst t141_57 zci_3).trans <|
    (zr_iadd t141_58).trans <|
    (zr_iald (j := zx (v1 + 3)) t141_59 (N := 192) rfl rfl q1).trans <|
    (zr_aload_n t141_60 rfl).trans <|
    (zr_getR (u := 172) t141_61 (rfl)).trans <|
    (zr_iload_n t141_64 rfl).trans <|
    (zr_iconst t141_65 zci_2).trans <|
    (zr_iadd t141_66).trans <|
    (zr_iald (j := zx (v1 + 2)) t141_67 (N := 192) rfl rfl q2).trans <|
    zr_ic_le (tgt := 75) t141_68 rfl
theorem k141_71 {X : Nat × (Nat → Int32)} {I : Nat → Nat → Int32} {v1 : Int32} {v2 : Int32}  : zr X 141 71 [.ref 160, .int v1, .int v2, .null, .null] [] (zk I) = if v2 = 0 then zr X 141 97 [.ref 160, .int v1, .int v2, .int 1, .null] [] (zk I) else zr X 141 81 [.ref 160, .int v1, .int v2, .int 1, .null] [] (zk I) :=
  (zr_iconst t141_71 zci_1).trans <|
    (zr_goto (tgt := 76) t141_72 rfl).trans <|
    (zr_istore_n t141_76 rfl rfl).trans <|
    (zr_iload_n t141_77 rfl).trans <|
    zr_if_eq (tgt := 97) t141_78 rfl
theorem k141_75 {X : Nat × (Nat → Int32)} {I : Nat → Nat → Int32} {v1 : Int32} {v2 : Int32}  : zr X 141 75 [.ref 160, .int v1, .int v2, .null, .null] [] (zk I) = if v2 = 0 then zr X 141 97 [.ref 160, .int v1, .int v2, .int 0, .null] [] (zk I) else zr X 141 81 [.ref 160, .int v1, .int v2, .int 0, .null] [] (zk I) :=
  (zr_iconst t141_75 zci_0).trans <|
    (zr_istore_n t141_76 rfl rfl).trans <|
    (zr_iload_n t141_77 rfl).trans <|
    zr_if_eq (tgt := 97) t141_78 rfl
theorem k141_81 {X : Nat × (Nat → Int32)} {I : Nat → Nat → Int32} {v1 : Int32} {v2 : Int32} {v3 : Int32}  : zr X 141 81 [.ref 160, .int v1, .int v2, .int v3, .null] [] (zk I) = if v3 = 0 then zr X 141 97 [.ref 160, .int v1, .int v2, .int v3, .null] [] (zk I) else zr X 141 85 [.ref 160, .int v1, .int v2, .int v3, .null] [] (zk I) :=
  (zr_iload_n t141_81 rfl).trans <|
    zr_if_eq (tgt := 97) t141_82 rfl
theorem k141_85 {X : Nat × (Nat → Int32)} {I : Nat → Nat → Int32} {v1 : Int32} {v2 : Int32} {v3 : Int32}  : zr X 141 85 [.ref 160, .int v1, .int v2, .int v3, .null] [] (zk I) = if ¬ (I 161 66) = 20 then zr X 141 99 [.ref 160, .int v1, .int v2, .int v3, .null] [] (zk I) else zr X 141 97 [.ref 160, .int v1, .int v2, .int v3, .null] [] (zk I) :=
  (zr_aload_n t141_85 rfl).trans <|
    (zr_getR (u := 161) t141_86 (rfl)).trans <|
    (zr_bipush t141_89 zcb_66).trans <|
    (zr_iald (j := 66) t141_91 (N := 675) rfl (by decide) (by decide)).trans <|
    (zr_bipush t141_92 zcb_20).trans <|
    zr_ic_ne (tgt := 99) t141_94 rfl
theorem k141_97 {X : Nat × (Nat → Int32)} {I : Nat → Nat → Int32} {v1 : Int32} {v2 : Int32} {v3 : Int32}  : zr X 141 97 [.ref 160, .int v1, .int v2, .int v3, .null] [] (zk I) = some (some (.int 0), zk I) :=
  (zr_iconst t141_97 zci_0).trans <|
    zr_zret t141_98 rfl (Or.inl rfl)
theorem k141_99 {X : Nat × (Nat → Int32)} {I : Nat → Nat → Int32} {v1 : Int32} {v2 : Int32} {v3 : Int32}  : zr X 141 99 [.ref 160, .int v1, .int v2, .int v3, .null] [] (zk I) = zr X 141 102 [.ref 160, .int v1, .int v2, .int v3, .int 0] [] (zk I) :=
  (zr_iconst t141_99 zci_0).trans <|
    zr_istore t141_100 rfl rfl
theorem k141_102 {X : Nat × (Nat → Int32)} {I : Nat → Nat → Int32} {v1 : Int32} {v2 : Int32} {v3 : Int32} {v4 : Int32}  : zr X 141 102 [.ref 160, .int v1, .int v2, .int v3, .int v4] [] (zk I) = if 12 ≤ v4 then zr X 141 137 [.ref 160, .int v1, .int v2, .int v3, .int v4] [] (zk I) else zr X 141 109 [.ref 160, .int v1, .int v2, .int v3, .int v4] [] (zk I) :=
  (zr_iload t141_102 rfl).trans <|
    (zr_bipush t141_104 zcb_12).trans <|
    zr_ic_ge (tgt := 137) t141_106 rfl
theorem k141_109 {X : Nat × (Nat → Int32)} {I : Nat → Nat → Int32} {v1 : Int32} {v2 : Int32} {v3 : Int32} {v4 : Int32} (q1 : zin (v1 + v4) 192 = true) : zr X 141 109 [.ref 160, .int v1, .int v2, .int v3, .int v4] [] (zk I) = zcb (zr X 118 0 [.ref 160, .int (I 161 66), .int v4, .int (I 172 (zx (v1 + v4)))] [] (zk I)) (fun v m1 => zr X 141 131 [.ref 160, .int v1, .int v2, .int v3, .int v4] (v.toList ++ []) m1) :=
  (zr_aload_n t141_109 rfl).trans <|
    (zr_aload_n t141_110 rfl).trans <|
    (zr_getR (u := 161) t141_111 (rfl)).trans <|
    (zr_bipush t141_114 zcb_66).trans <|
    (zr_iald (j := 66) t141_116 (N := 675) rfl (by decide) (by decide)).trans <|
    (zr_iload t141_117 rfl).trans <|
    (zr_aload_n t141_119 rfl).trans <|
    (zr_getR (u := 172) t141_120 (rfl)).trans <|
    (zr_iload_n t141_123 rfl).trans <|
    (zr_iload t141_124 rfl).trans <|
    (zr_iadd t141_126).trans <|
    (zr_iald (j := zx (v1 + v4)) t141_127 (N := 192) rfl rfl q1).trans <|
    zr_callv t141_128 rfl rfl rfl rfl
theorem k141_131 {X : Nat × (Nat → Int32)} {I : Nat → Nat → Int32} {v1 : Int32} {v2 : Int32} {v3 : Int32} {v4 : Int32}  : zr X 141 131 [.ref 160, .int v1, .int v2, .int v3, .int v4] [] (zk I) = zr X 141 102 [.ref 160, .int v1, .int v2, .int v3, .int (v4 + 1)] [] (zk I) :=
  (zr_iinc t141_131 rfl rfl (congrArg (fun z => v4 + z) zci_1) rfl).trans <|
    zr_goto (tgt := 102) t141_134 rfl
theorem k141_137 {X : Nat × (Nat → Int32)} {I : Nat → Nat → Int32} {v1 : Int32} {v2 : Int32} {v3 : Int32} {v4 : Int32}  : zr X 141 137 [.ref 160, .int v1, .int v2, .int v3, .int v4] [] (zk I) = zcb (zr X 138 0 [.ref 160, .int (I 161 66), .null, .null] [] (zk I)) (fun v m1 => zr X 141 148 [.ref 160, .int v1, .int v2, .int v3, .int v4] (v.toList ++ []) m1) :=
  (zr_aload_n t141_137 rfl).trans <|
    (zr_aload_n t141_138 rfl).trans <|
    (zr_getR (u := 161) t141_139 (rfl)).trans <|
    (zr_bipush t141_142 zcb_66).trans <|
    (zr_iald (j := 66) t141_144 (N := 675) rfl (by decide) (by decide)).trans <|
    zr_callv t141_145 rfl rfl rfl rfl
theorem k141_148 {X : Nat × (Nat → Int32)} {I : Nat → Nat → Int32} {v1 : Int32} {v2 : Int32} {v3 : Int32} {v4 : Int32} {s0 : Int32}  : zr X 141 148 [.ref 160, .int v1, .int v2, .int v3, .int v4] [.int s0] (zk I) = if s0 = 0 then zr X 141 164 [.ref 160, .int v1, .int v2, .int v3, .int v4] [] (zk I) else zr X 141 151 [.ref 160, .int v1, .int v2, .int v3, .int v4] [] (zk I) :=
  zr_if_eq (tgt := 164) t141_148 rfl
theorem k141_151 {X : Nat × (Nat → Int32)} {I : Nat → Nat → Int32} {v1 : Int32} {v2 : Int32} {v3 : Int32} {v4 : Int32}  : zr X 141 151 [.ref 160, .int v1, .int v2, .int v3, .int v4] [] (zk I) = zcb (zr X 139 0 [.ref 160, .int (I 161 66), .null] [] (zk I)) (fun v m1 => zr X 141 162 [.ref 160, .int v1, .int v2, .int v3, .int v4] (v.toList ++ []) m1) :=
  (zr_aload_n t141_151 rfl).trans <|
    (zr_aload_n t141_152 rfl).trans <|
    (zr_getR (u := 161) t141_153 (rfl)).trans <|
    (zr_bipush t141_156 zcb_66).trans <|
    (zr_iald (j := 66) t141_158 (N := 675) rfl (by decide) (by decide)).trans <|
    zr_callv t141_159 rfl rfl rfl rfl
theorem k141_162 {X : Nat × (Nat → Int32)} {I : Nat → Nat → Int32} {v1 : Int32} {v2 : Int32} {v3 : Int32} {v4 : Int32}  : zr X 141 162 [.ref 160, .int v1, .int v2, .int v3, .int v4] [] (zk I) = some (some (.int 0), zk I) :=
  (zr_iconst t141_162 zci_0).trans <|
    zr_zret t141_163 rfl (Or.inl rfl)
theorem k141_164 {X : Nat × (Nat → Int32)} {I : Nat → Nat → Int32} {v1 : Int32} {v2 : Int32} {v3 : Int32} {v4 : Int32}  : zr X 141 164 [.ref 160, .int v1, .int v2, .int v3, .int v4] [] (zk I) = some (some (.int 1), zk (zs1 I 161 66 ((I 161 66) + 1))) :=
  (zr_aload_n t141_164 rfl).trans <|
    (zr_getR (u := 161) t141_165 (rfl)).trans <|
    (zr_bipush t141_168 zcb_66).trans <|
    (zr_dup2 t141_170 ⟨rfl, rfl⟩).trans <|
    (zr_iald (j := 66) t141_171 (N := 675) rfl (by decide) (by decide)).trans <|
    (zr_iconst t141_172 zci_1).trans <|
    (zr_iadd t141_173).trans <|
    (zr_iast (j := 66) t141_174 (N := 675) rfl (by decide) (by decide)).trans <|
    (zr_iconst t141_175 zci_1).trans <|
    zr_zret t141_176 rfl (Or.inr rfl)
/-! X10_mark FiveInksModel.mark -/
theorem k142_0 {X : Nat × (Nat → Int32)} {I : Nat → Nat → Int32}   : zr X 142 0 [.ref 160, .null] [] (zk I) = zcb (zr X 180 0 [.ref 160] [] (zk (zs1 I 160 0 0))) (fun v m1 => zr X 142 9 [.ref 160, .null] (v.toList ++ []) m1) :=
  (zr_aload_n t142_0 rfl).trans <|
    (zr_iconst t142_1 zci_0).trans <|
    (zr_putI t142_2 (rfl) (Or.inl rfl)).trans <|
    (zr_aload_n t142_5 rfl).trans <|
    zr_callv t142_6 rfl rfl rfl rfl
theorem k142_9 {X : Nat × (Nat → Int32)} {I : Nat → Nat → Int32} {s0 : Int32}  : zr X 142 9 [.ref 160, .null] [.int s0] (zk I) = if s0 = (-6) then zr X 142 17 [.ref 160, .null] [] (zk I) else zr X 142 14 [.ref 160, .null] [] (zk I) :=
  (zr_bipush t142_9 zcb_m6).trans <|
    zr_ic_eq (tgt := 17) t142_11 rfl
theorem k142_14 {X : Nat × (Nat → Int32)} {I : Nat → Nat → Int32}   : zr X 142 14 [.ref 160, .null] [] (zk I) = some (some (.int (-3)), zk I) :=
  (zr_bipush t142_14 zcb_m3).trans <|
    zr_iret t142_16 rfl
theorem k142_17 {X : Nat × (Nat → Int32)} {I : Nat → Nat → Int32}   : zr X 142 17 [.ref 160, .null] [] (zk I) = zcb (zr X 121 0 [.ref 160, .null] [] (zk I)) (fun v m1 => zr X 142 21 [.ref 160, .null] (v.toList ++ []) m1) :=
  (zr_aload_n t142_17 rfl).trans <|
    zr_callv t142_18 rfl rfl rfl rfl
theorem k142_21 {X : Nat × (Nat → Int32)} {I : Nat → Nat → Int32}   : zr X 142 21 [.ref 160, .null] [] (zk I) = zr X 142 28 [.ref 160, .int 0] [] (zk (zs1 I 160 8 0)) :=
  (zr_aload_n t142_21 rfl).trans <|
    (zr_iconst t142_22 zci_0).trans <|
    (zr_putI t142_23 (rfl) (Or.inl rfl)).trans <|
    (zr_iconst t142_26 zci_0).trans <|
    zr_istore_n t142_27 rfl rfl
theorem k142_28 {X : Nat × (Nat → Int32)} {I : Nat → Nat → Int32} {v1 : Int32}  : zr X 142 28 [.ref 160, .int v1] [] (zk I) = if (I 160 18) ≤ v1 then zr X 142 53 [.ref 160, .int v1] [] (zk I) else zr X 142 36 [.ref 160, .int v1] [] (zk I) :=
  (zr_iload_n t142_28 rfl).trans <|
    (zr_aload_n t142_29 rfl).trans <|
    (zr_getI t142_30 (rfl)).trans <|
    zr_ic_ge (tgt := 53) t142_33 rfl
theorem k142_36 {X : Nat × (Nat → Int32)} {I : Nat → Nat → Int32} {v1 : Int32}  : zr X 142 36 [.ref 160, .int v1] [] (zk I) = zcb (zr X 141 0 [.ref 160, .int (12 * v1), .null, .null, .null] [] (zk I)) (fun v m1 => zr X 142 44 [.ref 160, .int v1] (v.toList ++ []) m1) :=
  (zr_aload_n t142_36 rfl).trans <|
    (zr_bipush t142_37 zcb_12).trans <|
    (zr_iload_n t142_39 rfl).trans <|
    (zr_imul t142_40).trans <|
    zr_callv t142_41 rfl rfl rfl rfl
theorem k142_44 {X : Nat × (Nat → Int32)} {I : Nat → Nat → Int32} {v1 : Int32} {s0 : Int32}  : zr X 142 44 [.ref 160, .int v1] [.int s0] (zk I) = if s0 = 0 then zr X 142 53 [.ref 160, .int v1] [] (zk I) else zr X 142 47 [.ref 160, .int v1] [] (zk I) :=
  zr_if_eq (tgt := 53) t142_44 rfl
theorem k142_47 {X : Nat × (Nat → Int32)} {I : Nat → Nat → Int32} {v1 : Int32}  : zr X 142 47 [.ref 160, .int v1] [] (zk I) = zr X 142 28 [.ref 160, .int (v1 + 1)] [] (zk I) :=
  (zr_iinc t142_47 rfl rfl (congrArg (fun z => v1 + z) zci_1) rfl).trans <|
    zr_goto (tgt := 28) t142_50 rfl
theorem k142_53 {X : Nat × (Nat → Int32)} {I : Nat → Nat → Int32} {v1 : Int32}  : zr X 142 53 [.ref 160, .int v1] [] (zk I) = some (some (.int v1), zk I) :=
  (zr_iload_n t142_53 rfl).trans <|
    zr_iret t142_54 rfl
/-! X10_strike FiveInksModel.strike -/
theorem k143_0 {X : Nat × (Nat → Int32)} {I : Nat → Nat → Int32} {v1 : Int32} {v2 : Int32} {v3 : Int32}  : zr X 143 0 [.ref 160, .int v1, .int v2, .int v3, .null] [] (zk I) = zcb (zr X 120 0 [.int v1] [] (zk (zs1 I 160 0 0))) (fun v m1 => zr X 143 9 [.ref 160, .int v1, .int v2, .int v3, .null] (v.toList ++ []) m1) :=
  (zr_aload_n t143_0 rfl).trans <|
    (zr_iconst t143_1 zci_0).trans <|
    (zr_putI t143_2 (rfl) (Or.inl rfl)).trans <|
    (zr_iload_n t143_5 rfl).trans <|
    zr_calls t143_6 rfl rfl rfl rfl rfl
theorem k143_9 {X : Nat × (Nat → Int32)} {I : Nat → Nat → Int32} {v1 : Int32} {v2 : Int32} {v3 : Int32} {s0 : Int32}  : zr X 143 9 [.ref 160, .int v1, .int v2, .int v3, .null] [.int s0] (zk I) = if s0 = 0 then zr X 143 40 [.ref 160, .int v1, .int v2, .int v3, .null] [] (zk I) else zr X 143 12 [.ref 160, .int v1, .int v2, .int v3, .null] [] (zk I) :=
  zr_if_eq (tgt := 40) t143_9 rfl
theorem k143_12 {X : Nat × (Nat → Int32)} {I : Nat → Nat → Int32} {v1 : Int32} {v2 : Int32} {v3 : Int32}  : zr X 143 12 [.ref 160, .int v1, .int v2, .int v3, .null] [] (zk I) = zcb (zr X 116 0 [.int v2, .int 0, .int (I 161 0)] [] (zk I)) (fun v m1 => zr X 143 23 [.ref 160, .int v1, .int v2, .int v3, .null] (v.toList ++ []) m1) :=
  (zr_iload_n t143_12 rfl).trans <|
    (zr_iconst t143_13 zci_0).trans <|
    (zr_aload_n t143_14 rfl).trans <|
    (zr_getR (u := 161) t143_15 (rfl)).trans <|
    (zr_iconst t143_18 zci_0).trans <|
    (zr_iald (j := 0) t143_19 (N := 675) rfl (by decide) (by decide)).trans <|
    zr_calls t143_20 rfl rfl rfl rfl rfl
theorem k143_23 {X : Nat × (Nat → Int32)} {I : Nat → Nat → Int32} {v1 : Int32} {v2 : Int32} {v3 : Int32} {s0 : Int32}  : zr X 143 23 [.ref 160, .int v1, .int v2, .int v3, .null] [.int s0] (zk I) = if s0 = 0 then zr X 143 40 [.ref 160, .int v1, .int v2, .int v3, .null] [] (zk I) else zr X 143 26 [.ref 160, .int v1, .int v2, .int v3, .null] [] (zk I) :=
  zr_if_eq (tgt := 40) t143_23 rfl
theorem k143_26 {X : Nat × (Nat → Int32)} {I : Nat → Nat → Int32} {v1 : Int32} {v2 : Int32} {v3 : Int32}  : zr X 143 26 [.ref 160, .int v1, .int v2, .int v3, .null] [] (zk I) = zcb (zr X 116 0 [.int v3, .int 0, .int (I 161 0)] [] (zk I)) (fun v m1 => zr X 143 37 [.ref 160, .int v1, .int v2, .int v3, .null] (v.toList ++ []) m1) :=
  (zr_iload_n t143_26 rfl).trans <|
    (zr_iconst t143_27 zci_0).trans <|
    (zr_aload_n t143_28 rfl).trans <|
    (zr_getR (u := 161) t143_29 (rfl)).trans <|
    (zr_iconst t143_32 zci_0).trans <|
    (zr_iald (j := 0) t143_33 (N := 675) rfl (by decide) (by decide)).trans <|
    zr_calls t143_34 rfl rfl rfl rfl rfl
theorem k143_37 {X : Nat × (Nat → Int32)} {I : Nat → Nat → Int32} {v1 : Int32} {v2 : Int32} {v3 : Int32} {s0 : Int32}  : zr X 143 37 [.ref 160, .int v1, .int v2, .int v3, .null] [.int s0] (zk I) = if ¬ s0 = 0 then zr X 143 42 [.ref 160, .int v1, .int v2, .int v3, .null] [] (zk I) else zr X 143 40 [.ref 160, .int v1, .int v2, .int v3, .null] [] (zk I) :=
  zr_if_ne (tgt := 42) t143_37 rfl
theorem k143_40 {X : Nat × (Nat → Int32)} {I : Nat → Nat → Int32} {v1 : Int32} {v2 : Int32} {v3 : Int32}  : zr X 143 40 [.ref 160, .int v1, .int v2, .int v3, .null] [] (zk I) = some (some (.int (-1)), zk I) :=
  (zr_iconst t143_40 zci_m1).trans <|
    zr_iret t143_41 rfl
theorem k143_42 {X : Nat × (Nat → Int32)} {I : Nat → Nat → Int32} {v1 : Int32} {v2 : Int32} {v3 : Int32}  : zr X 143 42 [.ref 160, .int v1, .int v2, .int v3, .null] [] (zk I) = if v2 < v3 then zr X 143 50 [.ref 160, .int v1, .int v2, .int v3, .null] [] (zk I) else zr X 143 47 [.ref 160, .int v1, .int v2, .int v3, .null] [] (zk I) :=
  (zr_iload_n t143_42 rfl).trans <|
    (zr_iload_n t143_43 rfl).trans <|
    zr_ic_gt (tgt := 50) t143_44 rfl
theorem k143_47 {X : Nat × (Nat → Int32)} {I : Nat → Nat → Int32} {v1 : Int32} {v2 : Int32} {v3 : Int32}  : zr X 143 47 [.ref 160, .int v1, .int v2, .int v3, .null] [] (zk I) = some (some (.int (-2)), zk I) :=
  (zr_bipush t143_47 zcb_m2).trans <|
    zr_iret t143_49 rfl
theorem k143_50 {X : Nat × (Nat → Int32)} {I : Nat → Nat → Int32} {v1 : Int32} {v2 : Int32} {v3 : Int32}  : zr X 143 50 [.ref 160, .int v1, .int v2, .int v3, .null] [] (zk I) = if ¬ (I 161 66) = 20 then zr X 143 65 [.ref 160, .int v1, .int v2, .int v3, .null] [] (zk I) else zr X 143 62 [.ref 160, .int v1, .int v2, .int v3, .null] [] (zk I) :=
  (zr_aload_n t143_50 rfl).trans <|
    (zr_getR (u := 161) t143_51 (rfl)).trans <|
    (zr_bipush t143_54 zcb_66).trans <|
    (zr_iald (j := 66) t143_56 (N := 675) rfl (by decide) (by decide)).trans <|
    (zr_bipush t143_57 zcb_20).trans <|
    zr_ic_ne (tgt := 65) t143_59 rfl
theorem k143_62 {X : Nat × (Nat → Int32)} {I : Nat → Nat → Int32} {v1 : Int32} {v2 : Int32} {v3 : Int32}  : zr X 143 62 [.ref 160, .int v1, .int v2, .int v3, .null] [] (zk I) = some (some (.int (-4)), zk I) :=
  (zr_bipush t143_62 zcb_m4).trans <|
    zr_iret t143_64 rfl
theorem k143_65 {X : Nat × (Nat → Int32)} {I : Nat → Nat → Int32} {v1 : Int32} {v2 : Int32} {v3 : Int32}  : zr X 143 65 [.ref 160, .int v1, .int v2, .int v3, .null] [] (zk I) = zcb (zr X 140 0 [.ref 160, .int v1, .int 0, .int v2, .int v3, .null] [] (zk I)) (fun v m1 => zr X 143 73 [.ref 160, .int v1, .int v2, .int v3, .null] (v.toList ++ []) m1) :=
  (zr_aload_n t143_65 rfl).trans <|
    (zr_iload_n t143_66 rfl).trans <|
    (zr_iconst t143_67 zci_0).trans <|
    (zr_iload_n t143_68 rfl).trans <|
    (zr_iload_n t143_69 rfl).trans <|
    zr_callv t143_70 rfl rfl rfl rfl
theorem k143_73 {X : Nat × (Nat → Int32)} {I : Nat → Nat → Int32} {v1 : Int32} {v2 : Int32} {v3 : Int32}  : zr X 143 73 [.ref 160, .int v1, .int v2, .int v3, .null] [] (zk I) = zcb (zr X 138 0 [.ref 160, .int (I 161 66), .null, .null] [] (zk I)) (fun v m1 => zr X 143 84 [.ref 160, .int v1, .int v2, .int v3, .null] (v.toList ++ []) m1) :=
  (zr_aload_n t143_73 rfl).trans <|
    (zr_aload_n t143_74 rfl).trans <|
    (zr_getR (u := 161) t143_75 (rfl)).trans <|
    (zr_bipush t143_78 zcb_66).trans <|
    (zr_iald (j := 66) t143_80 (N := 675) rfl (by decide) (by decide)).trans <|
    zr_callv t143_81 rfl rfl rfl rfl
theorem k143_84 {X : Nat × (Nat → Int32)} {I : Nat → Nat → Int32} {v1 : Int32} {v2 : Int32} {v3 : Int32} {s0 : Int32}  : zr X 143 84 [.ref 160, .int v1, .int v2, .int v3, .null] [.int s0] (zk I) = zcb (zr X 139 0 [.ref 160, .int (I 161 66), .null] [] (zk I)) (fun v m1 => zr X 143 97 [.ref 160, .int v1, .int v2, .int v3, .int s0] (v.toList ++ []) m1) :=
  (zr_istore t143_84 rfl rfl).trans <|
    (zr_aload_n t143_86 rfl).trans <|
    (zr_aload_n t143_87 rfl).trans <|
    (zr_getR (u := 161) t143_88 (rfl)).trans <|
    (zr_bipush t143_91 zcb_66).trans <|
    (zr_iald (j := 66) t143_93 (N := 675) rfl (by decide) (by decide)).trans <|
    zr_callv t143_94 rfl rfl rfl rfl
theorem k143_97 {X : Nat × (Nat → Int32)} {I : Nat → Nat → Int32} {v1 : Int32} {v2 : Int32} {v3 : Int32} {v4 : Int32}  : zr X 143 97 [.ref 160, .int v1, .int v2, .int v3, .int v4] [] (zk I) = if v4 = 0 then zr X 143 105 [.ref 160, .int v1, .int v2, .int v3, .int v4] [] (zk I) else zr X 143 102 [.ref 160, .int v1, .int v2, .int v3, .int v4] [] (zk I) :=
  (zr_iload t143_97 rfl).trans <|
    zr_if_eq (tgt := 105) t143_99 rfl
theorem k143_102 {X : Nat × (Nat → Int32)} {I : Nat → Nat → Int32} {v1 : Int32} {v2 : Int32} {v3 : Int32} {v4 : Int32}  : zr X 143 102 [.ref 160, .int v1, .int v2, .int v3, .int v4] [] (zk I) = some (some (.int (-5)), zk I) :=
  (zr_bipush t143_102 zcb_m5).trans <|
    zr_iret t143_104 rfl
theorem k143_105 {X : Nat × (Nat → Int32)} {I : Nat → Nat → Int32} {v1 : Int32} {v2 : Int32} {v3 : Int32} {v4 : Int32}  : zr X 143 105 [.ref 160, .int v1, .int v2, .int v3, .int v4] [] (zk I) = zcb (zr X 121 0 [.ref 160, .null] [] (zk I)) (fun v m1 => zr X 143 109 [.ref 160, .int v1, .int v2, .int v3, .int v4] (v.toList ++ []) m1) :=
  (zr_aload_n t143_105 rfl).trans <|
    zr_callv t143_106 rfl rfl rfl rfl
theorem k143_109 {X : Nat × (Nat → Int32)} {I : Nat → Nat → Int32} {v1 : Int32} {v2 : Int32} {v3 : Int32} {v4 : Int32}  : zr X 143 109 [.ref 160, .int v1, .int v2, .int v3, .int v4] [] (zk I) = zcb (zr X 140 0 [.ref 160, .int v1, .int 0, .int v2, .int v3, .null] [] (zk I)) (fun v m1 => zr X 143 117 [.ref 160, .int v1, .int v2, .int v3, .int v4] (v.toList ++ []) m1) :=
  (zr_aload_n t143_109 rfl).trans <|
    (zr_iload_n t143_110 rfl).trans <|
    (zr_iconst t143_111 zci_0).trans <|
    (zr_iload_n t143_112 rfl).trans <|
    (zr_iload_n t143_113 rfl).trans <|
    zr_callv t143_114 rfl rfl rfl rfl
theorem k143_117 {X : Nat × (Nat → Int32)} {I : Nat → Nat → Int32} {v1 : Int32} {v2 : Int32} {v3 : Int32} {v4 : Int32}  : zr X 143 117 [.ref 160, .int v1, .int v2, .int v3, .int v4] [] (zk I) = some (some (.int (((zs1 I 161 66 ((I 161 66) + 1)) 161 66) - 1)), zk (zs1 I 161 66 ((I 161 66) + 1))) :=
  (zr_aload_n t143_117 rfl).trans <|
    (zr_getR (u := 161) t143_118 (rfl)).trans <|
    (zr_bipush t143_121 zcb_66).trans <|
    (zr_dup2 t143_123 ⟨rfl, rfl⟩).trans <|
    (zr_iald (j := 66) t143_124 (N := 675) rfl (by decide) (by decide)).trans <|
    (zr_iconst t143_125 zci_1).trans <|
    (zr_iadd t143_126).trans <|
    (zr_iast (j := 66) t143_127 (N := 675) rfl (by decide) (by decide)).trans <|
    (zr_aload_n t143_128 rfl).trans <|
    (zr_getR (u := 161) t143_129 (rfl)).trans <|
    (zr_bipush t143_132 zcb_66).trans <|
    (zr_iald (j := 66) t143_134 (N := 675) rfl (by decide) (by decide)).trans <|
    (zr_iconst t143_135 zci_1).trans <|
    (zr_isub t143_136).trans <|
    zr_iret t143_137 rfl
/-! X10_canAccept FiveInksModel.canAccept -/
theorem k144_0 {X : Nat × (Nat → Int32)} {I : Nat → Nat → Int32} {v1 : Int32}  : zr X 144 0 [.ref 160, .int v1] [] (zk I) = zcb (zr X 117 0 [.ref 160, .int v1, .int 5] [] (zk I)) (fun v m1 => zr X 144 6 [.ref 160, .int v1] (v.toList ++ []) m1) :=
  (zr_aload_n t144_0 rfl).trans <|
    (zr_iload_n t144_1 rfl).trans <|
    (zr_iconst t144_2 zci_5).trans <|
    zr_callv t144_3 rfl rfl rfl rfl
theorem k144_6 {X : Nat × (Nat → Int32)} {I : Nat → Nat → Int32} {v1 : Int32} {s0 : Int32}  : zr X 144 6 [.ref 160, .int v1] [.int s0] (zk I) = if ¬ s0 = 0 then zr X 144 37 [.ref 160, .int v1] [] (zk I) else zr X 144 9 [.ref 160, .int v1] [] (zk I) :=
  zr_if_ne (tgt := 37) t144_6 rfl
theorem k144_9 {X : Nat × (Nat → Int32)} {I : Nat → Nat → Int32} {v1 : Int32}  : zr X 144 9 [.ref 160, .int v1] [] (zk I) = zcb (zr X 126 0 [.ref 160, .int v1, .int 1, .null, .null] [] (zk I)) (fun v m1 => zr X 144 15 [.ref 160, .int v1] (v.toList ++ []) m1) :=
  (zr_aload_n t144_9 rfl).trans <|
    (zr_iload_n t144_10 rfl).trans <|
    (zr_iconst t144_11 zci_1).trans <|
    zr_callv t144_12 rfl rfl rfl rfl
theorem k144_15 {X : Nat × (Nat → Int32)} {I : Nat → Nat → Int32} {v1 : Int32} {s0 : Int32}  : zr X 144 15 [.ref 160, .int v1] [.int s0] (zk I) = if ¬ s0 = 0 then zr X 144 37 [.ref 160, .int v1] [] (zk I) else zr X 144 18 [.ref 160, .int v1] [] (zk I) :=
  zr_if_ne (tgt := 37) t144_15 rfl
theorem k144_18 {X : Nat × (Nat → Int32)} {I : Nat → Nat → Int32} {v1 : Int32}  : zr X 144 18 [.ref 160, .int v1] [] (zk I) = zcb (zr X 128 0 [.ref 160, .null, .null] [] (zk I)) (fun v m1 => zr X 144 22 [.ref 160, .int v1] (v.toList ++ []) m1) :=
  (zr_aload_n t144_18 rfl).trans <|
    zr_callv t144_19 rfl rfl rfl rfl
theorem k144_22 {X : Nat × (Nat → Int32)} {I : Nat → Nat → Int32} {v1 : Int32} {s0 : Int32}  : zr X 144 22 [.ref 160, .int v1] [.int s0] (zk I) = zcb (zr X 127 0 [.ref 160, .int v1] [] (zk I)) (fun v m1 => zr X 144 27 [.ref 160, .int v1] (v.toList ++ [.int s0]) m1) :=
  (zr_aload_n t144_22 rfl).trans <|
    (zr_iload_n t144_23 rfl).trans <|
    zr_callv t144_24 rfl rfl rfl rfl
theorem k144_27 {X : Nat × (Nat → Int32)} {I : Nat → Nat → Int32} {v1 : Int32} {s0 : Int32} {s1 : Int32}  : zr X 144 27 [.ref 160, .int v1] [.int s1, .int s0] (zk I) = if 60 < (s0 + s1) then zr X 144 37 [.ref 160, .int v1] [] (zk I) else zr X 144 33 [.ref 160, .int v1] [] (zk I) :=
  (zr_iadd t144_27).trans <|
    (zr_bipush t144_28 zcb_60).trans <|
    zr_ic_gt (tgt := 37) t144_30 rfl
theorem k144_33 {X : Nat × (Nat → Int32)} {I : Nat → Nat → Int32} {v1 : Int32}  : zr X 144 33 [.ref 160, .int v1] [] (zk I) = some (some (.int 1), zk I) :=
  (zr_iconst t144_33 zci_1).trans <|
    (zr_goto (tgt := 38) t144_34 rfl).trans <|
    zr_zret t144_38 rfl (Or.inr rfl)
theorem k144_37 {X : Nat × (Nat → Int32)} {I : Nat → Nat → Int32} {v1 : Int32}  : zr X 144 37 [.ref 160, .int v1] [] (zk I) = some (some (.int 0), zk I) :=
  (zr_iconst t144_37 zci_0).trans <|
    zr_zret t144_38 rfl (Or.inl rfl)
/-! X10_accepts FiveInksModel.accepts -/
theorem k145_0 {X : Nat × (Nat → Int32)} {I : Nat → Nat → Int32} {v1 : Int32}  : zr X 145 0 [.ref 160, .int v1, .null, .null] [] (zk I) = zr X 145 4 [.ref 160, .int v1, .int 0, .int 0] [] (zk I) :=
  (zr_iconst t145_0 zci_0).trans <|
    (zr_istore_n t145_1 rfl rfl).trans <|
    (zr_iconst t145_2 zci_0).trans <|
    zr_istore_n t145_3 rfl rfl
theorem k145_4 {X : Nat × (Nat → Int32)} {I : Nat → Nat → Int32} {v1 : Int32} {v2 : Int32} {v3 : Int32}  : zr X 145 4 [.ref 160, .int v1, .int v2, .int v3] [] (zk I) = if (I 161 66) ≤ v3 then zr X 145 54 [.ref 160, .int v1, .int v2, .int v3] [] (zk I) else zr X 145 15 [.ref 160, .int v1, .int v2, .int v3] [] (zk I) :=
  (zr_iload_n t145_4 rfl).trans <|
    (zr_aload_n t145_5 rfl).trans <|
    (zr_getR (u := 161) t145_6 (rfl)).trans <|
    (zr_bipush t145_9 zcb_66).trans <|
    (zr_iald (j := 66) t145_11 (N := 675) rfl (by decide) (by decide)).trans <|
    zr_ic_ge (tgt := 54) t145_12 rfl
theorem k145_15 {X : Nat × (Nat → Int32)} {I : Nat → Nat → Int32} {v1 : Int32} {v2 : Int32} {v3 : Int32}  : zr X 145 15 [.ref 160, .int v1, .int v2, .int v3] [] (zk I) = if v3 = v1 then zr X 145 48 [.ref 160, .int v1, .int v2, .int v3] [] (zk I) else zr X 145 20 [.ref 160, .int v1, .int v2, .int v3] [] (zk I) :=
  (zr_iload_n t145_15 rfl).trans <|
    (zr_iload_n t145_16 rfl).trans <|
    zr_ic_eq (tgt := 48) t145_17 rfl
theorem k145_20 {X : Nat × (Nat → Int32)} {I : Nat → Nat → Int32} {v1 : Int32} {v2 : Int32} {v3 : Int32}  : zr X 145 20 [.ref 160, .int v1, .int v2, .int v3] [] (zk I) = zcb (zr X 117 0 [.ref 160, .int v3, .int 5] [] (zk I)) (fun v m1 => zr X 145 26 [.ref 160, .int v1, .int v2, .int v3] (v.toList ++ []) m1) :=
  (zr_aload_n t145_20 rfl).trans <|
    (zr_iload_n t145_21 rfl).trans <|
    (zr_iconst t145_22 zci_5).trans <|
    zr_callv t145_23 rfl rfl rfl rfl
theorem k145_26 {X : Nat × (Nat → Int32)} {I : Nat → Nat → Int32} {v1 : Int32} {v2 : Int32} {v3 : Int32} {s0 : Int32}  : zr X 145 26 [.ref 160, .int v1, .int v2, .int v3] [.int s0] (zk I) = if ¬ s0 = 0 then zr X 145 48 [.ref 160, .int v1, .int v2, .int v3] [] (zk I) else zr X 145 29 [.ref 160, .int v1, .int v2, .int v3] [] (zk I) :=
  zr_if_ne (tgt := 48) t145_26 rfl
theorem k145_29 {X : Nat × (Nat → Int32)} {I : Nat → Nat → Int32} {v1 : Int32} {v2 : Int32} {v3 : Int32}  : zr X 145 29 [.ref 160, .int v1, .int v2, .int v3] [] (zk I) = zcb (zr X 124 0 [.ref 160, .int v1, .int v3, .null, .null, .null, .null] [] (zk I)) (fun v m1 => zr X 145 35 [.ref 160, .int v1, .int v2, .int v3] (v.toList ++ []) m1) :=
  (zr_aload_n t145_29 rfl).trans <|
    (zr_iload_n t145_30 rfl).trans <|
    (zr_iload_n t145_31 rfl).trans <|
    zr_callv t145_32 rfl rfl rfl rfl
theorem k145_35 {X : Nat × (Nat → Int32)} {I : Nat → Nat → Int32} {v1 : Int32} {v2 : Int32} {v3 : Int32} {s0 : Int32}  : zr X 145 35 [.ref 160, .int v1, .int v2, .int v3] [.int s0] (zk I) = if s0 = 0 then zr X 145 48 [.ref 160, .int v1, .int v2, .int v3] [] (zk I) else zr X 145 38 [.ref 160, .int v1, .int v2, .int v3] [] (zk I) :=
  zr_if_eq (tgt := 48) t145_35 rfl
theorem k145_38 {X : Nat × (Nat → Int32)} {I : Nat → Nat → Int32} {v1 : Int32} {v2 : Int32} {v3 : Int32}  : zr X 145 38 [.ref 160, .int v1, .int v2, .int v3] [] (zk I) = zcb (zr X 118 0 [.ref 160, .int v3, .int 5, .int 2] [] (zk I)) (fun v m1 => zr X 145 45 [.ref 160, .int v1, .int v2, .int v3] (v.toList ++ []) m1) :=
  (zr_aload_n t145_38 rfl).trans <|
    (zr_iload_n t145_39 rfl).trans <|
    (zr_iconst t145_40 zci_5).trans <|
    (zr_iconst t145_41 zci_2).trans <|
    zr_callv t145_42 rfl rfl rfl rfl
theorem k145_45 {X : Nat × (Nat → Int32)} {I : Nat → Nat → Int32} {v1 : Int32} {v2 : Int32} {v3 : Int32}  : zr X 145 45 [.ref 160, .int v1, .int v2, .int v3] [] (zk I) = zr X 145 4 [.ref 160, .int v1, .int (v2 + 1), .int (v3 + 1)] [] (zk I) :=
  (zr_iinc t145_45 rfl rfl (congrArg (fun z => v2 + z) zci_1) rfl).trans <|
    (zr_iinc t145_48 rfl rfl (congrArg (fun z => v3 + z) zci_1) rfl).trans <|
    zr_goto (tgt := 4) t145_51 rfl
theorem k145_48 {X : Nat × (Nat → Int32)} {I : Nat → Nat → Int32} {v1 : Int32} {v2 : Int32} {v3 : Int32}  : zr X 145 48 [.ref 160, .int v1, .int v2, .int v3] [] (zk I) = zr X 145 4 [.ref 160, .int v1, .int v2, .int (v3 + 1)] [] (zk I) :=
  (zr_iinc t145_48 rfl rfl (congrArg (fun z => v3 + z) zci_1) rfl).trans <|
    zr_goto (tgt := 4) t145_51 rfl
theorem k145_54 {X : Nat × (Nat → Int32)} {I : Nat → Nat → Int32} {v1 : Int32} {v2 : Int32} {v3 : Int32}  : zr X 145 54 [.ref 160, .int v1, .int v2, .int v3] [] (zk I) = zcb (zr X 118 0 [.ref 160, .int v1, .int 5, .int 1] [] (zk I)) (fun v m1 => zr X 145 61 [.ref 160, .int v1, .int v2, .int v3] (v.toList ++ []) m1) :=
  (zr_aload_n t145_54 rfl).trans <|
    (zr_iload_n t145_55 rfl).trans <|
    (zr_iconst t145_56 zci_5).trans <|
    (zr_iconst t145_57 zci_1).trans <|
    zr_callv t145_58 rfl rfl rfl rfl
theorem k145_61 {X : Nat × (Nat → Int32)} {I : Nat → Nat → Int32} {v1 : Int32} {v2 : Int32} {v3 : Int32}  : zr X 145 61 [.ref 160, .int v1, .int v2, .int v3] [] (zk I) = some (some (.int v2), zk I) :=
  (zr_iload_n t145_61 rfl).trans <|
    zr_iret t145_62 rfl
