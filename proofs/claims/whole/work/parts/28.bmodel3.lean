theorem t172_0 : zT 172 0 = some (.aload_n 0, 1, 0, 0, 0) := by rfl
theorem t172_1 : zT 172 1 = some (.iconst 0, 1, 0, 0, 0) := by rfl
theorem t172_2 : zT 172 2 = some (.putfield 47, 3, 10, 0, 783) := by rfl
theorem t172_5 : zT 172 5 = some (.iconst 0, 1, 0, 0, 0) := by rfl
theorem t172_6 : zT 172 6 = some (.istore_n 3, 1, 0, 0, 0) := by rfl
theorem t172_7 : zT 172 7 = some (.lload_n 1, 1, 0, 0, 0) := by rfl
theorem t172_8 : zT 172 8 = some (.lstore 4, 2, 0, 0, 0) := by rfl
theorem t172_10 : zT 172 10 = some (.iconst 1, 1, 0, 0, 0) := by rfl
theorem t172_11 : zT 172 11 = some (.istore 6, 2, 0, 0, 0) := by rfl
theorem t172_13 : zT 172 13 = some (.iload_n 3, 1, 0, 0, 0) := by rfl
theorem t172_14 : zT 172 14 = some (.bipush 8, 2, 0, 0, 0) := by rfl
theorem t172_16 : zT 172 16 = some (.if_icmp .ge 56, 3, 0, 0, 0) := by rfl
theorem t172_19 : zT 172 19 = some (.lload 4, 2, 0, 0, 0) := by rfl
theorem t172_21 : zT 172 21 = some (.ldc2_w 188, 3, 255, 0, 1095) := by rfl
theorem t172_24 : zT 172 24 = some (.land, 1, 0, 0, 0) := by rfl
theorem t172_25 : zT 172 25 = some (.lconst 0, 1, 0, 0, 0) := by rfl
theorem t172_26 : zT 172 26 = some (.lcmp, 1, 0, 0, 0) := by rfl
theorem t172_27 : zT 172 27 = some (.ifCond .eq 45, 3, 0, 0, 0) := by rfl
theorem t172_30 : zT 172 30 = some (.iload 6, 2, 0, 0, 0) := by rfl
theorem t172_32 : zT 172 32 = some (.ifCond .eq 24, 3, 0, 0, 0) := by rfl
theorem t172_35 : zT 172 35 = some (.lload 4, 2, 0, 0, 0) := by rfl
theorem t172_37 : zT 172 37 = some (.ldc2_w 188, 3, 255, 0, 1095) := by rfl
theorem t172_40 : zT 172 40 = some (.land, 1, 0, 0, 0) := by rfl
theorem t172_41 : zT 172 41 = some (.l2i, 1, 0, 0, 0) := by rfl
theorem t172_42 : zT 172 42 = some (.bipush 33, 2, 0, 0, 0) := by rfl
theorem t172_44 : zT 172 44 = some (.bipush 126, 2, 0, 0, 0) := by rfl
theorem t172_46 : zT 172 46 = some (.invokestatic 51, 3, 116, 0, 845) := by rfl
theorem t172_49 : zT 172 49 = some (.ifCond .eq 7, 3, 0, 0, 0) := by rfl
theorem t172_52 : zT 172 52 = some (.iconst 1, 1, 0, 0, 0) := by rfl
theorem t172_53 : zT 172 53 = some (.goto 4, 3, 0, 0, 0) := by rfl
theorem t172_56 : zT 172 56 = some (.iconst 0, 1, 0, 0, 0) := by rfl
theorem t172_57 : zT 172 57 = some (.istore 6, 2, 0, 0, 0) := by rfl
theorem t172_59 : zT 172 59 = some (.lload 4, 2, 0, 0, 0) := by rfl
theorem t172_61 : zT 172 61 = some (.bipush 8, 2, 0, 0, 0) := by rfl
theorem t172_63 : zT 172 63 = some (.lushr, 1, 0, 0, 0) := by rfl
theorem t172_64 : zT 172 64 = some (.lstore 4, 2, 0, 0, 0) := by rfl
theorem t172_66 : zT 172 66 = some (.iinc 3 1, 3, 0, 0, 0) := by rfl
theorem t172_69 : zT 172 69 = some (.goto (-56), 3, 0, 0, 0) := by rfl
theorem t172_72 : zT 172 72 = some (.iload_n 3, 1, 0, 0, 0) := by rfl
theorem t172_73 : zT 172 73 = some (.ifCond .eq 15, 3, 0, 0, 0) := by rfl
theorem t172_76 : zT 172 76 = some (.iload 6, 2, 0, 0, 0) := by rfl
theorem t172_78 : zT 172 78 = some (.ifCond .eq 10, 3, 0, 0, 0) := by rfl
theorem t172_81 : zT 172 81 = some (.lload 4, 2, 0, 0, 0) := by rfl
theorem t172_83 : zT 172 83 = some (.lconst 0, 1, 0, 0, 0) := by rfl
theorem t172_84 : zT 172 84 = some (.lcmp, 1, 0, 0, 0) := by rfl
theorem t172_85 : zT 172 85 = some (.ifCond .eq 6, 3, 0, 0, 0) := by rfl
theorem t172_88 : zT 172 88 = some (.bipush (-2), 2, 0, 0, 0) := by rfl
theorem t172_90 : zT 172 90 = some (.ireturn, 1, 0, 0, 0) := by rfl
theorem t172_91 : zT 172 91 = some (.aload_n 0, 1, 0, 0, 0) := by rfl
theorem t172_92 : zT 172 92 = some (.getfield 91, 3, 10, 8, 791) := by rfl
theorem t172_95 : zT 172 95 = some (.iload_n 3, 1, 0, 0, 0) := by rfl
theorem t172_96 : zT 172 96 = some (.iadd, 1, 0, 0, 0) := by rfl
theorem t172_97 : zT 172 97 = some (.bipush 60, 2, 0, 0, 0) := by rfl
theorem t172_99 : zT 172 99 = some (.if_icmp .le 6, 3, 0, 0, 0) := by rfl
theorem t172_102 : zT 172 102 = some (.bipush (-4), 2, 0, 0, 0) := by rfl
theorem t172_104 : zT 172 104 = some (.ireturn, 1, 0, 0, 0) := by rfl
theorem t172_105 : zT 172 105 = some (.iconst 0, 1, 0, 0, 0) := by rfl
theorem t172_106 : zT 172 106 = some (.istore 7, 2, 0, 0, 0) := by rfl
theorem t172_108 : zT 172 108 = some (.iload 7, 2, 0, 0, 0) := by rfl
theorem t172_110 : zT 172 110 = some (.iload_n 3, 1, 0, 0, 0) := by rfl
theorem t172_111 : zT 172 111 = some (.if_icmp .ge 37, 3, 0, 0, 0) := by rfl
theorem t172_114 : zT 172 114 = some (.aload_n 0, 1, 0, 0, 0) := by rfl
theorem t172_115 : zT 172 115 = some (.getfield 26, 3, 10, 7, 790) := by rfl
theorem t172_118 : zT 172 118 = some (.aload_n 0, 1, 0, 0, 0) := by rfl
theorem t172_119 : zT 172 119 = some (.getfield 91, 3, 10, 8, 791) := by rfl
theorem t172_122 : zT 172 122 = some (.iload 7, 2, 0, 0, 0) := by rfl
theorem t172_124 : zT 172 124 = some (.iadd, 1, 0, 0, 0) := by rfl
theorem t172_125 : zT 172 125 = some (.lload_n 1, 1, 0, 0, 0) := by rfl
theorem t172_126 : zT 172 126 = some (.bipush 8, 2, 0, 0, 0) := by rfl
theorem t172_128 : zT 172 128 = some (.iload_n 3, 1, 0, 0, 0) := by rfl
theorem t172_129 : zT 172 129 = some (.iconst 1, 1, 0, 0, 0) := by rfl
theorem t172_130 : zT 172 130 = some (.isub, 1, 0, 0, 0) := by rfl
theorem t172_131 : zT 172 131 = some (.iload 7, 2, 0, 0, 0) := by rfl
theorem t172_133 : zT 172 133 = some (.isub, 1, 0, 0, 0) := by rfl
theorem t172_134 : zT 172 134 = some (.imul, 1, 0, 0, 0) := by rfl
theorem t172_135 : zT 172 135 = some (.lushr, 1, 0, 0, 0) := by rfl
theorem t172_136 : zT 172 136 = some (.ldc2_w 188, 3, 255, 0, 1095) := by rfl
theorem t172_139 : zT 172 139 = some (.land, 1, 0, 0, 0) := by rfl
theorem t172_140 : zT 172 140 = some (.l2i, 1, 0, 0, 0) := by rfl
theorem t172_141 : zT 172 141 = some (.iastore, 1, 0, 0, 0) := by rfl
theorem t172_142 : zT 172 142 = some (.iinc 7 1, 3, 0, 0, 0) := by rfl
theorem t172_145 : zT 172 145 = some (.goto (-37), 3, 0, 0, 0) := by rfl
theorem t172_148 : zT 172 148 = some (.aload_n 0, 1, 0, 0, 0) := by rfl
theorem t172_149 : zT 172 149 = some (.dup, 1, 0, 0, 0) := by rfl
theorem t172_150 : zT 172 150 = some (.getfield 91, 3, 10, 8, 791) := by rfl
theorem t172_153 : zT 172 153 = some (.iload_n 3, 1, 0, 0, 0) := by rfl
theorem t172_154 : zT 172 154 = some (.iadd, 1, 0, 0, 0) := by rfl
theorem t172_155 : zT 172 155 = some (.putfield 91, 3, 10, 8, 791) := by rfl
theorem t172_158 : zT 172 158 = some (.aload_n 0, 1, 0, 0, 0) := by rfl
theorem t172_159 : zT 172 159 = some (.getfield 91, 3, 10, 8, 791) := by rfl
theorem t172_162 : zT 172 162 = some (.ireturn, 1, 0, 0, 0) := by rfl
theorem t173_0 : zT 173 0 = some (.aload_n 0, 1, 0, 0, 0) := by rfl
theorem t173_1 : zT 173 1 = some (.iconst 0, 1, 0, 0, 0) := by rfl
theorem t173_2 : zT 173 2 = some (.putfield 47, 3, 10, 0, 783) := by rfl
theorem t173_5 : zT 173 5 = some (.aload_n 0, 1, 0, 0, 0) := by rfl
theorem t173_6 : zT 173 6 = some (.getfield 91, 3, 10, 8, 791) := by rfl
theorem t173_9 : zT 173 9 = some (.istore_n 1, 1, 0, 0, 0) := by rfl
theorem t173_10 : zT 173 10 = some (.aload_n 0, 1, 0, 0, 0) := by rfl
theorem t173_11 : zT 173 11 = some (.iconst 0, 1, 0, 0, 0) := by rfl
theorem t173_12 : zT 173 12 = some (.putfield 91, 3, 10, 8, 791) := by rfl
theorem t173_15 : zT 173 15 = some (.iload_n 1, 1, 0, 0, 0) := by rfl
theorem t173_16 : zT 173 16 = some (.ireturn, 1, 0, 0, 0) := by rfl
theorem t174_0 : zT 174 0 = some (.aload_n 0, 1, 0, 0, 0) := by rfl
theorem t174_1 : zT 174 1 = some (.getfield 190, 3, 10, 15, 798) := by rfl
theorem t174_4 : zT 174 4 = some (.aload_n 0, 1, 0, 0, 0) := by rfl
theorem t174_5 : zT 174 5 = some (.getfield 91, 3, 10, 8, 791) := by rfl
theorem t174_8 : zT 174 8 = some (.if_icmp .ge 15, 3, 0, 0, 0) := by rfl
theorem t174_11 : zT 174 11 = some (.aload_n 0, 1, 0, 0, 0) := by rfl
theorem t174_12 : zT 174 12 = some (.getfield 26, 3, 10, 7, 790) := by rfl
theorem t174_15 : zT 174 15 = some (.aload_n 0, 1, 0, 0, 0) := by rfl
theorem t174_16 : zT 174 16 = some (.getfield 190, 3, 10, 15, 798) := by rfl
theorem t174_19 : zT 174 19 = some (.iaload, 1, 0, 0, 0) := by rfl
theorem t174_20 : zT 174 20 = some (.goto 4, 3, 0, 0, 0) := by rfl
theorem t174_23 : zT 174 23 = some (.iconst 0, 1, 0, 0, 0) := by rfl
theorem t174_24 : zT 174 24 = some (.ireturn, 1, 0, 0, 0) := by rfl
theorem t175_0 : zT 175 0 = some (.aload_n 0, 1, 0, 0, 0) := by rfl
theorem t175_1 : zT 175 1 = some (.aload_n 0, 1, 0, 0, 0) := by rfl
theorem t175_2 : zT 175 2 = some (.getfield 193, 3, 10, 16, 799) := by rfl
theorem t175_5 : zT 175 5 = some (.ifCond .eq 15, 3, 0, 0, 0) := by rfl
theorem t175_8 : zT 175 8 = some (.aload_n 0, 1, 0, 0, 0) := by rfl
theorem t175_9 : zT 175 9 = some (.invokevirtual 197, 3, 174, 0, 875) := by rfl
theorem t175_12 : zT 175 12 = some (.iload_n 1, 1, 0, 0, 0) := by rfl
theorem t175_13 : zT 175 13 = some (.if_icmp .ne 7, 3, 0, 0, 0) := by rfl
theorem t175_16 : zT 175 16 = some (.iconst 1, 1, 0, 0, 0) := by rfl
theorem t175_17 : zT 175 17 = some (.goto 4, 3, 0, 0, 0) := by rfl
theorem t175_20 : zT 175 20 = some (.iconst 0, 1, 0, 0, 0) := by rfl
theorem t175_21 : zT 175 21 = some (.putfield 193, 3, 10, 16, 799) := by rfl
theorem t175_24 : zT 175 24 = some (.aload_n 0, 1, 0, 0, 0) := by rfl
theorem t175_25 : zT 175 25 = some (.dup, 1, 0, 0, 0) := by rfl
theorem t175_26 : zT 175 26 = some (.getfield 190, 3, 10, 15, 798) := by rfl
theorem t175_29 : zT 175 29 = some (.aload_n 0, 1, 0, 0, 0) := by rfl
theorem t175_30 : zT 175 30 = some (.getfield 193, 3, 10, 16, 799) := by rfl
theorem t175_33 : zT 175 33 = some (.ifCond .eq 7, 3, 0, 0, 0) := by rfl
theorem t175_36 : zT 175 36 = some (.iconst 1, 1, 0, 0, 0) := by rfl
theorem t175_37 : zT 175 37 = some (.goto 4, 3, 0, 0, 0) := by rfl
theorem t175_40 : zT 175 40 = some (.iconst 0, 1, 0, 0, 0) := by rfl
theorem t175_41 : zT 175 41 = some (.iadd, 1, 0, 0, 0) := by rfl
theorem t175_42 : zT 175 42 = some (.putfield 190, 3, 10, 15, 798) := by rfl
theorem t175_45 : zT 175 45 = some (.return_, 1, 0, 0, 0) := by rfl
theorem t176_0 : zT 176 0 = some (.aload_n 0, 1, 0, 0, 0) := by rfl
theorem t176_1 : zT 176 1 = some (.aload_n 0, 1, 0, 0, 0) := by rfl
theorem t176_2 : zT 176 2 = some (.getfield 193, 3, 10, 16, 799) := by rfl
theorem t176_5 : zT 176 5 = some (.ifCond .eq 23, 3, 0, 0, 0) := by rfl
theorem t176_8 : zT 176 8 = some (.aload_n 0, 1, 0, 0, 0) := by rfl
theorem t176_9 : zT 176 9 = some (.invokevirtual 197, 3, 174, 0, 875) := by rfl
theorem t176_12 : zT 176 12 = some (.bipush 48, 2, 0, 0, 0) := by rfl
theorem t176_14 : zT 176 14 = some (.bipush 48, 2, 0, 0, 0) := by rfl
theorem t176_16 : zT 176 16 = some (.iload_n 1, 1, 0, 0, 0) := by rfl
theorem t176_17 : zT 176 17 = some (.iadd, 1, 0, 0, 0) := by rfl
theorem t176_18 : zT 176 18 = some (.invokestatic 51, 3, 116, 0, 845) := by rfl
theorem t176_21 : zT 176 21 = some (.ifCond .eq 7, 3, 0, 0, 0) := by rfl
theorem t176_24 : zT 176 24 = some (.iconst 1, 1, 0, 0, 0) := by rfl
theorem t176_25 : zT 176 25 = some (.goto 4, 3, 0, 0, 0) := by rfl
theorem t176_28 : zT 176 28 = some (.iconst 0, 1, 0, 0, 0) := by rfl
theorem t176_29 : zT 176 29 = some (.putfield 193, 3, 10, 16, 799) := by rfl
theorem t176_32 : zT 176 32 = some (.aload_n 0, 1, 0, 0, 0) := by rfl
theorem t176_33 : zT 176 33 = some (.invokevirtual 197, 3, 174, 0, 875) := by rfl
theorem t176_36 : zT 176 36 = some (.bipush 48, 2, 0, 0, 0) := by rfl
theorem t176_38 : zT 176 38 = some (.isub, 1, 0, 0, 0) := by rfl
theorem t176_39 : zT 176 39 = some (.istore_n 2, 1, 0, 0, 0) := by rfl
theorem t176_40 : zT 176 40 = some (.aload_n 0, 1, 0, 0, 0) := by rfl
theorem t176_41 : zT 176 41 = some (.dup, 1, 0, 0, 0) := by rfl
theorem t176_42 : zT 176 42 = some (.getfield 190, 3, 10, 15, 798) := by rfl
theorem t176_45 : zT 176 45 = some (.aload_n 0, 1, 0, 0, 0) := by rfl
theorem t176_46 : zT 176 46 = some (.getfield 193, 3, 10, 16, 799) := by rfl
theorem t176_49 : zT 176 49 = some (.ifCond .eq 7, 3, 0, 0, 0) := by rfl
theorem t176_52 : zT 176 52 = some (.iconst 1, 1, 0, 0, 0) := by rfl
theorem t176_53 : zT 176 53 = some (.goto 4, 3, 0, 0, 0) := by rfl
theorem t176_56 : zT 176 56 = some (.iconst 0, 1, 0, 0, 0) := by rfl
theorem t176_57 : zT 176 57 = some (.iadd, 1, 0, 0, 0) := by rfl
theorem t176_58 : zT 176 58 = some (.putfield 190, 3, 10, 15, 798) := by rfl
theorem t176_61 : zT 176 61 = some (.iload_n 2, 1, 0, 0, 0) := by rfl
theorem t176_62 : zT 176 62 = some (.ireturn, 1, 0, 0, 0) := by rfl
theorem t177_0 : zT 177 0 = some (.aload_n 0, 1, 0, 0, 0) := by rfl
theorem t177_1 : zT 177 1 = some (.bipush 9, 2, 0, 0, 0) := by rfl
theorem t177_3 : zT 177 3 = some (.invokevirtual 200, 3, 176, 0, 871) := by rfl
theorem t177_6 : zT 177 6 = some (.istore_n 1, 1, 0, 0, 0) := by rfl
theorem t177_7 : zT 177 7 = some (.aload_n 0, 1, 0, 0, 0) := by rfl
theorem t177_8 : zT 177 8 = some (.getfield 193, 3, 10, 16, 799) := by rfl
theorem t177_11 : zT 177 11 = some (.ifCond .eq 61, 3, 0, 0, 0) := by rfl
theorem t177_14 : zT 177 14 = some (.iload_n 1, 1, 0, 0, 0) := by rfl
theorem t177_15 : zT 177 15 = some (.ifCond .le 57, 3, 0, 0, 0) := by rfl
theorem t177_18 : zT 177 18 = some (.aload_n 0, 1, 0, 0, 0) := by rfl
theorem t177_19 : zT 177 19 = some (.invokevirtual 197, 3, 174, 0, 875) := by rfl
theorem t177_22 : zT 177 22 = some (.bipush 48, 2, 0, 0, 0) := by rfl
theorem t177_24 : zT 177 24 = some (.bipush 57, 2, 0, 0, 0) := by rfl
theorem t177_26 : zT 177 26 = some (.invokestatic 51, 3, 116, 0, 845) := by rfl
theorem t177_29 : zT 177 29 = some (.ifCond .eq 43, 3, 0, 0, 0) := by rfl
theorem t177_32 : zT 177 32 = some (.bipush 10, 2, 0, 0, 0) := by rfl
theorem t177_34 : zT 177 34 = some (.iload_n 1, 1, 0, 0, 0) := by rfl
theorem t177_35 : zT 177 35 = some (.imul, 1, 0, 0, 0) := by rfl
theorem t177_36 : zT 177 36 = some (.aload_n 0, 1, 0, 0, 0) := by rfl
theorem t177_37 : zT 177 37 = some (.invokevirtual 197, 3, 174, 0, 875) := by rfl
theorem t177_40 : zT 177 40 = some (.iadd, 1, 0, 0, 0) := by rfl
theorem t177_41 : zT 177 41 = some (.bipush 48, 2, 0, 0, 0) := by rfl
theorem t177_43 : zT 177 43 = some (.isub, 1, 0, 0, 0) := by rfl
theorem t177_44 : zT 177 44 = some (.bipush 60, 2, 0, 0, 0) := by rfl
theorem t177_46 : zT 177 46 = some (.if_icmp .gt 26, 3, 0, 0, 0) := by rfl
theorem t177_49 : zT 177 49 = some (.bipush 10, 2, 0, 0, 0) := by rfl
theorem t177_51 : zT 177 51 = some (.iload_n 1, 1, 0, 0, 0) := by rfl
theorem t177_52 : zT 177 52 = some (.imul, 1, 0, 0, 0) := by rfl
theorem t177_53 : zT 177 53 = some (.aload_n 0, 1, 0, 0, 0) := by rfl
theorem t177_54 : zT 177 54 = some (.invokevirtual 197, 3, 174, 0, 875) := by rfl
theorem t177_57 : zT 177 57 = some (.iadd, 1, 0, 0, 0) := by rfl
theorem t177_58 : zT 177 58 = some (.bipush 48, 2, 0, 0, 0) := by rfl
theorem t177_60 : zT 177 60 = some (.isub, 1, 0, 0, 0) := by rfl
theorem t177_61 : zT 177 61 = some (.istore_n 1, 1, 0, 0, 0) := by rfl
theorem t177_62 : zT 177 62 = some (.aload_n 0, 1, 0, 0, 0) := by rfl
theorem t177_63 : zT 177 63 = some (.dup, 1, 0, 0, 0) := by rfl
theorem t177_64 : zT 177 64 = some (.getfield 190, 3, 10, 15, 798) := by rfl
theorem t177_67 : zT 177 67 = some (.iconst 1, 1, 0, 0, 0) := by rfl
theorem t177_68 : zT 177 68 = some (.iadd, 1, 0, 0, 0) := by rfl
theorem t177_69 : zT 177 69 = some (.putfield 190, 3, 10, 15, 798) := by rfl
theorem t177_72 : zT 177 72 = some (.iload_n 1, 1, 0, 0, 0) := by rfl
theorem t177_73 : zT 177 73 = some (.ireturn, 1, 0, 0, 0) := by rfl
theorem t178_0 : zT 178 0 = some (.iconst 0, 1, 0, 0, 0) := by rfl
theorem t178_1 : zT 178 1 = some (.istore_n 2, 1, 0, 0, 0) := by rfl
theorem t178_2 : zT 178 2 = some (.aload_n 0, 1, 0, 0, 0) := by rfl
theorem t178_3 : zT 178 3 = some (.getfield 193, 3, 10, 16, 799) := by rfl
theorem t178_6 : zT 178 6 = some (.ifCond .eq 57, 3, 0, 0, 0) := by rfl
theorem t178_9 : zT 178 9 = some (.iload_n 2, 1, 0, 0, 0) := by rfl
theorem t178_10 : zT 178 10 = some (.bipush 6, 2, 0, 0, 0) := by rfl
theorem t178_12 : zT 178 12 = some (.if_icmp .ge 51, 3, 0, 0, 0) := by rfl
theorem t178_15 : zT 178 15 = some (.aload_n 0, 1, 0, 0, 0) := by rfl
theorem t178_16 : zT 178 16 = some (.invokevirtual 197, 3, 174, 0, 875) := by rfl
theorem t178_19 : zT 178 19 = some (.bipush 97, 2, 0, 0, 0) := by rfl
theorem t178_21 : zT 178 21 = some (.bipush 122, 2, 0, 0, 0) := by rfl
theorem t178_23 : zT 178 23 = some (.invokestatic 51, 3, 116, 0, 845) := by rfl
theorem t178_26 : zT 178 26 = some (.ifCond .eq 37, 3, 0, 0, 0) := by rfl
theorem t178_29 : zT 178 29 = some (.aload_n 0, 1, 0, 0, 0) := by rfl
theorem t178_30 : zT 178 30 = some (.getfield 44, 3, 10, 17, 800) := by rfl
theorem t178_33 : zT 178 33 = some (.iload_n 1, 1, 0, 0, 0) := by rfl
theorem t178_34 : zT 178 34 = some (.bipush 6, 2, 0, 0, 0) := by rfl
theorem t178_36 : zT 178 36 = some (.iadd, 1, 0, 0, 0) := by rfl
theorem t178_37 : zT 178 37 = some (.iload_n 2, 1, 0, 0, 0) := by rfl
theorem t178_38 : zT 178 38 = some (.iadd, 1, 0, 0, 0) := by rfl
theorem t178_39 : zT 178 39 = some (.aload_n 0, 1, 0, 0, 0) := by rfl
theorem t178_40 : zT 178 40 = some (.invokevirtual 197, 3, 174, 0, 875) := by rfl
theorem t178_43 : zT 178 43 = some (.bipush 97, 2, 0, 0, 0) := by rfl
theorem t178_45 : zT 178 45 = some (.isub, 1, 0, 0, 0) := by rfl
theorem t178_46 : zT 178 46 = some (.iastore, 1, 0, 0, 0) := by rfl
theorem t178_47 : zT 178 47 = some (.iinc 2 1, 3, 0, 0, 0) := by rfl
theorem t178_50 : zT 178 50 = some (.aload_n 0, 1, 0, 0, 0) := by rfl
theorem t178_51 : zT 178 51 = some (.dup, 1, 0, 0, 0) := by rfl
theorem t178_52 : zT 178 52 = some (.getfield 190, 3, 10, 15, 798) := by rfl
theorem t178_55 : zT 178 55 = some (.iconst 1, 1, 0, 0, 0) := by rfl
theorem t178_56 : zT 178 56 = some (.iadd, 1, 0, 0, 0) := by rfl
theorem t178_57 : zT 178 57 = some (.putfield 190, 3, 10, 15, 798) := by rfl
theorem t178_60 : zT 178 60 = some (.goto (-58), 3, 0, 0, 0) := by rfl
theorem t178_63 : zT 178 63 = some (.aload_n 0, 1, 0, 0, 0) := by rfl
theorem t178_64 : zT 178 64 = some (.aload_n 0, 1, 0, 0, 0) := by rfl
theorem t178_65 : zT 178 65 = some (.getfield 193, 3, 10, 16, 799) := by rfl
theorem t178_68 : zT 178 68 = some (.ifCond .eq 11, 3, 0, 0, 0) := by rfl
theorem t178_71 : zT 178 71 = some (.iload_n 2, 1, 0, 0, 0) := by rfl
theorem t178_72 : zT 178 72 = some (.ifCond .le 7, 3, 0, 0, 0) := by rfl
theorem t178_75 : zT 178 75 = some (.iconst 1, 1, 0, 0, 0) := by rfl
theorem t178_76 : zT 178 76 = some (.goto 4, 3, 0, 0, 0) := by rfl
theorem t178_79 : zT 178 79 = some (.iconst 0, 1, 0, 0, 0) := by rfl
theorem t178_80 : zT 178 80 = some (.putfield 193, 3, 10, 16, 799) := by rfl
theorem t178_83 : zT 178 83 = some (.iload_n 2, 1, 0, 0, 0) := by rfl
theorem t178_84 : zT 178 84 = some (.ireturn, 1, 0, 0, 0) := by rfl
theorem t179_0 : zT 179 0 = some (.bipush 12, 2, 0, 0, 0) := by rfl
theorem t179_2 : zT 179 2 = some (.aload_n 0, 1, 0, 0, 0) := by rfl
theorem t179_3 : zT 179 3 = some (.getfield 114, 3, 10, 18, 801) := by rfl
theorem t179_6 : zT 179 6 = some (.imul, 1, 0, 0, 0) := by rfl
theorem t179_7 : zT 179 7 = some (.istore_n 1, 1, 0, 0, 0) := by rfl
theorem t179_8 : zT 179 8 = some (.iconst 0, 1, 0, 0, 0) := by rfl
theorem t179_9 : zT 179 9 = some (.istore_n 2, 1, 0, 0, 0) := by rfl
theorem t179_10 : zT 179 10 = some (.iload_n 2, 1, 0, 0, 0) := by rfl
theorem t179_11 : zT 179 11 = some (.bipush 12, 2, 0, 0, 0) := by rfl
theorem t179_13 : zT 179 13 = some (.if_icmp .ge 18, 3, 0, 0, 0) := by rfl
theorem t179_16 : zT 179 16 = some (.aload_n 0, 1, 0, 0, 0) := by rfl
theorem t179_17 : zT 179 17 = some (.getfield 44, 3, 10, 17, 800) := by rfl
theorem t179_20 : zT 179 20 = some (.iload_n 1, 1, 0, 0, 0) := by rfl
theorem t179_21 : zT 179 21 = some (.iload_n 2, 1, 0, 0, 0) := by rfl
theorem t179_22 : zT 179 22 = some (.iadd, 1, 0, 0, 0) := by rfl
theorem t179_23 : zT 179 23 = some (.iconst 0, 1, 0, 0, 0) := by rfl
theorem t179_24 : zT 179 24 = some (.iastore, 1, 0, 0, 0) := by rfl
theorem t179_25 : zT 179 25 = some (.iinc 2 1, 3, 0, 0, 0) := by rfl
theorem t179_28 : zT 179 28 = some (.goto (-18), 3, 0, 0, 0) := by rfl
theorem t179_31 : zT 179 31 = some (.aload_n 0, 1, 0, 0, 0) := by rfl
theorem t179_32 : zT 179 32 = some (.getfield 44, 3, 10, 17, 800) := by rfl
theorem t179_35 : zT 179 35 = some (.iload_n 1, 1, 0, 0, 0) := by rfl
theorem t179_36 : zT 179 36 = some (.iconst 0, 1, 0, 0, 0) := by rfl
theorem t179_37 : zT 179 37 = some (.iadd, 1, 0, 0, 0) := by rfl
theorem t179_38 : zT 179 38 = some (.aload_n 0, 1, 0, 0, 0) := by rfl
theorem t179_39 : zT 179 39 = some (.iconst 4, 1, 0, 0, 0) := by rfl
theorem t179_40 : zT 179 40 = some (.invokevirtual 200, 3, 176, 0, 871) := by rfl
theorem t179_43 : zT 179 43 = some (.iastore, 1, 0, 0, 0) := by rfl
theorem t179_44 : zT 179 44 = some (.aload_n 0, 1, 0, 0, 0) := by rfl
theorem t179_45 : zT 179 45 = some (.invokevirtual 197, 3, 174, 0, 875) := by rfl
theorem t179_48 : zT 179 48 = some (.istore_n 2, 1, 0, 0, 0) := by rfl
theorem t179_49 : zT 179 49 = some (.aload_n 0, 1, 0, 0, 0) := by rfl
theorem t179_50 : zT 179 50 = some (.aload_n 0, 1, 0, 0, 0) := by rfl
theorem t179_51 : zT 179 51 = some (.getfield 193, 3, 10, 16, 799) := by rfl
theorem t179_54 : zT 179 54 = some (.ifCond .eq 25, 3, 0, 0, 0) := by rfl
theorem t179_57 : zT 179 57 = some (.iload_n 2, 1, 0, 0, 0) := by rfl
theorem t179_58 : zT 179 58 = some (.bipush 45, 2, 0, 0, 0) := by rfl
theorem t179_60 : zT 179 60 = some (.if_icmp .eq 15, 3, 0, 0, 0) := by rfl
theorem t179_63 : zT 179 63 = some (.iload_n 2, 1, 0, 0, 0) := by rfl
theorem t179_64 : zT 179 64 = some (.bipush 43, 2, 0, 0, 0) := by rfl
theorem t179_66 : zT 179 66 = some (.if_icmp .eq 9, 3, 0, 0, 0) := by rfl
theorem t179_69 : zT 179 69 = some (.iload_n 2, 1, 0, 0, 0) := by rfl
theorem t179_70 : zT 179 70 = some (.bipush 61, 2, 0, 0, 0) := by rfl
theorem t179_72 : zT 179 72 = some (.if_icmp .ne 7, 3, 0, 0, 0) := by rfl
theorem t179_75 : zT 179 75 = some (.iconst 1, 1, 0, 0, 0) := by rfl
theorem t179_76 : zT 179 76 = some (.goto 4, 3, 0, 0, 0) := by rfl
theorem t179_79 : zT 179 79 = some (.iconst 0, 1, 0, 0, 0) := by rfl
theorem t179_80 : zT 179 80 = some (.putfield 193, 3, 10, 16, 799) := by rfl
theorem t179_83 : zT 179 83 = some (.aload_n 0, 1, 0, 0, 0) := by rfl
theorem t179_84 : zT 179 84 = some (.dup, 1, 0, 0, 0) := by rfl
theorem t179_85 : zT 179 85 = some (.getfield 190, 3, 10, 15, 798) := by rfl
theorem t179_88 : zT 179 88 = some (.aload_n 0, 1, 0, 0, 0) := by rfl
theorem t179_89 : zT 179 89 = some (.getfield 193, 3, 10, 16, 799) := by rfl
theorem t179_92 : zT 179 92 = some (.ifCond .eq 7, 3, 0, 0, 0) := by rfl
theorem t179_95 : zT 179 95 = some (.iconst 1, 1, 0, 0, 0) := by rfl
theorem t179_96 : zT 179 96 = some (.goto 4, 3, 0, 0, 0) := by rfl
theorem t179_99 : zT 179 99 = some (.iconst 0, 1, 0, 0, 0) := by rfl
theorem t179_100 : zT 179 100 = some (.iadd, 1, 0, 0, 0) := by rfl
theorem t179_101 : zT 179 101 = some (.putfield 190, 3, 10, 15, 798) := by rfl
theorem t179_104 : zT 179 104 = some (.aload_n 0, 1, 0, 0, 0) := by rfl
theorem t179_105 : zT 179 105 = some (.getfield 44, 3, 10, 17, 800) := by rfl
theorem t179_108 : zT 179 108 = some (.iload_n 1, 1, 0, 0, 0) := by rfl
theorem t179_109 : zT 179 109 = some (.iconst 1, 1, 0, 0, 0) := by rfl
theorem t179_110 : zT 179 110 = some (.iadd, 1, 0, 0, 0) := by rfl
theorem t179_111 : zT 179 111 = some (.iload_n 2, 1, 0, 0, 0) := by rfl
theorem t179_112 : zT 179 112 = some (.bipush 45, 2, 0, 0, 0) := by rfl
theorem t179_114 : zT 179 114 = some (.if_icmp .ne 7, 3, 0, 0, 0) := by rfl
theorem t179_117 : zT 179 117 = some (.iconst 0, 1, 0, 0, 0) := by rfl
theorem t179_118 : zT 179 118 = some (.goto 14, 3, 0, 0, 0) := by rfl
theorem t179_121 : zT 179 121 = some (.iload_n 2, 1, 0, 0, 0) := by rfl
theorem t179_122 : zT 179 122 = some (.bipush 43, 2, 0, 0, 0) := by rfl
theorem t179_124 : zT 179 124 = some (.if_icmp .ne 7, 3, 0, 0, 0) := by rfl
theorem t179_127 : zT 179 127 = some (.iconst 1, 1, 0, 0, 0) := by rfl
theorem t179_128 : zT 179 128 = some (.goto 4, 3, 0, 0, 0) := by rfl
theorem t179_131 : zT 179 131 = some (.iconst 2, 1, 0, 0, 0) := by rfl
theorem t179_132 : zT 179 132 = some (.iastore, 1, 0, 0, 0) := by rfl
theorem t179_133 : zT 179 133 = some (.aload_n 0, 1, 0, 0, 0) := by rfl
theorem t179_134 : zT 179 134 = some (.getfield 44, 3, 10, 17, 800) := by rfl
theorem t179_137 : zT 179 137 = some (.iload_n 1, 1, 0, 0, 0) := by rfl
theorem t179_138 : zT 179 138 = some (.iconst 2, 1, 0, 0, 0) := by rfl
theorem t179_139 : zT 179 139 = some (.iadd, 1, 0, 0, 0) := by rfl
theorem t179_140 : zT 179 140 = some (.aload_n 0, 1, 0, 0, 0) := by rfl
theorem t179_141 : zT 179 141 = some (.invokevirtual 203, 3, 177, 0, 879) := by rfl
theorem t179_144 : zT 179 144 = some (.iastore, 1, 0, 0, 0) := by rfl
theorem t179_145 : zT 179 145 = some (.iload_n 2, 1, 0, 0, 0) := by rfl
theorem t179_146 : zT 179 146 = some (.bipush 43, 2, 0, 0, 0) := by rfl
theorem t179_148 : zT 179 148 = some (.if_icmp .ne 22, 3, 0, 0, 0) := by rfl
theorem t179_151 : zT 179 151 = some (.aload_n 0, 1, 0, 0, 0) := by rfl
theorem t179_152 : zT 179 152 = some (.getfield 44, 3, 10, 17, 800) := by rfl
theorem t179_155 : zT 179 155 = some (.iload_n 1, 1, 0, 0, 0) := by rfl
theorem t179_156 : zT 179 156 = some (.iconst 3, 1, 0, 0, 0) := by rfl
theorem t179_157 : zT 179 157 = some (.iadd, 1, 0, 0, 0) := by rfl
theorem t179_158 : zT 179 158 = some (.aload_n 0, 1, 0, 0, 0) := by rfl
theorem t179_159 : zT 179 159 = some (.getfield 44, 3, 10, 17, 800) := by rfl
theorem t179_162 : zT 179 162 = some (.iload_n 1, 1, 0, 0, 0) := by rfl
theorem t179_163 : zT 179 163 = some (.iconst 2, 1, 0, 0, 0) := by rfl
theorem t179_164 : zT 179 164 = some (.iadd, 1, 0, 0, 0) := by rfl
theorem t179_165 : zT 179 165 = some (.iaload, 1, 0, 0, 0) := by rfl
theorem t179_166 : zT 179 166 = some (.iastore, 1, 0, 0, 0) := by rfl
theorem t179_167 : zT 179 167 = some (.goto 21, 3, 0, 0, 0) := by rfl
theorem t179_170 : zT 179 170 = some (.aload_n 0, 1, 0, 0, 0) := by rfl
theorem t179_171 : zT 179 171 = some (.bipush 58, 2, 0, 0, 0) := by rfl
theorem t179_173 : zT 179 173 = some (.invokevirtual 206, 3, 175, 0, 883) := by rfl
theorem t179_176 : zT 179 176 = some (.aload_n 0, 1, 0, 0, 0) := by rfl
theorem t179_177 : zT 179 177 = some (.getfield 44, 3, 10, 17, 800) := by rfl
theorem t179_180 : zT 179 180 = some (.iload_n 1, 1, 0, 0, 0) := by rfl
theorem t179_181 : zT 179 181 = some (.iconst 3, 1, 0, 0, 0) := by rfl
theorem t179_182 : zT 179 182 = some (.iadd, 1, 0, 0, 0) := by rfl
theorem t179_183 : zT 179 183 = some (.aload_n 0, 1, 0, 0, 0) := by rfl
theorem t179_184 : zT 179 184 = some (.invokevirtual 203, 3, 177, 0, 879) := by rfl
theorem t179_187 : zT 179 187 = some (.iastore, 1, 0, 0, 0) := by rfl
theorem t179_188 : zT 179 188 = some (.aload_n 0, 1, 0, 0, 0) := by rfl
theorem t179_189 : zT 179 189 = some (.getfield 44, 3, 10, 17, 800) := by rfl
theorem t179_192 : zT 179 192 = some (.iload_n 1, 1, 0, 0, 0) := by rfl
theorem t179_193 : zT 179 193 = some (.iconst 4, 1, 0, 0, 0) := by rfl
theorem t179_194 : zT 179 194 = some (.iadd, 1, 0, 0, 0) := by rfl
theorem t179_195 : zT 179 195 = some (.iload_n 2, 1, 0, 0, 0) := by rfl
theorem t179_196 : zT 179 196 = some (.bipush 45, 2, 0, 0, 0) := by rfl
theorem t179_198 : zT 179 198 = some (.if_icmp .ne 7, 3, 0, 0, 0) := by rfl
theorem t179_201 : zT 179 201 = some (.iconst 0, 1, 0, 0, 0) := by rfl
theorem t179_202 : zT 179 202 = some (.goto 8, 3, 0, 0, 0) := by rfl
theorem t179_205 : zT 179 205 = some (.aload_n 0, 1, 0, 0, 0) := by rfl
theorem t179_206 : zT 179 206 = some (.iload_n 1, 1, 0, 0, 0) := by rfl
theorem t179_207 : zT 179 207 = some (.invokevirtual 209, 3, 178, 0, 887) := by rfl
theorem t179_210 : zT 179 210 = some (.iastore, 1, 0, 0, 0) := by rfl
theorem t179_211 : zT 179 211 = some (.aload_n 0, 1, 0, 0, 0) := by rfl
theorem t179_212 : zT 179 212 = some (.dup, 1, 0, 0, 0) := by rfl
theorem t179_213 : zT 179 213 = some (.getfield 114, 3, 10, 18, 801) := by rfl
theorem t179_216 : zT 179 216 = some (.aload_n 0, 1, 0, 0, 0) := by rfl
theorem t179_217 : zT 179 217 = some (.getfield 193, 3, 10, 16, 799) := by rfl
theorem t179_220 : zT 179 220 = some (.ifCond .eq 7, 3, 0, 0, 0) := by rfl
theorem t179_223 : zT 179 223 = some (.iconst 1, 1, 0, 0, 0) := by rfl
theorem t179_224 : zT 179 224 = some (.goto 4, 3, 0, 0, 0) := by rfl
theorem t179_227 : zT 179 227 = some (.iconst 0, 1, 0, 0, 0) := by rfl
theorem t179_228 : zT 179 228 = some (.iadd, 1, 0, 0, 0) := by rfl
theorem t179_229 : zT 179 229 = some (.putfield 114, 3, 10, 18, 801) := by rfl
theorem t179_232 : zT 179 232 = some (.return_, 1, 0, 0, 0) := by rfl
theorem t180_0 : zT 180 0 = some (.aload_n 0, 1, 0, 0, 0) := by rfl
theorem t180_1 : zT 180 1 = some (.iconst 0, 1, 0, 0, 0) := by rfl
theorem t180_2 : zT 180 2 = some (.putfield 190, 3, 10, 15, 798) := by rfl
theorem t180_5 : zT 180 5 = some (.aload_n 0, 1, 0, 0, 0) := by rfl
theorem t180_6 : zT 180 6 = some (.iconst 1, 1, 0, 0, 0) := by rfl
theorem t180_7 : zT 180 7 = some (.putfield 193, 3, 10, 16, 799) := by rfl
theorem t180_10 : zT 180 10 = some (.aload_n 0, 1, 0, 0, 0) := by rfl
theorem t180_11 : zT 180 11 = some (.iconst 0, 1, 0, 0, 0) := by rfl
theorem t180_12 : zT 180 12 = some (.putfield 114, 3, 10, 18, 801) := by rfl
theorem t180_15 : zT 180 15 = some (.aload_n 0, 1, 0, 0, 0) := by rfl
theorem t180_16 : zT 180 16 = some (.invokevirtual 212, 3, 179, 0, 867) := by rfl
theorem t180_19 : zT 180 19 = some (.aload_n 0, 1, 0, 0, 0) := by rfl
theorem t180_20 : zT 180 20 = some (.getfield 193, 3, 10, 16, 799) := by rfl
theorem t180_23 : zT 180 23 = some (.ifCond .eq 34, 3, 0, 0, 0) := by rfl
theorem t180_26 : zT 180 26 = some (.aload_n 0, 1, 0, 0, 0) := by rfl
theorem t180_27 : zT 180 27 = some (.getfield 190, 3, 10, 15, 798) := by rfl
theorem t180_30 : zT 180 30 = some (.aload_n 0, 1, 0, 0, 0) := by rfl
theorem t180_31 : zT 180 31 = some (.getfield 91, 3, 10, 8, 791) := by rfl
theorem t180_34 : zT 180 34 = some (.if_icmp .ge 23, 3, 0, 0, 0) := by rfl
theorem t180_37 : zT 180 37 = some (.aload_n 0, 1, 0, 0, 0) := by rfl
theorem t180_38 : zT 180 38 = some (.bipush 44, 2, 0, 0, 0) := by rfl
theorem t180_40 : zT 180 40 = some (.invokevirtual 206, 3, 175, 0, 883) := by rfl
theorem t180_43 : zT 180 43 = some (.aload_n 0, 1, 0, 0, 0) := by rfl
theorem t180_44 : zT 180 44 = some (.getfield 193, 3, 10, 16, 799) := by rfl
theorem t180_47 : zT 180 47 = some (.ifCond .eq (-28), 3, 0, 0, 0) := by rfl
theorem t180_50 : zT 180 50 = some (.aload_n 0, 1, 0, 0, 0) := by rfl
theorem t180_51 : zT 180 51 = some (.invokevirtual 212, 3, 179, 0, 867) := by rfl
theorem t180_54 : zT 180 54 = some (.goto (-35), 3, 0, 0, 0) := by rfl
theorem t180_57 : zT 180 57 = some (.aload_n 0, 1, 0, 0, 0) := by rfl
theorem t180_58 : zT 180 58 = some (.getfield 193, 3, 10, 16, 799) := by rfl
theorem t180_61 : zT 180 61 = some (.ifCond .eq 8, 3, 0, 0, 0) := by rfl
theorem t180_64 : zT 180 64 = some (.bipush (-6), 2, 0, 0, 0) := by rfl
theorem t180_66 : zT 180 66 = some (.goto 7, 3, 0, 0, 0) := by rfl
theorem t180_69 : zT 180 69 = some (.aload_n 0, 1, 0, 0, 0) := by rfl
theorem t180_70 : zT 180 70 = some (.getfield 190, 3, 10, 15, 798) := by rfl
theorem t180_73 : zT 180 73 = some (.ireturn, 1, 0, 0, 0) := by rfl
theorem t181_0 : zT 181 0 = some (.aload_n 0, 1, 0, 0, 0) := by rfl
theorem t181_1 : zT 181 1 = some (.iconst 0, 1, 0, 0, 0) := by rfl
theorem t181_2 : zT 181 2 = some (.putfield 47, 3, 10, 0, 783) := by rfl
theorem t181_5 : zT 181 5 = some (.aload_n 0, 1, 0, 0, 0) := by rfl
theorem t181_6 : zT 181 6 = some (.invokevirtual 110, 3, 180, 0, 863) := by rfl
theorem t181_9 : zT 181 9 = some (.ireturn, 1, 0, 0, 0) := by rfl
theorem t182_0 : zT 182 0 = some (.aload_n 0, 1, 0, 0, 0) := by rfl
theorem t182_1 : zT 182 1 = some (.iconst 0, 1, 0, 0, 0) := by rfl
theorem t182_2 : zT 182 2 = some (.putfield 47, 3, 10, 0, 783) := by rfl
theorem t182_5 : zT 182 5 = some (.aload_n 0, 1, 0, 0, 0) := by rfl
theorem t182_6 : zT 182 6 = some (.getfield 55, 3, 10, 4, 787) := by rfl
theorem t182_9 : zT 182 9 = some (.ifCond .ne 6, 3, 0, 0, 0) := by rfl
theorem t182_12 : zT 182 12 = some (.bipush (-5), 2, 0, 0, 0) := by rfl
theorem t182_14 : zT 182 14 = some (.ireturn, 1, 0, 0, 0) := by rfl
theorem t182_15 : zT 182 15 = some (.aload_n 0, 1, 0, 0, 0) := by rfl
theorem t182_16 : zT 182 16 = some (.dup, 1, 0, 0, 0) := by rfl
theorem t182_17 : zT 182 17 = some (.getfield 55, 3, 10, 4, 787) := by rfl
theorem t182_20 : zT 182 20 = some (.iconst 1, 1, 0, 0, 0) := by rfl
theorem t182_21 : zT 182 21 = some (.isub, 1, 0, 0, 0) := by rfl
theorem t182_22 : zT 182 22 = some (.putfield 55, 3, 10, 4, 787) := by rfl
theorem t182_25 : zT 182 25 = some (.iconst 0, 1, 0, 0, 0) := by rfl
theorem t182_26 : zT 182 26 = some (.istore_n 1, 1, 0, 0, 0) := by rfl
theorem t182_27 : zT 182 27 = some (.iload_n 1, 1, 0, 0, 0) := by rfl
theorem t182_28 : zT 182 28 = some (.sipush 675, 3, 0, 0, 0) := by rfl
theorem t182_31 : zT 182 31 = some (.if_icmp .ge 30, 3, 0, 0, 0) := by rfl
theorem t182_34 : zT 182 34 = some (.aload_n 0, 1, 0, 0, 0) := by rfl
theorem t182_35 : zT 182 35 = some (.getfield 7, 3, 10, 1, 784) := by rfl
theorem t182_38 : zT 182 38 = some (.iload_n 1, 1, 0, 0, 0) := by rfl
theorem t182_39 : zT 182 39 = some (.aload_n 0, 1, 0, 0, 0) := by rfl
theorem t182_40 : zT 182 40 = some (.getfield 16, 3, 10, 3, 786) := by rfl
theorem t182_43 : zT 182 43 = some (.sipush 675, 3, 0, 0, 0) := by rfl
theorem t182_46 : zT 182 46 = some (.aload_n 0, 1, 0, 0, 0) := by rfl
theorem t182_47 : zT 182 47 = some (.getfield 55, 3, 10, 4, 787) := by rfl
theorem t182_50 : zT 182 50 = some (.imul, 1, 0, 0, 0) := by rfl
theorem t182_51 : zT 182 51 = some (.iload_n 1, 1, 0, 0, 0) := by rfl
theorem t182_52 : zT 182 52 = some (.iadd, 1, 0, 0, 0) := by rfl
theorem t182_53 : zT 182 53 = some (.iaload, 1, 0, 0, 0) := by rfl
theorem t182_54 : zT 182 54 = some (.iastore, 1, 0, 0, 0) := by rfl
theorem t182_55 : zT 182 55 = some (.iinc 1 1, 3, 0, 0, 0) := by rfl
theorem t182_58 : zT 182 58 = some (.goto (-31), 3, 0, 0, 0) := by rfl
theorem t182_61 : zT 182 61 = some (.aload_n 0, 1, 0, 0, 0) := by rfl
theorem t182_62 : zT 182 62 = some (.getfield 55, 3, 10, 4, 787) := by rfl
theorem t182_65 : zT 182 65 = some (.ireturn, 1, 0, 0, 0) := by rfl
theorem t183_0 : zT 183 0 = some (.aload_n 0, 1, 0, 0, 0) := by rfl
theorem t183_1 : zT 183 1 = some (.iconst 0, 1, 0, 0, 0) := by rfl
theorem t183_2 : zT 183 2 = some (.putfield 47, 3, 10, 0, 783) := by rfl
theorem t183_5 : zT 183 5 = some (.iload_n 1, 1, 0, 0, 0) := by rfl
theorem t183_6 : zT 183 6 = some (.iconst 0, 1, 0, 0, 0) := by rfl
theorem t183_7 : zT 183 7 = some (.iconst 1, 1, 0, 0, 0) := by rfl
theorem t183_8 : zT 183 8 = some (.invokestatic 51, 3, 116, 0, 845) := by rfl
theorem t183_11 : zT 183 11 = some (.ifCond .ne 6, 3, 0, 0, 0) := by rfl
theorem t183_14 : zT 183 14 = some (.bipush (-2), 2, 0, 0, 0) := by rfl
theorem t183_16 : zT 183 16 = some (.ireturn, 1, 0, 0, 0) := by rfl
theorem t183_17 : zT 183 17 = some (.iconst 0, 1, 0, 0, 0) := by rfl
theorem t183_18 : zT 183 18 = some (.istore_n 2, 1, 0, 0, 0) := by rfl
theorem t183_19 : zT 183 19 = some (.iload_n 2, 1, 0, 0, 0) := by rfl
theorem t183_20 : zT 183 20 = some (.sipush 675, 3, 0, 0, 0) := by rfl
theorem t183_23 : zT 183 23 = some (.if_icmp .ge 27, 3, 0, 0, 0) := by rfl
theorem t183_26 : zT 183 26 = some (.aload_n 0, 1, 0, 0, 0) := by rfl
theorem t183_27 : zT 183 27 = some (.getfield 19, 3, 10, 5, 788) := by rfl
theorem t183_30 : zT 183 30 = some (.sipush 675, 3, 0, 0, 0) := by rfl
theorem t183_33 : zT 183 33 = some (.iload_n 1, 1, 0, 0, 0) := by rfl
theorem t183_34 : zT 183 34 = some (.imul, 1, 0, 0, 0) := by rfl
theorem t183_35 : zT 183 35 = some (.iload_n 2, 1, 0, 0, 0) := by rfl
theorem t183_36 : zT 183 36 = some (.iadd, 1, 0, 0, 0) := by rfl
theorem t183_37 : zT 183 37 = some (.aload_n 0, 1, 0, 0, 0) := by rfl
theorem t183_38 : zT 183 38 = some (.getfield 7, 3, 10, 1, 784) := by rfl
theorem t183_41 : zT 183 41 = some (.iload_n 2, 1, 0, 0, 0) := by rfl
theorem t183_42 : zT 183 42 = some (.iaload, 1, 0, 0, 0) := by rfl
theorem t183_43 : zT 183 43 = some (.iastore, 1, 0, 0, 0) := by rfl
theorem t183_44 : zT 183 44 = some (.iinc 2 1, 3, 0, 0, 0) := by rfl
theorem t183_47 : zT 183 47 = some (.goto (-28), 3, 0, 0, 0) := by rfl
theorem t183_50 : zT 183 50 = some (.aload_n 0, 1, 0, 0, 0) := by rfl
theorem t183_51 : zT 183 51 = some (.getfield 22, 3, 10, 6, 789) := by rfl
theorem t183_54 : zT 183 54 = some (.iload_n 1, 1, 0, 0, 0) := by rfl
theorem t183_55 : zT 183 55 = some (.iconst 1, 1, 0, 0, 0) := by rfl
theorem t183_56 : zT 183 56 = some (.bastore, 1, 0, 0, 0) := by rfl
theorem t183_57 : zT 183 57 = some (.aload_n 0, 1, 0, 0, 0) := by rfl
theorem t183_58 : zT 183 58 = some (.getfield 7, 3, 10, 1, 784) := by rfl
theorem t183_61 : zT 183 61 = some (.bipush 66, 2, 0, 0, 0) := by rfl
theorem t183_63 : zT 183 63 = some (.iaload, 1, 0, 0, 0) := by rfl
theorem t183_64 : zT 183 64 = some (.ireturn, 1, 0, 0, 0) := by rfl
theorem t184_0 : zT 184 0 = some (.aload_n 0, 1, 0, 0, 0) := by rfl
theorem t184_1 : zT 184 1 = some (.iconst 0, 1, 0, 0, 0) := by rfl
theorem t184_2 : zT 184 2 = some (.putfield 47, 3, 10, 0, 783) := by rfl
theorem t184_5 : zT 184 5 = some (.iload_n 1, 1, 0, 0, 0) := by rfl
theorem t184_6 : zT 184 6 = some (.iconst 0, 1, 0, 0, 0) := by rfl
theorem t184_7 : zT 184 7 = some (.iconst 1, 1, 0, 0, 0) := by rfl
theorem t184_8 : zT 184 8 = some (.invokestatic 51, 3, 116, 0, 845) := by rfl
theorem t184_11 : zT 184 11 = some (.ifCond .ne 6, 3, 0, 0, 0) := by rfl
theorem t184_14 : zT 184 14 = some (.bipush (-2), 2, 0, 0, 0) := by rfl
theorem t184_16 : zT 184 16 = some (.ireturn, 1, 0, 0, 0) := by rfl
theorem t184_17 : zT 184 17 = some (.aload_n 0, 1, 0, 0, 0) := by rfl
theorem t184_18 : zT 184 18 = some (.getfield 22, 3, 10, 6, 789) := by rfl
theorem t184_21 : zT 184 21 = some (.iload_n 1, 1, 0, 0, 0) := by rfl
theorem t184_22 : zT 184 22 = some (.baload, 1, 0, 0, 0) := by rfl
theorem t184_23 : zT 184 23 = some (.ifCond .ne 6, 3, 0, 0, 0) := by rfl
theorem t184_26 : zT 184 26 = some (.bipush (-5), 2, 0, 0, 0) := by rfl
theorem t184_28 : zT 184 28 = some (.ireturn, 1, 0, 0, 0) := by rfl
theorem t184_29 : zT 184 29 = some (.aload_n 0, 1, 0, 0, 0) := by rfl
theorem t184_30 : zT 184 30 = some (.invokevirtual 94, 3, 121, 0, 848) := by rfl
theorem t184_33 : zT 184 33 = some (.iconst 0, 1, 0, 0, 0) := by rfl
theorem t184_34 : zT 184 34 = some (.istore_n 2, 1, 0, 0, 0) := by rfl
theorem t184_35 : zT 184 35 = some (.iload_n 2, 1, 0, 0, 0) := by rfl
theorem t184_36 : zT 184 36 = some (.sipush 675, 3, 0, 0, 0) := by rfl
theorem t184_39 : zT 184 39 = some (.if_icmp .ge 27, 3, 0, 0, 0) := by rfl
theorem t184_42 : zT 184 42 = some (.aload_n 0, 1, 0, 0, 0) := by rfl
theorem t184_43 : zT 184 43 = some (.getfield 7, 3, 10, 1, 784) := by rfl
theorem t184_46 : zT 184 46 = some (.iload_n 2, 1, 0, 0, 0) := by rfl
theorem t184_47 : zT 184 47 = some (.aload_n 0, 1, 0, 0, 0) := by rfl
theorem t184_48 : zT 184 48 = some (.getfield 19, 3, 10, 5, 788) := by rfl
theorem t184_51 : zT 184 51 = some (.sipush 675, 3, 0, 0, 0) := by rfl
theorem t184_54 : zT 184 54 = some (.iload_n 1, 1, 0, 0, 0) := by rfl
theorem t184_55 : zT 184 55 = some (.imul, 1, 0, 0, 0) := by rfl
theorem t184_56 : zT 184 56 = some (.iload_n 2, 1, 0, 0, 0) := by rfl
theorem t184_57 : zT 184 57 = some (.iadd, 1, 0, 0, 0) := by rfl
theorem t184_58 : zT 184 58 = some (.iaload, 1, 0, 0, 0) := by rfl
theorem t184_59 : zT 184 59 = some (.iastore, 1, 0, 0, 0) := by rfl
theorem t184_60 : zT 184 60 = some (.iinc 2 1, 3, 0, 0, 0) := by rfl
theorem t184_63 : zT 184 63 = some (.goto (-28), 3, 0, 0, 0) := by rfl
theorem t184_66 : zT 184 66 = some (.aload_n 0, 1, 0, 0, 0) := by rfl
theorem t184_67 : zT 184 67 = some (.getfield 7, 3, 10, 1, 784) := by rfl
theorem t184_70 : zT 184 70 = some (.bipush 66, 2, 0, 0, 0) := by rfl
theorem t184_72 : zT 184 72 = some (.iaload, 1, 0, 0, 0) := by rfl
theorem t184_73 : zT 184 73 = some (.ireturn, 1, 0, 0, 0) := by rfl
theorem t185_0 : zT 185 0 = some (.iload_n 0, 1, 0, 0, 0) := by rfl
theorem t185_1 : zT 185 1 = some (.iload_n 1, 1, 0, 0, 0) := by rfl
theorem t185_2 : zT 185 2 = some (.irem, 1, 0, 0, 0) := by rfl
theorem t185_3 : zT 185 3 = some (.istore_n 2, 1, 0, 0, 0) := by rfl
theorem t185_4 : zT 185 4 = some (.iload_n 0, 1, 0, 0, 0) := by rfl
theorem t185_5 : zT 185 5 = some (.iload_n 1, 1, 0, 0, 0) := by rfl
theorem t185_6 : zT 185 6 = some (.ixor, 1, 0, 0, 0) := by rfl
theorem t185_7 : zT 185 7 = some (.ifCond .ge 11, 3, 0, 0, 0) := by rfl
theorem t185_10 : zT 185 10 = some (.iload_n 2, 1, 0, 0, 0) := by rfl
theorem t185_11 : zT 185 11 = some (.ifCond .eq 7, 3, 0, 0, 0) := by rfl
theorem t185_14 : zT 185 14 = some (.iload_n 2, 1, 0, 0, 0) := by rfl
theorem t185_15 : zT 185 15 = some (.iload_n 1, 1, 0, 0, 0) := by rfl
theorem t185_16 : zT 185 16 = some (.iadd, 1, 0, 0, 0) := by rfl
theorem t185_17 : zT 185 17 = some (.ireturn, 1, 0, 0, 0) := by rfl
theorem t185_18 : zT 185 18 = some (.iload_n 2, 1, 0, 0, 0) := by rfl
theorem t185_19 : zT 185 19 = some (.ireturn, 1, 0, 0, 0) := by rfl
theorem t186_0 : zT 186 0 = some (.lload_n 0, 1, 0, 0, 0) := by rfl
theorem t186_1 : zT 186 1 = some (.bipush 8, 2, 0, 0, 0) := by rfl
theorem t186_3 : zT 186 3 = some (.iload_n 2, 1, 0, 0, 0) := by rfl
theorem t186_4 : zT 186 4 = some (.imul, 1, 0, 0, 0) := by rfl
theorem t186_5 : zT 186 5 = some (.lushr, 1, 0, 0, 0) := by rfl
theorem t186_6 : zT 186 6 = some (.ldc2_w 31, 3, 255, 0, 739) := by rfl
theorem t186_9 : zT 186 9 = some (.land, 1, 0, 0, 0) := by rfl
theorem t186_10 : zT 186 10 = some (.l2i, 1, 0, 0, 0) := by rfl
theorem t186_11 : zT 186 11 = some (.ireturn, 1, 0, 0, 0) := by rfl
/-! X10_put FiveInksModel.put -/
theorem k172_0 {X : Nat × (Nat → Int32)} {I : Nat → Nat → Int32} {v1 : Int64}  : zr X 172 0 [.ref 160, .long v1, .null, .null, .null, .null, .null, .null] [] (zk I) = zr X 172 13 [.ref 160, .long v1, .null, .int 0, .long v1, .null, .int 1, .null] [] (zk (zs1 I 160 0 0)) :=
  (zr_aload_n t172_0 rfl).trans <|
    (zr_iconst t172_1 zci_0).trans <|
    (zr_putI t172_2 (rfl) (Or.inl rfl)).trans <|
    (zr_iconst t172_5 zci_0).trans <|
    (zr_istore_n t172_6 rfl rfl).trans <|
    (zr_lload_n t172_7 rfl).trans <|
    (zr_lstore t172_8 rfl rfl).trans <|
    (zr_iconst t172_10 zci_1).trans <|
    zr_istore t172_11 rfl rfl
theorem k172_13 {X : Nat × (Nat → Int32)} {I : Nat → Nat → Int32} {v1 : Int64} {v3 : Int32} {v4 : Int64} {v6 : Int32}  : zr X 172 13 [.ref 160, .long v1, .null, .int v3, .long v4, .null, .int v6, .null] [] (zk I) = if 8 ≤ v3 then zr X 172 72 [.ref 160, .long v1, .null, .int v3, .long v4, .null, .int v6, .null] [] (zk I) else zr X 172 19 [.ref 160, .long v1, .null, .int v3, .long v4, .null, .int v6, .null] [] (zk I) :=
  (zr_iload_n t172_13 rfl).trans <|
    (zr_bipush t172_14 zcb_8).trans <|
    zr_ic_ge (tgt := 72) t172_16 rfl
theorem k172_19 {X : Nat × (Nat → Int32)} {I : Nat → Nat → Int32} {v1 : Int64} {v3 : Int32} {v4 : Int64} {v6 : Int32}  : zr X 172 19 [.ref 160, .long v1, .null, .int v3, .long v4, .null, .int v6, .null] [] (zk I) = if (lg_cmp (v4 &&& 255) 0) = 0 then zr X 172 72 [.ref 160, .long v1, .null, .int v3, .long v4, .null, .int v6, .null] [] (zk I) else zr X 172 30 [.ref 160, .long v1, .null, .int v3, .long v4, .null, .int v6, .null] [] (zk I) :=
  (zr_lload t172_19 rfl).trans <|
    (zr_ldc2 t172_21 (x := 255) (by decide)).trans <|
    (zr_land t172_24).trans <|
    (zr_lconst t172_25 (x := 0) rfl).trans <|
    (zr_lcmp t172_26).trans <|
    zr_if_eq (tgt := 72) t172_27 rfl
theorem k172_30 {X : Nat × (Nat → Int32)} {I : Nat → Nat → Int32} {v1 : Int64} {v3 : Int32} {v4 : Int64} {v6 : Int32}  : zr X 172 30 [.ref 160, .long v1, .null, .int v3, .long v4, .null, .int v6, .null] [] (zk I) = if v6 = 0 then zr X 172 56 [.ref 160, .long v1, .null, .int v3, .long v4, .null, .int v6, .null] [] (zk I) else zr X 172 35 [.ref 160, .long v1, .null, .int v3, .long v4, .null, .int v6, .null] [] (zk I) :=
  (zr_iload t172_30 rfl).trans <|
    zr_if_eq (tgt := 56) t172_32 rfl
theorem k172_35 {X : Nat × (Nat → Int32)} {I : Nat → Nat → Int32} {v1 : Int64} {v3 : Int32} {v4 : Int64} {v6 : Int32}  : zr X 172 35 [.ref 160, .long v1, .null, .int v3, .long v4, .null, .int v6, .null] [] (zk I) = zcb (zr X 116 0 [.int ((v4 &&& 255).toInt32), .int 33, .int 126] [] (zk I)) (fun v m1 => zr X 172 49 [.ref 160, .long v1, .null, .int v3, .long v4, .null, .int v6, .null] (v.toList ++ []) m1) :=
  (zr_lload t172_35 rfl).trans <|
    (zr_ldc2 t172_37 (x := 255) (by decide)).trans <|
    (zr_land t172_40).trans <|
    (zr_l2i t172_41).trans <|
    (zr_bipush t172_42 zcb_33).trans <|
    (zr_bipush t172_44 zcb_126).trans <|
    zr_calls t172_46 rfl rfl rfl rfl rfl
theorem k172_49 {X : Nat × (Nat → Int32)} {I : Nat → Nat → Int32} {v1 : Int64} {v3 : Int32} {v4 : Int64} {v6 : Int32} {s0 : Int32}  : zr X 172 49 [.ref 160, .long v1, .null, .int v3, .long v4, .null, .int v6, .null] [.int s0] (zk I) = if s0 = 0 then zr X 172 56 [.ref 160, .long v1, .null, .int v3, .long v4, .null, .int v6, .null] [] (zk I) else zr X 172 52 [.ref 160, .long v1, .null, .int v3, .long v4, .null, .int v6, .null] [] (zk I) :=
  zr_if_eq (tgt := 56) t172_49 rfl
theorem k172_52 {X : Nat × (Nat → Int32)} {I : Nat → Nat → Int32} {v1 : Int64} {v3 : Int32} {v4 : Int64} {v6 : Int32}  : zr X 172 52 [.ref 160, .long v1, .null, .int v3, .long v4, .null, .int v6, .null] [] (zk I) = zr X 172 13 [.ref 160, .long v1, .null, .int (v3 + 1), .long ((v4.toUInt64 >>> ((8 : Int32).toInt64.toUInt64 &&& Int64.toUInt64 63)).toInt64), .null, .int 1, .null] [] (zk I) :=
  (zr_iconst t172_52 zci_1).trans <|
    (zr_goto (tgt := 57) t172_53 rfl).trans <|
    (zr_istore t172_57 rfl rfl).trans <|
    (zr_lload t172_59 rfl).trans <|
    (zr_bipush t172_61 zcb_8).trans <|
    (zr_lushr t172_63).trans <|
    (zr_lstore t172_64 rfl rfl).trans <|
    (zr_iinc t172_66 rfl rfl (congrArg (fun z => v3 + z) zci_1) rfl).trans <|
    zr_goto (tgt := 13) t172_69 rfl
theorem k172_56 {X : Nat × (Nat → Int32)} {I : Nat → Nat → Int32} {v1 : Int64} {v3 : Int32} {v4 : Int64} {v6 : Int32}  : zr X 172 56 [.ref 160, .long v1, .null, .int v3, .long v4, .null, .int v6, .null] [] (zk I) = zr X 172 13 [.ref 160, .long v1, .null, .int (v3 + 1), .long ((v4.toUInt64 >>> ((8 : Int32).toInt64.toUInt64 &&& Int64.toUInt64 63)).toInt64), .null, .int 0, .null] [] (zk I) :=
  (zr_iconst t172_56 zci_0).trans <|
    (zr_istore t172_57 rfl rfl).trans <|
    (zr_lload t172_59 rfl).trans <|
    (zr_bipush t172_61 zcb_8).trans <|
    (zr_lushr t172_63).trans <|
    (zr_lstore t172_64 rfl rfl).trans <|
    (zr_iinc t172_66 rfl rfl (congrArg (fun z => v3 + z) zci_1) rfl).trans <|
    zr_goto (tgt := 13) t172_69 rfl
theorem k172_72 {X : Nat × (Nat → Int32)} {I : Nat → Nat → Int32} {v1 : Int64} {v3 : Int32} {v4 : Int64} {v6 : Int32}  : zr X 172 72 [.ref 160, .long v1, .null, .int v3, .long v4, .null, .int v6, .null] [] (zk I) = if v3 = 0 then zr X 172 88 [.ref 160, .long v1, .null, .int v3, .long v4, .null, .int v6, .null] [] (zk I) else zr X 172 76 [.ref 160, .long v1, .null, .int v3, .long v4, .null, .int v6, .null] [] (zk I) :=
  (zr_iload_n t172_72 rfl).trans <|
    zr_if_eq (tgt := 88) t172_73 rfl
theorem k172_76 {X : Nat × (Nat → Int32)} {I : Nat → Nat → Int32} {v1 : Int64} {v3 : Int32} {v4 : Int64} {v6 : Int32}  : zr X 172 76 [.ref 160, .long v1, .null, .int v3, .long v4, .null, .int v6, .null] [] (zk I) = if v6 = 0 then zr X 172 88 [.ref 160, .long v1, .null, .int v3, .long v4, .null, .int v6, .null] [] (zk I) else zr X 172 81 [.ref 160, .long v1, .null, .int v3, .long v4, .null, .int v6, .null] [] (zk I) :=
  (zr_iload t172_76 rfl).trans <|
    zr_if_eq (tgt := 88) t172_78 rfl
theorem k172_81 {X : Nat × (Nat → Int32)} {I : Nat → Nat → Int32} {v1 : Int64} {v3 : Int32} {v4 : Int64} {v6 : Int32}  : zr X 172 81 [.ref 160, .long v1, .null, .int v3, .long v4, .null, .int v6, .null] [] (zk I) = if (lg_cmp v4 0) = 0 then zr X 172 91 [.ref 160, .long v1, .null, .int v3, .long v4, .null, .int v6, .null] [] (zk I) else zr X 172 88 [.ref 160, .long v1, .null, .int v3, .long v4, .null, .int v6, .null] [] (zk I) :=
  (zr_lload t172_81 rfl).trans <|
    (zr_lconst t172_83 (x := 0) rfl).trans <|
    (zr_lcmp t172_84).trans <|
    zr_if_eq (tgt := 91) t172_85 rfl
theorem k172_88 {X : Nat × (Nat → Int32)} {I : Nat → Nat → Int32} {v1 : Int64} {v3 : Int32} {v4 : Int64} {v6 : Int32}  : zr X 172 88 [.ref 160, .long v1, .null, .int v3, .long v4, .null, .int v6, .null] [] (zk I) = some (some (.int (-2)), zk I) :=
  (zr_bipush t172_88 zcb_m2).trans <|
    zr_iret t172_90 rfl
theorem k172_91 {X : Nat × (Nat → Int32)} {I : Nat → Nat → Int32} {v1 : Int64} {v3 : Int32} {v4 : Int64} {v6 : Int32}  : zr X 172 91 [.ref 160, .long v1, .null, .int v3, .long v4, .null, .int v6, .null] [] (zk I) = if ((I 160 8) + v3) ≤ 60 then zr X 172 105 [.ref 160, .long v1, .null, .int v3, .long v4, .null, .int v6, .null] [] (zk I) else zr X 172 102 [.ref 160, .long v1, .null, .int v3, .long v4, .null, .int v6, .null] [] (zk I) :=
  (zr_aload_n t172_91 rfl).trans <|
    (zr_getI t172_92 (rfl)).trans <|
    (zr_iload_n t172_95 rfl).trans <|
    (zr_iadd t172_96).trans <|
    (zr_bipush t172_97 zcb_60).trans <|
    zr_ic_le (tgt := 105) t172_99 rfl
theorem k172_102 {X : Nat × (Nat → Int32)} {I : Nat → Nat → Int32} {v1 : Int64} {v3 : Int32} {v4 : Int64} {v6 : Int32}  : zr X 172 102 [.ref 160, .long v1, .null, .int v3, .long v4, .null, .int v6, .null] [] (zk I) = some (some (.int (-4)), zk I) :=
  (zr_bipush t172_102 zcb_m4).trans <|
    zr_iret t172_104 rfl
theorem k172_105 {X : Nat × (Nat → Int32)} {I : Nat → Nat → Int32} {v1 : Int64} {v3 : Int32} {v4 : Int64} {v6 : Int32}  : zr X 172 105 [.ref 160, .long v1, .null, .int v3, .long v4, .null, .int v6, .null] [] (zk I) = zr X 172 108 [.ref 160, .long v1, .null, .int v3, .long v4, .null, .int v6, .int 0] [] (zk I) :=
  (zr_iconst t172_105 zci_0).trans <|
    zr_istore t172_106 rfl rfl
theorem k172_108 {X : Nat × (Nat → Int32)} {I : Nat → Nat → Int32} {v1 : Int64} {v3 : Int32} {v4 : Int64} {v6 : Int32} {v7 : Int32}  : zr X 172 108 [.ref 160, .long v1, .null, .int v3, .long v4, .null, .int v6, .int v7] [] (zk I) = if v3 ≤ v7 then zr X 172 148 [.ref 160, .long v1, .null, .int v3, .long v4, .null, .int v6, .int v7] [] (zk I) else zr X 172 114 [.ref 160, .long v1, .null, .int v3, .long v4, .null, .int v6, .int v7] [] (zk I) :=
  (zr_iload t172_108 rfl).trans <|
    (zr_iload_n t172_110 rfl).trans <|
    zr_ic_ge (tgt := 148) t172_111 rfl
theorem k172_114 {X : Nat × (Nat → Int32)} {I : Nat → Nat → Int32} {v1 : Int64} {v3 : Int32} {v4 : Int64} {v6 : Int32} {v7 : Int32} (q1 : zin ((I 160 8) + v7) 60 = true) : zr X 172 114 [.ref 160, .long v1, .null, .int v3, .long v4, .null, .int v6, .int v7] [] (zk I) = zr X 172 108 [.ref 160, .long v1, .null, .int v3, .long v4, .null, .int v6, .int (v7 + 1)] [] (zk (zs1 I 166 (zx ((I 160 8) + v7)) ((((v1.toUInt64 >>> ((8 * ((v3 - 1) - v7)).toInt64.toUInt64 &&& Int64.toUInt64 63)).toInt64) &&& 255).toInt32))) :=
  (zr_aload_n t172_114 rfl).trans <|
    (zr_getR (u := 166) t172_115 (rfl)).trans <|
    (zr_aload_n t172_118 rfl).trans <|
    (zr_getI t172_119 (rfl)).trans <|
    (zr_iload t172_122 rfl).trans <|
    (zr_iadd t172_124).trans <|
    (zr_lload_n t172_125 rfl).trans <|
    (zr_bipush t172_126 zcb_8).trans <|
    (zr_iload_n t172_128 rfl).trans <|
    (zr_iconst t172_129 zci_1).trans <|
    (zr_isub t172_130).trans <|
    (zr_iload t172_131 rfl).trans <|
    (zr_isub t172_133).trans <|
    (zr_imul t172_134).trans <|
    (zr_lushr t172_135).trans <|
    (zr_ldc2 t172_136 (x := 255) (by decide)).trans <|
    (zr_land t172_139).trans <|
    (zr_l2i t172_140).trans <|
    (zr_iast (j := zx ((I 160 8) + v7)) t172_141 (N := 60) rfl rfl q1).trans <|
    (zr_iinc t172_142 rfl rfl (congrArg (fun z => v7 + z) zci_1) rfl).trans <|
    zr_goto (tgt := 108) t172_145 rfl
theorem k172_148 {X : Nat × (Nat → Int32)} {I : Nat → Nat → Int32} {v1 : Int64} {v3 : Int32} {v4 : Int64} {v6 : Int32} {v7 : Int32}  : zr X 172 148 [.ref 160, .long v1, .null, .int v3, .long v4, .null, .int v6, .int v7] [] (zk I) = some (some (.int ((zs1 I 160 8 ((I 160 8) + v3)) 160 8)), zk (zs1 I 160 8 ((I 160 8) + v3))) :=
  (zr_aload_n t172_148 rfl).trans <|
    (zr_dup t172_149 rfl).trans <|
    (zr_getI t172_150 (rfl)).trans <|
    (zr_iload_n t172_153 rfl).trans <|
    (zr_iadd t172_154).trans <|
    (zr_putI t172_155 (rfl) (Or.inl rfl)).trans <|
    (zr_aload_n t172_158 rfl).trans <|
    (zr_getI t172_159 (rfl)).trans <|
    zr_iret t172_162 rfl
/-! X10_wipe FiveInksModel.wipe -/
theorem k173_0 {X : Nat × (Nat → Int32)} {I : Nat → Nat → Int32}   : zr X 173 0 [.ref 160, .null] [] (zk I) = some (some (.int ((zs1 I 160 0 0) 160 8)), zk (zs1 (zs1 I 160 0 0) 160 8 0)) :=
  (zr_aload_n t173_0 rfl).trans <|
    (zr_iconst t173_1 zci_0).trans <|
    (zr_putI t173_2 (rfl) (Or.inl rfl)).trans <|
    (zr_aload_n t173_5 rfl).trans <|
    (zr_getI t173_6 (rfl)).trans <|
    (zr_istore_n t173_9 rfl rfl).trans <|
    (zr_aload_n t173_10 rfl).trans <|
    (zr_iconst t173_11 zci_0).trans <|
    (zr_putI t173_12 (rfl) (Or.inl rfl)).trans <|
    (zr_iload_n t173_15 rfl).trans <|
    zr_iret t173_16 rfl
/-! X10_sign FiveInksModel.sign -/
theorem k174_0 {X : Nat × (Nat → Int32)} {I : Nat → Nat → Int32}   : zr X 174 0 [.ref 160] [] (zk I) = if (I 160 8) ≤ (I 160 15) then zr X 174 23 [.ref 160] [] (zk I) else zr X 174 11 [.ref 160] [] (zk I) :=
  (zr_aload_n t174_0 rfl).trans <|
    (zr_getI t174_1 (rfl)).trans <|
    (zr_aload_n t174_4 rfl).trans <|
    (zr_getI t174_5 (rfl)).trans <|
    zr_ic_ge (tgt := 23) t174_8 rfl
theorem k174_11 {X : Nat × (Nat → Int32)} {I : Nat → Nat → Int32}  (q1 : zin (I 160 15) 60 = true) : zr X 174 11 [.ref 160] [] (zk I) = some (some (.int (I 166 (zx (I 160 15)))), zk I) :=
  (zr_aload_n t174_11 rfl).trans <|
    (zr_getR (u := 166) t174_12 (rfl)).trans <|
    (zr_aload_n t174_15 rfl).trans <|
    (zr_getI t174_16 (rfl)).trans <|
    (zr_iald (j := zx (I 160 15)) t174_19 (N := 60) rfl rfl q1).trans <|
    (zr_goto (tgt := 24) t174_20 rfl).trans <|
    zr_iret t174_24 rfl
theorem k174_23 {X : Nat × (Nat → Int32)} {I : Nat → Nat → Int32}   : zr X 174 23 [.ref 160] [] (zk I) = some (some (.int 0), zk I) :=
  (zr_iconst t174_23 zci_0).trans <|
    zr_iret t174_24 rfl
/-! X10_wants FiveInksModel.wants -/
theorem k175_0 {X : Nat × (Nat → Int32)} {I : Nat → Nat → Int32} {v1 : Int32}  : zr X 175 0 [.ref 160, .int v1] [] (zk I) = if (I 160 16) = 0 then zr X 175 20 [.ref 160, .int v1] [.ref 160] (zk I) else zr X 175 8 [.ref 160, .int v1] [.ref 160] (zk I) :=
  (zr_aload_n t175_0 rfl).trans <|
    (zr_aload_n t175_1 rfl).trans <|
    (zr_getI t175_2 (rfl)).trans <|
    zr_if_eq (tgt := 20) t175_5 rfl
theorem k175_8 {X : Nat × (Nat → Int32)} {I : Nat → Nat → Int32} {v1 : Int32}  : zr X 175 8 [.ref 160, .int v1] [.ref 160] (zk I) = zcb (zr X 174 0 [.ref 160] [] (zk I)) (fun v m1 => zr X 175 12 [.ref 160, .int v1] (v.toList ++ [.ref 160]) m1) :=
  (zr_aload_n t175_8 rfl).trans <|
    zr_callv t175_9 rfl rfl rfl rfl
theorem k175_12 {X : Nat × (Nat → Int32)} {I : Nat → Nat → Int32} {v1 : Int32} {s1 : Int32}  : zr X 175 12 [.ref 160, .int v1] [.int s1, .ref 160] (zk I) = if ¬ s1 = v1 then zr X 175 20 [.ref 160, .int v1] [.ref 160] (zk I) else zr X 175 16 [.ref 160, .int v1] [.ref 160] (zk I) :=
  (zr_iload_n t175_12 rfl).trans <|
    zr_ic_ne (tgt := 20) t175_13 rfl
theorem k175_16 {X : Nat × (Nat → Int32)} {I : Nat → Nat → Int32} {v1 : Int32}  : zr X 175 16 [.ref 160, .int v1] [.ref 160] (zk I) = if ((zs1 I 160 16 1) 160 16) = 0 then zr X 175 40 [.ref 160, .int v1] [.int ((zs1 I 160 16 1) 160 15), .ref 160] (zk (zs1 I 160 16 1)) else zr X 175 36 [.ref 160, .int v1] [.int ((zs1 I 160 16 1) 160 15), .ref 160] (zk (zs1 I 160 16 1)) :=
  (zr_iconst t175_16 zci_1).trans <|
    (zr_goto (tgt := 21) t175_17 rfl).trans <|
    (zr_putI t175_21 (rfl) (Or.inr ⟨rfl, Or.inr rfl⟩)).trans <|
    (zr_aload_n t175_24 rfl).trans <|
    (zr_dup t175_25 rfl).trans <|
    (zr_getI t175_26 (rfl)).trans <|
    (zr_aload_n t175_29 rfl).trans <|
    (zr_getI t175_30 (rfl)).trans <|
    zr_if_eq (tgt := 40) t175_33 rfl
theorem k175_20 {X : Nat × (Nat → Int32)} {I : Nat → Nat → Int32} {v1 : Int32}  : zr X 175 20 [.ref 160, .int v1] [.ref 160] (zk I) = if ((zs1 I 160 16 0) 160 16) = 0 then zr X 175 40 [.ref 160, .int v1] [.int ((zs1 I 160 16 0) 160 15), .ref 160] (zk (zs1 I 160 16 0)) else zr X 175 36 [.ref 160, .int v1] [.int ((zs1 I 160 16 0) 160 15), .ref 160] (zk (zs1 I 160 16 0)) :=
  (zr_iconst t175_20 zci_0).trans <|
    (zr_putI t175_21 (rfl) (Or.inr ⟨rfl, Or.inl rfl⟩)).trans <|
    (zr_aload_n t175_24 rfl).trans <|
    (zr_dup t175_25 rfl).trans <|
    (zr_getI t175_26 (rfl)).trans <|
    (zr_aload_n t175_29 rfl).trans <|
    (zr_getI t175_30 (rfl)).trans <|
    zr_if_eq (tgt := 40) t175_33 rfl
theorem k175_36 {X : Nat × (Nat → Int32)} {I : Nat → Nat → Int32} {v1 : Int32} {s1 : Int32}  : zr X 175 36 [.ref 160, .int v1] [.int s1, .ref 160] (zk I) = some (none, zk (zs1 I 160 15 (s1 + 1))) :=
  (zr_iconst t175_36 zci_1).trans <|
    (zr_goto (tgt := 41) t175_37 rfl).trans <|
    (zr_iadd t175_41).trans <|
    (zr_putI t175_42 (rfl) (Or.inl rfl)).trans <|
    zr_vret t175_45 rfl
theorem k175_40 {X : Nat × (Nat → Int32)} {I : Nat → Nat → Int32} {v1 : Int32} {s1 : Int32}  : zr X 175 40 [.ref 160, .int v1] [.int s1, .ref 160] (zk I) = some (none, zk (zs1 I 160 15 (s1 + 0))) :=
  (zr_iconst t175_40 zci_0).trans <|
    (zr_iadd t175_41).trans <|
    (zr_putI t175_42 (rfl) (Or.inl rfl)).trans <|
    zr_vret t175_45 rfl
/-! X10_digit FiveInksModel.digit -/
theorem k176_0 {X : Nat × (Nat → Int32)} {I : Nat → Nat → Int32} {v1 : Int32}  : zr X 176 0 [.ref 160, .int v1, .null] [] (zk I) = if (I 160 16) = 0 then zr X 176 28 [.ref 160, .int v1, .null] [.ref 160] (zk I) else zr X 176 8 [.ref 160, .int v1, .null] [.ref 160] (zk I) :=
  (zr_aload_n t176_0 rfl).trans <|
    (zr_aload_n t176_1 rfl).trans <|
    (zr_getI t176_2 (rfl)).trans <|
    zr_if_eq (tgt := 28) t176_5 rfl
theorem k176_8 {X : Nat × (Nat → Int32)} {I : Nat → Nat → Int32} {v1 : Int32}  : zr X 176 8 [.ref 160, .int v1, .null] [.ref 160] (zk I) = zcb (zr X 174 0 [.ref 160] [] (zk I)) (fun v m1 => zr X 176 12 [.ref 160, .int v1, .null] (v.toList ++ [.ref 160]) m1) :=
  (zr_aload_n t176_8 rfl).trans <|
    zr_callv t176_9 rfl rfl rfl rfl
theorem k176_12 {X : Nat × (Nat → Int32)} {I : Nat → Nat → Int32} {v1 : Int32} {s1 : Int32}  : zr X 176 12 [.ref 160, .int v1, .null] [.int s1, .ref 160] (zk I) = zcb (zr X 116 0 [.int s1, .int 48, .int (48 + v1)] [] (zk I)) (fun v m1 => zr X 176 21 [.ref 160, .int v1, .null] (v.toList ++ [.ref 160]) m1) :=
  (zr_bipush t176_12 zcb_48).trans <|
    (zr_bipush t176_14 zcb_48).trans <|
    (zr_iload_n t176_16 rfl).trans <|
    (zr_iadd t176_17).trans <|
    zr_calls t176_18 rfl rfl rfl rfl rfl
theorem k176_21 {X : Nat × (Nat → Int32)} {I : Nat → Nat → Int32} {v1 : Int32} {s1 : Int32}  : zr X 176 21 [.ref 160, .int v1, .null] [.int s1, .ref 160] (zk I) = if s1 = 0 then zr X 176 28 [.ref 160, .int v1, .null] [.ref 160] (zk I) else zr X 176 24 [.ref 160, .int v1, .null] [.ref 160] (zk I) :=
  zr_if_eq (tgt := 28) t176_21 rfl
theorem k176_24 {X : Nat × (Nat → Int32)} {I : Nat → Nat → Int32} {v1 : Int32}  : zr X 176 24 [.ref 160, .int v1, .null] [.ref 160] (zk I) = zcb (zr X 174 0 [.ref 160] [] (zk (zs1 I 160 16 1))) (fun v m1 => zr X 176 36 [.ref 160, .int v1, .null] (v.toList ++ []) m1) :=
  (zr_iconst t176_24 zci_1).trans <|
    (zr_goto (tgt := 29) t176_25 rfl).trans <|
    (zr_putI t176_29 (rfl) (Or.inr ⟨rfl, Or.inr rfl⟩)).trans <|
    (zr_aload_n t176_32 rfl).trans <|
    zr_callv t176_33 rfl rfl rfl rfl
theorem k176_28 {X : Nat × (Nat → Int32)} {I : Nat → Nat → Int32} {v1 : Int32}  : zr X 176 28 [.ref 160, .int v1, .null] [.ref 160] (zk I) = zcb (zr X 174 0 [.ref 160] [] (zk (zs1 I 160 16 0))) (fun v m1 => zr X 176 36 [.ref 160, .int v1, .null] (v.toList ++ []) m1) :=
  (zr_iconst t176_28 zci_0).trans <|
    (zr_putI t176_29 (rfl) (Or.inr ⟨rfl, Or.inl rfl⟩)).trans <|
    (zr_aload_n t176_32 rfl).trans <|
    zr_callv t176_33 rfl rfl rfl rfl
theorem k176_36 {X : Nat × (Nat → Int32)} {I : Nat → Nat → Int32} {v1 : Int32} {s0 : Int32}  : zr X 176 36 [.ref 160, .int v1, .null] [.int s0] (zk I) = if (I 160 16) = 0 then zr X 176 56 [.ref 160, .int v1, .int (s0 - 48)] [.int (I 160 15), .ref 160] (zk I) else zr X 176 52 [.ref 160, .int v1, .int (s0 - 48)] [.int (I 160 15), .ref 160] (zk I) :=
  (zr_bipush t176_36 zcb_48).trans <|
    (zr_isub t176_38).trans <|
    (zr_istore_n t176_39 rfl rfl).trans <|
    (zr_aload_n t176_40 rfl).trans <|
    (zr_dup t176_41 rfl).trans <|
    (zr_getI t176_42 (rfl)).trans <|
    (zr_aload_n t176_45 rfl).trans <|
    (zr_getI t176_46 (rfl)).trans <|
    zr_if_eq (tgt := 56) t176_49 rfl
theorem k176_52 {X : Nat × (Nat → Int32)} {I : Nat → Nat → Int32} {v1 : Int32} {v2 : Int32} {s1 : Int32}  : zr X 176 52 [.ref 160, .int v1, .int v2] [.int s1, .ref 160] (zk I) = some (some (.int v2), zk (zs1 I 160 15 (s1 + 1))) :=
  (zr_iconst t176_52 zci_1).trans <|
    (zr_goto (tgt := 57) t176_53 rfl).trans <|
    (zr_iadd t176_57).trans <|
    (zr_putI t176_58 (rfl) (Or.inl rfl)).trans <|
    (zr_iload_n t176_61 rfl).trans <|
    zr_iret t176_62 rfl
theorem k176_56 {X : Nat × (Nat → Int32)} {I : Nat → Nat → Int32} {v1 : Int32} {v2 : Int32} {s1 : Int32}  : zr X 176 56 [.ref 160, .int v1, .int v2] [.int s1, .ref 160] (zk I) = some (some (.int v2), zk (zs1 I 160 15 (s1 + 0))) :=
  (zr_iconst t176_56 zci_0).trans <|
    (zr_iadd t176_57).trans <|
    (zr_putI t176_58 (rfl) (Or.inl rfl)).trans <|
    (zr_iload_n t176_61 rfl).trans <|
    zr_iret t176_62 rfl
/-! X10_gap FiveInksModel.gap -/
theorem k177_0 {X : Nat × (Nat → Int32)} {I : Nat → Nat → Int32}   : zr X 177 0 [.ref 160, .null] [] (zk I) = zcb (zr X 176 0 [.ref 160, .int 9, .null] [] (zk I)) (fun v m1 => zr X 177 6 [.ref 160, .null] (v.toList ++ []) m1) :=
  (zr_aload_n t177_0 rfl).trans <|
    (zr_bipush t177_1 zcb_9).trans <|
    zr_callv t177_3 rfl rfl rfl rfl
theorem k177_6 {X : Nat × (Nat → Int32)} {I : Nat → Nat → Int32} {s0 : Int32}  : zr X 177 6 [.ref 160, .null] [.int s0] (zk I) = if (I 160 16) = 0 then zr X 177 72 [.ref 160, .int s0] [] (zk I) else zr X 177 14 [.ref 160, .int s0] [] (zk I) :=
  (zr_istore_n t177_6 rfl rfl).trans <|
    (zr_aload_n t177_7 rfl).trans <|
    (zr_getI t177_8 (rfl)).trans <|
    zr_if_eq (tgt := 72) t177_11 rfl
theorem k177_14 {X : Nat × (Nat → Int32)} {I : Nat → Nat → Int32} {v1 : Int32}  : zr X 177 14 [.ref 160, .int v1] [] (zk I) = if v1 ≤ 0 then zr X 177 72 [.ref 160, .int v1] [] (zk I) else zr X 177 18 [.ref 160, .int v1] [] (zk I) :=
  (zr_iload_n t177_14 rfl).trans <|
    zr_if_le (tgt := 72) t177_15 rfl
theorem k177_18 {X : Nat × (Nat → Int32)} {I : Nat → Nat → Int32} {v1 : Int32}  : zr X 177 18 [.ref 160, .int v1] [] (zk I) = zcb (zr X 174 0 [.ref 160] [] (zk I)) (fun v m1 => zr X 177 22 [.ref 160, .int v1] (v.toList ++ []) m1) :=
  (zr_aload_n t177_18 rfl).trans <|
    zr_callv t177_19 rfl rfl rfl rfl
theorem k177_22 {X : Nat × (Nat → Int32)} {I : Nat → Nat → Int32} {v1 : Int32} {s0 : Int32}  : zr X 177 22 [.ref 160, .int v1] [.int s0] (zk I) = zcb (zr X 116 0 [.int s0, .int 48, .int 57] [] (zk I)) (fun v m1 => zr X 177 29 [.ref 160, .int v1] (v.toList ++ []) m1) :=
  (zr_bipush t177_22 zcb_48).trans <|
    (zr_bipush t177_24 zcb_57).trans <|
    zr_calls t177_26 rfl rfl rfl rfl rfl
theorem k177_29 {X : Nat × (Nat → Int32)} {I : Nat → Nat → Int32} {v1 : Int32} {s0 : Int32}  : zr X 177 29 [.ref 160, .int v1] [.int s0] (zk I) = if s0 = 0 then zr X 177 72 [.ref 160, .int v1] [] (zk I) else zr X 177 32 [.ref 160, .int v1] [] (zk I) :=
  zr_if_eq (tgt := 72) t177_29 rfl
theorem k177_32 {X : Nat × (Nat → Int32)} {I : Nat → Nat → Int32} {v1 : Int32}  : zr X 177 32 [.ref 160, .int v1] [] (zk I) = zcb (zr X 174 0 [.ref 160] [] (zk I)) (fun v m1 => zr X 177 40 [.ref 160, .int v1] (v.toList ++ [.int (10 * v1)]) m1) :=
  (zr_bipush t177_32 zcb_10).trans <|
    (zr_iload_n t177_34 rfl).trans <|
    (zr_imul t177_35).trans <|
    (zr_aload_n t177_36 rfl).trans <|
    zr_callv t177_37 rfl rfl rfl rfl
theorem k177_40 {X : Nat × (Nat → Int32)} {I : Nat → Nat → Int32} {v1 : Int32} {s0 : Int32} {s1 : Int32}  : zr X 177 40 [.ref 160, .int v1] [.int s1, .int s0] (zk I) = if 60 < ((s0 + s1) - 48) then zr X 177 72 [.ref 160, .int v1] [] (zk I) else zr X 177 49 [.ref 160, .int v1] [] (zk I) :=
  (zr_iadd t177_40).trans <|
    (zr_bipush t177_41 zcb_48).trans <|
    (zr_isub t177_43).trans <|
    (zr_bipush t177_44 zcb_60).trans <|
    zr_ic_gt (tgt := 72) t177_46 rfl
theorem k177_49 {X : Nat × (Nat → Int32)} {I : Nat → Nat → Int32} {v1 : Int32}  : zr X 177 49 [.ref 160, .int v1] [] (zk I) = zcb (zr X 174 0 [.ref 160] [] (zk I)) (fun v m1 => zr X 177 57 [.ref 160, .int v1] (v.toList ++ [.int (10 * v1)]) m1) :=
  (zr_bipush t177_49 zcb_10).trans <|
    (zr_iload_n t177_51 rfl).trans <|
    (zr_imul t177_52).trans <|
    (zr_aload_n t177_53 rfl).trans <|
    zr_callv t177_54 rfl rfl rfl rfl
theorem k177_57 {X : Nat × (Nat → Int32)} {I : Nat → Nat → Int32} {v1 : Int32} {s0 : Int32} {s1 : Int32}  : zr X 177 57 [.ref 160, .int v1] [.int s1, .int s0] (zk I) = some (some (.int ((s0 + s1) - 48)), zk (zs1 I 160 15 ((I 160 15) + 1))) :=
  (zr_iadd t177_57).trans <|
    (zr_bipush t177_58 zcb_48).trans <|
    (zr_isub t177_60).trans <|
    (zr_istore_n t177_61 rfl rfl).trans <|
    (zr_aload_n t177_62 rfl).trans <|
    (zr_dup t177_63 rfl).trans <|
    (zr_getI t177_64 (rfl)).trans <|
    (zr_iconst t177_67 zci_1).trans <|
    (zr_iadd t177_68).trans <|
    (zr_putI t177_69 (rfl) (Or.inl rfl)).trans <|
    (zr_iload_n t177_72 rfl).trans <|
    zr_iret t177_73 rfl
theorem k177_72 {X : Nat × (Nat → Int32)} {I : Nat → Nat → Int32} {v1 : Int32}  : zr X 177 72 [.ref 160, .int v1] [] (zk I) = some (some (.int v1), zk I) :=
  (zr_iload_n t177_72 rfl).trans <|
    zr_iret t177_73 rfl
/-! X10_letters FiveInksModel.letters -/
theorem k178_0 {X : Nat × (Nat → Int32)} {I : Nat → Nat → Int32} {v1 : Int32}  : zr X 178 0 [.ref 160, .int v1, .null] [] (zk I) = zr X 178 2 [.ref 160, .int v1, .int 0] [] (zk I) :=
  (zr_iconst t178_0 zci_0).trans <|
    zr_istore_n t178_1 rfl rfl
theorem k178_2 {X : Nat × (Nat → Int32)} {I : Nat → Nat → Int32} {v1 : Int32} {v2 : Int32}  : zr X 178 2 [.ref 160, .int v1, .int v2] [] (zk I) = if (I 160 16) = 0 then zr X 178 63 [.ref 160, .int v1, .int v2] [] (zk I) else zr X 178 9 [.ref 160, .int v1, .int v2] [] (zk I) :=
  (zr_aload_n t178_2 rfl).trans <|
    (zr_getI t178_3 (rfl)).trans <|
    zr_if_eq (tgt := 63) t178_6 rfl
theorem k178_9 {X : Nat × (Nat → Int32)} {I : Nat → Nat → Int32} {v1 : Int32} {v2 : Int32}  : zr X 178 9 [.ref 160, .int v1, .int v2] [] (zk I) = if 6 ≤ v2 then zr X 178 63 [.ref 160, .int v1, .int v2] [] (zk I) else zr X 178 15 [.ref 160, .int v1, .int v2] [] (zk I) :=
  (zr_iload_n t178_9 rfl).trans <|
    (zr_bipush t178_10 zcb_6).trans <|
    zr_ic_ge (tgt := 63) t178_12 rfl
theorem k178_15 {X : Nat × (Nat → Int32)} {I : Nat → Nat → Int32} {v1 : Int32} {v2 : Int32}  : zr X 178 15 [.ref 160, .int v1, .int v2] [] (zk I) = zcb (zr X 174 0 [.ref 160] [] (zk I)) (fun v m1 => zr X 178 19 [.ref 160, .int v1, .int v2] (v.toList ++ []) m1) :=
  (zr_aload_n t178_15 rfl).trans <|
    zr_callv t178_16 rfl rfl rfl rfl
theorem k178_19 {X : Nat × (Nat → Int32)} {I : Nat → Nat → Int32} {v1 : Int32} {v2 : Int32} {s0 : Int32}  : zr X 178 19 [.ref 160, .int v1, .int v2] [.int s0] (zk I) = zcb (zr X 116 0 [.int s0, .int 97, .int 122] [] (zk I)) (fun v m1 => zr X 178 26 [.ref 160, .int v1, .int v2] (v.toList ++ []) m1) :=
  (zr_bipush t178_19 zcb_97).trans <|
    (zr_bipush t178_21 zcb_122).trans <|
    zr_calls t178_23 rfl rfl rfl rfl rfl
theorem k178_26 {X : Nat × (Nat → Int32)} {I : Nat → Nat → Int32} {v1 : Int32} {v2 : Int32} {s0 : Int32}  : zr X 178 26 [.ref 160, .int v1, .int v2] [.int s0] (zk I) = if s0 = 0 then zr X 178 63 [.ref 160, .int v1, .int v2] [] (zk I) else zr X 178 29 [.ref 160, .int v1, .int v2] [] (zk I) :=
  zr_if_eq (tgt := 63) t178_26 rfl
theorem k178_29 {X : Nat × (Nat → Int32)} {I : Nat → Nat → Int32} {v1 : Int32} {v2 : Int32}  : zr X 178 29 [.ref 160, .int v1, .int v2] [] (zk I) = zcb (zr X 174 0 [.ref 160] [] (zk I)) (fun v m1 => zr X 178 43 [.ref 160, .int v1, .int v2] (v.toList ++ [.int ((v1 + 6) + v2), .ref 172]) m1) :=
  (zr_aload_n t178_29 rfl).trans <|
    (zr_getR (u := 172) t178_30 (rfl)).trans <|
    (zr_iload_n t178_33 rfl).trans <|
    (zr_bipush t178_34 zcb_6).trans <|
    (zr_iadd t178_36).trans <|
    (zr_iload_n t178_37 rfl).trans <|
    (zr_iadd t178_38).trans <|
    (zr_aload_n t178_39 rfl).trans <|
    zr_callv t178_40 rfl rfl rfl rfl
theorem k178_43 {X : Nat × (Nat → Int32)} {I : Nat → Nat → Int32} {v1 : Int32} {v2 : Int32} {s1 : Int32} {s2 : Int32} (q1 : zin s1 192 = true) : zr X 178 43 [.ref 160, .int v1, .int v2] [.int s2, .int s1, .ref 172] (zk I) = zr X 178 2 [.ref 160, .int v1, .int (v2 + 1)] [] (zk (zs1 (zs1 I 172 (zx s1) (s2 - 97)) 160 15 ((I 160 15) + 1))) :=
  (zr_bipush t178_43 zcb_97).trans <|
    (zr_isub t178_45).trans <|
    (zr_iast (j := zx s1) t178_46 (N := 192) rfl rfl q1).trans <|
    (zr_iinc t178_47 rfl rfl (congrArg (fun z => v2 + z) zci_1) rfl).trans <|
    (zr_aload_n t178_50 rfl).trans <|
    (zr_dup t178_51 rfl).trans <|
    (zr_getI t178_52 (rfl)).trans <|
    (zr_iconst t178_55 zci_1).trans <|
    (zr_iadd t178_56).trans <|
    (zr_putI t178_57 (rfl) (Or.inl rfl)).trans <|
    zr_goto (tgt := 2) t178_60 rfl
theorem k178_63 {X : Nat × (Nat → Int32)} {I : Nat → Nat → Int32} {v1 : Int32} {v2 : Int32}  : zr X 178 63 [.ref 160, .int v1, .int v2] [] (zk I) = if (I 160 16) = 0 then zr X 178 79 [.ref 160, .int v1, .int v2] [.ref 160] (zk I) else zr X 178 71 [.ref 160, .int v1, .int v2] [.ref 160] (zk I) :=
  (zr_aload_n t178_63 rfl).trans <|
    (zr_aload_n t178_64 rfl).trans <|
    (zr_getI t178_65 (rfl)).trans <|
    zr_if_eq (tgt := 79) t178_68 rfl
theorem k178_71 {X : Nat × (Nat → Int32)} {I : Nat → Nat → Int32} {v1 : Int32} {v2 : Int32}  : zr X 178 71 [.ref 160, .int v1, .int v2] [.ref 160] (zk I) = if v2 ≤ 0 then zr X 178 79 [.ref 160, .int v1, .int v2] [.ref 160] (zk I) else zr X 178 75 [.ref 160, .int v1, .int v2] [.ref 160] (zk I) :=
  (zr_iload_n t178_71 rfl).trans <|
    zr_if_le (tgt := 79) t178_72 rfl
theorem k178_75 {X : Nat × (Nat → Int32)} {I : Nat → Nat → Int32} {v1 : Int32} {v2 : Int32}  : zr X 178 75 [.ref 160, .int v1, .int v2] [.ref 160] (zk I) = some (some (.int v2), zk (zs1 I 160 16 1)) :=
  (zr_iconst t178_75 zci_1).trans <|
    (zr_goto (tgt := 80) t178_76 rfl).trans <|
    (zr_putI t178_80 (rfl) (Or.inr ⟨rfl, Or.inr rfl⟩)).trans <|
    (zr_iload_n t178_83 rfl).trans <|
    zr_iret t178_84 rfl
theorem k178_79 {X : Nat × (Nat → Int32)} {I : Nat → Nat → Int32} {v1 : Int32} {v2 : Int32}  : zr X 178 79 [.ref 160, .int v1, .int v2] [.ref 160] (zk I) = some (some (.int v2), zk (zs1 I 160 16 0)) :=
  (zr_iconst t178_79 zci_0).trans <|
    (zr_putI t178_80 (rfl) (Or.inr ⟨rfl, Or.inl rfl⟩)).trans <|
    (zr_iload_n t178_83 rfl).trans <|
    zr_iret t178_84 rfl
/-! X10_readsMark FiveInksModel.readsMark -/
theorem k179_0 {X : Nat × (Nat → Int32)} {I : Nat → Nat → Int32}   : zr X 179 0 [.ref 160, .null, .null] [] (zk I) = zr X 179 10 [.ref 160, .int (12 * (I 160 18)), .int 0] [] (zk I) :=
  (zr_bipush t179_0 zcb_12).trans <|
    (zr_aload_n t179_2 rfl).trans <|
    (zr_getI t179_3 (rfl)).trans <|
    (zr_imul t179_6).trans <|
    (zr_istore_n t179_7 rfl rfl).trans <|
    (zr_iconst t179_8 zci_0).trans <|
    zr_istore_n t179_9 rfl rfl
theorem k179_10 {X : Nat × (Nat → Int32)} {I : Nat → Nat → Int32} {v1 : Int32} {v2 : Int32}  : zr X 179 10 [.ref 160, .int v1, .int v2] [] (zk I) = if 12 ≤ v2 then zr X 179 31 [.ref 160, .int v1, .int v2] [] (zk I) else zr X 179 16 [.ref 160, .int v1, .int v2] [] (zk I) :=
  (zr_iload_n t179_10 rfl).trans <|
    (zr_bipush t179_11 zcb_12).trans <|
    zr_ic_ge (tgt := 31) t179_13 rfl
theorem k179_16 {X : Nat × (Nat → Int32)} {I : Nat → Nat → Int32} {v1 : Int32} {v2 : Int32} (q1 : zin (v1 + v2) 192 = true) : zr X 179 16 [.ref 160, .int v1, .int v2] [] (zk I) = zr X 179 10 [.ref 160, .int v1, .int (v2 + 1)] [] (zk (zs1 I 172 (zx (v1 + v2)) 0)) :=
  (zr_aload_n t179_16 rfl).trans <|
    (zr_getR (u := 172) t179_17 (rfl)).trans <|
    (zr_iload_n t179_20 rfl).trans <|
    (zr_iload_n t179_21 rfl).trans <|
    (zr_iadd t179_22).trans <|
    (zr_iconst t179_23 zci_0).trans <|
    (zr_iast (j := zx (v1 + v2)) t179_24 (N := 192) rfl rfl q1).trans <|
    (zr_iinc t179_25 rfl rfl (congrArg (fun z => v2 + z) zci_1) rfl).trans <|
    zr_goto (tgt := 10) t179_28 rfl
theorem k179_31 {X : Nat × (Nat → Int32)} {I : Nat → Nat → Int32} {v1 : Int32} {v2 : Int32}  : zr X 179 31 [.ref 160, .int v1, .int v2] [] (zk I) = zcb (zr X 176 0 [.ref 160, .int 4, .null] [] (zk I)) (fun v m1 => zr X 179 43 [.ref 160, .int v1, .int v2] (v.toList ++ [.int (v1 + 0), .ref 172]) m1) :=
  (zr_aload_n t179_31 rfl).trans <|
    (zr_getR (u := 172) t179_32 (rfl)).trans <|
    (zr_iload_n t179_35 rfl).trans <|
    (zr_iconst t179_36 zci_0).trans <|
    (zr_iadd t179_37).trans <|
    (zr_aload_n t179_38 rfl).trans <|
    (zr_iconst t179_39 zci_4).trans <|
    zr_callv t179_40 rfl rfl rfl rfl
theorem k179_43 {X : Nat × (Nat → Int32)} {I : Nat → Nat → Int32} {v1 : Int32} {v2 : Int32} {s1 : Int32} {s2 : Int32} (q1 : zin s1 192 = true) : zr X 179 43 [.ref 160, .int v1, .int v2] [.int s2, .int s1, .ref 172] (zk I) = zcb (zr X 174 0 [.ref 160] [] (zk (zs1 I 172 (zx s1) s2))) (fun v m1 => zr X 179 48 [.ref 160, .int v1, .int v2] (v.toList ++ []) m1) :=
  (zr_iast (j := zx s1) t179_43 (N := 192) rfl rfl q1).trans <|
    (zr_aload_n t179_44 rfl).trans <|
    zr_callv t179_45 rfl rfl rfl rfl
theorem k179_48 {X : Nat × (Nat → Int32)} {I : Nat → Nat → Int32} {v1 : Int32} {v2 : Int32} {s0 : Int32}  : zr X 179 48 [.ref 160, .int v1, .int v2] [.int s0] (zk I) = if (I 160 16) = 0 then zr X 179 79 [.ref 160, .int v1, .int s0] [.ref 160] (zk I) else zr X 179 57 [.ref 160, .int v1, .int s0] [.ref 160] (zk I) :=
  (zr_istore_n t179_48 rfl rfl).trans <|
    (zr_aload_n t179_49 rfl).trans <|
    (zr_aload_n t179_50 rfl).trans <|
    (zr_getI t179_51 (rfl)).trans <|
    zr_if_eq (tgt := 79) t179_54 rfl
theorem k179_57 {X : Nat × (Nat → Int32)} {I : Nat → Nat → Int32} {v1 : Int32} {v2 : Int32}  : zr X 179 57 [.ref 160, .int v1, .int v2] [.ref 160] (zk I) = if v2 = 45 then zr X 179 75 [.ref 160, .int v1, .int v2] [.ref 160] (zk I) else zr X 179 63 [.ref 160, .int v1, .int v2] [.ref 160] (zk I) :=
  (zr_iload_n t179_57 rfl).trans <|
    (zr_bipush t179_58 zcb_45).trans <|
    zr_ic_eq (tgt := 75) t179_60 rfl
theorem k179_63 {X : Nat × (Nat → Int32)} {I : Nat → Nat → Int32} {v1 : Int32} {v2 : Int32}  : zr X 179 63 [.ref 160, .int v1, .int v2] [.ref 160] (zk I) = if v2 = 43 then zr X 179 75 [.ref 160, .int v1, .int v2] [.ref 160] (zk I) else zr X 179 69 [.ref 160, .int v1, .int v2] [.ref 160] (zk I) :=
  (zr_iload_n t179_63 rfl).trans <|
    (zr_bipush t179_64 zcb_43).trans <|
    zr_ic_eq (tgt := 75) t179_66 rfl
theorem k179_69 {X : Nat × (Nat → Int32)} {I : Nat → Nat → Int32} {v1 : Int32} {v2 : Int32}  : zr X 179 69 [.ref 160, .int v1, .int v2] [.ref 160] (zk I) = if ¬ v2 = 61 then zr X 179 79 [.ref 160, .int v1, .int v2] [.ref 160] (zk I) else zr X 179 75 [.ref 160, .int v1, .int v2] [.ref 160] (zk I) :=
  (zr_iload_n t179_69 rfl).trans <|
    (zr_bipush t179_70 zcb_61).trans <|
    zr_ic_ne (tgt := 79) t179_72 rfl
theorem k179_75 {X : Nat × (Nat → Int32)} {I : Nat → Nat → Int32} {v1 : Int32} {v2 : Int32}  : zr X 179 75 [.ref 160, .int v1, .int v2] [.ref 160] (zk I) = if ((zs1 I 160 16 1) 160 16) = 0 then zr X 179 99 [.ref 160, .int v1, .int v2] [.int ((zs1 I 160 16 1) 160 15), .ref 160] (zk (zs1 I 160 16 1)) else zr X 179 95 [.ref 160, .int v1, .int v2] [.int ((zs1 I 160 16 1) 160 15), .ref 160] (zk (zs1 I 160 16 1)) :=
  (zr_iconst t179_75 zci_1).trans <|
    (zr_goto (tgt := 80) t179_76 rfl).trans <|
    (zr_putI t179_80 (rfl) (Or.inr ⟨rfl, Or.inr rfl⟩)).trans <|
    (zr_aload_n t179_83 rfl).trans <|
    (zr_dup t179_84 rfl).trans <|
    (zr_getI t179_85 (rfl)).trans <|
    (zr_aload_n t179_88 rfl).trans <|
    (zr_getI t179_89 (rfl)).trans <|
    zr_if_eq (tgt := 99) t179_92 rfl
theorem k179_79 {X : Nat × (Nat → Int32)} {I : Nat → Nat → Int32} {v1 : Int32} {v2 : Int32}  : zr X 179 79 [.ref 160, .int v1, .int v2] [.ref 160] (zk I) = if ((zs1 I 160 16 0) 160 16) = 0 then zr X 179 99 [.ref 160, .int v1, .int v2] [.int ((zs1 I 160 16 0) 160 15), .ref 160] (zk (zs1 I 160 16 0)) else zr X 179 95 [.ref 160, .int v1, .int v2] [.int ((zs1 I 160 16 0) 160 15), .ref 160] (zk (zs1 I 160 16 0)) :=
  (zr_iconst t179_79 zci_0).trans <|
    (zr_putI t179_80 (rfl) (Or.inr ⟨rfl, Or.inl rfl⟩)).trans <|
    (zr_aload_n t179_83 rfl).trans <|
    (zr_dup t179_84 rfl).trans <|
    (zr_getI t179_85 (rfl)).trans <|
    (zr_aload_n t179_88 rfl).trans <|
    (zr_getI t179_89 (rfl)).trans <|
    zr_if_eq (tgt := 99) t179_92 rfl
theorem k179_95 {X : Nat × (Nat → Int32)} {I : Nat → Nat → Int32} {v1 : Int32} {v2 : Int32} {s1 : Int32}  : zr X 179 95 [.ref 160, .int v1, .int v2] [.int s1, .ref 160] (zk I) = if ¬ v2 = 45 then zr X 179 121 [.ref 160, .int v1, .int v2] [.int (v1 + 1), .ref 172] (zk (zs1 I 160 15 (s1 + 1))) else zr X 179 117 [.ref 160, .int v1, .int v2] [.int (v1 + 1), .ref 172] (zk (zs1 I 160 15 (s1 + 1))) :=
  (zr_iconst t179_95 zci_1).trans <|
    (zr_goto (tgt := 100) t179_96 rfl).trans <|
    (zr_iadd t179_100).trans <|
    (zr_putI t179_101 (rfl) (Or.inl rfl)).trans <|
    (zr_aload_n t179_104 rfl).trans <|
    (zr_getR (u := 172) t179_105 (rfl)).trans <|
    (zr_iload_n t179_108 rfl).trans <|
    (zr_iconst t179_109 zci_1).trans <|
    (zr_iadd t179_110).trans <|
    (zr_iload_n t179_111 rfl).trans <|
    (zr_bipush t179_112 zcb_45).trans <|
    zr_ic_ne (tgt := 121) t179_114 rfl
theorem k179_99 {X : Nat × (Nat → Int32)} {I : Nat → Nat → Int32} {v1 : Int32} {v2 : Int32} {s1 : Int32}  : zr X 179 99 [.ref 160, .int v1, .int v2] [.int s1, .ref 160] (zk I) = if ¬ v2 = 45 then zr X 179 121 [.ref 160, .int v1, .int v2] [.int (v1 + 1), .ref 172] (zk (zs1 I 160 15 (s1 + 0))) else zr X 179 117 [.ref 160, .int v1, .int v2] [.int (v1 + 1), .ref 172] (zk (zs1 I 160 15 (s1 + 0))) :=
  (zr_iconst t179_99 zci_0).trans <|
    (zr_iadd t179_100).trans <|
    (zr_putI t179_101 (rfl) (Or.inl rfl)).trans <|
    (zr_aload_n t179_104 rfl).trans <|
    (zr_getR (u := 172) t179_105 (rfl)).trans <|
    (zr_iload_n t179_108 rfl).trans <|
    (zr_iconst t179_109 zci_1).trans <|
    (zr_iadd t179_110).trans <|
    (zr_iload_n t179_111 rfl).trans <|
    (zr_bipush t179_112 zcb_45).trans <|
    zr_ic_ne (tgt := 121) t179_114 rfl
theorem k179_117 {X : Nat × (Nat → Int32)} {I : Nat → Nat → Int32} {v1 : Int32} {v2 : Int32} {s1 : Int32} (q1 : zin s1 192 = true) : zr X 179 117 [.ref 160, .int v1, .int v2] [.int s1, .ref 172] (zk I) = zcb (zr X 177 0 [.ref 160, .null] [] (zk (zs1 I 172 (zx s1) 0))) (fun v m1 => zr X 179 144 [.ref 160, .int v1, .int v2] (v.toList ++ [.int (v1 + 2), .ref 172]) m1) :=
  (zr_iconst t179_117 zci_0).trans <|
    (zr_goto (tgt := 132) t179_118 rfl).trans <|
    (zr_iast (j := zx s1) t179_132 (N := 192) rfl rfl q1).trans <|
    (zr_aload_n t179_133 rfl).trans <|
    (zr_getR (u := 172) t179_134 (rfl)).trans <|
    (zr_iload_n t179_137 rfl).trans <|
    (zr_iconst t179_138 zci_2).trans <|
    (zr_iadd t179_139).trans <|
    (zr_aload_n t179_140 rfl).trans <|
    zr_callv t179_141 rfl rfl rfl rfl
theorem k179_121 {X : Nat × (Nat → Int32)} {I : Nat → Nat → Int32} {v1 : Int32} {v2 : Int32} {s1 : Int32}  : zr X 179 121 [.ref 160, .int v1, .int v2] [.int s1, .ref 172] (zk I) = if ¬ v2 = 43 then zr X 179 131 [.ref 160, .int v1, .int v2] [.int s1, .ref 172] (zk I) else zr X 179 127 [.ref 160, .int v1, .int v2] [.int s1, .ref 172] (zk I) :=
  (zr_iload_n t179_121 rfl).trans <|
    (zr_bipush t179_122 zcb_43).trans <|
    zr_ic_ne (tgt := 131) t179_124 rfl
theorem k179_127 {X : Nat × (Nat → Int32)} {I : Nat → Nat → Int32} {v1 : Int32} {v2 : Int32} {s1 : Int32} (q1 : zin s1 192 = true) : zr X 179 127 [.ref 160, .int v1, .int v2] [.int s1, .ref 172] (zk I) = zcb (zr X 177 0 [.ref 160, .null] [] (zk (zs1 I 172 (zx s1) 1))) (fun v m1 => zr X 179 144 [.ref 160, .int v1, .int v2] (v.toList ++ [.int (v1 + 2), .ref 172]) m1) :=
  (zr_iconst t179_127 zci_1).trans <|
    (zr_goto (tgt := 132) t179_128 rfl).trans <|
    (zr_iast (j := zx s1) t179_132 (N := 192) rfl rfl q1).trans <|
    (zr_aload_n t179_133 rfl).trans <|
    (zr_getR (u := 172) t179_134 (rfl)).trans <|
    (zr_iload_n t179_137 rfl).trans <|
    (zr_iconst t179_138 zci_2).trans <|
    (zr_iadd t179_139).trans <|
    (zr_aload_n t179_140 rfl).trans <|
    zr_callv t179_141 rfl rfl rfl rfl
theorem k179_131 {X : Nat × (Nat → Int32)} {I : Nat → Nat → Int32} {v1 : Int32} {v2 : Int32} {s1 : Int32} (q1 : zin s1 192 = true) : zr X 179 131 [.ref 160, .int v1, .int v2] [.int s1, .ref 172] (zk I) = zcb (zr X 177 0 [.ref 160, .null] [] (zk (zs1 I 172 (zx s1) 2))) (fun v m1 => zr X 179 144 [.ref 160, .int v1, .int v2] (v.toList ++ [.int (v1 + 2), .ref 172]) m1) :=
  (zr_iconst t179_131 zci_2).trans <|
    (zr_iast (j := zx s1) t179_132 (N := 192) rfl rfl q1).trans <|
    (zr_aload_n t179_133 rfl).trans <|
    (zr_getR (u := 172) t179_134 (rfl)).trans <|
    (zr_iload_n t179_137 rfl).trans <|
    (zr_iconst t179_138 zci_2).trans <|
    (zr_iadd t179_139).trans <|
    (zr_aload_n t179_140 rfl).trans <|
    zr_callv t179_141 rfl rfl rfl rfl
theorem k179_144 {X : Nat × (Nat → Int32)} {I : Nat → Nat → Int32} {v1 : Int32} {v2 : Int32} {s1 : Int32} {s2 : Int32} (q1 : zin s1 192 = true) : zr X 179 144 [.ref 160, .int v1, .int v2] [.int s2, .int s1, .ref 172] (zk I) = if ¬ v2 = 43 then zr X 179 170 [.ref 160, .int v1, .int v2] [] (zk (zs1 I 172 (zx s1) s2)) else zr X 179 151 [.ref 160, .int v1, .int v2] [] (zk (zs1 I 172 (zx s1) s2)) :=
  (zr_iast (j := zx s1) t179_144 (N := 192) rfl rfl q1).trans <|
    (zr_iload_n t179_145 rfl).trans <|
    (zr_bipush t179_146 zcb_43).trans <|
    zr_ic_ne (tgt := 170) t179_148 rfl
theorem k179_151 {X : Nat × (Nat → Int32)} {I : Nat → Nat → Int32} {v1 : Int32} {v2 : Int32} (q1 : zin (v1 + 2) 192 = true) (q2 : zin (v1 + 3) 192 = true) : zr X 179 151 [.ref 160, .int v1, .int v2] [] (zk I) = if ¬ v2 = 45 then zr X 179 205 [.ref 160, .int v1, .int v2] [.int (v1 + 4), .ref 172] (zk (zs1 I 172 (zx (v1 + 3)) (I 172 (zx (v1 + 2))))) else zr X 179 201 [.ref 160, .int v1, .int v2] [.int (v1 + 4), .ref 172] (zk (zs1 I 172 (zx (v1 + 3)) (I 172 (zx (v1 + 2))))) :=
  (zr_aload_n t179_151 rfl).trans <|
    (zr_getR (u := 172) t179_152 (rfl)).trans <|
    (zr_iload_n t179_155 rfl).trans <|
    (zr_iconst t179_156 zci_3).trans <|
    (zr_iadd t179_157).trans <|
    (zr_aload_n t179_158 rfl).trans <|
    (zr_getR (u := 172) t179_159 (rfl)).trans <|
    (zr_iload_n t179_162 rfl).trans <|
    (zr_iconst t179_163 zci_2).trans <|
    (zr_iadd t179_164).trans <|
    (zr_iald (j := zx (v1 + 2)) t179_165 (N := 192) rfl rfl q1).trans <|
    (zr_iast (j := zx (v1 + 3)) t179_166 (N := 192) rfl rfl q2).trans <|
    (zr_goto (tgt := 188) t179_167 rfl).trans <|
    (zr_aload_n t179_188 rfl).trans <|
    (zr_getR (u := 172) t179_189 (rfl)).trans <|
    (zr_iload_n t179_192 rfl).trans <|
    (zr_iconst t179_193 zci_4).trans <|
    (zr_iadd t179_194).trans <|
    (zr_iload_n t179_195 rfl).trans <|
    (zr_bipush t179_196 zcb_45).trans <|
    zr_ic_ne (tgt := 205) t179_198 rfl
theorem k179_170 {X : Nat × (Nat → Int32)} {I : Nat → Nat → Int32} {v1 : Int32} {v2 : Int32}  : zr X 179 170 [.ref 160, .int v1, .int v2] [] (zk I) = zcb (zr X 175 0 [.ref 160, .int 58] [] (zk I)) (fun v m1 => zr X 179 176 [.ref 160, .int v1, .int v2] (v.toList ++ []) m1) :=
  (zr_aload_n t179_170 rfl).trans <|
    (zr_bipush t179_171 zcb_58).trans <|
    zr_callv t179_173 rfl rfl rfl rfl
theorem k179_176 {X : Nat × (Nat → Int32)} {I : Nat → Nat → Int32} {v1 : Int32} {v2 : Int32}  : zr X 179 176 [.ref 160, .int v1, .int v2] [] (zk I) = zcb (zr X 177 0 [.ref 160, .null] [] (zk I)) (fun v m1 => zr X 179 187 [.ref 160, .int v1, .int v2] (v.toList ++ [.int (v1 + 3), .ref 172]) m1) :=
  (zr_aload_n t179_176 rfl).trans <|
    (zr_getR (u := 172) t179_177 (rfl)).trans <|
    (zr_iload_n t179_180 rfl).trans <|
    (zr_iconst t179_181 zci_3).trans <|
    (zr_iadd t179_182).trans <|
    (zr_aload_n t179_183 rfl).trans <|
    zr_callv t179_184 rfl rfl rfl rfl
theorem k179_187 {X : Nat × (Nat → Int32)} {I : Nat → Nat → Int32} {v1 : Int32} {v2 : Int32} {s1 : Int32} {s2 : Int32} (q1 : zin s1 192 = true) : zr X 179 187 [.ref 160, .int v1, .int v2] [.int s2, .int s1, .ref 172] (zk I) = if ¬ v2 = 45 then zr X 179 205 [.ref 160, .int v1, .int v2] [.int (v1 + 4), .ref 172] (zk (zs1 I 172 (zx s1) s2)) else zr X 179 201 [.ref 160, .int v1, .int v2] [.int (v1 + 4), .ref 172] (zk (zs1 I 172 (zx s1) s2)) :=
  (zr_iast (j := zx s1) t179_187 (N := 192) rfl rfl q1).trans <|
    (zr_aload_n t179_188 rfl).trans <|
    (zr_getR (u := 172) t179_189 (rfl)).trans <|
    (zr_iload_n t179_192 rfl).trans <|
    (zr_iconst t179_193 zci_4).trans <|
    (zr_iadd t179_194).trans <|
    (zr_iload_n t179_195 rfl).trans <|
    (zr_bipush t179_196 zcb_45).trans <|
    zr_ic_ne (tgt := 205) t179_198 rfl
theorem k179_201 {X : Nat × (Nat → Int32)} {I : Nat → Nat → Int32} {v1 : Int32} {v2 : Int32} {s1 : Int32} (q1 : zin s1 192 = true) : zr X 179 201 [.ref 160, .int v1, .int v2] [.int s1, .ref 172] (zk I) = if (I 160 16) = 0 then zr X 179 227 [.ref 160, .int v1, .int v2] [.int (I 160 18), .ref 160] (zk (zs1 I 172 (zx s1) 0)) else zr X 179 223 [.ref 160, .int v1, .int v2] [.int (I 160 18), .ref 160] (zk (zs1 I 172 (zx s1) 0)) :=
  (zr_iconst t179_201 zci_0).trans <|
    (zr_goto (tgt := 210) t179_202 rfl).trans <|
    (zr_iast (j := zx s1) t179_210 (N := 192) rfl rfl q1).trans <|
    (zr_aload_n t179_211 rfl).trans <|
    (zr_dup t179_212 rfl).trans <|
    (zr_getI t179_213 (rfl)).trans <|
    (zr_aload_n t179_216 rfl).trans <|
    (zr_getI t179_217 (rfl)).trans <|
    zr_if_eq (tgt := 227) t179_220 rfl
theorem k179_205 {X : Nat × (Nat → Int32)} {I : Nat → Nat → Int32} {v1 : Int32} {v2 : Int32} {s1 : Int32}  : zr X 179 205 [.ref 160, .int v1, .int v2] [.int s1, .ref 172] (zk I) = zcb (zr X 178 0 [.ref 160, .int v1, .null] [] (zk I)) (fun v m1 => zr X 179 210 [.ref 160, .int v1, .int v2] (v.toList ++ [.int s1, .ref 172]) m1) :=
  (zr_aload_n t179_205 rfl).trans <|
    (zr_iload_n t179_206 rfl).trans <|
    zr_callv t179_207 rfl rfl rfl rfl
theorem k179_210 {X : Nat × (Nat → Int32)} {I : Nat → Nat → Int32} {v1 : Int32} {v2 : Int32} {s1 : Int32} {s2 : Int32} (q1 : zin s1 192 = true) : zr X 179 210 [.ref 160, .int v1, .int v2] [.int s2, .int s1, .ref 172] (zk I) = if (I 160 16) = 0 then zr X 179 227 [.ref 160, .int v1, .int v2] [.int (I 160 18), .ref 160] (zk (zs1 I 172 (zx s1) s2)) else zr X 179 223 [.ref 160, .int v1, .int v2] [.int (I 160 18), .ref 160] (zk (zs1 I 172 (zx s1) s2)) :=
  (zr_iast (j := zx s1) t179_210 (N := 192) rfl rfl q1).trans <|
    (zr_aload_n t179_211 rfl).trans <|
    (zr_dup t179_212 rfl).trans <|
    (zr_getI t179_213 (rfl)).trans <|
    (zr_aload_n t179_216 rfl).trans <|
    (zr_getI t179_217 (rfl)).trans <|
    zr_if_eq (tgt := 227) t179_220 rfl
theorem k179_223 {X : Nat × (Nat → Int32)} {I : Nat → Nat → Int32} {v1 : Int32} {v2 : Int32} {s1 : Int32}  : zr X 179 223 [.ref 160, .int v1, .int v2] [.int s1, .ref 160] (zk I) = some (none, zk (zs1 I 160 18 (s1 + 1))) :=
  (zr_iconst t179_223 zci_1).trans <|
    (zr_goto (tgt := 228) t179_224 rfl).trans <|
    (zr_iadd t179_228).trans <|
    (zr_putI t179_229 (rfl) (Or.inl rfl)).trans <|
    zr_vret t179_232 rfl
theorem k179_227 {X : Nat × (Nat → Int32)} {I : Nat → Nat → Int32} {v1 : Int32} {v2 : Int32} {s1 : Int32}  : zr X 179 227 [.ref 160, .int v1, .int v2] [.int s1, .ref 160] (zk I) = some (none, zk (zs1 I 160 18 (s1 + 0))) :=
  (zr_iconst t179_227 zci_0).trans <|
    (zr_iadd t179_228).trans <|
    (zr_putI t179_229 (rfl) (Or.inl rfl)).trans <|
    zr_vret t179_232 rfl
/-! X10_reads FiveInksModel.reads -/
theorem k180_0 {X : Nat × (Nat → Int32)} {I : Nat → Nat → Int32}   : zr X 180 0 [.ref 160] [] (zk I) = zcb (zr X 179 0 [.ref 160, .null, .null] [] (zk (zs1 (zs1 (zs1 I 160 15 0) 160 16 1) 160 18 0))) (fun v m1 => zr X 180 19 [.ref 160] (v.toList ++ []) m1) :=
  (zr_aload_n t180_0 rfl).trans <|
    (zr_iconst t180_1 zci_0).trans <|
    (zr_putI t180_2 (rfl) (Or.inl rfl)).trans <|
    (zr_aload_n t180_5 rfl).trans <|
    (zr_iconst t180_6 zci_1).trans <|
    (zr_putI t180_7 (rfl) (Or.inr ⟨rfl, Or.inr rfl⟩)).trans <|
    (zr_aload_n t180_10 rfl).trans <|
    (zr_iconst t180_11 zci_0).trans <|
    (zr_putI t180_12 (rfl) (Or.inl rfl)).trans <|
    (zr_aload_n t180_15 rfl).trans <|
    zr_callv t180_16 rfl rfl rfl rfl
theorem k180_19 {X : Nat × (Nat → Int32)} {I : Nat → Nat → Int32}   : zr X 180 19 [.ref 160] [] (zk I) = if (I 160 16) = 0 then zr X 180 57 [.ref 160] [] (zk I) else zr X 180 26 [.ref 160] [] (zk I) :=
  (zr_aload_n t180_19 rfl).trans <|
    (zr_getI t180_20 (rfl)).trans <|
    zr_if_eq (tgt := 57) t180_23 rfl
theorem k180_26 {X : Nat × (Nat → Int32)} {I : Nat → Nat → Int32}   : zr X 180 26 [.ref 160] [] (zk I) = if (I 160 8) ≤ (I 160 15) then zr X 180 57 [.ref 160] [] (zk I) else zr X 180 37 [.ref 160] [] (zk I) :=
  (zr_aload_n t180_26 rfl).trans <|
    (zr_getI t180_27 (rfl)).trans <|
    (zr_aload_n t180_30 rfl).trans <|
    (zr_getI t180_31 (rfl)).trans <|
    zr_ic_ge (tgt := 57) t180_34 rfl
theorem k180_37 {X : Nat × (Nat → Int32)} {I : Nat → Nat → Int32}   : zr X 180 37 [.ref 160] [] (zk I) = zcb (zr X 175 0 [.ref 160, .int 44] [] (zk I)) (fun v m1 => zr X 180 43 [.ref 160] (v.toList ++ []) m1) :=
  (zr_aload_n t180_37 rfl).trans <|
    (zr_bipush t180_38 zcb_44).trans <|
    zr_callv t180_40 rfl rfl rfl rfl
theorem k180_43 {X : Nat × (Nat → Int32)} {I : Nat → Nat → Int32}   : zr X 180 43 [.ref 160] [] (zk I) = if (I 160 16) = 0 then zr X 180 19 [.ref 160] [] (zk I) else zr X 180 50 [.ref 160] [] (zk I) :=
  (zr_aload_n t180_43 rfl).trans <|
    (zr_getI t180_44 (rfl)).trans <|
    zr_if_eq (tgt := 19) t180_47 rfl
theorem k180_50 {X : Nat × (Nat → Int32)} {I : Nat → Nat → Int32}   : zr X 180 50 [.ref 160] [] (zk I) = zcb (zr X 179 0 [.ref 160, .null, .null] [] (zk I)) (fun v m1 => zr X 180 54 [.ref 160] (v.toList ++ []) m1) :=
  (zr_aload_n t180_50 rfl).trans <|
    zr_callv t180_51 rfl rfl rfl rfl
theorem k180_54 {X : Nat × (Nat → Int32)} {I : Nat → Nat → Int32}   : zr X 180 54 [.ref 160] [] (zk I) = zr X 180 19 [.ref 160] [] (zk I) :=
  zr_goto (tgt := 19) t180_54 rfl
theorem k180_57 {X : Nat × (Nat → Int32)} {I : Nat → Nat → Int32}   : zr X 180 57 [.ref 160] [] (zk I) = if (I 160 16) = 0 then zr X 180 69 [.ref 160] [] (zk I) else zr X 180 64 [.ref 160] [] (zk I) :=
  (zr_aload_n t180_57 rfl).trans <|
    (zr_getI t180_58 (rfl)).trans <|
    zr_if_eq (tgt := 69) t180_61 rfl
theorem k180_64 {X : Nat × (Nat → Int32)} {I : Nat → Nat → Int32}   : zr X 180 64 [.ref 160] [] (zk I) = some (some (.int (-6)), zk I) :=
  (zr_bipush t180_64 zcb_m6).trans <|
    (zr_goto (tgt := 73) t180_66 rfl).trans <|
    zr_iret t180_73 rfl
theorem k180_69 {X : Nat × (Nat → Int32)} {I : Nat → Nat → Int32}   : zr X 180 69 [.ref 160] [] (zk I) = some (some (.int (I 160 15)), zk I) :=
  (zr_aload_n t180_69 rfl).trans <|
    (zr_getI t180_70 (rfl)).trans <|
    zr_iret t180_73 rfl
/-! X10_fault FiveInksModel.fault -/
theorem k181_0 {X : Nat × (Nat → Int32)} {I : Nat → Nat → Int32}   : zr X 181 0 [.ref 160] [] (zk I) = zcb (zr X 180 0 [.ref 160] [] (zk (zs1 I 160 0 0))) (fun v m1 => zr X 181 9 [.ref 160] (v.toList ++ []) m1) :=
  (zr_aload_n t181_0 rfl).trans <|
    (zr_iconst t181_1 zci_0).trans <|
    (zr_putI t181_2 (rfl) (Or.inl rfl)).trans <|
    (zr_aload_n t181_5 rfl).trans <|
    zr_callv t181_6 rfl rfl rfl rfl
theorem k181_9 {X : Nat × (Nat → Int32)} {I : Nat → Nat → Int32} {s0 : Int32}  : zr X 181 9 [.ref 160] [.int s0] (zk I) = some (some (.int s0), zk I) :=
  zr_iret t181_9 rfl
/-! X10_undo FiveInksModel.undo -/
theorem k182_0 {X : Nat × (Nat → Int32)} {I : Nat → Nat → Int32}   : zr X 182 0 [.ref 160, .null] [] (zk I) = if ¬ ((zs1 I 160 0 0) 160 4) = 0 then zr X 182 15 [.ref 160, .null] [] (zk (zs1 I 160 0 0)) else zr X 182 12 [.ref 160, .null] [] (zk (zs1 I 160 0 0)) :=
  (zr_aload_n t182_0 rfl).trans <|
    (zr_iconst t182_1 zci_0).trans <|
    (zr_putI t182_2 (rfl) (Or.inl rfl)).trans <|
    (zr_aload_n t182_5 rfl).trans <|
    (zr_getI t182_6 (rfl)).trans <|
    zr_if_ne (tgt := 15) t182_9 rfl
theorem k182_12 {X : Nat × (Nat → Int32)} {I : Nat → Nat → Int32}   : zr X 182 12 [.ref 160, .null] [] (zk I) = some (some (.int (-5)), zk I) :=
  (zr_bipush t182_12 zcb_m5).trans <|
    zr_iret t182_14 rfl
theorem k182_15 {X : Nat × (Nat → Int32)} {I : Nat → Nat → Int32}   : zr X 182 15 [.ref 160, .null] [] (zk I) = zr X 182 27 [.ref 160, .int 0] [] (zk (zs1 I 160 4 ((I 160 4) - 1))) :=
  (zr_aload_n t182_15 rfl).trans <|
    (zr_dup t182_16 rfl).trans <|
    (zr_getI t182_17 (rfl)).trans <|
    (zr_iconst t182_20 zci_1).trans <|
    (zr_isub t182_21).trans <|
    (zr_putI t182_22 (rfl) (Or.inl rfl)).trans <|
    (zr_iconst t182_25 zci_0).trans <|
    zr_istore_n t182_26 rfl rfl
theorem k182_27 {X : Nat × (Nat → Int32)} {I : Nat → Nat → Int32} {v1 : Int32}  : zr X 182 27 [.ref 160, .int v1] [] (zk I) = if 675 ≤ v1 then zr X 182 61 [.ref 160, .int v1] [] (zk I) else zr X 182 34 [.ref 160, .int v1] [] (zk I) :=
  (zr_iload_n t182_27 rfl).trans <|
    (zr_sipush t182_28 zcs_675).trans <|
    zr_ic_ge (tgt := 61) t182_31 rfl
theorem k182_34 {X : Nat × (Nat → Int32)} {I : Nat → Nat → Int32} {v1 : Int32} (q1 : zin ((675 * (I 160 4)) + v1) 4050 = true) (q2 : zin v1 675 = true) : zr X 182 34 [.ref 160, .int v1] [] (zk I) = zr X 182 27 [.ref 160, .int (v1 + 1)] [] (zk (zs1 I 161 (zx v1) (I 163 (zx ((675 * (I 160 4)) + v1))))) :=
  (zr_aload_n t182_34 rfl).trans <|
    (zr_getR (u := 161) t182_35 (rfl)).trans <|
    (zr_iload_n t182_38 rfl).trans <|
    (zr_aload_n t182_39 rfl).trans <|
    (zr_getR (u := 163) t182_40 (rfl)).trans <|
    (zr_sipush t182_43 zcs_675).trans <|
    (zr_aload_n t182_46 rfl).trans <|
    (zr_getI t182_47 (rfl)).trans <|
    (zr_imul t182_50).trans <|
    (zr_iload_n t182_51 rfl).trans <|
    (zr_iadd t182_52).trans <|
    (zr_iald (j := zx ((675 * (I 160 4)) + v1)) t182_53 (N := 4050) rfl rfl q1).trans <|
    (zr_iast (j := zx v1) t182_54 (N := 675) rfl rfl q2).trans <|
    (zr_iinc t182_55 rfl rfl (congrArg (fun z => v1 + z) zci_1) rfl).trans <|
    zr_goto (tgt := 27) t182_58 rfl
theorem k182_61 {X : Nat × (Nat → Int32)} {I : Nat → Nat → Int32} {v1 : Int32}  : zr X 182 61 [.ref 160, .int v1] [] (zk I) = some (some (.int (I 160 4)), zk I) :=
  (zr_aload_n t182_61 rfl).trans <|
    (zr_getI t182_62 (rfl)).trans <|
    zr_iret t182_65 rfl
/-! X10_save FiveInksModel.save -/
theorem k183_0 {X : Nat × (Nat → Int32)} {I : Nat → Nat → Int32} {v1 : Int32}  : zr X 183 0 [.ref 160, .int v1, .null] [] (zk I) = zcb (zr X 116 0 [.int v1, .int 0, .int 1] [] (zk (zs1 I 160 0 0))) (fun v m1 => zr X 183 11 [.ref 160, .int v1, .null] (v.toList ++ []) m1) :=
  (zr_aload_n t183_0 rfl).trans <|
    (zr_iconst t183_1 zci_0).trans <|
    (zr_putI t183_2 (rfl) (Or.inl rfl)).trans <|
    (zr_iload_n t183_5 rfl).trans <|
    (zr_iconst t183_6 zci_0).trans <|
    (zr_iconst t183_7 zci_1).trans <|
    zr_calls t183_8 rfl rfl rfl rfl rfl
theorem k183_11 {X : Nat × (Nat → Int32)} {I : Nat → Nat → Int32} {v1 : Int32} {s0 : Int32}  : zr X 183 11 [.ref 160, .int v1, .null] [.int s0] (zk I) = if ¬ s0 = 0 then zr X 183 17 [.ref 160, .int v1, .null] [] (zk I) else zr X 183 14 [.ref 160, .int v1, .null] [] (zk I) :=
  zr_if_ne (tgt := 17) t183_11 rfl
theorem k183_14 {X : Nat × (Nat → Int32)} {I : Nat → Nat → Int32} {v1 : Int32}  : zr X 183 14 [.ref 160, .int v1, .null] [] (zk I) = some (some (.int (-2)), zk I) :=
  (zr_bipush t183_14 zcb_m2).trans <|
    zr_iret t183_16 rfl
theorem k183_17 {X : Nat × (Nat → Int32)} {I : Nat → Nat → Int32} {v1 : Int32}  : zr X 183 17 [.ref 160, .int v1, .null] [] (zk I) = zr X 183 19 [.ref 160, .int v1, .int 0] [] (zk I) :=
  (zr_iconst t183_17 zci_0).trans <|
    zr_istore_n t183_18 rfl rfl
theorem k183_19 {X : Nat × (Nat → Int32)} {I : Nat → Nat → Int32} {v1 : Int32} {v2 : Int32}  : zr X 183 19 [.ref 160, .int v1, .int v2] [] (zk I) = if 675 ≤ v2 then zr X 183 50 [.ref 160, .int v1, .int v2] [] (zk I) else zr X 183 26 [.ref 160, .int v1, .int v2] [] (zk I) :=
  (zr_iload_n t183_19 rfl).trans <|
    (zr_sipush t183_20 zcs_675).trans <|
    zr_ic_ge (tgt := 50) t183_23 rfl
theorem k183_26 {X : Nat × (Nat → Int32)} {I : Nat → Nat → Int32} {v1 : Int32} {v2 : Int32} (q1 : zin v2 675 = true) (q2 : zin ((675 * v1) + v2) 1350 = true) : zr X 183 26 [.ref 160, .int v1, .int v2] [] (zk I) = zr X 183 19 [.ref 160, .int v1, .int (v2 + 1)] [] (zk (zs1 I 164 (zx ((675 * v1) + v2)) (I 161 (zx v2)))) :=
  (zr_aload_n t183_26 rfl).trans <|
    (zr_getR (u := 164) t183_27 (rfl)).trans <|
    (zr_sipush t183_30 zcs_675).trans <|
    (zr_iload_n t183_33 rfl).trans <|
    (zr_imul t183_34).trans <|
    (zr_iload_n t183_35 rfl).trans <|
    (zr_iadd t183_36).trans <|
    (zr_aload_n t183_37 rfl).trans <|
    (zr_getR (u := 161) t183_38 (rfl)).trans <|
    (zr_iload_n t183_41 rfl).trans <|
    (zr_iald (j := zx v2) t183_42 (N := 675) rfl rfl q1).trans <|
    (zr_iast (j := zx ((675 * v1) + v2)) t183_43 (N := 1350) rfl rfl q2).trans <|
    (zr_iinc t183_44 rfl rfl (congrArg (fun z => v2 + z) zci_1) rfl).trans <|
    zr_goto (tgt := 19) t183_47 rfl
theorem k183_50 {X : Nat × (Nat → Int32)} {I : Nat → Nat → Int32} {v1 : Int32} {v2 : Int32} (q1 : zin v1 2 = true) : zr X 183 50 [.ref 160, .int v1, .int v2] [] (zk I) = some (some (.int (I 161 66)), zk (zs1 I 165 (zx v1) 1)) :=
  (zr_aload_n t183_50 rfl).trans <|
    (zr_getR (u := 165) t183_51 (rfl)).trans <|
    (zr_iload_n t183_54 rfl).trans <|
    (zr_iconst t183_55 zci_1).trans <|
    (zr_bast (j := zx v1) t183_56 (N := 2) rfl rfl q1 (Or.inr rfl)).trans <|
    (zr_aload_n t183_57 rfl).trans <|
    (zr_getR (u := 161) t183_58 (rfl)).trans <|
    (zr_bipush t183_61 zcb_66).trans <|
    (zr_iald (j := 66) t183_63 (N := 675) rfl (by decide) (by decide)).trans <|
    zr_iret t183_64 rfl
/-! X10_restore FiveInksModel.restore -/
theorem k184_0 {X : Nat × (Nat → Int32)} {I : Nat → Nat → Int32} {v1 : Int32}  : zr X 184 0 [.ref 160, .int v1, .null] [] (zk I) = zcb (zr X 116 0 [.int v1, .int 0, .int 1] [] (zk (zs1 I 160 0 0))) (fun v m1 => zr X 184 11 [.ref 160, .int v1, .null] (v.toList ++ []) m1) :=
  (zr_aload_n t184_0 rfl).trans <|
    (zr_iconst t184_1 zci_0).trans <|
    (zr_putI t184_2 (rfl) (Or.inl rfl)).trans <|
    (zr_iload_n t184_5 rfl).trans <|
    (zr_iconst t184_6 zci_0).trans <|
    (zr_iconst t184_7 zci_1).trans <|
    zr_calls t184_8 rfl rfl rfl rfl rfl
theorem k184_11 {X : Nat × (Nat → Int32)} {I : Nat → Nat → Int32} {v1 : Int32} {s0 : Int32}  : zr X 184 11 [.ref 160, .int v1, .null] [.int s0] (zk I) = if ¬ s0 = 0 then zr X 184 17 [.ref 160, .int v1, .null] [] (zk I) else zr X 184 14 [.ref 160, .int v1, .null] [] (zk I) :=
  zr_if_ne (tgt := 17) t184_11 rfl
theorem k184_14 {X : Nat × (Nat → Int32)} {I : Nat → Nat → Int32} {v1 : Int32}  : zr X 184 14 [.ref 160, .int v1, .null] [] (zk I) = some (some (.int (-2)), zk I) :=
  (zr_bipush t184_14 zcb_m2).trans <|
    zr_iret t184_16 rfl
theorem k184_17 {X : Nat × (Nat → Int32)} {I : Nat → Nat → Int32} {v1 : Int32} (q1 : zin v1 2 = true) : zr X 184 17 [.ref 160, .int v1, .null] [] (zk I) = if ¬ (I 165 (zx v1)) = 0 then zr X 184 29 [.ref 160, .int v1, .null] [] (zk I) else zr X 184 26 [.ref 160, .int v1, .null] [] (zk I) :=
  (zr_aload_n t184_17 rfl).trans <|
    (zr_getR (u := 165) t184_18 (rfl)).trans <|
    (zr_iload_n t184_21 rfl).trans <|
    (zr_bald (j := zx v1) t184_22 (N := 2) rfl rfl q1).trans <|
    zr_if_ne (tgt := 29) t184_23 rfl
theorem k184_26 {X : Nat × (Nat → Int32)} {I : Nat → Nat → Int32} {v1 : Int32}  : zr X 184 26 [.ref 160, .int v1, .null] [] (zk I) = some (some (.int (-5)), zk I) :=
  (zr_bipush t184_26 zcb_m5).trans <|
    zr_iret t184_28 rfl
theorem k184_29 {X : Nat × (Nat → Int32)} {I : Nat → Nat → Int32} {v1 : Int32}  : zr X 184 29 [.ref 160, .int v1, .null] [] (zk I) = zcb (zr X 121 0 [.ref 160, .null] [] (zk I)) (fun v m1 => zr X 184 33 [.ref 160, .int v1, .null] (v.toList ++ []) m1) :=
  (zr_aload_n t184_29 rfl).trans <|
    zr_callv t184_30 rfl rfl rfl rfl
theorem k184_33 {X : Nat × (Nat → Int32)} {I : Nat → Nat → Int32} {v1 : Int32}  : zr X 184 33 [.ref 160, .int v1, .null] [] (zk I) = zr X 184 35 [.ref 160, .int v1, .int 0] [] (zk I) :=
  (zr_iconst t184_33 zci_0).trans <|
    zr_istore_n t184_34 rfl rfl
theorem k184_35 {X : Nat × (Nat → Int32)} {I : Nat → Nat → Int32} {v1 : Int32} {v2 : Int32}  : zr X 184 35 [.ref 160, .int v1, .int v2] [] (zk I) = if 675 ≤ v2 then zr X 184 66 [.ref 160, .int v1, .int v2] [] (zk I) else zr X 184 42 [.ref 160, .int v1, .int v2] [] (zk I) :=
  (zr_iload_n t184_35 rfl).trans <|
    (zr_sipush t184_36 zcs_675).trans <|
    zr_ic_ge (tgt := 66) t184_39 rfl
theorem k184_42 {X : Nat × (Nat → Int32)} {I : Nat → Nat → Int32} {v1 : Int32} {v2 : Int32} (q1 : zin ((675 * v1) + v2) 1350 = true) (q2 : zin v2 675 = true) : zr X 184 42 [.ref 160, .int v1, .int v2] [] (zk I) = zr X 184 35 [.ref 160, .int v1, .int (v2 + 1)] [] (zk (zs1 I 161 (zx v2) (I 164 (zx ((675 * v1) + v2))))) :=
  (zr_aload_n t184_42 rfl).trans <|
    (zr_getR (u := 161) t184_43 (rfl)).trans <|
    (zr_iload_n t184_46 rfl).trans <|
    (zr_aload_n t184_47 rfl).trans <|
    (zr_getR (u := 164) t184_48 (rfl)).trans <|
    (zr_sipush t184_51 zcs_675).trans <|
    (zr_iload_n t184_54 rfl).trans <|
    (zr_imul t184_55).trans <|
    (zr_iload_n t184_56 rfl).trans <|
    (zr_iadd t184_57).trans <|
    (zr_iald (j := zx ((675 * v1) + v2)) t184_58 (N := 1350) rfl rfl q1).trans <|
    (zr_iast (j := zx v2) t184_59 (N := 675) rfl rfl q2).trans <|
    (zr_iinc t184_60 rfl rfl (congrArg (fun z => v2 + z) zci_1) rfl).trans <|
    zr_goto (tgt := 35) t184_63 rfl
theorem k184_66 {X : Nat × (Nat → Int32)} {I : Nat → Nat → Int32} {v1 : Int32} {v2 : Int32}  : zr X 184 66 [.ref 160, .int v1, .int v2] [] (zk I) = some (some (.int (I 161 66)), zk I) :=
  (zr_aload_n t184_66 rfl).trans <|
    (zr_getR (u := 161) t184_67 (rfl)).trans <|
    (zr_bipush t184_70 zcb_66).trans <|
    (zr_iald (j := 66) t184_72 (N := 675) rfl (by decide) (by decide)).trans <|
    zr_iret t184_73 rfl
/-! J9_floorMod_7cf53 java/lang/Math.floorMod -/
theorem k185_0 {X : Nat × (Nat → Int32)} {I : Nat → Nat → Int32} {v0 : Int32} {v1 : Int32} (q1 : v1 ≠ 0) : zr X 185 0 [.int v0, .int v1, .null] [] (zk I) = if 0 ≤ (v0 ^^^ v1) then zr X 185 18 [.int v0, .int v1, .int (v0 - v0 / v1 * v1)] [] (zk I) else zr X 185 10 [.int v0, .int v1, .int (v0 - v0 / v1 * v1)] [] (zk I) :=
  (zr_iload_n t185_0 rfl).trans <|
    (zr_iload_n t185_1 rfl).trans <|
    (zr_irem t185_2 q1).trans <|
    (zr_istore_n t185_3 rfl rfl).trans <|
    (zr_iload_n t185_4 rfl).trans <|
    (zr_iload_n t185_5 rfl).trans <|
    (zr_ixor t185_6).trans <|
    zr_if_ge (tgt := 18) t185_7 rfl
theorem k185_10 {X : Nat × (Nat → Int32)} {I : Nat → Nat → Int32} {v0 : Int32} {v1 : Int32} {v2 : Int32}  : zr X 185 10 [.int v0, .int v1, .int v2] [] (zk I) = if v2 = 0 then zr X 185 18 [.int v0, .int v1, .int v2] [] (zk I) else zr X 185 14 [.int v0, .int v1, .int v2] [] (zk I) :=
  (zr_iload_n t185_10 rfl).trans <|
    zr_if_eq (tgt := 18) t185_11 rfl
theorem k185_14 {X : Nat × (Nat → Int32)} {I : Nat → Nat → Int32} {v0 : Int32} {v1 : Int32} {v2 : Int32}  : zr X 185 14 [.int v0, .int v1, .int v2] [] (zk I) = some (some (.int (v2 + v1)), zk I) :=
  (zr_iload_n t185_14 rfl).trans <|
    (zr_iload_n t185_15 rfl).trans <|
    (zr_iadd t185_16).trans <|
    zr_iret t185_17 rfl
theorem k185_18 {X : Nat × (Nat → Int32)} {I : Nat → Nat → Int32} {v0 : Int32} {v1 : Int32} {v2 : Int32}  : zr X 185 18 [.int v0, .int v1, .int v2] [] (zk I) = some (some (.int v2), zk I) :=
  (zr_iload_n t185_18 rfl).trans <|
    zr_iret t185_19 rfl
/-! X2_codeIn FiveInks$Pad.codeIn -/
theorem k186_0 {X : Nat × (Nat → Int32)} {I : Nat → Nat → Int32} {v0 : Int64} {v2 : Int32}  : zr X 186 0 [.long v0, .null, .int v2] [] (zk I) = some (some (.int ((((v0.toUInt64 >>> ((8 * v2).toInt64.toUInt64 &&& Int64.toUInt64 63)).toInt64) &&& 255).toInt32)), zk I) :=
  (zr_lload_n t186_0 rfl).trans <|
    (zr_bipush t186_1 zcb_8).trans <|
    (zr_iload_n t186_3 rfl).trans <|
    (zr_imul t186_4).trans <|
    (zr_lushr t186_5).trans <|
    (zr_ldc2 t186_6 (x := 255) (by decide)).trans <|
    (zr_land t186_9).trans <|
    (zr_l2i t186_10).trans <|
    zr_iret t186_11 rfl
