theorem t35_0 : zT 35 0 = some (.aload_n 0, 1, 0, 0, 0) := by rfl
theorem t35_1 : zT 35 1 = some (.iconst 0, 1, 0, 0, 0) := by rfl
theorem t35_2 : zT 35 2 = some (.putfield 15, 3, 2, 1, 243) := by rfl
theorem t35_5 : zT 35 5 = some (.return_, 1, 0, 0, 0) := by rfl
theorem t36_0 : zT 36 0 = some (.iload_n 1, 1, 0, 0, 0) := by rfl
theorem t36_1 : zT 36 1 = some (.ifCond .lt 20, 3, 0, 0, 0) := by rfl
theorem t36_4 : zT 36 4 = some (.iload_n 1, 1, 0, 0, 0) := by rfl
theorem t36_5 : zT 36 5 = some (.aload_n 0, 1, 0, 0, 0) := by rfl
theorem t36_6 : zT 36 6 = some (.getfield 15, 3, 2, 1, 243) := by rfl
theorem t36_9 : zT 36 9 = some (.if_icmp .ge 12, 3, 0, 0, 0) := by rfl
theorem t36_12 : zT 36 12 = some (.aload_n 0, 1, 0, 0, 0) := by rfl
theorem t36_13 : zT 36 13 = some (.getfield 9, 3, 2, 0, 242) := by rfl
theorem t36_16 : zT 36 16 = some (.iload_n 1, 1, 0, 0, 0) := by rfl
theorem t36_17 : zT 36 17 = some (.iaload, 1, 0, 0, 0) := by rfl
theorem t36_18 : zT 36 18 = some (.goto 5, 3, 0, 0, 0) := by rfl
theorem t36_21 : zT 36 21 = some (.bipush (-6), 2, 0, 0, 0) := by rfl
theorem t36_23 : zT 36 23 = some (.ireturn, 1, 0, 0, 0) := by rfl
theorem t37_0 : zT 37 0 = some (.aload_n 0, 1, 0, 0, 0) := by rfl
theorem t37_1 : zT 37 1 = some (.iload_n 1, 1, 0, 0, 0) := by rfl
theorem t37_2 : zT 37 2 = some (.invokevirtual 19, 3, 36, 0, 329) := by rfl
theorem t37_5 : zT 37 5 = some (.bipush 97, 2, 0, 0, 0) := by rfl
theorem t37_7 : zT 37 7 = some (.if_icmp .lt 17, 3, 0, 0, 0) := by rfl
theorem t37_10 : zT 37 10 = some (.aload_n 0, 1, 0, 0, 0) := by rfl
theorem t37_11 : zT 37 11 = some (.iload_n 1, 1, 0, 0, 0) := by rfl
theorem t37_12 : zT 37 12 = some (.invokevirtual 19, 3, 36, 0, 329) := by rfl
theorem t37_15 : zT 37 15 = some (.bipush 122, 2, 0, 0, 0) := by rfl
theorem t37_17 : zT 37 17 = some (.if_icmp .gt 7, 3, 0, 0, 0) := by rfl
theorem t37_20 : zT 37 20 = some (.iconst 1, 1, 0, 0, 0) := by rfl
theorem t37_21 : zT 37 21 = some (.goto 4, 3, 0, 0, 0) := by rfl
theorem t37_24 : zT 37 24 = some (.iconst 0, 1, 0, 0, 0) := by rfl
theorem t37_25 : zT 37 25 = some (.ireturn, 1, 0, 0, 0) := by rfl
theorem t38_0 : zT 38 0 = some (.iconst 0, 1, 0, 0, 0) := by rfl
theorem t38_1 : zT 38 1 = some (.istore_n 1, 1, 0, 0, 0) := by rfl
theorem t38_2 : zT 38 2 = some (.iload_n 1, 1, 0, 0, 0) := by rfl
theorem t38_3 : zT 38 3 = some (.aload_n 0, 1, 0, 0, 0) := by rfl
theorem t38_4 : zT 38 4 = some (.getfield 15, 3, 2, 1, 243) := by rfl
theorem t38_7 : zT 38 7 = some (.if_icmp .ge 19, 3, 0, 0, 0) := by rfl
theorem t38_10 : zT 38 10 = some (.aload_n 0, 1, 0, 0, 0) := by rfl
theorem t38_11 : zT 38 11 = some (.iload_n 1, 1, 0, 0, 0) := by rfl
theorem t38_12 : zT 38 12 = some (.invokevirtual 23, 3, 37, 0, 325) := by rfl
theorem t38_15 : zT 38 15 = some (.ifCond .ne 5, 3, 0, 0, 0) := by rfl
theorem t38_18 : zT 38 18 = some (.iconst 0, 1, 0, 0, 0) := by rfl
theorem t38_19 : zT 38 19 = some (.ireturn, 1, 0, 0, 0) := by rfl
theorem t38_20 : zT 38 20 = some (.iinc 1 1, 3, 0, 0, 0) := by rfl
theorem t38_23 : zT 38 23 = some (.goto (-21), 3, 0, 0, 0) := by rfl
theorem t38_26 : zT 38 26 = some (.iconst 1, 1, 0, 0, 0) := by rfl
theorem t38_27 : zT 38 27 = some (.ireturn, 1, 0, 0, 0) := by rfl
theorem t39_0 : zT 39 0 = some (.iconst 0, 1, 0, 0, 0) := by rfl
theorem t39_1 : zT 39 1 = some (.istore_n 2, 1, 0, 0, 0) := by rfl
theorem t39_2 : zT 39 2 = some (.iload_n 2, 1, 0, 0, 0) := by rfl
theorem t39_3 : zT 39 3 = some (.bipush 8, 2, 0, 0, 0) := by rfl
theorem t39_5 : zT 39 5 = some (.if_icmp .ge 41, 3, 0, 0, 0) := by rfl
theorem t39_8 : zT 39 8 = some (.lload_n 0, 1, 0, 0, 0) := by rfl
theorem t39_9 : zT 39 9 = some (.bipush 8, 2, 0, 0, 0) := by rfl
theorem t39_11 : zT 39 11 = some (.iload_n 2, 1, 0, 0, 0) := by rfl
theorem t39_12 : zT 39 12 = some (.imul, 1, 0, 0, 0) := by rfl
theorem t39_13 : zT 39 13 = some (.lushr, 1, 0, 0, 0) := by rfl
theorem t39_14 : zT 39 14 = some (.lconst 0, 1, 0, 0, 0) := by rfl
theorem t39_15 : zT 39 15 = some (.lcmp, 1, 0, 0, 0) := by rfl
theorem t39_16 : zT 39 16 = some (.ifCond .eq 30, 3, 0, 0, 0) := by rfl
theorem t39_19 : zT 39 19 = some (.lload_n 0, 1, 0, 0, 0) := by rfl
theorem t39_20 : zT 39 20 = some (.iload_n 2, 1, 0, 0, 0) := by rfl
theorem t39_21 : zT 39 21 = some (.invokestatic 27, 3, 186, 0, 736) := by rfl
theorem t39_24 : zT 39 24 = some (.istore_n 3, 1, 0, 0, 0) := by rfl
theorem t39_25 : zT 39 25 = some (.iload_n 3, 1, 0, 0, 0) := by rfl
theorem t39_26 : zT 39 26 = some (.bipush 33, 2, 0, 0, 0) := by rfl
theorem t39_28 : zT 39 28 = some (.if_icmp .lt 9, 3, 0, 0, 0) := by rfl
theorem t39_31 : zT 39 31 = some (.iload_n 3, 1, 0, 0, 0) := by rfl
theorem t39_32 : zT 39 32 = some (.bipush 126, 2, 0, 0, 0) := by rfl
theorem t39_34 : zT 39 34 = some (.if_icmp .le 6, 3, 0, 0, 0) := by rfl
theorem t39_37 : zT 39 37 = some (.bipush (-6), 2, 0, 0, 0) := by rfl
theorem t39_39 : zT 39 39 = some (.ireturn, 1, 0, 0, 0) := by rfl
theorem t39_40 : zT 39 40 = some (.iinc 2 1, 3, 0, 0, 0) := by rfl
theorem t39_43 : zT 39 43 = some (.goto (-41), 3, 0, 0, 0) := by rfl
theorem t39_46 : zT 39 46 = some (.iload_n 2, 1, 0, 0, 0) := by rfl
theorem t39_47 : zT 39 47 = some (.ifCond .ne 8, 3, 0, 0, 0) := by rfl
theorem t39_50 : zT 39 50 = some (.bipush (-6), 2, 0, 0, 0) := by rfl
theorem t39_52 : zT 39 52 = some (.goto 4, 3, 0, 0, 0) := by rfl
theorem t39_55 : zT 39 55 = some (.iload_n 2, 1, 0, 0, 0) := by rfl
theorem t39_56 : zT 39 56 = some (.ireturn, 1, 0, 0, 0) := by rfl
theorem t40_0 : zT 40 0 = some (.iload_n 3, 1, 0, 0, 0) := by rfl
theorem t40_1 : zT 40 1 = some (.iconst 1, 1, 0, 0, 0) := by rfl
theorem t40_2 : zT 40 2 = some (.isub, 1, 0, 0, 0) := by rfl
theorem t40_3 : zT 40 3 = some (.istore 4, 2, 0, 0, 0) := by rfl
theorem t40_5 : zT 40 5 = some (.iload 4, 2, 0, 0, 0) := by rfl
theorem t40_7 : zT 40 7 = some (.ifCond .lt 43, 3, 0, 0, 0) := by rfl
theorem t40_10 : zT 40 10 = some (.aload_n 0, 1, 0, 0, 0) := by rfl
theorem t40_11 : zT 40 11 = some (.getfield 15, 3, 2, 1, 243) := by rfl
theorem t40_14 : zT 40 14 = some (.bipush 60, 2, 0, 0, 0) := by rfl
theorem t40_16 : zT 40 16 = some (.if_icmp .ge 28, 3, 0, 0, 0) := by rfl
theorem t40_19 : zT 40 19 = some (.aload_n 0, 1, 0, 0, 0) := by rfl
theorem t40_20 : zT 40 20 = some (.getfield 9, 3, 2, 0, 242) := by rfl
theorem t40_23 : zT 40 23 = some (.aload_n 0, 1, 0, 0, 0) := by rfl
theorem t40_24 : zT 40 24 = some (.getfield 15, 3, 2, 1, 243) := by rfl
theorem t40_27 : zT 40 27 = some (.lload_n 1, 1, 0, 0, 0) := by rfl
theorem t40_28 : zT 40 28 = some (.iload 4, 2, 0, 0, 0) := by rfl
theorem t40_30 : zT 40 30 = some (.invokestatic 27, 3, 186, 0, 736) := by rfl
theorem t40_33 : zT 40 33 = some (.iastore, 1, 0, 0, 0) := by rfl
theorem t40_34 : zT 40 34 = some (.aload_n 0, 1, 0, 0, 0) := by rfl
theorem t40_35 : zT 40 35 = some (.dup, 1, 0, 0, 0) := by rfl
theorem t40_36 : zT 40 36 = some (.getfield 15, 3, 2, 1, 243) := by rfl
theorem t40_39 : zT 40 39 = some (.iconst 1, 1, 0, 0, 0) := by rfl
theorem t40_40 : zT 40 40 = some (.iadd, 1, 0, 0, 0) := by rfl
theorem t40_41 : zT 40 41 = some (.putfield 15, 3, 2, 1, 243) := by rfl
theorem t40_44 : zT 40 44 = some (.iinc 4 (-1), 3, 0, 0, 0) := by rfl
theorem t40_47 : zT 40 47 = some (.goto (-42), 3, 0, 0, 0) := by rfl
theorem t40_50 : zT 40 50 = some (.return_, 1, 0, 0, 0) := by rfl
theorem t42_0 : zT 42 0 = some (.aload_n 0, 1, 0, 0, 0) := by rfl
theorem t42_1 : zT 42 1 = some (.getfield 12, 3, 3, 0, 260) := by rfl
theorem t42_4 : zT 42 4 = some (.invokevirtual 18, 3, 4, 0, 402) := by rfl
theorem t42_7 : zT 42 7 = some (.aload_n 0, 1, 0, 0, 0) := by rfl
theorem t42_8 : zT 42 8 = some (.iconst 0, 1, 0, 0, 0) := by rfl
theorem t42_9 : zT 42 9 = some (.putfield 21, 3, 3, 1, 262) := by rfl
theorem t42_12 : zT 42 12 = some (.aload_n 0, 1, 0, 0, 0) := by rfl
theorem t42_13 : zT 42 13 = some (.aload_n 1, 1, 0, 0, 0) := by rfl
theorem t42_14 : zT 42 14 = some (.invokevirtual 25, 3, 43, 0, 403) := by rfl
theorem t42_17 : zT 42 17 = some (.istore_n 2, 1, 0, 0, 0) := by rfl
theorem t42_18 : zT 42 18 = some (.iconst 0, 1, 0, 0, 0) := by rfl
theorem t42_19 : zT 42 19 = some (.istore_n 3, 1, 0, 0, 0) := by rfl
theorem t42_20 : zT 42 20 = some (.iload_n 3, 1, 0, 0, 0) := by rfl
theorem t42_21 : zT 42 21 = some (.bipush 60, 2, 0, 0, 0) := by rfl
theorem t42_23 : zT 42 23 = some (.if_icmp .ge 48, 3, 0, 0, 0) := by rfl
theorem t42_26 : zT 42 26 = some (.iload_n 2, 1, 0, 0, 0) := by rfl
theorem t42_27 : zT 42 27 = some (.ifCond .eq 44, 3, 0, 0, 0) := by rfl
theorem t42_30 : zT 42 30 = some (.aload_n 0, 1, 0, 0, 0) := by rfl
theorem t42_31 : zT 42 31 = some (.getfield 21, 3, 3, 1, 262) := by rfl
theorem t42_34 : zT 42 34 = some (.aload_n 1, 1, 0, 0, 0) := by rfl
theorem t42_35 : zT 42 35 = some (.getfield 29, 3, 2, 1, 244) := by rfl
theorem t42_38 : zT 42 38 = some (.if_icmp .ge 33, 3, 0, 0, 0) := by rfl
theorem t42_41 : zT 42 41 = some (.aload_n 0, 1, 0, 0, 0) := by rfl
theorem t42_42 : zT 42 42 = some (.aload_n 1, 1, 0, 0, 0) := by rfl
theorem t42_43 : zT 42 43 = some (.bipush 44, 2, 0, 0, 0) := by rfl
theorem t42_45 : zT 42 45 = some (.invokevirtual 34, 3, 44, 0, 413) := by rfl
theorem t42_48 : zT 42 48 = some (.ifCond .eq 15, 3, 0, 0, 0) := by rfl
theorem t42_51 : zT 42 51 = some (.aload_n 0, 1, 0, 0, 0) := by rfl
theorem t42_52 : zT 42 52 = some (.aload_n 1, 1, 0, 0, 0) := by rfl
theorem t42_53 : zT 42 53 = some (.invokevirtual 25, 3, 43, 0, 403) := by rfl
theorem t42_56 : zT 42 56 = some (.ifCond .eq 7, 3, 0, 0, 0) := by rfl
theorem t42_59 : zT 42 59 = some (.iconst 1, 1, 0, 0, 0) := by rfl
theorem t42_60 : zT 42 60 = some (.goto 4, 3, 0, 0, 0) := by rfl
theorem t42_63 : zT 42 63 = some (.iconst 0, 1, 0, 0, 0) := by rfl
theorem t42_64 : zT 42 64 = some (.istore_n 2, 1, 0, 0, 0) := by rfl
theorem t42_65 : zT 42 65 = some (.iinc 3 1, 3, 0, 0, 0) := by rfl
theorem t42_68 : zT 42 68 = some (.goto (-48), 3, 0, 0, 0) := by rfl
theorem t42_71 : zT 42 71 = some (.iload_n 2, 1, 0, 0, 0) := by rfl
theorem t42_72 : zT 42 72 = some (.ifCond .eq 8, 3, 0, 0, 0) := by rfl
theorem t42_75 : zT 42 75 = some (.bipush (-6), 2, 0, 0, 0) := by rfl
theorem t42_77 : zT 42 77 = some (.goto 7, 3, 0, 0, 0) := by rfl
theorem t42_80 : zT 42 80 = some (.aload_n 0, 1, 0, 0, 0) := by rfl
theorem t42_81 : zT 42 81 = some (.getfield 21, 3, 3, 1, 262) := by rfl
theorem t42_84 : zT 42 84 = some (.ireturn, 1, 0, 0, 0) := by rfl
theorem t43_0 : zT 43 0 = some (.aload_n 0, 1, 0, 0, 0) := by rfl
theorem t43_1 : zT 43 1 = some (.aload_n 1, 1, 0, 0, 0) := by rfl
theorem t43_2 : zT 43 2 = some (.invokevirtual 38, 3, 49, 0, 407) := by rfl
theorem t43_5 : zT 43 5 = some (.istore_n 2, 1, 0, 0, 0) := by rfl
theorem t43_6 : zT 43 6 = some (.iload_n 2, 1, 0, 0, 0) := by rfl
theorem t43_7 : zT 43 7 = some (.invokestatic 42, 3, 113, 0, 412) := by rfl
theorem t43_10 : zT 43 10 = some (.ifCond .ne 5, 3, 0, 0, 0) := by rfl
theorem t43_13 : zT 43 13 = some (.iconst 0, 1, 0, 0, 0) := by rfl
theorem t43_14 : zT 43 14 = some (.ireturn, 1, 0, 0, 0) := by rfl
theorem t43_15 : zT 43 15 = some (.aload_n 0, 1, 0, 0, 0) := by rfl
theorem t43_16 : zT 43 16 = some (.dup, 1, 0, 0, 0) := by rfl
theorem t43_17 : zT 43 17 = some (.getfield 21, 3, 3, 1, 262) := by rfl
theorem t43_20 : zT 43 20 = some (.iconst 1, 1, 0, 0, 0) := by rfl
theorem t43_21 : zT 43 21 = some (.iadd, 1, 0, 0, 0) := by rfl
theorem t43_22 : zT 43 22 = some (.putfield 21, 3, 3, 1, 262) := by rfl
theorem t43_25 : zT 43 25 = some (.aload_n 0, 1, 0, 0, 0) := by rfl
theorem t43_26 : zT 43 26 = some (.aload_n 1, 1, 0, 0, 0) := by rfl
theorem t43_27 : zT 43 27 = some (.bipush 45, 2, 0, 0, 0) := by rfl
theorem t43_29 : zT 43 29 = some (.invokevirtual 34, 3, 44, 0, 413) := by rfl
theorem t43_32 : zT 43 32 = some (.ifCond .eq 11, 3, 0, 0, 0) := by rfl
theorem t43_35 : zT 43 35 = some (.aload_n 0, 1, 0, 0, 0) := by rfl
theorem t43_36 : zT 43 36 = some (.aload_n 1, 1, 0, 0, 0) := by rfl
theorem t43_37 : zT 43 37 = some (.iload_n 2, 1, 0, 0, 0) := by rfl
theorem t43_38 : zT 43 38 = some (.iconst 0, 1, 0, 0, 0) := by rfl
theorem t43_39 : zT 43 39 = some (.invokevirtual 46, 3, 45, 0, 417) := by rfl
theorem t43_42 : zT 43 42 = some (.ireturn, 1, 0, 0, 0) := by rfl
theorem t43_43 : zT 43 43 = some (.aload_n 0, 1, 0, 0, 0) := by rfl
theorem t43_44 : zT 43 44 = some (.aload_n 1, 1, 0, 0, 0) := by rfl
theorem t43_45 : zT 43 45 = some (.bipush 61, 2, 0, 0, 0) := by rfl
theorem t43_47 : zT 43 47 = some (.invokevirtual 34, 3, 44, 0, 413) := by rfl
theorem t43_50 : zT 43 50 = some (.ifCond .eq 27, 3, 0, 0, 0) := by rfl
theorem t43_53 : zT 43 53 = some (.aload_n 0, 1, 0, 0, 0) := by rfl
theorem t43_54 : zT 43 54 = some (.aload_n 1, 1, 0, 0, 0) := by rfl
theorem t43_55 : zT 43 55 = some (.iload_n 2, 1, 0, 0, 0) := by rfl
theorem t43_56 : zT 43 56 = some (.iconst 2, 1, 0, 0, 0) := by rfl
theorem t43_57 : zT 43 57 = some (.invokevirtual 46, 3, 45, 0, 417) := by rfl
theorem t43_60 : zT 43 60 = some (.ifCond .eq 15, 3, 0, 0, 0) := by rfl
theorem t43_63 : zT 43 63 = some (.aload_n 0, 1, 0, 0, 0) := by rfl
theorem t43_64 : zT 43 64 = some (.aload_n 1, 1, 0, 0, 0) := by rfl
theorem t43_65 : zT 43 65 = some (.invokevirtual 50, 3, 48, 0, 429) := by rfl
theorem t43_68 : zT 43 68 = some (.ifCond .eq 7, 3, 0, 0, 0) := by rfl
theorem t43_71 : zT 43 71 = some (.iconst 1, 1, 0, 0, 0) := by rfl
theorem t43_72 : zT 43 72 = some (.goto 4, 3, 0, 0, 0) := by rfl
theorem t43_75 : zT 43 75 = some (.iconst 0, 1, 0, 0, 0) := by rfl
theorem t43_76 : zT 43 76 = some (.ireturn, 1, 0, 0, 0) := by rfl
theorem t43_77 : zT 43 77 = some (.aload_n 0, 1, 0, 0, 0) := by rfl
theorem t43_78 : zT 43 78 = some (.aload_n 1, 1, 0, 0, 0) := by rfl
theorem t43_79 : zT 43 79 = some (.bipush 43, 2, 0, 0, 0) := by rfl
theorem t43_81 : zT 43 81 = some (.invokevirtual 34, 3, 44, 0, 413) := by rfl
theorem t43_84 : zT 43 84 = some (.ifCond .eq 24, 3, 0, 0, 0) := by rfl
theorem t43_87 : zT 43 87 = some (.aload_n 0, 1, 0, 0, 0) := by rfl
theorem t43_88 : zT 43 88 = some (.aload_n 1, 1, 0, 0, 0) := by rfl
theorem t43_89 : zT 43 89 = some (.iload_n 2, 1, 0, 0, 0) := by rfl
theorem t43_90 : zT 43 90 = some (.invokevirtual 53, 3, 46, 0, 438) := by rfl
theorem t43_93 : zT 43 93 = some (.ifCond .eq 15, 3, 0, 0, 0) := by rfl
theorem t43_96 : zT 43 96 = some (.aload_n 0, 1, 0, 0, 0) := by rfl
theorem t43_97 : zT 43 97 = some (.aload_n 1, 1, 0, 0, 0) := by rfl
theorem t43_98 : zT 43 98 = some (.invokevirtual 50, 3, 48, 0, 429) := by rfl
theorem t43_101 : zT 43 101 = some (.ifCond .eq 7, 3, 0, 0, 0) := by rfl
theorem t43_104 : zT 43 104 = some (.iconst 1, 1, 0, 0, 0) := by rfl
theorem t43_105 : zT 43 105 = some (.goto 4, 3, 0, 0, 0) := by rfl
theorem t43_108 : zT 43 108 = some (.iconst 0, 1, 0, 0, 0) := by rfl
theorem t43_109 : zT 43 109 = some (.ireturn, 1, 0, 0, 0) := by rfl
theorem t44_0 : zT 44 0 = some (.aload_n 1, 1, 0, 0, 0) := by rfl
theorem t44_1 : zT 44 1 = some (.aload_n 0, 1, 0, 0, 0) := by rfl
theorem t44_2 : zT 44 2 = some (.getfield 21, 3, 3, 1, 262) := by rfl
theorem t44_5 : zT 44 5 = some (.invokevirtual 57, 3, 36, 0, 411) := by rfl
theorem t44_8 : zT 44 8 = some (.iload_n 2, 1, 0, 0, 0) := by rfl
theorem t44_9 : zT 44 9 = some (.if_icmp .eq 5, 3, 0, 0, 0) := by rfl
theorem t44_12 : zT 44 12 = some (.iconst 0, 1, 0, 0, 0) := by rfl
theorem t44_13 : zT 44 13 = some (.ireturn, 1, 0, 0, 0) := by rfl
theorem t44_14 : zT 44 14 = some (.aload_n 0, 1, 0, 0, 0) := by rfl
theorem t44_15 : zT 44 15 = some (.dup, 1, 0, 0, 0) := by rfl
theorem t44_16 : zT 44 16 = some (.getfield 21, 3, 3, 1, 262) := by rfl
theorem t44_19 : zT 44 19 = some (.iconst 1, 1, 0, 0, 0) := by rfl
theorem t44_20 : zT 44 20 = some (.iadd, 1, 0, 0, 0) := by rfl
theorem t44_21 : zT 44 21 = some (.putfield 21, 3, 3, 1, 262) := by rfl
theorem t44_24 : zT 44 24 = some (.iconst 1, 1, 0, 0, 0) := by rfl
theorem t44_25 : zT 44 25 = some (.ireturn, 1, 0, 0, 0) := by rfl
theorem t45_0 : zT 45 0 = some (.aload_n 0, 1, 0, 0, 0) := by rfl
theorem t45_1 : zT 45 1 = some (.aload_n 1, 1, 0, 0, 0) := by rfl
theorem t45_2 : zT 45 2 = some (.invokevirtual 61, 3, 47, 0, 421) := by rfl
theorem t45_5 : zT 45 5 = some (.istore 4, 2, 0, 0, 0) := by rfl
theorem t45_7 : zT 45 7 = some (.iload 4, 2, 0, 0, 0) := by rfl
theorem t45_9 : zT 45 9 = some (.bipush (-6), 2, 0, 0, 0) := by rfl
theorem t45_11 : zT 45 11 = some (.if_icmp .eq 13, 3, 0, 0, 0) := by rfl
theorem t45_14 : zT 45 14 = some (.aload_n 0, 1, 0, 0, 0) := by rfl
theorem t45_15 : zT 45 15 = some (.aload_n 1, 1, 0, 0, 0) := by rfl
theorem t45_16 : zT 45 16 = some (.bipush 58, 2, 0, 0, 0) := by rfl
theorem t45_18 : zT 45 18 = some (.invokevirtual 34, 3, 44, 0, 413) := by rfl
theorem t45_21 : zT 45 21 = some (.ifCond .ne 5, 3, 0, 0, 0) := by rfl
theorem t45_24 : zT 45 24 = some (.iconst 0, 1, 0, 0, 0) := by rfl
theorem t45_25 : zT 45 25 = some (.ireturn, 1, 0, 0, 0) := by rfl
theorem t45_26 : zT 45 26 = some (.aload_n 0, 1, 0, 0, 0) := by rfl
theorem t45_27 : zT 45 27 = some (.aload_n 1, 1, 0, 0, 0) := by rfl
theorem t45_28 : zT 45 28 = some (.invokevirtual 61, 3, 47, 0, 421) := by rfl
theorem t45_31 : zT 45 31 = some (.istore 5, 2, 0, 0, 0) := by rfl
theorem t45_33 : zT 45 33 = some (.iload 5, 2, 0, 0, 0) := by rfl
theorem t45_35 : zT 45 35 = some (.bipush (-6), 2, 0, 0, 0) := by rfl
theorem t45_37 : zT 45 37 = some (.if_icmp .ne 5, 3, 0, 0, 0) := by rfl
theorem t45_40 : zT 45 40 = some (.iconst 0, 1, 0, 0, 0) := by rfl
theorem t45_41 : zT 45 41 = some (.ireturn, 1, 0, 0, 0) := by rfl
theorem t45_42 : zT 45 42 = some (.aload_n 0, 1, 0, 0, 0) := by rfl
theorem t45_43 : zT 45 43 = some (.getfield 12, 3, 3, 0, 260) := by rfl
theorem t45_46 : zT 45 46 = some (.iload_n 2, 1, 0, 0, 0) := by rfl
theorem t45_47 : zT 45 47 = some (.iload_n 3, 1, 0, 0, 0) := by rfl
theorem t45_48 : zT 45 48 = some (.iload 4, 2, 0, 0, 0) := by rfl
theorem t45_50 : zT 45 50 = some (.iload 5, 2, 0, 0, 0) := by rfl
theorem t45_52 : zT 45 52 = some (.invokevirtual 64, 3, 6, 0, 425) := by rfl
theorem t45_55 : zT 45 55 = some (.iconst 1, 1, 0, 0, 0) := by rfl
theorem t45_56 : zT 45 56 = some (.ireturn, 1, 0, 0, 0) := by rfl
theorem t46_0 : zT 46 0 = some (.aload_n 0, 1, 0, 0, 0) := by rfl
theorem t46_1 : zT 46 1 = some (.aload_n 1, 1, 0, 0, 0) := by rfl
theorem t46_2 : zT 46 2 = some (.invokevirtual 61, 3, 47, 0, 421) := by rfl
theorem t46_5 : zT 46 5 = some (.istore_n 3, 1, 0, 0, 0) := by rfl
theorem t46_6 : zT 46 6 = some (.iload_n 3, 1, 0, 0, 0) := by rfl
theorem t46_7 : zT 46 7 = some (.bipush (-6), 2, 0, 0, 0) := by rfl
theorem t46_9 : zT 46 9 = some (.if_icmp .ne 5, 3, 0, 0, 0) := by rfl
theorem t46_12 : zT 46 12 = some (.iconst 0, 1, 0, 0, 0) := by rfl
theorem t46_13 : zT 46 13 = some (.ireturn, 1, 0, 0, 0) := by rfl
theorem t46_14 : zT 46 14 = some (.aload_n 0, 1, 0, 0, 0) := by rfl
theorem t46_15 : zT 46 15 = some (.getfield 12, 3, 3, 0, 260) := by rfl
theorem t46_18 : zT 46 18 = some (.iload_n 2, 1, 0, 0, 0) := by rfl
theorem t46_19 : zT 46 19 = some (.iconst 1, 1, 0, 0, 0) := by rfl
theorem t46_20 : zT 46 20 = some (.iload_n 3, 1, 0, 0, 0) := by rfl
theorem t46_21 : zT 46 21 = some (.iload_n 3, 1, 0, 0, 0) := by rfl
theorem t46_22 : zT 46 22 = some (.invokevirtual 64, 3, 6, 0, 425) := by rfl
theorem t46_25 : zT 46 25 = some (.iconst 1, 1, 0, 0, 0) := by rfl
theorem t46_26 : zT 46 26 = some (.ireturn, 1, 0, 0, 0) := by rfl
theorem t47_0 : zT 47 0 = some (.aload_n 0, 1, 0, 0, 0) := by rfl
theorem t47_1 : zT 47 1 = some (.aload_n 1, 1, 0, 0, 0) := by rfl
theorem t47_2 : zT 47 2 = some (.invokevirtual 38, 3, 49, 0, 407) := by rfl
theorem t47_5 : zT 47 5 = some (.istore_n 2, 1, 0, 0, 0) := by rfl
theorem t47_6 : zT 47 6 = some (.iload_n 2, 1, 0, 0, 0) := by rfl
theorem t47_7 : zT 47 7 = some (.bipush (-6), 2, 0, 0, 0) := by rfl
theorem t47_9 : zT 47 9 = some (.if_icmp .ne 6, 3, 0, 0, 0) := by rfl
theorem t47_12 : zT 47 12 = some (.bipush (-6), 2, 0, 0, 0) := by rfl
theorem t47_14 : zT 47 14 = some (.ireturn, 1, 0, 0, 0) := by rfl
theorem t47_15 : zT 47 15 = some (.aload_n 0, 1, 0, 0, 0) := by rfl
theorem t47_16 : zT 47 16 = some (.dup, 1, 0, 0, 0) := by rfl
theorem t47_17 : zT 47 17 = some (.getfield 21, 3, 3, 1, 262) := by rfl
theorem t47_20 : zT 47 20 = some (.iconst 1, 1, 0, 0, 0) := by rfl
theorem t47_21 : zT 47 21 = some (.iadd, 1, 0, 0, 0) := by rfl
theorem t47_22 : zT 47 22 = some (.putfield 21, 3, 3, 1, 262) := by rfl
theorem t47_25 : zT 47 25 = some (.aload_n 0, 1, 0, 0, 0) := by rfl
theorem t47_26 : zT 47 26 = some (.aload_n 1, 1, 0, 0, 0) := by rfl
theorem t47_27 : zT 47 27 = some (.invokevirtual 38, 3, 49, 0, 407) := by rfl
theorem t47_30 : zT 47 30 = some (.istore_n 3, 1, 0, 0, 0) := by rfl
theorem t47_31 : zT 47 31 = some (.iload_n 2, 1, 0, 0, 0) := by rfl
theorem t47_32 : zT 47 32 = some (.ifCond .eq 20, 3, 0, 0, 0) := by rfl
theorem t47_35 : zT 47 35 = some (.iload_n 3, 1, 0, 0, 0) := by rfl
theorem t47_36 : zT 47 36 = some (.bipush (-6), 2, 0, 0, 0) := by rfl
theorem t47_38 : zT 47 38 = some (.if_icmp .eq 14, 3, 0, 0, 0) := by rfl
theorem t47_41 : zT 47 41 = some (.iload_n 2, 1, 0, 0, 0) := by rfl
theorem t47_42 : zT 47 42 = some (.bipush 10, 2, 0, 0, 0) := by rfl
theorem t47_44 : zT 47 44 = some (.imul, 1, 0, 0, 0) := by rfl
theorem t47_45 : zT 47 45 = some (.iload_n 3, 1, 0, 0, 0) := by rfl
theorem t47_46 : zT 47 46 = some (.iadd, 1, 0, 0, 0) := by rfl
theorem t47_47 : zT 47 47 = some (.bipush 60, 2, 0, 0, 0) := by rfl
theorem t47_49 : zT 47 49 = some (.if_icmp .le 5, 3, 0, 0, 0) := by rfl
theorem t47_52 : zT 47 52 = some (.iload_n 2, 1, 0, 0, 0) := by rfl
theorem t47_53 : zT 47 53 = some (.ireturn, 1, 0, 0, 0) := by rfl
theorem t47_54 : zT 47 54 = some (.aload_n 0, 1, 0, 0, 0) := by rfl
theorem t47_55 : zT 47 55 = some (.dup, 1, 0, 0, 0) := by rfl
theorem t47_56 : zT 47 56 = some (.getfield 21, 3, 3, 1, 262) := by rfl
theorem t47_59 : zT 47 59 = some (.iconst 1, 1, 0, 0, 0) := by rfl
theorem t47_60 : zT 47 60 = some (.iadd, 1, 0, 0, 0) := by rfl
theorem t47_61 : zT 47 61 = some (.putfield 21, 3, 3, 1, 262) := by rfl
theorem t47_64 : zT 47 64 = some (.iload_n 2, 1, 0, 0, 0) := by rfl
theorem t47_65 : zT 47 65 = some (.bipush 10, 2, 0, 0, 0) := by rfl
theorem t47_67 : zT 47 67 = some (.imul, 1, 0, 0, 0) := by rfl
theorem t47_68 : zT 47 68 = some (.iload_n 3, 1, 0, 0, 0) := by rfl
theorem t47_69 : zT 47 69 = some (.iadd, 1, 0, 0, 0) := by rfl
theorem t47_70 : zT 47 70 = some (.ireturn, 1, 0, 0, 0) := by rfl
theorem t48_0 : zT 48 0 = some (.iconst 0, 1, 0, 0, 0) := by rfl
theorem t48_1 : zT 48 1 = some (.istore_n 2, 1, 0, 0, 0) := by rfl
theorem t48_2 : zT 48 2 = some (.iload_n 2, 1, 0, 0, 0) := by rfl
theorem t48_3 : zT 48 3 = some (.bipush 6, 2, 0, 0, 0) := by rfl
theorem t48_5 : zT 48 5 = some (.if_icmp .ge 48, 3, 0, 0, 0) := by rfl
theorem t48_8 : zT 48 8 = some (.aload_n 1, 1, 0, 0, 0) := by rfl
theorem t48_9 : zT 48 9 = some (.aload_n 0, 1, 0, 0, 0) := by rfl
theorem t48_10 : zT 48 10 = some (.getfield 21, 3, 3, 1, 262) := by rfl
theorem t48_13 : zT 48 13 = some (.invokevirtual 68, 3, 37, 0, 433) := by rfl
theorem t48_16 : zT 48 16 = some (.ifCond .eq 37, 3, 0, 0, 0) := by rfl
theorem t48_19 : zT 48 19 = some (.aload_n 0, 1, 0, 0, 0) := by rfl
theorem t48_20 : zT 48 20 = some (.getfield 12, 3, 3, 0, 260) := by rfl
theorem t48_23 : zT 48 23 = some (.aload_n 1, 1, 0, 0, 0) := by rfl
theorem t48_24 : zT 48 24 = some (.aload_n 0, 1, 0, 0, 0) := by rfl
theorem t48_25 : zT 48 25 = some (.getfield 21, 3, 3, 1, 262) := by rfl
theorem t48_28 : zT 48 28 = some (.invokevirtual 57, 3, 36, 0, 411) := by rfl
theorem t48_31 : zT 48 31 = some (.bipush 97, 2, 0, 0, 0) := by rfl
theorem t48_33 : zT 48 33 = some (.isub, 1, 0, 0, 0) := by rfl
theorem t48_34 : zT 48 34 = some (.invokevirtual 71, 3, 7, 0, 434) := by rfl
theorem t48_37 : zT 48 37 = some (.aload_n 0, 1, 0, 0, 0) := by rfl
theorem t48_38 : zT 48 38 = some (.dup, 1, 0, 0, 0) := by rfl
theorem t48_39 : zT 48 39 = some (.getfield 21, 3, 3, 1, 262) := by rfl
theorem t48_42 : zT 48 42 = some (.iconst 1, 1, 0, 0, 0) := by rfl
theorem t48_43 : zT 48 43 = some (.iadd, 1, 0, 0, 0) := by rfl
theorem t48_44 : zT 48 44 = some (.putfield 21, 3, 3, 1, 262) := by rfl
theorem t48_47 : zT 48 47 = some (.iinc 2 1, 3, 0, 0, 0) := by rfl
theorem t48_50 : zT 48 50 = some (.goto (-48), 3, 0, 0, 0) := by rfl
theorem t48_53 : zT 48 53 = some (.iload_n 2, 1, 0, 0, 0) := by rfl
theorem t48_54 : zT 48 54 = some (.ifCond .le 7, 3, 0, 0, 0) := by rfl
theorem t48_57 : zT 48 57 = some (.iconst 1, 1, 0, 0, 0) := by rfl
theorem t48_58 : zT 48 58 = some (.goto 4, 3, 0, 0, 0) := by rfl
theorem t48_61 : zT 48 61 = some (.iconst 0, 1, 0, 0, 0) := by rfl
theorem t48_62 : zT 48 62 = some (.ireturn, 1, 0, 0, 0) := by rfl
theorem t49_0 : zT 49 0 = some (.aload_n 1, 1, 0, 0, 0) := by rfl
theorem t49_1 : zT 49 1 = some (.aload_n 0, 1, 0, 0, 0) := by rfl
theorem t49_2 : zT 49 2 = some (.getfield 21, 3, 3, 1, 262) := by rfl
theorem t49_5 : zT 49 5 = some (.invokevirtual 57, 3, 36, 0, 411) := by rfl
theorem t49_8 : zT 49 8 = some (.istore_n 2, 1, 0, 0, 0) := by rfl
theorem t49_9 : zT 49 9 = some (.iload_n 2, 1, 0, 0, 0) := by rfl
theorem t49_10 : zT 49 10 = some (.bipush 48, 2, 0, 0, 0) := by rfl
theorem t49_12 : zT 49 12 = some (.if_icmp .lt 16, 3, 0, 0, 0) := by rfl
theorem t49_15 : zT 49 15 = some (.iload_n 2, 1, 0, 0, 0) := by rfl
theorem t49_16 : zT 49 16 = some (.bipush 57, 2, 0, 0, 0) := by rfl
theorem t49_18 : zT 49 18 = some (.if_icmp .gt 10, 3, 0, 0, 0) := by rfl
theorem t49_21 : zT 49 21 = some (.iload_n 2, 1, 0, 0, 0) := by rfl
theorem t49_22 : zT 49 22 = some (.bipush 48, 2, 0, 0, 0) := by rfl
theorem t49_24 : zT 49 24 = some (.isub, 1, 0, 0, 0) := by rfl
theorem t49_25 : zT 49 25 = some (.goto 5, 3, 0, 0, 0) := by rfl
theorem t49_28 : zT 49 28 = some (.bipush (-6), 2, 0, 0, 0) := by rfl
theorem t49_30 : zT 49 30 = some (.ireturn, 1, 0, 0, 0) := by rfl
/-! X2_clear FiveInks$Pad.clear -/
theorem k35_0 {X : Nat × (Nat → Int32)} {I : Nat → Nat → Int32}   : zr X 35 0 [.ref 142] [] (zk I) = some (none, zk (zs1 I 142 1 0)) :=
  (zr_aload_n t35_0 rfl).trans <|
    (zr_iconst t35_1 zci_0).trans <|
    (zr_putI t35_2 (rfl) (Or.inl rfl)).trans <|
    zr_vret t35_5 rfl
/-! X2_at FiveInks$Pad.at -/
theorem k36_0 {X : Nat × (Nat → Int32)} {I : Nat → Nat → Int32} {v1 : Int32}  : zr X 36 0 [.ref 142, .int v1] [] (zk I) = if v1 < 0 then zr X 36 21 [.ref 142, .int v1] [] (zk I) else zr X 36 4 [.ref 142, .int v1] [] (zk I) :=
  (zr_iload_n t36_0 rfl).trans <|
    zr_if_lt (tgt := 21) t36_1 rfl
theorem k36_4 {X : Nat × (Nat → Int32)} {I : Nat → Nat → Int32} {v1 : Int32}  : zr X 36 4 [.ref 142, .int v1] [] (zk I) = if (I 142 1) ≤ v1 then zr X 36 21 [.ref 142, .int v1] [] (zk I) else zr X 36 12 [.ref 142, .int v1] [] (zk I) :=
  (zr_iload_n t36_4 rfl).trans <|
    (zr_aload_n t36_5 rfl).trans <|
    (zr_getI t36_6 (rfl)).trans <|
    zr_ic_ge (tgt := 21) t36_9 rfl
theorem k36_12 {X : Nat × (Nat → Int32)} {I : Nat → Nat → Int32} {v1 : Int32} (q1 : zin v1 60 = true) : zr X 36 12 [.ref 142, .int v1] [] (zk I) = some (some (.int (I 143 (zx v1))), zk I) :=
  (zr_aload_n t36_12 rfl).trans <|
    (zr_getR (u := 143) t36_13 (rfl)).trans <|
    (zr_iload_n t36_16 rfl).trans <|
    (zr_iald (j := zx v1) t36_17 (N := 60) rfl rfl q1).trans <|
    (zr_goto (tgt := 23) t36_18 rfl).trans <|
    zr_iret t36_23 rfl
theorem k36_21 {X : Nat × (Nat → Int32)} {I : Nat → Nat → Int32} {v1 : Int32}  : zr X 36 21 [.ref 142, .int v1] [] (zk I) = some (some (.int (-6)), zk I) :=
  (zr_bipush t36_21 zcb_m6).trans <|
    zr_iret t36_23 rfl
/-! X2_hasLetterAt FiveInks$Pad.hasLetterAt -/
theorem k37_0 {X : Nat × (Nat → Int32)} {I : Nat → Nat → Int32} {v1 : Int32}  : zr X 37 0 [.ref 142, .int v1] [] (zk I) = zcb (zr X 36 0 [.ref 142, .int v1] [] (zk I)) (fun v m1 => zr X 37 5 [.ref 142, .int v1] (v.toList ++ []) m1) :=
  (zr_aload_n t37_0 rfl).trans <|
    (zr_iload_n t37_1 rfl).trans <|
    zr_callv t37_2 rfl rfl rfl rfl
theorem k37_5 {X : Nat × (Nat → Int32)} {I : Nat → Nat → Int32} {v1 : Int32} {s0 : Int32}  : zr X 37 5 [.ref 142, .int v1] [.int s0] (zk I) = if s0 < 97 then zr X 37 24 [.ref 142, .int v1] [] (zk I) else zr X 37 10 [.ref 142, .int v1] [] (zk I) :=
  (zr_bipush t37_5 zcb_97).trans <|
    zr_ic_lt (tgt := 24) t37_7 rfl
theorem k37_10 {X : Nat × (Nat → Int32)} {I : Nat → Nat → Int32} {v1 : Int32}  : zr X 37 10 [.ref 142, .int v1] [] (zk I) = zcb (zr X 36 0 [.ref 142, .int v1] [] (zk I)) (fun v m1 => zr X 37 15 [.ref 142, .int v1] (v.toList ++ []) m1) :=
  (zr_aload_n t37_10 rfl).trans <|
    (zr_iload_n t37_11 rfl).trans <|
    zr_callv t37_12 rfl rfl rfl rfl
theorem k37_15 {X : Nat × (Nat → Int32)} {I : Nat → Nat → Int32} {v1 : Int32} {s0 : Int32}  : zr X 37 15 [.ref 142, .int v1] [.int s0] (zk I) = if 122 < s0 then zr X 37 24 [.ref 142, .int v1] [] (zk I) else zr X 37 20 [.ref 142, .int v1] [] (zk I) :=
  (zr_bipush t37_15 zcb_122).trans <|
    zr_ic_gt (tgt := 24) t37_17 rfl
theorem k37_20 {X : Nat × (Nat → Int32)} {I : Nat → Nat → Int32} {v1 : Int32}  : zr X 37 20 [.ref 142, .int v1] [] (zk I) = some (some (.int 1), zk I) :=
  (zr_iconst t37_20 zci_1).trans <|
    (zr_goto (tgt := 25) t37_21 rfl).trans <|
    zr_zret t37_25 rfl (Or.inr rfl)
theorem k37_24 {X : Nat × (Nat → Int32)} {I : Nat → Nat → Int32} {v1 : Int32}  : zr X 37 24 [.ref 142, .int v1] [] (zk I) = some (some (.int 0), zk I) :=
  (zr_iconst t37_24 zci_0).trans <|
    zr_zret t37_25 rfl (Or.inl rfl)
/-! X2_hasOnlyLetters FiveInks$Pad.hasOnlyLetters -/
theorem k38_0 {X : Nat × (Nat → Int32)} {I : Nat → Nat → Int32}   : zr X 38 0 [.ref 142, .null] [] (zk I) = zr X 38 2 [.ref 142, .int 0] [] (zk I) :=
  (zr_iconst t38_0 zci_0).trans <|
    zr_istore_n t38_1 rfl rfl
theorem k38_2 {X : Nat × (Nat → Int32)} {I : Nat → Nat → Int32} {v1 : Int32}  : zr X 38 2 [.ref 142, .int v1] [] (zk I) = if (I 142 1) ≤ v1 then zr X 38 26 [.ref 142, .int v1] [] (zk I) else zr X 38 10 [.ref 142, .int v1] [] (zk I) :=
  (zr_iload_n t38_2 rfl).trans <|
    (zr_aload_n t38_3 rfl).trans <|
    (zr_getI t38_4 (rfl)).trans <|
    zr_ic_ge (tgt := 26) t38_7 rfl
theorem k38_10 {X : Nat × (Nat → Int32)} {I : Nat → Nat → Int32} {v1 : Int32}  : zr X 38 10 [.ref 142, .int v1] [] (zk I) = zcb (zr X 37 0 [.ref 142, .int v1] [] (zk I)) (fun v m1 => zr X 38 15 [.ref 142, .int v1] (v.toList ++ []) m1) :=
  (zr_aload_n t38_10 rfl).trans <|
    (zr_iload_n t38_11 rfl).trans <|
    zr_callv t38_12 rfl rfl rfl rfl
theorem k38_15 {X : Nat × (Nat → Int32)} {I : Nat → Nat → Int32} {v1 : Int32} {s0 : Int32}  : zr X 38 15 [.ref 142, .int v1] [.int s0] (zk I) = if ¬ s0 = 0 then zr X 38 20 [.ref 142, .int v1] [] (zk I) else zr X 38 18 [.ref 142, .int v1] [] (zk I) :=
  zr_if_ne (tgt := 20) t38_15 rfl
theorem k38_18 {X : Nat × (Nat → Int32)} {I : Nat → Nat → Int32} {v1 : Int32}  : zr X 38 18 [.ref 142, .int v1] [] (zk I) = some (some (.int 0), zk I) :=
  (zr_iconst t38_18 zci_0).trans <|
    zr_zret t38_19 rfl (Or.inl rfl)
theorem k38_20 {X : Nat × (Nat → Int32)} {I : Nat → Nat → Int32} {v1 : Int32}  : zr X 38 20 [.ref 142, .int v1] [] (zk I) = zr X 38 2 [.ref 142, .int (v1 + 1)] [] (zk I) :=
  (zr_iinc t38_20 rfl rfl (congrArg (fun z => v1 + z) zci_1) rfl).trans <|
    zr_goto (tgt := 2) t38_23 rfl
theorem k38_26 {X : Nat × (Nat → Int32)} {I : Nat → Nat → Int32} {v1 : Int32}  : zr X 38 26 [.ref 142, .int v1] [] (zk I) = some (some (.int 1), zk I) :=
  (zr_iconst t38_26 zci_1).trans <|
    zr_zret t38_27 rfl (Or.inr rfl)
/-! X2_charactersIn FiveInks$Pad.charactersIn -/
theorem k39_0 {X : Nat × (Nat → Int32)} {I : Nat → Nat → Int32} {v0 : Int64}  : zr X 39 0 [.long v0, .null, .null, .null] [] (zk I) = zr X 39 2 [.long v0, .null, .int 0, .null] [] (zk I) :=
  (zr_iconst t39_0 zci_0).trans <|
    zr_istore_n t39_1 rfl rfl
theorem k39_2 {X : Nat × (Nat → Int32)} {I : Nat → Nat → Int32} {v0 : Int64} {v2 : Int32} {v3 : Value}  : zr X 39 2 [.long v0, .null, .int v2, v3] [] (zk I) = if 8 ≤ v2 then zr X 39 46 [.long v0, .null, .int v2, v3] [] (zk I) else zr X 39 8 [.long v0, .null, .int v2, v3] [] (zk I) :=
  (zr_iload_n t39_2 rfl).trans <|
    (zr_bipush t39_3 zcb_8).trans <|
    zr_ic_ge (tgt := 46) t39_5 rfl
theorem k39_8 {X : Nat × (Nat → Int32)} {I : Nat → Nat → Int32} {v0 : Int64} {v2 : Int32} {v3 : Value}  : zr X 39 8 [.long v0, .null, .int v2, v3] [] (zk I) = if (lg_cmp ((v0.toUInt64 >>> ((8 * v2).toInt64.toUInt64 &&& Int64.toUInt64 63)).toInt64) 0) = 0 then zr X 39 46 [.long v0, .null, .int v2, v3] [] (zk I) else zr X 39 19 [.long v0, .null, .int v2, v3] [] (zk I) :=
  (zr_lload_n t39_8 rfl).trans <|
    (zr_bipush t39_9 zcb_8).trans <|
    (zr_iload_n t39_11 rfl).trans <|
    (zr_imul t39_12).trans <|
    (zr_lushr t39_13).trans <|
    (zr_lconst t39_14 (x := 0) rfl).trans <|
    (zr_lcmp t39_15).trans <|
    zr_if_eq (tgt := 46) t39_16 rfl
theorem k39_19 {X : Nat × (Nat → Int32)} {I : Nat → Nat → Int32} {v0 : Int64} {v2 : Int32} {v3 : Value}  : zr X 39 19 [.long v0, .null, .int v2, v3] [] (zk I) = zcb (zr X 186 0 [.long v0, .null, .int v2] [] (zk I)) (fun v m1 => zr X 39 24 [.long v0, .null, .int v2, v3] (v.toList ++ []) m1) :=
  (zr_lload_n t39_19 rfl).trans <|
    (zr_iload_n t39_20 rfl).trans <|
    zr_calls t39_21 rfl rfl rfl rfl rfl
theorem k39_24 {X : Nat × (Nat → Int32)} {I : Nat → Nat → Int32} {v0 : Int64} {v2 : Int32} {v3 : Value} {s0 : Int32}  : zr X 39 24 [.long v0, .null, .int v2, v3] [.int s0] (zk I) = if s0 < 33 then zr X 39 37 [.long v0, .null, .int v2, .int s0] [] (zk I) else zr X 39 31 [.long v0, .null, .int v2, .int s0] [] (zk I) :=
  (zr_istore_n t39_24 rfl rfl).trans <|
    (zr_iload_n t39_25 rfl).trans <|
    (zr_bipush t39_26 zcb_33).trans <|
    zr_ic_lt (tgt := 37) t39_28 rfl
theorem k39_31 {X : Nat × (Nat → Int32)} {I : Nat → Nat → Int32} {v0 : Int64} {v2 : Int32} {v3 : Int32}  : zr X 39 31 [.long v0, .null, .int v2, .int v3] [] (zk I) = if v3 ≤ 126 then zr X 39 40 [.long v0, .null, .int v2, .int v3] [] (zk I) else zr X 39 37 [.long v0, .null, .int v2, .int v3] [] (zk I) :=
  (zr_iload_n t39_31 rfl).trans <|
    (zr_bipush t39_32 zcb_126).trans <|
    zr_ic_le (tgt := 40) t39_34 rfl
theorem k39_37 {X : Nat × (Nat → Int32)} {I : Nat → Nat → Int32} {v0 : Int64} {v2 : Int32} {v3 : Int32}  : zr X 39 37 [.long v0, .null, .int v2, .int v3] [] (zk I) = some (some (.int (-6)), zk I) :=
  (zr_bipush t39_37 zcb_m6).trans <|
    zr_iret t39_39 rfl
theorem k39_40 {X : Nat × (Nat → Int32)} {I : Nat → Nat → Int32} {v0 : Int64} {v2 : Int32} {v3 : Int32}  : zr X 39 40 [.long v0, .null, .int v2, .int v3] [] (zk I) = zr X 39 2 [.long v0, .null, .int (v2 + 1), .int v3] [] (zk I) :=
  (zr_iinc t39_40 rfl rfl (congrArg (fun z => v2 + z) zci_1) rfl).trans <|
    zr_goto (tgt := 2) t39_43 rfl
theorem k39_46 {X : Nat × (Nat → Int32)} {I : Nat → Nat → Int32} {v0 : Int64} {v2 : Int32} {v3 : Value}  : zr X 39 46 [.long v0, .null, .int v2, v3] [] (zk I) = if ¬ v2 = 0 then zr X 39 55 [.long v0, .null, .int v2, v3] [] (zk I) else zr X 39 50 [.long v0, .null, .int v2, v3] [] (zk I) :=
  (zr_iload_n t39_46 rfl).trans <|
    zr_if_ne (tgt := 55) t39_47 rfl
theorem k39_50 {X : Nat × (Nat → Int32)} {I : Nat → Nat → Int32} {v0 : Int64} {v2 : Int32} {v3 : Value}  : zr X 39 50 [.long v0, .null, .int v2, v3] [] (zk I) = some (some (.int (-6)), zk I) :=
  (zr_bipush t39_50 zcb_m6).trans <|
    (zr_goto (tgt := 56) t39_52 rfl).trans <|
    zr_iret t39_56 rfl
theorem k39_55 {X : Nat × (Nat → Int32)} {I : Nat → Nat → Int32} {v0 : Int64} {v2 : Int32} {v3 : Value}  : zr X 39 55 [.long v0, .null, .int v2, v3] [] (zk I) = some (some (.int v2), zk I) :=
  (zr_iload_n t39_55 rfl).trans <|
    zr_iret t39_56 rfl
/-! X2_append FiveInks$Pad.append -/
theorem k40_0 {X : Nat × (Nat → Int32)} {I : Nat → Nat → Int32} {v1 : Int64} {v3 : Int32}  : zr X 40 0 [.ref 142, .long v1, .null, .int v3, .null] [] (zk I) = zr X 40 5 [.ref 142, .long v1, .null, .int v3, .int (v3 - 1)] [] (zk I) :=
  (zr_iload_n t40_0 rfl).trans <|
    (zr_iconst t40_1 zci_1).trans <|
    (zr_isub t40_2).trans <|
    zr_istore t40_3 rfl rfl
theorem k40_5 {X : Nat × (Nat → Int32)} {I : Nat → Nat → Int32} {v1 : Int64} {v3 : Int32} {v4 : Int32}  : zr X 40 5 [.ref 142, .long v1, .null, .int v3, .int v4] [] (zk I) = if v4 < 0 then zr X 40 50 [.ref 142, .long v1, .null, .int v3, .int v4] [] (zk I) else zr X 40 10 [.ref 142, .long v1, .null, .int v3, .int v4] [] (zk I) :=
  (zr_iload t40_5 rfl).trans <|
    zr_if_lt (tgt := 50) t40_7 rfl
theorem k40_10 {X : Nat × (Nat → Int32)} {I : Nat → Nat → Int32} {v1 : Int64} {v3 : Int32} {v4 : Int32}  : zr X 40 10 [.ref 142, .long v1, .null, .int v3, .int v4] [] (zk I) = if 60 ≤ (I 142 1) then zr X 40 44 [.ref 142, .long v1, .null, .int v3, .int v4] [] (zk I) else zr X 40 19 [.ref 142, .long v1, .null, .int v3, .int v4] [] (zk I) :=
  (zr_aload_n t40_10 rfl).trans <|
    (zr_getI t40_11 (rfl)).trans <|
    (zr_bipush t40_14 zcb_60).trans <|
    zr_ic_ge (tgt := 44) t40_16 rfl
theorem k40_19 {X : Nat × (Nat → Int32)} {I : Nat → Nat → Int32} {v1 : Int64} {v3 : Int32} {v4 : Int32}  : zr X 40 19 [.ref 142, .long v1, .null, .int v3, .int v4] [] (zk I) = zcb (zr X 186 0 [.long v1, .null, .int v4] [] (zk I)) (fun v m1 => zr X 40 33 [.ref 142, .long v1, .null, .int v3, .int v4] (v.toList ++ [.int (I 142 1), .ref 143]) m1) :=
  (zr_aload_n t40_19 rfl).trans <|
    (zr_getR (u := 143) t40_20 (rfl)).trans <|
    (zr_aload_n t40_23 rfl).trans <|
    (zr_getI t40_24 (rfl)).trans <|
    (zr_lload_n t40_27 rfl).trans <|
    (zr_iload t40_28 rfl).trans <|
    zr_calls t40_30 rfl rfl rfl rfl rfl
theorem k40_33 {X : Nat × (Nat → Int32)} {I : Nat → Nat → Int32} {v1 : Int64} {v3 : Int32} {v4 : Int32} {s1 : Int32} {s2 : Int32} (q1 : zin s1 60 = true) : zr X 40 33 [.ref 142, .long v1, .null, .int v3, .int v4] [.int s2, .int s1, .ref 143] (zk I) = zr X 40 5 [.ref 142, .long v1, .null, .int v3, .int (v4 + (-1))] [] (zk (zs1 (zs1 I 143 (zx s1) s2) 142 1 ((I 142 1) + 1))) :=
  (zr_iast (j := zx s1) t40_33 (N := 60) rfl rfl q1).trans <|
    (zr_aload_n t40_34 rfl).trans <|
    (zr_dup t40_35 rfl).trans <|
    (zr_getI t40_36 (rfl)).trans <|
    (zr_iconst t40_39 zci_1).trans <|
    (zr_iadd t40_40).trans <|
    (zr_putI t40_41 (rfl) (Or.inl rfl)).trans <|
    (zr_iinc t40_44 rfl rfl (congrArg (fun z => v4 + z) zci_m1) rfl).trans <|
    zr_goto (tgt := 5) t40_47 rfl
theorem k40_44 {X : Nat × (Nat → Int32)} {I : Nat → Nat → Int32} {v1 : Int64} {v3 : Int32} {v4 : Int32}  : zr X 40 44 [.ref 142, .long v1, .null, .int v3, .int v4] [] (zk I) = zr X 40 5 [.ref 142, .long v1, .null, .int v3, .int (v4 + (-1))] [] (zk I) :=
  (zr_iinc t40_44 rfl rfl (congrArg (fun z => v4 + z) zci_m1) rfl).trans <|
    zr_goto (tgt := 5) t40_47 rfl
theorem k40_50 {X : Nat × (Nat → Int32)} {I : Nat → Nat → Int32} {v1 : Int64} {v3 : Int32} {v4 : Int32}  : zr X 40 50 [.ref 142, .long v1, .null, .int v3, .int v4] [] (zk I) = some (none, zk I) :=
  zr_vret t40_50 rfl
/-! X3_read FiveInks$Reader.read -/
theorem k42_0 {X : Nat × (Nat → Int32)} {I : Nat → Nat → Int32}   : zr X 42 0 [.ref 144, .ref 142, .null, .null] [] (zk I) = zcb (zr X 4 0 [.ref 145] [] (zk I)) (fun v m1 => zr X 42 7 [.ref 144, .ref 142, .null, .null] (v.toList ++ []) m1) :=
  (zr_aload_n t42_0 rfl).trans <|
    (zr_getR (u := 145) t42_1 (rfl)).trans <|
    zr_callv t42_4 rfl rfl rfl rfl
theorem k42_7 {X : Nat × (Nat → Int32)} {I : Nat → Nat → Int32}   : zr X 42 7 [.ref 144, .ref 142, .null, .null] [] (zk I) = zcb (zr X 43 0 [.ref 144, .ref 142, .null] [] (zk (zs1 I 144 1 0))) (fun v m1 => zr X 42 17 [.ref 144, .ref 142, .null, .null] (v.toList ++ []) m1) :=
  (zr_aload_n t42_7 rfl).trans <|
    (zr_iconst t42_8 zci_0).trans <|
    (zr_putI t42_9 (rfl) (Or.inl rfl)).trans <|
    (zr_aload_n t42_12 rfl).trans <|
    (zr_aload_n t42_13 rfl).trans <|
    zr_callv t42_14 rfl rfl rfl rfl
theorem k42_17 {X : Nat × (Nat → Int32)} {I : Nat → Nat → Int32} {s0 : Int32}  : zr X 42 17 [.ref 144, .ref 142, .null, .null] [.int s0] (zk I) = zr X 42 20 [.ref 144, .ref 142, .int s0, .int 0] [] (zk I) :=
  (zr_istore_n t42_17 rfl rfl).trans <|
    (zr_iconst t42_18 zci_0).trans <|
    zr_istore_n t42_19 rfl rfl
theorem k42_20 {X : Nat × (Nat → Int32)} {I : Nat → Nat → Int32} {v2 : Int32} {v3 : Int32}  : zr X 42 20 [.ref 144, .ref 142, .int v2, .int v3] [] (zk I) = if 60 ≤ v3 then zr X 42 71 [.ref 144, .ref 142, .int v2, .int v3] [] (zk I) else zr X 42 26 [.ref 144, .ref 142, .int v2, .int v3] [] (zk I) :=
  (zr_iload_n t42_20 rfl).trans <|
    (zr_bipush t42_21 zcb_60).trans <|
    zr_ic_ge (tgt := 71) t42_23 rfl
theorem k42_26 {X : Nat × (Nat → Int32)} {I : Nat → Nat → Int32} {v2 : Int32} {v3 : Int32}  : zr X 42 26 [.ref 144, .ref 142, .int v2, .int v3] [] (zk I) = if v2 = 0 then zr X 42 71 [.ref 144, .ref 142, .int v2, .int v3] [] (zk I) else zr X 42 30 [.ref 144, .ref 142, .int v2, .int v3] [] (zk I) :=
  (zr_iload_n t42_26 rfl).trans <|
    zr_if_eq (tgt := 71) t42_27 rfl
theorem k42_30 {X : Nat × (Nat → Int32)} {I : Nat → Nat → Int32} {v2 : Int32} {v3 : Int32}  : zr X 42 30 [.ref 144, .ref 142, .int v2, .int v3] [] (zk I) = if (I 142 1) ≤ (I 144 1) then zr X 42 71 [.ref 144, .ref 142, .int v2, .int v3] [] (zk I) else zr X 42 41 [.ref 144, .ref 142, .int v2, .int v3] [] (zk I) :=
  (zr_aload_n t42_30 rfl).trans <|
    (zr_getI t42_31 (rfl)).trans <|
    (zr_aload_n t42_34 rfl).trans <|
    (zr_getI t42_35 (rfl)).trans <|
    zr_ic_ge (tgt := 71) t42_38 rfl
theorem k42_41 {X : Nat × (Nat → Int32)} {I : Nat → Nat → Int32} {v2 : Int32} {v3 : Int32}  : zr X 42 41 [.ref 144, .ref 142, .int v2, .int v3] [] (zk I) = zcb (zr X 44 0 [.ref 144, .ref 142, .int 44] [] (zk I)) (fun v m1 => zr X 42 48 [.ref 144, .ref 142, .int v2, .int v3] (v.toList ++ []) m1) :=
  (zr_aload_n t42_41 rfl).trans <|
    (zr_aload_n t42_42 rfl).trans <|
    (zr_bipush t42_43 zcb_44).trans <|
    zr_callv t42_45 rfl rfl rfl rfl
theorem k42_48 {X : Nat × (Nat → Int32)} {I : Nat → Nat → Int32} {v2 : Int32} {v3 : Int32} {s0 : Int32}  : zr X 42 48 [.ref 144, .ref 142, .int v2, .int v3] [.int s0] (zk I) = if s0 = 0 then zr X 42 63 [.ref 144, .ref 142, .int v2, .int v3] [] (zk I) else zr X 42 51 [.ref 144, .ref 142, .int v2, .int v3] [] (zk I) :=
  zr_if_eq (tgt := 63) t42_48 rfl
theorem k42_51 {X : Nat × (Nat → Int32)} {I : Nat → Nat → Int32} {v2 : Int32} {v3 : Int32}  : zr X 42 51 [.ref 144, .ref 142, .int v2, .int v3] [] (zk I) = zcb (zr X 43 0 [.ref 144, .ref 142, .null] [] (zk I)) (fun v m1 => zr X 42 56 [.ref 144, .ref 142, .int v2, .int v3] (v.toList ++ []) m1) :=
  (zr_aload_n t42_51 rfl).trans <|
    (zr_aload_n t42_52 rfl).trans <|
    zr_callv t42_53 rfl rfl rfl rfl
theorem k42_56 {X : Nat × (Nat → Int32)} {I : Nat → Nat → Int32} {v2 : Int32} {v3 : Int32} {s0 : Int32}  : zr X 42 56 [.ref 144, .ref 142, .int v2, .int v3] [.int s0] (zk I) = if s0 = 0 then zr X 42 63 [.ref 144, .ref 142, .int v2, .int v3] [] (zk I) else zr X 42 59 [.ref 144, .ref 142, .int v2, .int v3] [] (zk I) :=
  zr_if_eq (tgt := 63) t42_56 rfl
theorem k42_59 {X : Nat × (Nat → Int32)} {I : Nat → Nat → Int32} {v2 : Int32} {v3 : Int32}  : zr X 42 59 [.ref 144, .ref 142, .int v2, .int v3] [] (zk I) = zr X 42 20 [.ref 144, .ref 142, .int 1, .int (v3 + 1)] [] (zk I) :=
  (zr_iconst t42_59 zci_1).trans <|
    (zr_goto (tgt := 64) t42_60 rfl).trans <|
    (zr_istore_n t42_64 rfl rfl).trans <|
    (zr_iinc t42_65 rfl rfl (congrArg (fun z => v3 + z) zci_1) rfl).trans <|
    zr_goto (tgt := 20) t42_68 rfl
theorem k42_63 {X : Nat × (Nat → Int32)} {I : Nat → Nat → Int32} {v2 : Int32} {v3 : Int32}  : zr X 42 63 [.ref 144, .ref 142, .int v2, .int v3] [] (zk I) = zr X 42 20 [.ref 144, .ref 142, .int 0, .int (v3 + 1)] [] (zk I) :=
  (zr_iconst t42_63 zci_0).trans <|
    (zr_istore_n t42_64 rfl rfl).trans <|
    (zr_iinc t42_65 rfl rfl (congrArg (fun z => v3 + z) zci_1) rfl).trans <|
    zr_goto (tgt := 20) t42_68 rfl
theorem k42_71 {X : Nat × (Nat → Int32)} {I : Nat → Nat → Int32} {v2 : Int32} {v3 : Int32}  : zr X 42 71 [.ref 144, .ref 142, .int v2, .int v3] [] (zk I) = if v2 = 0 then zr X 42 80 [.ref 144, .ref 142, .int v2, .int v3] [] (zk I) else zr X 42 75 [.ref 144, .ref 142, .int v2, .int v3] [] (zk I) :=
  (zr_iload_n t42_71 rfl).trans <|
    zr_if_eq (tgt := 80) t42_72 rfl
theorem k42_75 {X : Nat × (Nat → Int32)} {I : Nat → Nat → Int32} {v2 : Int32} {v3 : Int32}  : zr X 42 75 [.ref 144, .ref 142, .int v2, .int v3] [] (zk I) = some (some (.int (-6)), zk I) :=
  (zr_bipush t42_75 zcb_m6).trans <|
    (zr_goto (tgt := 84) t42_77 rfl).trans <|
    zr_iret t42_84 rfl
theorem k42_80 {X : Nat × (Nat → Int32)} {I : Nat → Nat → Int32} {v2 : Int32} {v3 : Int32}  : zr X 42 80 [.ref 144, .ref 142, .int v2, .int v3] [] (zk I) = some (some (.int (I 144 1)), zk I) :=
  (zr_aload_n t42_80 rfl).trans <|
    (zr_getI t42_81 (rfl)).trans <|
    zr_iret t42_84 rfl
/-! X3_readMark FiveInks$Reader.readMark -/
theorem k43_0 {X : Nat × (Nat → Int32)} {I : Nat → Nat → Int32}   : zr X 43 0 [.ref 144, .ref 142, .null] [] (zk I) = zcb (zr X 49 0 [.ref 144, .ref 142, .null] [] (zk I)) (fun v m1 => zr X 43 5 [.ref 144, .ref 142, .null] (v.toList ++ []) m1) :=
  (zr_aload_n t43_0 rfl).trans <|
    (zr_aload_n t43_1 rfl).trans <|
    zr_callv t43_2 rfl rfl rfl rfl
theorem k43_5 {X : Nat × (Nat → Int32)} {I : Nat → Nat → Int32} {s0 : Int32}  : zr X 43 5 [.ref 144, .ref 142, .null] [.int s0] (zk I) = zcb (zr X 113 0 [.int s0] [] (zk I)) (fun v m1 => zr X 43 10 [.ref 144, .ref 142, .int s0] (v.toList ++ []) m1) :=
  (zr_istore_n t43_5 rfl rfl).trans <|
    (zr_iload_n t43_6 rfl).trans <|
    zr_calls t43_7 rfl rfl rfl rfl rfl
theorem k43_10 {X : Nat × (Nat → Int32)} {I : Nat → Nat → Int32} {v2 : Int32} {s0 : Int32}  : zr X 43 10 [.ref 144, .ref 142, .int v2] [.int s0] (zk I) = if ¬ s0 = 0 then zr X 43 15 [.ref 144, .ref 142, .int v2] [] (zk I) else zr X 43 13 [.ref 144, .ref 142, .int v2] [] (zk I) :=
  zr_if_ne (tgt := 15) t43_10 rfl
theorem k43_13 {X : Nat × (Nat → Int32)} {I : Nat → Nat → Int32} {v2 : Int32}  : zr X 43 13 [.ref 144, .ref 142, .int v2] [] (zk I) = some (some (.int 0), zk I) :=
  (zr_iconst t43_13 zci_0).trans <|
    zr_zret t43_14 rfl (Or.inl rfl)
theorem k43_15 {X : Nat × (Nat → Int32)} {I : Nat → Nat → Int32} {v2 : Int32}  : zr X 43 15 [.ref 144, .ref 142, .int v2] [] (zk I) = zcb (zr X 44 0 [.ref 144, .ref 142, .int 45] [] (zk (zs1 I 144 1 ((I 144 1) + 1)))) (fun v m1 => zr X 43 32 [.ref 144, .ref 142, .int v2] (v.toList ++ []) m1) :=
  (zr_aload_n t43_15 rfl).trans <|
    (zr_dup t43_16 rfl).trans <|
    (zr_getI t43_17 (rfl)).trans <|
    (zr_iconst t43_20 zci_1).trans <|
    (zr_iadd t43_21).trans <|
    (zr_putI t43_22 (rfl) (Or.inl rfl)).trans <|
    (zr_aload_n t43_25 rfl).trans <|
    (zr_aload_n t43_26 rfl).trans <|
    (zr_bipush t43_27 zcb_45).trans <|
    zr_callv t43_29 rfl rfl rfl rfl
theorem k43_32 {X : Nat × (Nat → Int32)} {I : Nat → Nat → Int32} {v2 : Int32} {s0 : Int32}  : zr X 43 32 [.ref 144, .ref 142, .int v2] [.int s0] (zk I) = if s0 = 0 then zr X 43 43 [.ref 144, .ref 142, .int v2] [] (zk I) else zr X 43 35 [.ref 144, .ref 142, .int v2] [] (zk I) :=
  zr_if_eq (tgt := 43) t43_32 rfl
theorem k43_35 {X : Nat × (Nat → Int32)} {I : Nat → Nat → Int32} {v2 : Int32}  : zr X 43 35 [.ref 144, .ref 142, .int v2] [] (zk I) = zcb (zr X 45 0 [.ref 144, .ref 142, .int v2, .int 0, .null, .null] [] (zk I)) (fun v m1 => zr X 43 42 [.ref 144, .ref 142, .int v2] (v.toList ++ []) m1) :=
  (zr_aload_n t43_35 rfl).trans <|
    (zr_aload_n t43_36 rfl).trans <|
    (zr_iload_n t43_37 rfl).trans <|
    (zr_iconst t43_38 zci_0).trans <|
    zr_callv t43_39 rfl rfl rfl rfl
theorem k43_42 {X : Nat × (Nat → Int32)} {I : Nat → Nat → Int32} {v2 : Int32} {s0 : Int32} (q1 : s0 = 0 ∨ s0 = 1) : zr X 43 42 [.ref 144, .ref 142, .int v2] [.int s0] (zk I) = some (some (.int s0), zk I) :=
  zr_zret t43_42 rfl q1
theorem k43_43 {X : Nat × (Nat → Int32)} {I : Nat → Nat → Int32} {v2 : Int32}  : zr X 43 43 [.ref 144, .ref 142, .int v2] [] (zk I) = zcb (zr X 44 0 [.ref 144, .ref 142, .int 61] [] (zk I)) (fun v m1 => zr X 43 50 [.ref 144, .ref 142, .int v2] (v.toList ++ []) m1) :=
  (zr_aload_n t43_43 rfl).trans <|
    (zr_aload_n t43_44 rfl).trans <|
    (zr_bipush t43_45 zcb_61).trans <|
    zr_callv t43_47 rfl rfl rfl rfl
theorem k43_50 {X : Nat × (Nat → Int32)} {I : Nat → Nat → Int32} {v2 : Int32} {s0 : Int32}  : zr X 43 50 [.ref 144, .ref 142, .int v2] [.int s0] (zk I) = if s0 = 0 then zr X 43 77 [.ref 144, .ref 142, .int v2] [] (zk I) else zr X 43 53 [.ref 144, .ref 142, .int v2] [] (zk I) :=
  zr_if_eq (tgt := 77) t43_50 rfl
theorem k43_53 {X : Nat × (Nat → Int32)} {I : Nat → Nat → Int32} {v2 : Int32}  : zr X 43 53 [.ref 144, .ref 142, .int v2] [] (zk I) = zcb (zr X 45 0 [.ref 144, .ref 142, .int v2, .int 2, .null, .null] [] (zk I)) (fun v m1 => zr X 43 60 [.ref 144, .ref 142, .int v2] (v.toList ++ []) m1) :=
  (zr_aload_n t43_53 rfl).trans <|
    (zr_aload_n t43_54 rfl).trans <|
    (zr_iload_n t43_55 rfl).trans <|
    (zr_iconst t43_56 zci_2).trans <|
    zr_callv t43_57 rfl rfl rfl rfl
theorem k43_60 {X : Nat × (Nat → Int32)} {I : Nat → Nat → Int32} {v2 : Int32} {s0 : Int32}  : zr X 43 60 [.ref 144, .ref 142, .int v2] [.int s0] (zk I) = if s0 = 0 then zr X 43 75 [.ref 144, .ref 142, .int v2] [] (zk I) else zr X 43 63 [.ref 144, .ref 142, .int v2] [] (zk I) :=
  zr_if_eq (tgt := 75) t43_60 rfl
theorem k43_63 {X : Nat × (Nat → Int32)} {I : Nat → Nat → Int32} {v2 : Int32}  : zr X 43 63 [.ref 144, .ref 142, .int v2] [] (zk I) = zcb (zr X 48 0 [.ref 144, .ref 142, .null] [] (zk I)) (fun v m1 => zr X 43 68 [.ref 144, .ref 142, .int v2] (v.toList ++ []) m1) :=
  (zr_aload_n t43_63 rfl).trans <|
    (zr_aload_n t43_64 rfl).trans <|
    zr_callv t43_65 rfl rfl rfl rfl
theorem k43_68 {X : Nat × (Nat → Int32)} {I : Nat → Nat → Int32} {v2 : Int32} {s0 : Int32}  : zr X 43 68 [.ref 144, .ref 142, .int v2] [.int s0] (zk I) = if s0 = 0 then zr X 43 75 [.ref 144, .ref 142, .int v2] [] (zk I) else zr X 43 71 [.ref 144, .ref 142, .int v2] [] (zk I) :=
  zr_if_eq (tgt := 75) t43_68 rfl
theorem k43_71 {X : Nat × (Nat → Int32)} {I : Nat → Nat → Int32} {v2 : Int32}  : zr X 43 71 [.ref 144, .ref 142, .int v2] [] (zk I) = some (some (.int 1), zk I) :=
  (zr_iconst t43_71 zci_1).trans <|
    (zr_goto (tgt := 76) t43_72 rfl).trans <|
    zr_zret t43_76 rfl (Or.inr rfl)
theorem k43_75 {X : Nat × (Nat → Int32)} {I : Nat → Nat → Int32} {v2 : Int32}  : zr X 43 75 [.ref 144, .ref 142, .int v2] [] (zk I) = some (some (.int 0), zk I) :=
  (zr_iconst t43_75 zci_0).trans <|
    zr_zret t43_76 rfl (Or.inl rfl)
theorem k43_77 {X : Nat × (Nat → Int32)} {I : Nat → Nat → Int32} {v2 : Int32}  : zr X 43 77 [.ref 144, .ref 142, .int v2] [] (zk I) = zcb (zr X 44 0 [.ref 144, .ref 142, .int 43] [] (zk I)) (fun v m1 => zr X 43 84 [.ref 144, .ref 142, .int v2] (v.toList ++ []) m1) :=
  (zr_aload_n t43_77 rfl).trans <|
    (zr_aload_n t43_78 rfl).trans <|
    (zr_bipush t43_79 zcb_43).trans <|
    zr_callv t43_81 rfl rfl rfl rfl
theorem k43_84 {X : Nat × (Nat → Int32)} {I : Nat → Nat → Int32} {v2 : Int32} {s0 : Int32}  : zr X 43 84 [.ref 144, .ref 142, .int v2] [.int s0] (zk I) = if s0 = 0 then zr X 43 108 [.ref 144, .ref 142, .int v2] [] (zk I) else zr X 43 87 [.ref 144, .ref 142, .int v2] [] (zk I) :=
  zr_if_eq (tgt := 108) t43_84 rfl
theorem k43_87 {X : Nat × (Nat → Int32)} {I : Nat → Nat → Int32} {v2 : Int32}  : zr X 43 87 [.ref 144, .ref 142, .int v2] [] (zk I) = zcb (zr X 46 0 [.ref 144, .ref 142, .int v2, .null] [] (zk I)) (fun v m1 => zr X 43 93 [.ref 144, .ref 142, .int v2] (v.toList ++ []) m1) :=
  (zr_aload_n t43_87 rfl).trans <|
    (zr_aload_n t43_88 rfl).trans <|
    (zr_iload_n t43_89 rfl).trans <|
    zr_callv t43_90 rfl rfl rfl rfl
theorem k43_93 {X : Nat × (Nat → Int32)} {I : Nat → Nat → Int32} {v2 : Int32} {s0 : Int32}  : zr X 43 93 [.ref 144, .ref 142, .int v2] [.int s0] (zk I) = if s0 = 0 then zr X 43 108 [.ref 144, .ref 142, .int v2] [] (zk I) else zr X 43 96 [.ref 144, .ref 142, .int v2] [] (zk I) :=
  zr_if_eq (tgt := 108) t43_93 rfl
theorem k43_96 {X : Nat × (Nat → Int32)} {I : Nat → Nat → Int32} {v2 : Int32}  : zr X 43 96 [.ref 144, .ref 142, .int v2] [] (zk I) = zcb (zr X 48 0 [.ref 144, .ref 142, .null] [] (zk I)) (fun v m1 => zr X 43 101 [.ref 144, .ref 142, .int v2] (v.toList ++ []) m1) :=
  (zr_aload_n t43_96 rfl).trans <|
    (zr_aload_n t43_97 rfl).trans <|
    zr_callv t43_98 rfl rfl rfl rfl
theorem k43_101 {X : Nat × (Nat → Int32)} {I : Nat → Nat → Int32} {v2 : Int32} {s0 : Int32}  : zr X 43 101 [.ref 144, .ref 142, .int v2] [.int s0] (zk I) = if s0 = 0 then zr X 43 108 [.ref 144, .ref 142, .int v2] [] (zk I) else zr X 43 104 [.ref 144, .ref 142, .int v2] [] (zk I) :=
  zr_if_eq (tgt := 108) t43_101 rfl
theorem k43_104 {X : Nat × (Nat → Int32)} {I : Nat → Nat → Int32} {v2 : Int32}  : zr X 43 104 [.ref 144, .ref 142, .int v2] [] (zk I) = some (some (.int 1), zk I) :=
  (zr_iconst t43_104 zci_1).trans <|
    (zr_goto (tgt := 109) t43_105 rfl).trans <|
    zr_zret t43_109 rfl (Or.inr rfl)
theorem k43_108 {X : Nat × (Nat → Int32)} {I : Nat → Nat → Int32} {v2 : Int32}  : zr X 43 108 [.ref 144, .ref 142, .int v2] [] (zk I) = some (some (.int 0), zk I) :=
  (zr_iconst t43_108 zci_0).trans <|
    zr_zret t43_109 rfl (Or.inl rfl)
/-! X3_readSign FiveInks$Reader.readSign -/
theorem k44_0 {X : Nat × (Nat → Int32)} {I : Nat → Nat → Int32} {v2 : Int32}  : zr X 44 0 [.ref 144, .ref 142, .int v2] [] (zk I) = zcb (zr X 36 0 [.ref 142, .int (I 144 1)] [] (zk I)) (fun v m1 => zr X 44 8 [.ref 144, .ref 142, .int v2] (v.toList ++ []) m1) :=
  (zr_aload_n t44_0 rfl).trans <|
    (zr_aload_n t44_1 rfl).trans <|
    (zr_getI t44_2 (rfl)).trans <|
    zr_callv t44_5 rfl rfl rfl rfl
theorem k44_8 {X : Nat × (Nat → Int32)} {I : Nat → Nat → Int32} {v2 : Int32} {s0 : Int32}  : zr X 44 8 [.ref 144, .ref 142, .int v2] [.int s0] (zk I) = if s0 = v2 then zr X 44 14 [.ref 144, .ref 142, .int v2] [] (zk I) else zr X 44 12 [.ref 144, .ref 142, .int v2] [] (zk I) :=
  (zr_iload_n t44_8 rfl).trans <|
    zr_ic_eq (tgt := 14) t44_9 rfl
theorem k44_12 {X : Nat × (Nat → Int32)} {I : Nat → Nat → Int32} {v2 : Int32}  : zr X 44 12 [.ref 144, .ref 142, .int v2] [] (zk I) = some (some (.int 0), zk I) :=
  (zr_iconst t44_12 zci_0).trans <|
    zr_zret t44_13 rfl (Or.inl rfl)
theorem k44_14 {X : Nat × (Nat → Int32)} {I : Nat → Nat → Int32} {v2 : Int32}  : zr X 44 14 [.ref 144, .ref 142, .int v2] [] (zk I) = some (some (.int 1), zk (zs1 I 144 1 ((I 144 1) + 1))) :=
  (zr_aload_n t44_14 rfl).trans <|
    (zr_dup t44_15 rfl).trans <|
    (zr_getI t44_16 (rfl)).trans <|
    (zr_iconst t44_19 zci_1).trans <|
    (zr_iadd t44_20).trans <|
    (zr_putI t44_21 (rfl) (Or.inl rfl)).trans <|
    (zr_iconst t44_24 zci_1).trans <|
    zr_zret t44_25 rfl (Or.inr rfl)
/-! X3_readGaps FiveInks$Reader.readGaps -/
theorem k45_0 {X : Nat × (Nat → Int32)} {I : Nat → Nat → Int32} {v2 : Int32} {v3 : Int32}  : zr X 45 0 [.ref 144, .ref 142, .int v2, .int v3, .null, .null] [] (zk I) = zcb (zr X 47 0 [.ref 144, .ref 142, .null, .null] [] (zk I)) (fun v m1 => zr X 45 5 [.ref 144, .ref 142, .int v2, .int v3, .null, .null] (v.toList ++ []) m1) :=
  (zr_aload_n t45_0 rfl).trans <|
    (zr_aload_n t45_1 rfl).trans <|
    zr_callv t45_2 rfl rfl rfl rfl
theorem k45_5 {X : Nat × (Nat → Int32)} {I : Nat → Nat → Int32} {v2 : Int32} {v3 : Int32} {s0 : Int32}  : zr X 45 5 [.ref 144, .ref 142, .int v2, .int v3, .null, .null] [.int s0] (zk I) = if s0 = (-6) then zr X 45 24 [.ref 144, .ref 142, .int v2, .int v3, .int s0, .null] [] (zk I) else zr X 45 14 [.ref 144, .ref 142, .int v2, .int v3, .int s0, .null] [] (zk I) :=
  (zr_istore t45_5 rfl rfl).trans <|
    (zr_iload t45_7 rfl).trans <|
    (zr_bipush t45_9 zcb_m6).trans <|
    zr_ic_eq (tgt := 24) t45_11 rfl
theorem k45_14 {X : Nat × (Nat → Int32)} {I : Nat → Nat → Int32} {v2 : Int32} {v3 : Int32} {v4 : Int32}  : zr X 45 14 [.ref 144, .ref 142, .int v2, .int v3, .int v4, .null] [] (zk I) = zcb (zr X 44 0 [.ref 144, .ref 142, .int 58] [] (zk I)) (fun v m1 => zr X 45 21 [.ref 144, .ref 142, .int v2, .int v3, .int v4, .null] (v.toList ++ []) m1) :=
  (zr_aload_n t45_14 rfl).trans <|
    (zr_aload_n t45_15 rfl).trans <|
    (zr_bipush t45_16 zcb_58).trans <|
    zr_callv t45_18 rfl rfl rfl rfl
theorem k45_21 {X : Nat × (Nat → Int32)} {I : Nat → Nat → Int32} {v2 : Int32} {v3 : Int32} {v4 : Int32} {s0 : Int32}  : zr X 45 21 [.ref 144, .ref 142, .int v2, .int v3, .int v4, .null] [.int s0] (zk I) = if ¬ s0 = 0 then zr X 45 26 [.ref 144, .ref 142, .int v2, .int v3, .int v4, .null] [] (zk I) else zr X 45 24 [.ref 144, .ref 142, .int v2, .int v3, .int v4, .null] [] (zk I) :=
  zr_if_ne (tgt := 26) t45_21 rfl
theorem k45_24 {X : Nat × (Nat → Int32)} {I : Nat → Nat → Int32} {v2 : Int32} {v3 : Int32} {v4 : Int32}  : zr X 45 24 [.ref 144, .ref 142, .int v2, .int v3, .int v4, .null] [] (zk I) = some (some (.int 0), zk I) :=
  (zr_iconst t45_24 zci_0).trans <|
    zr_zret t45_25 rfl (Or.inl rfl)
theorem k45_26 {X : Nat × (Nat → Int32)} {I : Nat → Nat → Int32} {v2 : Int32} {v3 : Int32} {v4 : Int32}  : zr X 45 26 [.ref 144, .ref 142, .int v2, .int v3, .int v4, .null] [] (zk I) = zcb (zr X 47 0 [.ref 144, .ref 142, .null, .null] [] (zk I)) (fun v m1 => zr X 45 31 [.ref 144, .ref 142, .int v2, .int v3, .int v4, .null] (v.toList ++ []) m1) :=
  (zr_aload_n t45_26 rfl).trans <|
    (zr_aload_n t45_27 rfl).trans <|
    zr_callv t45_28 rfl rfl rfl rfl
theorem k45_31 {X : Nat × (Nat → Int32)} {I : Nat → Nat → Int32} {v2 : Int32} {v3 : Int32} {v4 : Int32} {s0 : Int32}  : zr X 45 31 [.ref 144, .ref 142, .int v2, .int v3, .int v4, .null] [.int s0] (zk I) = if ¬ s0 = (-6) then zr X 45 42 [.ref 144, .ref 142, .int v2, .int v3, .int v4, .int s0] [] (zk I) else zr X 45 40 [.ref 144, .ref 142, .int v2, .int v3, .int v4, .int s0] [] (zk I) :=
  (zr_istore t45_31 rfl rfl).trans <|
    (zr_iload t45_33 rfl).trans <|
    (zr_bipush t45_35 zcb_m6).trans <|
    zr_ic_ne (tgt := 42) t45_37 rfl
theorem k45_40 {X : Nat × (Nat → Int32)} {I : Nat → Nat → Int32} {v2 : Int32} {v3 : Int32} {v4 : Int32} {v5 : Int32}  : zr X 45 40 [.ref 144, .ref 142, .int v2, .int v3, .int v4, .int v5] [] (zk I) = some (some (.int 0), zk I) :=
  (zr_iconst t45_40 zci_0).trans <|
    zr_zret t45_41 rfl (Or.inl rfl)
theorem k45_42 {X : Nat × (Nat → Int32)} {I : Nat → Nat → Int32} {v2 : Int32} {v3 : Int32} {v4 : Int32} {v5 : Int32}  : zr X 45 42 [.ref 144, .ref 142, .int v2, .int v3, .int v4, .int v5] [] (zk I) = zcb (zr X 6 0 [.ref 145, .int v2, .int v3, .int v4, .int v5] [] (zk I)) (fun v m1 => zr X 45 55 [.ref 144, .ref 142, .int v2, .int v3, .int v4, .int v5] (v.toList ++ []) m1) :=
  (zr_aload_n t45_42 rfl).trans <|
    (zr_getR (u := 145) t45_43 (rfl)).trans <|
    (zr_iload_n t45_46 rfl).trans <|
    (zr_iload_n t45_47 rfl).trans <|
    (zr_iload t45_48 rfl).trans <|
    (zr_iload t45_50 rfl).trans <|
    zr_callv t45_52 rfl rfl rfl rfl
theorem k45_55 {X : Nat × (Nat → Int32)} {I : Nat → Nat → Int32} {v2 : Int32} {v3 : Int32} {v4 : Int32} {v5 : Int32}  : zr X 45 55 [.ref 144, .ref 142, .int v2, .int v3, .int v4, .int v5] [] (zk I) = some (some (.int 1), zk I) :=
  (zr_iconst t45_55 zci_1).trans <|
    zr_zret t45_56 rfl (Or.inr rfl)
/-! X3_readOneGap FiveInks$Reader.readOneGap -/
theorem k46_0 {X : Nat × (Nat → Int32)} {I : Nat → Nat → Int32} {v2 : Int32}  : zr X 46 0 [.ref 144, .ref 142, .int v2, .null] [] (zk I) = zcb (zr X 47 0 [.ref 144, .ref 142, .null, .null] [] (zk I)) (fun v m1 => zr X 46 5 [.ref 144, .ref 142, .int v2, .null] (v.toList ++ []) m1) :=
  (zr_aload_n t46_0 rfl).trans <|
    (zr_aload_n t46_1 rfl).trans <|
    zr_callv t46_2 rfl rfl rfl rfl
theorem k46_5 {X : Nat × (Nat → Int32)} {I : Nat → Nat → Int32} {v2 : Int32} {s0 : Int32}  : zr X 46 5 [.ref 144, .ref 142, .int v2, .null] [.int s0] (zk I) = if ¬ s0 = (-6) then zr X 46 14 [.ref 144, .ref 142, .int v2, .int s0] [] (zk I) else zr X 46 12 [.ref 144, .ref 142, .int v2, .int s0] [] (zk I) :=
  (zr_istore_n t46_5 rfl rfl).trans <|
    (zr_iload_n t46_6 rfl).trans <|
    (zr_bipush t46_7 zcb_m6).trans <|
    zr_ic_ne (tgt := 14) t46_9 rfl
theorem k46_12 {X : Nat × (Nat → Int32)} {I : Nat → Nat → Int32} {v2 : Int32} {v3 : Int32}  : zr X 46 12 [.ref 144, .ref 142, .int v2, .int v3] [] (zk I) = some (some (.int 0), zk I) :=
  (zr_iconst t46_12 zci_0).trans <|
    zr_zret t46_13 rfl (Or.inl rfl)
theorem k46_14 {X : Nat × (Nat → Int32)} {I : Nat → Nat → Int32} {v2 : Int32} {v3 : Int32}  : zr X 46 14 [.ref 144, .ref 142, .int v2, .int v3] [] (zk I) = zcb (zr X 6 0 [.ref 145, .int v2, .int 1, .int v3, .int v3] [] (zk I)) (fun v m1 => zr X 46 25 [.ref 144, .ref 142, .int v2, .int v3] (v.toList ++ []) m1) :=
  (zr_aload_n t46_14 rfl).trans <|
    (zr_getR (u := 145) t46_15 (rfl)).trans <|
    (zr_iload_n t46_18 rfl).trans <|
    (zr_iconst t46_19 zci_1).trans <|
    (zr_iload_n t46_20 rfl).trans <|
    (zr_iload_n t46_21 rfl).trans <|
    zr_callv t46_22 rfl rfl rfl rfl
theorem k46_25 {X : Nat × (Nat → Int32)} {I : Nat → Nat → Int32} {v2 : Int32} {v3 : Int32}  : zr X 46 25 [.ref 144, .ref 142, .int v2, .int v3] [] (zk I) = some (some (.int 1), zk I) :=
  (zr_iconst t46_25 zci_1).trans <|
    zr_zret t46_26 rfl (Or.inr rfl)
/-! X3_readGap FiveInks$Reader.readGap -/
theorem k47_0 {X : Nat × (Nat → Int32)} {I : Nat → Nat → Int32}   : zr X 47 0 [.ref 144, .ref 142, .null, .null] [] (zk I) = zcb (zr X 49 0 [.ref 144, .ref 142, .null] [] (zk I)) (fun v m1 => zr X 47 5 [.ref 144, .ref 142, .null, .null] (v.toList ++ []) m1) :=
  (zr_aload_n t47_0 rfl).trans <|
    (zr_aload_n t47_1 rfl).trans <|
    zr_callv t47_2 rfl rfl rfl rfl
theorem k47_5 {X : Nat × (Nat → Int32)} {I : Nat → Nat → Int32} {s0 : Int32}  : zr X 47 5 [.ref 144, .ref 142, .null, .null] [.int s0] (zk I) = if ¬ s0 = (-6) then zr X 47 15 [.ref 144, .ref 142, .int s0, .null] [] (zk I) else zr X 47 12 [.ref 144, .ref 142, .int s0, .null] [] (zk I) :=
  (zr_istore_n t47_5 rfl rfl).trans <|
    (zr_iload_n t47_6 rfl).trans <|
    (zr_bipush t47_7 zcb_m6).trans <|
    zr_ic_ne (tgt := 15) t47_9 rfl
theorem k47_12 {X : Nat × (Nat → Int32)} {I : Nat → Nat → Int32} {v2 : Int32}  : zr X 47 12 [.ref 144, .ref 142, .int v2, .null] [] (zk I) = some (some (.int (-6)), zk I) :=
  (zr_bipush t47_12 zcb_m6).trans <|
    zr_iret t47_14 rfl
theorem k47_15 {X : Nat × (Nat → Int32)} {I : Nat → Nat → Int32} {v2 : Int32}  : zr X 47 15 [.ref 144, .ref 142, .int v2, .null] [] (zk I) = zcb (zr X 49 0 [.ref 144, .ref 142, .null] [] (zk (zs1 I 144 1 ((I 144 1) + 1)))) (fun v m1 => zr X 47 30 [.ref 144, .ref 142, .int v2, .null] (v.toList ++ []) m1) :=
  (zr_aload_n t47_15 rfl).trans <|
    (zr_dup t47_16 rfl).trans <|
    (zr_getI t47_17 (rfl)).trans <|
    (zr_iconst t47_20 zci_1).trans <|
    (zr_iadd t47_21).trans <|
    (zr_putI t47_22 (rfl) (Or.inl rfl)).trans <|
    (zr_aload_n t47_25 rfl).trans <|
    (zr_aload_n t47_26 rfl).trans <|
    zr_callv t47_27 rfl rfl rfl rfl
theorem k47_30 {X : Nat × (Nat → Int32)} {I : Nat → Nat → Int32} {v2 : Int32} {s0 : Int32}  : zr X 47 30 [.ref 144, .ref 142, .int v2, .null] [.int s0] (zk I) = if v2 = 0 then zr X 47 52 [.ref 144, .ref 142, .int v2, .int s0] [] (zk I) else zr X 47 35 [.ref 144, .ref 142, .int v2, .int s0] [] (zk I) :=
  (zr_istore_n t47_30 rfl rfl).trans <|
    (zr_iload_n t47_31 rfl).trans <|
    zr_if_eq (tgt := 52) t47_32 rfl
theorem k47_35 {X : Nat × (Nat → Int32)} {I : Nat → Nat → Int32} {v2 : Int32} {v3 : Int32}  : zr X 47 35 [.ref 144, .ref 142, .int v2, .int v3] [] (zk I) = if v3 = (-6) then zr X 47 52 [.ref 144, .ref 142, .int v2, .int v3] [] (zk I) else zr X 47 41 [.ref 144, .ref 142, .int v2, .int v3] [] (zk I) :=
  (zr_iload_n t47_35 rfl).trans <|
    (zr_bipush t47_36 zcb_m6).trans <|
    zr_ic_eq (tgt := 52) t47_38 rfl
theorem k47_41 {X : Nat × (Nat → Int32)} {I : Nat → Nat → Int32} {v2 : Int32} {v3 : Int32}  : zr X 47 41 [.ref 144, .ref 142, .int v2, .int v3] [] (zk I) = if ((v2 * 10) + v3) ≤ 60 then zr X 47 54 [.ref 144, .ref 142, .int v2, .int v3] [] (zk I) else zr X 47 52 [.ref 144, .ref 142, .int v2, .int v3] [] (zk I) :=
  (zr_iload_n t47_41 rfl).trans <|
    (zr_bipush t47_42 zcb_10).trans <|
    (zr_imul t47_44).trans <|
    (zr_iload_n t47_45 rfl).trans <|
    (zr_iadd t47_46).trans <|
    (zr_bipush t47_47 zcb_60).trans <|
    zr_ic_le (tgt := 54) t47_49 rfl
theorem k47_52 {X : Nat × (Nat → Int32)} {I : Nat → Nat → Int32} {v2 : Int32} {v3 : Int32}  : zr X 47 52 [.ref 144, .ref 142, .int v2, .int v3] [] (zk I) = some (some (.int v2), zk I) :=
  (zr_iload_n t47_52 rfl).trans <|
    zr_iret t47_53 rfl
theorem k47_54 {X : Nat × (Nat → Int32)} {I : Nat → Nat → Int32} {v2 : Int32} {v3 : Int32}  : zr X 47 54 [.ref 144, .ref 142, .int v2, .int v3] [] (zk I) = some (some (.int ((v2 * 10) + v3)), zk (zs1 I 144 1 ((I 144 1) + 1))) :=
  (zr_aload_n t47_54 rfl).trans <|
    (zr_dup t47_55 rfl).trans <|
    (zr_getI t47_56 (rfl)).trans <|
    (zr_iconst t47_59 zci_1).trans <|
    (zr_iadd t47_60).trans <|
    (zr_putI t47_61 (rfl) (Or.inl rfl)).trans <|
    (zr_iload_n t47_64 rfl).trans <|
    (zr_bipush t47_65 zcb_10).trans <|
    (zr_imul t47_67).trans <|
    (zr_iload_n t47_68 rfl).trans <|
    (zr_iadd t47_69).trans <|
    zr_iret t47_70 rfl
/-! X3_readLetters FiveInks$Reader.readLetters -/
theorem k48_0 {X : Nat × (Nat → Int32)} {I : Nat → Nat → Int32}   : zr X 48 0 [.ref 144, .ref 142, .null] [] (zk I) = zr X 48 2 [.ref 144, .ref 142, .int 0] [] (zk I) :=
  (zr_iconst t48_0 zci_0).trans <|
    zr_istore_n t48_1 rfl rfl
theorem k48_2 {X : Nat × (Nat → Int32)} {I : Nat → Nat → Int32} {v2 : Int32}  : zr X 48 2 [.ref 144, .ref 142, .int v2] [] (zk I) = if 6 ≤ v2 then zr X 48 53 [.ref 144, .ref 142, .int v2] [] (zk I) else zr X 48 8 [.ref 144, .ref 142, .int v2] [] (zk I) :=
  (zr_iload_n t48_2 rfl).trans <|
    (zr_bipush t48_3 zcb_6).trans <|
    zr_ic_ge (tgt := 53) t48_5 rfl
theorem k48_8 {X : Nat × (Nat → Int32)} {I : Nat → Nat → Int32} {v2 : Int32}  : zr X 48 8 [.ref 144, .ref 142, .int v2] [] (zk I) = zcb (zr X 37 0 [.ref 142, .int (I 144 1)] [] (zk I)) (fun v m1 => zr X 48 16 [.ref 144, .ref 142, .int v2] (v.toList ++ []) m1) :=
  (zr_aload_n t48_8 rfl).trans <|
    (zr_aload_n t48_9 rfl).trans <|
    (zr_getI t48_10 (rfl)).trans <|
    zr_callv t48_13 rfl rfl rfl rfl
theorem k48_16 {X : Nat × (Nat → Int32)} {I : Nat → Nat → Int32} {v2 : Int32} {s0 : Int32}  : zr X 48 16 [.ref 144, .ref 142, .int v2] [.int s0] (zk I) = if s0 = 0 then zr X 48 53 [.ref 144, .ref 142, .int v2] [] (zk I) else zr X 48 19 [.ref 144, .ref 142, .int v2] [] (zk I) :=
  zr_if_eq (tgt := 53) t48_16 rfl
theorem k48_19 {X : Nat × (Nat → Int32)} {I : Nat → Nat → Int32} {v2 : Int32}  : zr X 48 19 [.ref 144, .ref 142, .int v2] [] (zk I) = zcb (zr X 36 0 [.ref 142, .int (I 144 1)] [] (zk I)) (fun v m1 => zr X 48 31 [.ref 144, .ref 142, .int v2] (v.toList ++ [.ref 145]) m1) :=
  (zr_aload_n t48_19 rfl).trans <|
    (zr_getR (u := 145) t48_20 (rfl)).trans <|
    (zr_aload_n t48_23 rfl).trans <|
    (zr_aload_n t48_24 rfl).trans <|
    (zr_getI t48_25 (rfl)).trans <|
    zr_callv t48_28 rfl rfl rfl rfl
theorem k48_31 {X : Nat × (Nat → Int32)} {I : Nat → Nat → Int32} {v2 : Int32} {s1 : Int32}  : zr X 48 31 [.ref 144, .ref 142, .int v2] [.int s1, .ref 145] (zk I) = zcb (zr X 7 0 [.ref 145, .int (s1 - 97), .null] [] (zk I)) (fun v m1 => zr X 48 37 [.ref 144, .ref 142, .int v2] (v.toList ++ []) m1) :=
  (zr_bipush t48_31 zcb_97).trans <|
    (zr_isub t48_33).trans <|
    zr_callv t48_34 rfl rfl rfl rfl
theorem k48_37 {X : Nat × (Nat → Int32)} {I : Nat → Nat → Int32} {v2 : Int32}  : zr X 48 37 [.ref 144, .ref 142, .int v2] [] (zk I) = zr X 48 2 [.ref 144, .ref 142, .int (v2 + 1)] [] (zk (zs1 I 144 1 ((I 144 1) + 1))) :=
  (zr_aload_n t48_37 rfl).trans <|
    (zr_dup t48_38 rfl).trans <|
    (zr_getI t48_39 (rfl)).trans <|
    (zr_iconst t48_42 zci_1).trans <|
    (zr_iadd t48_43).trans <|
    (zr_putI t48_44 (rfl) (Or.inl rfl)).trans <|
    (zr_iinc t48_47 rfl rfl (congrArg (fun z => v2 + z) zci_1) rfl).trans <|
    zr_goto (tgt := 2) t48_50 rfl
theorem k48_53 {X : Nat × (Nat → Int32)} {I : Nat → Nat → Int32} {v2 : Int32}  : zr X 48 53 [.ref 144, .ref 142, .int v2] [] (zk I) = if v2 ≤ 0 then zr X 48 61 [.ref 144, .ref 142, .int v2] [] (zk I) else zr X 48 57 [.ref 144, .ref 142, .int v2] [] (zk I) :=
  (zr_iload_n t48_53 rfl).trans <|
    zr_if_le (tgt := 61) t48_54 rfl
theorem k48_57 {X : Nat × (Nat → Int32)} {I : Nat → Nat → Int32} {v2 : Int32}  : zr X 48 57 [.ref 144, .ref 142, .int v2] [] (zk I) = some (some (.int 1), zk I) :=
  (zr_iconst t48_57 zci_1).trans <|
    (zr_goto (tgt := 62) t48_58 rfl).trans <|
    zr_zret t48_62 rfl (Or.inr rfl)
theorem k48_61 {X : Nat × (Nat → Int32)} {I : Nat → Nat → Int32} {v2 : Int32}  : zr X 48 61 [.ref 144, .ref 142, .int v2] [] (zk I) = some (some (.int 0), zk I) :=
  (zr_iconst t48_61 zci_0).trans <|
    zr_zret t48_62 rfl (Or.inl rfl)
/-! X3_digitHere FiveInks$Reader.digitHere -/
theorem k49_0 {X : Nat × (Nat → Int32)} {I : Nat → Nat → Int32}   : zr X 49 0 [.ref 144, .ref 142, .null] [] (zk I) = zcb (zr X 36 0 [.ref 142, .int (I 144 1)] [] (zk I)) (fun v m1 => zr X 49 8 [.ref 144, .ref 142, .null] (v.toList ++ []) m1) :=
  (zr_aload_n t49_0 rfl).trans <|
    (zr_aload_n t49_1 rfl).trans <|
    (zr_getI t49_2 (rfl)).trans <|
    zr_callv t49_5 rfl rfl rfl rfl
theorem k49_8 {X : Nat × (Nat → Int32)} {I : Nat → Nat → Int32} {s0 : Int32}  : zr X 49 8 [.ref 144, .ref 142, .null] [.int s0] (zk I) = if s0 < 48 then zr X 49 28 [.ref 144, .ref 142, .int s0] [] (zk I) else zr X 49 15 [.ref 144, .ref 142, .int s0] [] (zk I) :=
  (zr_istore_n t49_8 rfl rfl).trans <|
    (zr_iload_n t49_9 rfl).trans <|
    (zr_bipush t49_10 zcb_48).trans <|
    zr_ic_lt (tgt := 28) t49_12 rfl
theorem k49_15 {X : Nat × (Nat → Int32)} {I : Nat → Nat → Int32} {v2 : Int32}  : zr X 49 15 [.ref 144, .ref 142, .int v2] [] (zk I) = if 57 < v2 then zr X 49 28 [.ref 144, .ref 142, .int v2] [] (zk I) else zr X 49 21 [.ref 144, .ref 142, .int v2] [] (zk I) :=
  (zr_iload_n t49_15 rfl).trans <|
    (zr_bipush t49_16 zcb_57).trans <|
    zr_ic_gt (tgt := 28) t49_18 rfl
theorem k49_21 {X : Nat × (Nat → Int32)} {I : Nat → Nat → Int32} {v2 : Int32}  : zr X 49 21 [.ref 144, .ref 142, .int v2] [] (zk I) = some (some (.int (v2 - 48)), zk I) :=
  (zr_iload_n t49_21 rfl).trans <|
    (zr_bipush t49_22 zcb_48).trans <|
    (zr_isub t49_24).trans <|
    (zr_goto (tgt := 30) t49_25 rfl).trans <|
    zr_iret t49_30 rfl
theorem k49_28 {X : Nat × (Nat → Int32)} {I : Nat → Nat → Int32} {v2 : Int32}  : zr X 49 28 [.ref 144, .ref 142, .int v2] [] (zk I) = some (some (.int (-6)), zk I) :=
  (zr_bipush t49_28 zcb_m6).trans <|
    zr_iret t49_30 rfl
