theorem t1_0 : zT 1 0 = some (.aload_n 0, 1, 0, 0, 0) := by rfl
theorem t1_1 : zT 1 1 = some (.getfield 11, 3, 0, 0, 207) := by rfl
theorem t1_4 : zT 1 4 = some (.aload_n 0, 1, 0, 0, 0) := by rfl
theorem t1_5 : zT 1 5 = some (.getfield 18, 3, 0, 1, 208) := by rfl
theorem t1_8 : zT 1 8 = some (.aaload, 1, 0, 0, 0) := by rfl
theorem t1_9 : zT 1 9 = some (.aload_n 1, 1, 0, 0, 0) := by rfl
theorem t1_10 : zT 1 10 = some (.invokevirtual 22, 3, 51, 0, 337) := by rfl
theorem t1_13 : zT 1 13 = some (.aload_n 0, 1, 0, 0, 0) := by rfl
theorem t1_14 : zT 1 14 = some (.aload_n 0, 1, 0, 0, 0) := by rfl
theorem t1_15 : zT 1 15 = some (.getfield 18, 3, 0, 1, 208) := by rfl
theorem t1_18 : zT 1 18 = some (.iconst 1, 1, 0, 0, 0) := by rfl
theorem t1_19 : zT 1 19 = some (.iadd, 1, 0, 0, 0) := by rfl
theorem t1_20 : zT 1 20 = some (.bipush 6, 2, 0, 0, 0) := by rfl
theorem t1_22 : zT 1 22 = some (.irem, 1, 0, 0, 0) := by rfl
theorem t1_23 : zT 1 23 = some (.putfield 18, 3, 0, 1, 208) := by rfl
theorem t1_26 : zT 1 26 = some (.aload_n 0, 1, 0, 0, 0) := by rfl
theorem t1_27 : zT 1 27 = some (.aload_n 0, 1, 0, 0, 0) := by rfl
theorem t1_28 : zT 1 28 = some (.getfield 26, 3, 0, 2, 209) := by rfl
theorem t1_31 : zT 1 31 = some (.iconst 1, 1, 0, 0, 0) := by rfl
theorem t1_32 : zT 1 32 = some (.iadd, 1, 0, 0, 0) := by rfl
theorem t1_33 : zT 1 33 = some (.bipush 6, 2, 0, 0, 0) := by rfl
theorem t1_35 : zT 1 35 = some (.invokestatic 29, 3, 1002, 0, 359) := by rfl
theorem t1_38 : zT 1 38 = some (.putfield 26, 3, 0, 2, 209) := by rfl
theorem t1_41 : zT 1 41 = some (.return_, 1, 0, 0, 0) := by rfl
theorem t2_0 : zT 2 0 = some (.aload_n 0, 1, 0, 0, 0) := by rfl
theorem t2_1 : zT 2 1 = some (.aload_n 0, 1, 0, 0, 0) := by rfl
theorem t2_2 : zT 2 2 = some (.getfield 18, 3, 0, 1, 208) := by rfl
theorem t2_5 : zT 2 5 = some (.bipush 6, 2, 0, 0, 0) := by rfl
theorem t2_7 : zT 2 7 = some (.iadd, 1, 0, 0, 0) := by rfl
theorem t2_8 : zT 2 8 = some (.iconst 1, 1, 0, 0, 0) := by rfl
theorem t2_9 : zT 2 9 = some (.isub, 1, 0, 0, 0) := by rfl
theorem t2_10 : zT 2 10 = some (.bipush 6, 2, 0, 0, 0) := by rfl
theorem t2_12 : zT 2 12 = some (.irem, 1, 0, 0, 0) := by rfl
theorem t2_13 : zT 2 13 = some (.putfield 18, 3, 0, 1, 208) := by rfl
theorem t2_16 : zT 2 16 = some (.aload_n 0, 1, 0, 0, 0) := by rfl
theorem t2_17 : zT 2 17 = some (.dup, 1, 0, 0, 0) := by rfl
theorem t2_18 : zT 2 18 = some (.getfield 26, 3, 0, 2, 209) := by rfl
theorem t2_21 : zT 2 21 = some (.iconst 1, 1, 0, 0, 0) := by rfl
theorem t2_22 : zT 2 22 = some (.isub, 1, 0, 0, 0) := by rfl
theorem t2_23 : zT 2 23 = some (.putfield 26, 3, 0, 2, 209) := by rfl
theorem t2_26 : zT 2 26 = some (.aload_n 1, 1, 0, 0, 0) := by rfl
theorem t2_27 : zT 2 27 = some (.aload_n 0, 1, 0, 0, 0) := by rfl
theorem t2_28 : zT 2 28 = some (.getfield 11, 3, 0, 0, 207) := by rfl
theorem t2_31 : zT 2 31 = some (.aload_n 0, 1, 0, 0, 0) := by rfl
theorem t2_32 : zT 2 32 = some (.getfield 18, 3, 0, 1, 208) := by rfl
theorem t2_35 : zT 2 35 = some (.aaload, 1, 0, 0, 0) := by rfl
theorem t2_36 : zT 2 36 = some (.invokevirtual 22, 3, 51, 0, 337) := by rfl
theorem t2_39 : zT 2 39 = some (.return_, 1, 0, 0, 0) := by rfl
theorem t4_0 : zT 4 0 = some (.aload_n 0, 1, 0, 0, 0) := by rfl
theorem t4_1 : zT 4 1 = some (.iconst 0, 1, 0, 0, 0) := by rfl
theorem t4_2 : zT 4 2 = some (.putfield 33, 3, 1, 7, 141) := by rfl
theorem t4_5 : zT 4 5 = some (.return_, 1, 0, 0, 0) := by rfl
theorem t5_0 : zT 5 0 = some (.iload_n 1, 1, 0, 0, 0) := by rfl
theorem t5_1 : zT 5 1 = some (.ifCond .lt 15, 3, 0, 0, 0) := by rfl
theorem t5_4 : zT 5 4 = some (.iload_n 1, 1, 0, 0, 0) := by rfl
theorem t5_5 : zT 5 5 = some (.aload_n 0, 1, 0, 0, 0) := by rfl
theorem t5_6 : zT 5 6 = some (.getfield 33, 3, 1, 7, 141) := by rfl
theorem t5_9 : zT 5 9 = some (.if_icmp .ge 7, 3, 0, 0, 0) := by rfl
theorem t5_12 : zT 5 12 = some (.iconst 1, 1, 0, 0, 0) := by rfl
theorem t5_13 : zT 5 13 = some (.goto 4, 3, 0, 0, 0) := by rfl
theorem t5_16 : zT 5 16 = some (.iconst 0, 1, 0, 0, 0) := by rfl
theorem t5_17 : zT 5 17 = some (.ireturn, 1, 0, 0, 0) := by rfl
theorem t6_0 : zT 6 0 = some (.aload_n 0, 1, 0, 0, 0) := by rfl
theorem t6_1 : zT 6 1 = some (.getfield 33, 3, 1, 7, 141) := by rfl
theorem t6_4 : zT 6 4 = some (.bipush 20, 2, 0, 0, 0) := by rfl
theorem t6_6 : zT 6 6 = some (.if_icmp .ge 74, 3, 0, 0, 0) := by rfl
theorem t6_9 : zT 6 9 = some (.aload_n 0, 1, 0, 0, 0) := by rfl
theorem t6_10 : zT 6 10 = some (.getfield 9, 3, 1, 0, 116) := by rfl
theorem t6_13 : zT 6 13 = some (.aload_n 0, 1, 0, 0, 0) := by rfl
theorem t6_14 : zT 6 14 = some (.getfield 33, 3, 1, 7, 141) := by rfl
theorem t6_17 : zT 6 17 = some (.iload_n 1, 1, 0, 0, 0) := by rfl
theorem t6_18 : zT 6 18 = some (.iastore, 1, 0, 0, 0) := by rfl
theorem t6_19 : zT 6 19 = some (.aload_n 0, 1, 0, 0, 0) := by rfl
theorem t6_20 : zT 6 20 = some (.getfield 15, 3, 1, 1, 120) := by rfl
theorem t6_23 : zT 6 23 = some (.aload_n 0, 1, 0, 0, 0) := by rfl
theorem t6_24 : zT 6 24 = some (.getfield 33, 3, 1, 7, 141) := by rfl
theorem t6_27 : zT 6 27 = some (.iload_n 2, 1, 0, 0, 0) := by rfl
theorem t6_28 : zT 6 28 = some (.iastore, 1, 0, 0, 0) := by rfl
theorem t6_29 : zT 6 29 = some (.aload_n 0, 1, 0, 0, 0) := by rfl
theorem t6_30 : zT 6 30 = some (.getfield 18, 3, 1, 2, 124) := by rfl
theorem t6_33 : zT 6 33 = some (.aload_n 0, 1, 0, 0, 0) := by rfl
theorem t6_34 : zT 6 34 = some (.getfield 33, 3, 1, 7, 141) := by rfl
theorem t6_37 : zT 6 37 = some (.iload_n 3, 1, 0, 0, 0) := by rfl
theorem t6_38 : zT 6 38 = some (.iastore, 1, 0, 0, 0) := by rfl
theorem t6_39 : zT 6 39 = some (.aload_n 0, 1, 0, 0, 0) := by rfl
theorem t6_40 : zT 6 40 = some (.getfield 21, 3, 1, 3, 128) := by rfl
theorem t6_43 : zT 6 43 = some (.aload_n 0, 1, 0, 0, 0) := by rfl
theorem t6_44 : zT 6 44 = some (.getfield 33, 3, 1, 7, 141) := by rfl
theorem t6_47 : zT 6 47 = some (.iload 4, 2, 0, 0, 0) := by rfl
theorem t6_49 : zT 6 49 = some (.iastore, 1, 0, 0, 0) := by rfl
theorem t6_50 : zT 6 50 = some (.aload_n 0, 1, 0, 0, 0) := by rfl
theorem t6_51 : zT 6 51 = some (.getfield 24, 3, 1, 4, 132) := by rfl
theorem t6_54 : zT 6 54 = some (.aload_n 0, 1, 0, 0, 0) := by rfl
theorem t6_55 : zT 6 55 = some (.getfield 33, 3, 1, 7, 141) := by rfl
theorem t6_58 : zT 6 58 = some (.iconst 0, 1, 0, 0, 0) := by rfl
theorem t6_59 : zT 6 59 = some (.iastore, 1, 0, 0, 0) := by rfl
theorem t6_60 : zT 6 60 = some (.aload_n 0, 1, 0, 0, 0) := by rfl
theorem t6_61 : zT 6 61 = some (.getfield 27, 3, 1, 5, 136) := by rfl
theorem t6_64 : zT 6 64 = some (.aload_n 0, 1, 0, 0, 0) := by rfl
theorem t6_65 : zT 6 65 = some (.getfield 33, 3, 1, 7, 141) := by rfl
theorem t6_68 : zT 6 68 = some (.iconst 0, 1, 0, 0, 0) := by rfl
theorem t6_69 : zT 6 69 = some (.iastore, 1, 0, 0, 0) := by rfl
theorem t6_70 : zT 6 70 = some (.aload_n 0, 1, 0, 0, 0) := by rfl
theorem t6_71 : zT 6 71 = some (.dup, 1, 0, 0, 0) := by rfl
theorem t6_72 : zT 6 72 = some (.getfield 33, 3, 1, 7, 141) := by rfl
theorem t6_75 : zT 6 75 = some (.iconst 1, 1, 0, 0, 0) := by rfl
theorem t6_76 : zT 6 76 = some (.iadd, 1, 0, 0, 0) := by rfl
theorem t6_77 : zT 6 77 = some (.putfield 33, 3, 1, 7, 141) := by rfl
theorem t6_80 : zT 6 80 = some (.return_, 1, 0, 0, 0) := by rfl
theorem t7_0 : zT 7 0 = some (.aload_n 0, 1, 0, 0, 0) := by rfl
theorem t7_1 : zT 7 1 = some (.getfield 33, 3, 1, 7, 141) := by rfl
theorem t7_4 : zT 7 4 = some (.iconst 1, 1, 0, 0, 0) := by rfl
theorem t7_5 : zT 7 5 = some (.isub, 1, 0, 0, 0) := by rfl
theorem t7_6 : zT 7 6 = some (.istore_n 2, 1, 0, 0, 0) := by rfl
theorem t7_7 : zT 7 7 = some (.iload_n 2, 1, 0, 0, 0) := by rfl
theorem t7_8 : zT 7 8 = some (.ifCond .lt 41, 3, 0, 0, 0) := by rfl
theorem t7_11 : zT 7 11 = some (.aload_n 0, 1, 0, 0, 0) := by rfl
theorem t7_12 : zT 7 12 = some (.getfield 27, 3, 1, 5, 136) := by rfl
theorem t7_15 : zT 7 15 = some (.iload_n 2, 1, 0, 0, 0) := by rfl
theorem t7_16 : zT 7 16 = some (.iaload, 1, 0, 0, 0) := by rfl
theorem t7_17 : zT 7 17 = some (.bipush 6, 2, 0, 0, 0) := by rfl
theorem t7_19 : zT 7 19 = some (.if_icmp .ge 30, 3, 0, 0, 0) := by rfl
theorem t7_22 : zT 7 22 = some (.aload_n 0, 1, 0, 0, 0) := by rfl
theorem t7_23 : zT 7 23 = some (.getfield 30, 3, 1, 6, 139) := by rfl
theorem t7_26 : zT 7 26 = some (.iload_n 2, 1, 0, 0, 0) := by rfl
theorem t7_27 : zT 7 27 = some (.bipush 6, 2, 0, 0, 0) := by rfl
theorem t7_29 : zT 7 29 = some (.imul, 1, 0, 0, 0) := by rfl
theorem t7_30 : zT 7 30 = some (.aload_n 0, 1, 0, 0, 0) := by rfl
theorem t7_31 : zT 7 31 = some (.getfield 27, 3, 1, 5, 136) := by rfl
theorem t7_34 : zT 7 34 = some (.iload_n 2, 1, 0, 0, 0) := by rfl
theorem t7_35 : zT 7 35 = some (.iaload, 1, 0, 0, 0) := by rfl
theorem t7_36 : zT 7 36 = some (.iadd, 1, 0, 0, 0) := by rfl
theorem t7_37 : zT 7 37 = some (.iload_n 1, 1, 0, 0, 0) := by rfl
theorem t7_38 : zT 7 38 = some (.iastore, 1, 0, 0, 0) := by rfl
theorem t7_39 : zT 7 39 = some (.aload_n 0, 1, 0, 0, 0) := by rfl
theorem t7_40 : zT 7 40 = some (.getfield 27, 3, 1, 5, 136) := by rfl
theorem t7_43 : zT 7 43 = some (.iload_n 2, 1, 0, 0, 0) := by rfl
theorem t7_44 : zT 7 44 = some (.dup2, 1, 0, 0, 0) := by rfl
theorem t7_45 : zT 7 45 = some (.iaload, 1, 0, 0, 0) := by rfl
theorem t7_46 : zT 7 46 = some (.iconst 1, 1, 0, 0, 0) := by rfl
theorem t7_47 : zT 7 47 = some (.iadd, 1, 0, 0, 0) := by rfl
theorem t7_48 : zT 7 48 = some (.iastore, 1, 0, 0, 0) := by rfl
theorem t7_49 : zT 7 49 = some (.return_, 1, 0, 0, 0) := by rfl
theorem t8_0 : zT 8 0 = some (.aload_n 0, 1, 0, 0, 0) := by rfl
theorem t8_1 : zT 8 1 = some (.getfield 33, 3, 1, 7, 141) := by rfl
theorem t8_4 : zT 8 4 = some (.bipush 20, 2, 0, 0, 0) := by rfl
theorem t8_6 : zT 8 6 = some (.if_icmp .ge 23, 3, 0, 0, 0) := by rfl
theorem t8_9 : zT 8 9 = some (.aload_n 0, 1, 0, 0, 0) := by rfl
theorem t8_10 : zT 8 10 = some (.aload_n 1, 1, 0, 0, 0) := by rfl
theorem t8_11 : zT 8 11 = some (.iload_n 2, 1, 0, 0, 0) := by rfl
theorem t8_12 : zT 8 12 = some (.aload_n 0, 1, 0, 0, 0) := by rfl
theorem t8_13 : zT 8 13 = some (.getfield 33, 3, 1, 7, 141) := by rfl
theorem t8_16 : zT 8 16 = some (.invokevirtual 37, 3, 10, 0, 462) := by rfl
theorem t8_19 : zT 8 19 = some (.aload_n 0, 1, 0, 0, 0) := by rfl
theorem t8_20 : zT 8 20 = some (.dup, 1, 0, 0, 0) := by rfl
theorem t8_21 : zT 8 21 = some (.getfield 33, 3, 1, 7, 141) := by rfl
theorem t8_24 : zT 8 24 = some (.iconst 1, 1, 0, 0, 0) := by rfl
theorem t8_25 : zT 8 25 = some (.iadd, 1, 0, 0, 0) := by rfl
theorem t8_26 : zT 8 26 = some (.putfield 33, 3, 1, 7, 141) := by rfl
theorem t8_29 : zT 8 29 = some (.return_, 1, 0, 0, 0) := by rfl
theorem t9_0 : zT 9 0 = some (.iload_n 1, 1, 0, 0, 0) := by rfl
theorem t9_1 : zT 9 1 = some (.iconst 1, 1, 0, 0, 0) := by rfl
theorem t9_2 : zT 9 2 = some (.iadd, 1, 0, 0, 0) := by rfl
theorem t9_3 : zT 9 3 = some (.istore_n 2, 1, 0, 0, 0) := by rfl
theorem t9_4 : zT 9 4 = some (.iload_n 2, 1, 0, 0, 0) := by rfl
theorem t9_5 : zT 9 5 = some (.aload_n 0, 1, 0, 0, 0) := by rfl
theorem t9_6 : zT 9 6 = some (.getfield 33, 3, 1, 7, 141) := by rfl
theorem t9_9 : zT 9 9 = some (.if_icmp .ge 18, 3, 0, 0, 0) := by rfl
theorem t9_12 : zT 9 12 = some (.aload_n 0, 1, 0, 0, 0) := by rfl
theorem t9_13 : zT 9 13 = some (.aload_n 0, 1, 0, 0, 0) := by rfl
theorem t9_14 : zT 9 14 = some (.iload_n 2, 1, 0, 0, 0) := by rfl
theorem t9_15 : zT 9 15 = some (.iload_n 2, 1, 0, 0, 0) := by rfl
theorem t9_16 : zT 9 16 = some (.iconst 1, 1, 0, 0, 0) := by rfl
theorem t9_17 : zT 9 17 = some (.isub, 1, 0, 0, 0) := by rfl
theorem t9_18 : zT 9 18 = some (.invokevirtual 37, 3, 10, 0, 462) := by rfl
theorem t9_21 : zT 9 21 = some (.iinc 2 1, 3, 0, 0, 0) := by rfl
theorem t9_24 : zT 9 24 = some (.goto (-20), 3, 0, 0, 0) := by rfl
theorem t9_27 : zT 9 27 = some (.aload_n 0, 1, 0, 0, 0) := by rfl
theorem t9_28 : zT 9 28 = some (.dup, 1, 0, 0, 0) := by rfl
theorem t9_29 : zT 9 29 = some (.getfield 33, 3, 1, 7, 141) := by rfl
theorem t9_32 : zT 9 32 = some (.iconst 1, 1, 0, 0, 0) := by rfl
theorem t9_33 : zT 9 33 = some (.isub, 1, 0, 0, 0) := by rfl
theorem t9_34 : zT 9 34 = some (.putfield 33, 3, 1, 7, 141) := by rfl
theorem t9_37 : zT 9 37 = some (.return_, 1, 0, 0, 0) := by rfl
theorem t10_0 : zT 10 0 = some (.aload_n 0, 1, 0, 0, 0) := by rfl
theorem t10_1 : zT 10 1 = some (.getfield 9, 3, 1, 0, 116) := by rfl
theorem t10_4 : zT 10 4 = some (.iload_n 3, 1, 0, 0, 0) := by rfl
theorem t10_5 : zT 10 5 = some (.aload_n 1, 1, 0, 0, 0) := by rfl
theorem t10_6 : zT 10 6 = some (.getfield 9, 3, 1, 0, 116) := by rfl
theorem t10_9 : zT 10 9 = some (.iload_n 2, 1, 0, 0, 0) := by rfl
theorem t10_10 : zT 10 10 = some (.iaload, 1, 0, 0, 0) := by rfl
theorem t10_11 : zT 10 11 = some (.iastore, 1, 0, 0, 0) := by rfl
theorem t10_12 : zT 10 12 = some (.aload_n 0, 1, 0, 0, 0) := by rfl
theorem t10_13 : zT 10 13 = some (.getfield 15, 3, 1, 1, 120) := by rfl
theorem t10_16 : zT 10 16 = some (.iload_n 3, 1, 0, 0, 0) := by rfl
theorem t10_17 : zT 10 17 = some (.aload_n 1, 1, 0, 0, 0) := by rfl
theorem t10_18 : zT 10 18 = some (.getfield 15, 3, 1, 1, 120) := by rfl
theorem t10_21 : zT 10 21 = some (.iload_n 2, 1, 0, 0, 0) := by rfl
theorem t10_22 : zT 10 22 = some (.iaload, 1, 0, 0, 0) := by rfl
theorem t10_23 : zT 10 23 = some (.iastore, 1, 0, 0, 0) := by rfl
theorem t10_24 : zT 10 24 = some (.aload_n 0, 1, 0, 0, 0) := by rfl
theorem t10_25 : zT 10 25 = some (.getfield 18, 3, 1, 2, 124) := by rfl
theorem t10_28 : zT 10 28 = some (.iload_n 3, 1, 0, 0, 0) := by rfl
theorem t10_29 : zT 10 29 = some (.aload_n 1, 1, 0, 0, 0) := by rfl
theorem t10_30 : zT 10 30 = some (.getfield 18, 3, 1, 2, 124) := by rfl
theorem t10_33 : zT 10 33 = some (.iload_n 2, 1, 0, 0, 0) := by rfl
theorem t10_34 : zT 10 34 = some (.iaload, 1, 0, 0, 0) := by rfl
theorem t10_35 : zT 10 35 = some (.iastore, 1, 0, 0, 0) := by rfl
theorem t10_36 : zT 10 36 = some (.aload_n 0, 1, 0, 0, 0) := by rfl
theorem t10_37 : zT 10 37 = some (.getfield 21, 3, 1, 3, 128) := by rfl
theorem t10_40 : zT 10 40 = some (.iload_n 3, 1, 0, 0, 0) := by rfl
theorem t10_41 : zT 10 41 = some (.aload_n 1, 1, 0, 0, 0) := by rfl
theorem t10_42 : zT 10 42 = some (.getfield 21, 3, 1, 3, 128) := by rfl
theorem t10_45 : zT 10 45 = some (.iload_n 2, 1, 0, 0, 0) := by rfl
theorem t10_46 : zT 10 46 = some (.iaload, 1, 0, 0, 0) := by rfl
theorem t10_47 : zT 10 47 = some (.iastore, 1, 0, 0, 0) := by rfl
theorem t10_48 : zT 10 48 = some (.aload_n 0, 1, 0, 0, 0) := by rfl
theorem t10_49 : zT 10 49 = some (.getfield 24, 3, 1, 4, 132) := by rfl
theorem t10_52 : zT 10 52 = some (.iload_n 3, 1, 0, 0, 0) := by rfl
theorem t10_53 : zT 10 53 = some (.aload_n 1, 1, 0, 0, 0) := by rfl
theorem t10_54 : zT 10 54 = some (.getfield 24, 3, 1, 4, 132) := by rfl
theorem t10_57 : zT 10 57 = some (.iload_n 2, 1, 0, 0, 0) := by rfl
theorem t10_58 : zT 10 58 = some (.iaload, 1, 0, 0, 0) := by rfl
theorem t10_59 : zT 10 59 = some (.iastore, 1, 0, 0, 0) := by rfl
theorem t10_60 : zT 10 60 = some (.aload_n 0, 1, 0, 0, 0) := by rfl
theorem t10_61 : zT 10 61 = some (.getfield 27, 3, 1, 5, 136) := by rfl
theorem t10_64 : zT 10 64 = some (.iload_n 3, 1, 0, 0, 0) := by rfl
theorem t10_65 : zT 10 65 = some (.aload_n 1, 1, 0, 0, 0) := by rfl
theorem t10_66 : zT 10 66 = some (.getfield 27, 3, 1, 5, 136) := by rfl
theorem t10_69 : zT 10 69 = some (.iload_n 2, 1, 0, 0, 0) := by rfl
theorem t10_70 : zT 10 70 = some (.iaload, 1, 0, 0, 0) := by rfl
theorem t10_71 : zT 10 71 = some (.iastore, 1, 0, 0, 0) := by rfl
theorem t10_72 : zT 10 72 = some (.aload_n 1, 1, 0, 0, 0) := by rfl
theorem t10_73 : zT 10 73 = some (.getfield 30, 3, 1, 6, 139) := by rfl
theorem t10_76 : zT 10 76 = some (.iload_n 2, 1, 0, 0, 0) := by rfl
theorem t10_77 : zT 10 77 = some (.bipush 6, 2, 0, 0, 0) := by rfl
theorem t10_79 : zT 10 79 = some (.imul, 1, 0, 0, 0) := by rfl
theorem t10_80 : zT 10 80 = some (.aload_n 0, 1, 0, 0, 0) := by rfl
theorem t10_81 : zT 10 81 = some (.getfield 30, 3, 1, 6, 139) := by rfl
theorem t10_84 : zT 10 84 = some (.iload_n 3, 1, 0, 0, 0) := by rfl
theorem t10_85 : zT 10 85 = some (.bipush 6, 2, 0, 0, 0) := by rfl
theorem t10_87 : zT 10 87 = some (.imul, 1, 0, 0, 0) := by rfl
theorem t10_88 : zT 10 88 = some (.bipush 6, 2, 0, 0, 0) := by rfl
theorem t10_90 : zT 10 90 = some (.invokestatic 41, 3, 1001, 0, 352) := by rfl
theorem t10_93 : zT 10 93 = some (.return_, 1, 0, 0, 0) := by rfl
theorem t11_0 : zT 11 0 = some (.aload_n 1, 1, 0, 0, 0) := by rfl
theorem t11_1 : zT 11 1 = some (.getfield 9, 3, 1, 0, 116) := by rfl
theorem t11_4 : zT 11 4 = some (.iconst 0, 1, 0, 0, 0) := by rfl
theorem t11_5 : zT 11 5 = some (.aload_n 0, 1, 0, 0, 0) := by rfl
theorem t11_6 : zT 11 6 = some (.getfield 9, 3, 1, 0, 116) := by rfl
theorem t11_9 : zT 11 9 = some (.iconst 0, 1, 0, 0, 0) := by rfl
theorem t11_10 : zT 11 10 = some (.bipush 20, 2, 0, 0, 0) := by rfl
theorem t11_12 : zT 11 12 = some (.invokestatic 41, 3, 1001, 0, 352) := by rfl
theorem t11_15 : zT 11 15 = some (.aload_n 1, 1, 0, 0, 0) := by rfl
theorem t11_16 : zT 11 16 = some (.getfield 15, 3, 1, 1, 120) := by rfl
theorem t11_19 : zT 11 19 = some (.iconst 0, 1, 0, 0, 0) := by rfl
theorem t11_20 : zT 11 20 = some (.aload_n 0, 1, 0, 0, 0) := by rfl
theorem t11_21 : zT 11 21 = some (.getfield 15, 3, 1, 1, 120) := by rfl
theorem t11_24 : zT 11 24 = some (.iconst 0, 1, 0, 0, 0) := by rfl
theorem t11_25 : zT 11 25 = some (.bipush 20, 2, 0, 0, 0) := by rfl
theorem t11_27 : zT 11 27 = some (.invokestatic 41, 3, 1001, 0, 352) := by rfl
theorem t11_30 : zT 11 30 = some (.aload_n 1, 1, 0, 0, 0) := by rfl
theorem t11_31 : zT 11 31 = some (.getfield 18, 3, 1, 2, 124) := by rfl
theorem t11_34 : zT 11 34 = some (.iconst 0, 1, 0, 0, 0) := by rfl
theorem t11_35 : zT 11 35 = some (.aload_n 0, 1, 0, 0, 0) := by rfl
theorem t11_36 : zT 11 36 = some (.getfield 18, 3, 1, 2, 124) := by rfl
theorem t11_39 : zT 11 39 = some (.iconst 0, 1, 0, 0, 0) := by rfl
theorem t11_40 : zT 11 40 = some (.bipush 20, 2, 0, 0, 0) := by rfl
theorem t11_42 : zT 11 42 = some (.invokestatic 41, 3, 1001, 0, 352) := by rfl
theorem t11_45 : zT 11 45 = some (.aload_n 1, 1, 0, 0, 0) := by rfl
theorem t11_46 : zT 11 46 = some (.getfield 21, 3, 1, 3, 128) := by rfl
theorem t11_49 : zT 11 49 = some (.iconst 0, 1, 0, 0, 0) := by rfl
theorem t11_50 : zT 11 50 = some (.aload_n 0, 1, 0, 0, 0) := by rfl
theorem t11_51 : zT 11 51 = some (.getfield 21, 3, 1, 3, 128) := by rfl
theorem t11_54 : zT 11 54 = some (.iconst 0, 1, 0, 0, 0) := by rfl
theorem t11_55 : zT 11 55 = some (.bipush 20, 2, 0, 0, 0) := by rfl
theorem t11_57 : zT 11 57 = some (.invokestatic 41, 3, 1001, 0, 352) := by rfl
theorem t11_60 : zT 11 60 = some (.aload_n 1, 1, 0, 0, 0) := by rfl
theorem t11_61 : zT 11 61 = some (.getfield 24, 3, 1, 4, 132) := by rfl
theorem t11_64 : zT 11 64 = some (.iconst 0, 1, 0, 0, 0) := by rfl
theorem t11_65 : zT 11 65 = some (.aload_n 0, 1, 0, 0, 0) := by rfl
theorem t11_66 : zT 11 66 = some (.getfield 24, 3, 1, 4, 132) := by rfl
theorem t11_69 : zT 11 69 = some (.iconst 0, 1, 0, 0, 0) := by rfl
theorem t11_70 : zT 11 70 = some (.bipush 20, 2, 0, 0, 0) := by rfl
theorem t11_72 : zT 11 72 = some (.invokestatic 41, 3, 1001, 0, 352) := by rfl
theorem t11_75 : zT 11 75 = some (.aload_n 1, 1, 0, 0, 0) := by rfl
theorem t11_76 : zT 11 76 = some (.getfield 27, 3, 1, 5, 136) := by rfl
theorem t11_79 : zT 11 79 = some (.iconst 0, 1, 0, 0, 0) := by rfl
theorem t11_80 : zT 11 80 = some (.aload_n 0, 1, 0, 0, 0) := by rfl
theorem t11_81 : zT 11 81 = some (.getfield 27, 3, 1, 5, 136) := by rfl
theorem t11_84 : zT 11 84 = some (.iconst 0, 1, 0, 0, 0) := by rfl
theorem t11_85 : zT 11 85 = some (.bipush 20, 2, 0, 0, 0) := by rfl
theorem t11_87 : zT 11 87 = some (.invokestatic 41, 3, 1001, 0, 352) := by rfl
theorem t11_90 : zT 11 90 = some (.aload_n 1, 1, 0, 0, 0) := by rfl
theorem t11_91 : zT 11 91 = some (.getfield 30, 3, 1, 6, 139) := by rfl
theorem t11_94 : zT 11 94 = some (.iconst 0, 1, 0, 0, 0) := by rfl
theorem t11_95 : zT 11 95 = some (.aload_n 0, 1, 0, 0, 0) := by rfl
theorem t11_96 : zT 11 96 = some (.getfield 30, 3, 1, 6, 139) := by rfl
theorem t11_99 : zT 11 99 = some (.iconst 0, 1, 0, 0, 0) := by rfl
theorem t11_100 : zT 11 100 = some (.bipush 120, 2, 0, 0, 0) := by rfl
theorem t11_102 : zT 11 102 = some (.invokestatic 41, 3, 1001, 0, 352) := by rfl
theorem t11_105 : zT 11 105 = some (.aload_n 0, 1, 0, 0, 0) := by rfl
theorem t11_106 : zT 11 106 = some (.aload_n 1, 1, 0, 0, 0) := by rfl
theorem t11_107 : zT 11 107 = some (.getfield 33, 3, 1, 7, 141) := by rfl
theorem t11_110 : zT 11 110 = some (.putfield 33, 3, 1, 7, 141) := by rfl
theorem t11_113 : zT 11 113 = some (.return_, 1, 0, 0, 0) := by rfl
theorem t12_0 : zT 12 0 = some (.aload_n 0, 1, 0, 0, 0) := by rfl
theorem t12_1 : zT 12 1 = some (.iload_n 1, 1, 0, 0, 0) := by rfl
theorem t12_2 : zT 12 2 = some (.aload_n 0, 1, 0, 0, 0) := by rfl
theorem t12_3 : zT 12 3 = some (.iload_n 2, 1, 0, 0, 0) := by rfl
theorem t12_4 : zT 12 4 = some (.invokevirtual 47, 3, 13, 0, 454) := by rfl
theorem t12_7 : zT 12 7 = some (.ireturn, 1, 0, 0, 0) := by rfl
theorem t13_0 : zT 13 0 = some (.aload_n 0, 1, 0, 0, 0) := by rfl
theorem t13_1 : zT 13 1 = some (.getfield 15, 3, 1, 1, 120) := by rfl
theorem t13_4 : zT 13 4 = some (.iload_n 1, 1, 0, 0, 0) := by rfl
theorem t13_5 : zT 13 5 = some (.iaload, 1, 0, 0, 0) := by rfl
theorem t13_6 : zT 13 6 = some (.iconst 1, 1, 0, 0, 0) := by rfl
theorem t13_7 : zT 13 7 = some (.if_icmp .ne 7, 3, 0, 0, 0) := by rfl
theorem t13_10 : zT 13 10 = some (.iconst 1, 1, 0, 0, 0) := by rfl
theorem t13_11 : zT 13 11 = some (.goto 4, 3, 0, 0, 0) := by rfl
theorem t13_14 : zT 13 14 = some (.iconst 0, 1, 0, 0, 0) := by rfl
theorem t13_15 : zT 13 15 = some (.istore 4, 2, 0, 0, 0) := by rfl
theorem t13_17 : zT 13 17 = some (.aload_n 2, 1, 0, 0, 0) := by rfl
theorem t13_18 : zT 13 18 = some (.getfield 15, 3, 1, 1, 120) := by rfl
theorem t13_21 : zT 13 21 = some (.iload_n 3, 1, 0, 0, 0) := by rfl
theorem t13_22 : zT 13 22 = some (.iaload, 1, 0, 0, 0) := by rfl
theorem t13_23 : zT 13 23 = some (.iconst 1, 1, 0, 0, 0) := by rfl
theorem t13_24 : zT 13 24 = some (.if_icmp .ne 7, 3, 0, 0, 0) := by rfl
theorem t13_27 : zT 13 27 = some (.iconst 1, 1, 0, 0, 0) := by rfl
theorem t13_28 : zT 13 28 = some (.goto 4, 3, 0, 0, 0) := by rfl
theorem t13_31 : zT 13 31 = some (.iconst 0, 1, 0, 0, 0) := by rfl
theorem t13_32 : zT 13 32 = some (.istore 5, 2, 0, 0, 0) := by rfl
theorem t13_34 : zT 13 34 = some (.iload 4, 2, 0, 0, 0) := by rfl
theorem t13_36 : zT 13 36 = some (.ifCond .eq 29, 3, 0, 0, 0) := by rfl
theorem t13_39 : zT 13 39 = some (.iload 5, 2, 0, 0, 0) := by rfl
theorem t13_41 : zT 13 41 = some (.ifCond .eq 24, 3, 0, 0, 0) := by rfl
theorem t13_44 : zT 13 44 = some (.aload_n 0, 1, 0, 0, 0) := by rfl
theorem t13_45 : zT 13 45 = some (.getfield 18, 3, 1, 2, 124) := by rfl
theorem t13_48 : zT 13 48 = some (.iload_n 1, 1, 0, 0, 0) := by rfl
theorem t13_49 : zT 13 49 = some (.iaload, 1, 0, 0, 0) := by rfl
theorem t13_50 : zT 13 50 = some (.aload_n 2, 1, 0, 0, 0) := by rfl
theorem t13_51 : zT 13 51 = some (.getfield 18, 3, 1, 2, 124) := by rfl
theorem t13_54 : zT 13 54 = some (.iload_n 3, 1, 0, 0, 0) := by rfl
theorem t13_55 : zT 13 55 = some (.iaload, 1, 0, 0, 0) := by rfl
theorem t13_56 : zT 13 56 = some (.if_icmp .ne 7, 3, 0, 0, 0) := by rfl
theorem t13_59 : zT 13 59 = some (.iconst 1, 1, 0, 0, 0) := by rfl
theorem t13_60 : zT 13 60 = some (.goto 4, 3, 0, 0, 0) := by rfl
theorem t13_63 : zT 13 63 = some (.iconst 0, 1, 0, 0, 0) := by rfl
theorem t13_64 : zT 13 64 = some (.ireturn, 1, 0, 0, 0) := by rfl
theorem t13_65 : zT 13 65 = some (.iload 4, 2, 0, 0, 0) := by rfl
theorem t13_67 : zT 13 67 = some (.ifCond .eq 39, 3, 0, 0, 0) := by rfl
theorem t13_70 : zT 13 70 = some (.aload_n 0, 1, 0, 0, 0) := by rfl
theorem t13_71 : zT 13 71 = some (.getfield 18, 3, 1, 2, 124) := by rfl
theorem t13_74 : zT 13 74 = some (.iload_n 1, 1, 0, 0, 0) := by rfl
theorem t13_75 : zT 13 75 = some (.iaload, 1, 0, 0, 0) := by rfl
theorem t13_76 : zT 13 76 = some (.aload_n 2, 1, 0, 0, 0) := by rfl
theorem t13_77 : zT 13 77 = some (.getfield 18, 3, 1, 2, 124) := by rfl
theorem t13_80 : zT 13 80 = some (.iload_n 3, 1, 0, 0, 0) := by rfl
theorem t13_81 : zT 13 81 = some (.iaload, 1, 0, 0, 0) := by rfl
theorem t13_82 : zT 13 82 = some (.if_icmp .le 22, 3, 0, 0, 0) := by rfl
theorem t13_85 : zT 13 85 = some (.aload_n 0, 1, 0, 0, 0) := by rfl
theorem t13_86 : zT 13 86 = some (.getfield 18, 3, 1, 2, 124) := by rfl
theorem t13_89 : zT 13 89 = some (.iload_n 1, 1, 0, 0, 0) := by rfl
theorem t13_90 : zT 13 90 = some (.iaload, 1, 0, 0, 0) := by rfl
theorem t13_91 : zT 13 91 = some (.aload_n 2, 1, 0, 0, 0) := by rfl
theorem t13_92 : zT 13 92 = some (.getfield 21, 3, 1, 3, 128) := by rfl
theorem t13_95 : zT 13 95 = some (.iload_n 3, 1, 0, 0, 0) := by rfl
theorem t13_96 : zT 13 96 = some (.iaload, 1, 0, 0, 0) := by rfl
theorem t13_97 : zT 13 97 = some (.if_icmp .ge 7, 3, 0, 0, 0) := by rfl
theorem t13_100 : zT 13 100 = some (.iconst 1, 1, 0, 0, 0) := by rfl
theorem t13_101 : zT 13 101 = some (.goto 4, 3, 0, 0, 0) := by rfl
theorem t13_104 : zT 13 104 = some (.iconst 0, 1, 0, 0, 0) := by rfl
theorem t13_105 : zT 13 105 = some (.ireturn, 1, 0, 0, 0) := by rfl
theorem t13_106 : zT 13 106 = some (.iload 5, 2, 0, 0, 0) := by rfl
theorem t13_108 : zT 13 108 = some (.ifCond .eq 39, 3, 0, 0, 0) := by rfl
theorem t13_111 : zT 13 111 = some (.aload_n 2, 1, 0, 0, 0) := by rfl
theorem t13_112 : zT 13 112 = some (.getfield 18, 3, 1, 2, 124) := by rfl
theorem t13_115 : zT 13 115 = some (.iload_n 3, 1, 0, 0, 0) := by rfl
theorem t13_116 : zT 13 116 = some (.iaload, 1, 0, 0, 0) := by rfl
theorem t13_117 : zT 13 117 = some (.aload_n 0, 1, 0, 0, 0) := by rfl
theorem t13_118 : zT 13 118 = some (.getfield 18, 3, 1, 2, 124) := by rfl
theorem t13_121 : zT 13 121 = some (.iload_n 1, 1, 0, 0, 0) := by rfl
theorem t13_122 : zT 13 122 = some (.iaload, 1, 0, 0, 0) := by rfl
theorem t13_123 : zT 13 123 = some (.if_icmp .le 22, 3, 0, 0, 0) := by rfl
theorem t13_126 : zT 13 126 = some (.aload_n 2, 1, 0, 0, 0) := by rfl
theorem t13_127 : zT 13 127 = some (.getfield 18, 3, 1, 2, 124) := by rfl
theorem t13_130 : zT 13 130 = some (.iload_n 3, 1, 0, 0, 0) := by rfl
theorem t13_131 : zT 13 131 = some (.iaload, 1, 0, 0, 0) := by rfl
theorem t13_132 : zT 13 132 = some (.aload_n 0, 1, 0, 0, 0) := by rfl
theorem t13_133 : zT 13 133 = some (.getfield 21, 3, 1, 3, 128) := by rfl
theorem t13_136 : zT 13 136 = some (.iload_n 1, 1, 0, 0, 0) := by rfl
theorem t13_137 : zT 13 137 = some (.iaload, 1, 0, 0, 0) := by rfl
theorem t13_138 : zT 13 138 = some (.if_icmp .ge 7, 3, 0, 0, 0) := by rfl
theorem t13_141 : zT 13 141 = some (.iconst 1, 1, 0, 0, 0) := by rfl
theorem t13_142 : zT 13 142 = some (.goto 4, 3, 0, 0, 0) := by rfl
theorem t13_145 : zT 13 145 = some (.iconst 0, 1, 0, 0, 0) := by rfl
theorem t13_146 : zT 13 146 = some (.ireturn, 1, 0, 0, 0) := by rfl
theorem t13_147 : zT 13 147 = some (.aload_n 0, 1, 0, 0, 0) := by rfl
theorem t13_148 : zT 13 148 = some (.getfield 18, 3, 1, 2, 124) := by rfl
theorem t13_151 : zT 13 151 = some (.iload_n 1, 1, 0, 0, 0) := by rfl
theorem t13_152 : zT 13 152 = some (.iaload, 1, 0, 0, 0) := by rfl
theorem t13_153 : zT 13 153 = some (.aload_n 2, 1, 0, 0, 0) := by rfl
theorem t13_154 : zT 13 154 = some (.getfield 21, 3, 1, 3, 128) := by rfl
theorem t13_157 : zT 13 157 = some (.iload_n 3, 1, 0, 0, 0) := by rfl
theorem t13_158 : zT 13 158 = some (.iaload, 1, 0, 0, 0) := by rfl
theorem t13_159 : zT 13 159 = some (.if_icmp .ge 22, 3, 0, 0, 0) := by rfl
theorem t13_162 : zT 13 162 = some (.aload_n 2, 1, 0, 0, 0) := by rfl
theorem t13_163 : zT 13 163 = some (.getfield 18, 3, 1, 2, 124) := by rfl
theorem t13_166 : zT 13 166 = some (.iload_n 3, 1, 0, 0, 0) := by rfl
theorem t13_167 : zT 13 167 = some (.iaload, 1, 0, 0, 0) := by rfl
theorem t13_168 : zT 13 168 = some (.aload_n 0, 1, 0, 0, 0) := by rfl
theorem t13_169 : zT 13 169 = some (.getfield 21, 3, 1, 3, 128) := by rfl
theorem t13_172 : zT 13 172 = some (.iload_n 1, 1, 0, 0, 0) := by rfl
theorem t13_173 : zT 13 173 = some (.iaload, 1, 0, 0, 0) := by rfl
theorem t13_174 : zT 13 174 = some (.if_icmp .ge 7, 3, 0, 0, 0) := by rfl
theorem t13_177 : zT 13 177 = some (.iconst 1, 1, 0, 0, 0) := by rfl
theorem t13_178 : zT 13 178 = some (.goto 4, 3, 0, 0, 0) := by rfl
theorem t13_181 : zT 13 181 = some (.iconst 0, 1, 0, 0, 0) := by rfl
theorem t13_182 : zT 13 182 = some (.ireturn, 1, 0, 0, 0) := by rfl
theorem t14_0 : zT 14 0 = some (.aload_n 0, 1, 0, 0, 0) := by rfl
theorem t14_1 : zT 14 1 = some (.getfield 9, 3, 1, 0, 116) := by rfl
theorem t14_4 : zT 14 4 = some (.iload_n 1, 1, 0, 0, 0) := by rfl
theorem t14_5 : zT 14 5 = some (.iaload, 1, 0, 0, 0) := by rfl
theorem t14_6 : zT 14 6 = some (.aload_n 0, 1, 0, 0, 0) := by rfl
theorem t14_7 : zT 14 7 = some (.getfield 9, 3, 1, 0, 116) := by rfl
theorem t14_10 : zT 14 10 = some (.iload_n 2, 1, 0, 0, 0) := by rfl
theorem t14_11 : zT 14 11 = some (.iaload, 1, 0, 0, 0) := by rfl
theorem t14_12 : zT 14 12 = some (.if_icmp .eq 36, 3, 0, 0, 0) := by rfl
theorem t14_15 : zT 14 15 = some (.aload_n 0, 1, 0, 0, 0) := by rfl
theorem t14_16 : zT 14 16 = some (.getfield 24, 3, 1, 4, 132) := by rfl
theorem t14_19 : zT 14 19 = some (.iload_n 1, 1, 0, 0, 0) := by rfl
theorem t14_20 : zT 14 20 = some (.iaload, 1, 0, 0, 0) := by rfl
theorem t14_21 : zT 14 21 = some (.iconst 2, 1, 0, 0, 0) := by rfl
theorem t14_22 : zT 14 22 = some (.if_icmp .eq 26, 3, 0, 0, 0) := by rfl
theorem t14_25 : zT 14 25 = some (.aload_n 0, 1, 0, 0, 0) := by rfl
theorem t14_26 : zT 14 26 = some (.getfield 24, 3, 1, 4, 132) := by rfl
theorem t14_29 : zT 14 29 = some (.iload_n 2, 1, 0, 0, 0) := by rfl
theorem t14_30 : zT 14 30 = some (.iaload, 1, 0, 0, 0) := by rfl
theorem t14_31 : zT 14 31 = some (.iconst 2, 1, 0, 0, 0) := by rfl
theorem t14_32 : zT 14 32 = some (.if_icmp .eq 16, 3, 0, 0, 0) := by rfl
theorem t14_35 : zT 14 35 = some (.aload_n 0, 1, 0, 0, 0) := by rfl
theorem t14_36 : zT 14 36 = some (.iload_n 1, 1, 0, 0, 0) := by rfl
theorem t14_37 : zT 14 37 = some (.iload_n 2, 1, 0, 0, 0) := by rfl
theorem t14_38 : zT 14 38 = some (.invokevirtual 51, 3, 12, 0, 490) := by rfl
theorem t14_41 : zT 14 41 = some (.ifCond .eq 7, 3, 0, 0, 0) := by rfl
theorem t14_44 : zT 14 44 = some (.iconst 1, 1, 0, 0, 0) := by rfl
theorem t14_45 : zT 14 45 = some (.goto 4, 3, 0, 0, 0) := by rfl
theorem t14_48 : zT 14 48 = some (.iconst 0, 1, 0, 0, 0) := by rfl
theorem t14_49 : zT 14 49 = some (.ireturn, 1, 0, 0, 0) := by rfl
theorem t15_0 : zT 15 0 = some (.iconst 0, 1, 0, 0, 0) := by rfl
theorem t15_1 : zT 15 1 = some (.istore_n 3, 1, 0, 0, 0) := by rfl
theorem t15_2 : zT 15 2 = some (.iload_n 3, 1, 0, 0, 0) := by rfl
theorem t15_3 : zT 15 3 = some (.aload_n 0, 1, 0, 0, 0) := by rfl
theorem t15_4 : zT 15 4 = some (.getfield 33, 3, 1, 7, 141) := by rfl
theorem t15_7 : zT 15 7 = some (.if_icmp .ge 46, 3, 0, 0, 0) := by rfl
theorem t15_10 : zT 15 10 = some (.aload_n 0, 1, 0, 0, 0) := by rfl
theorem t15_11 : zT 15 11 = some (.getfield 9, 3, 1, 0, 116) := by rfl
theorem t15_14 : zT 15 14 = some (.iload_n 3, 1, 0, 0, 0) := by rfl
theorem t15_15 : zT 15 15 = some (.iaload, 1, 0, 0, 0) := by rfl
theorem t15_16 : zT 15 16 = some (.aload_n 1, 1, 0, 0, 0) := by rfl
theorem t15_17 : zT 15 17 = some (.getfield 9, 3, 1, 0, 116) := by rfl
theorem t15_20 : zT 15 20 = some (.iload_n 2, 1, 0, 0, 0) := by rfl
theorem t15_21 : zT 15 21 = some (.iaload, 1, 0, 0, 0) := by rfl
theorem t15_22 : zT 15 22 = some (.if_icmp .ne 25, 3, 0, 0, 0) := by rfl
theorem t15_25 : zT 15 25 = some (.aload_n 0, 1, 0, 0, 0) := by rfl
theorem t15_26 : zT 15 26 = some (.getfield 24, 3, 1, 4, 132) := by rfl
theorem t15_29 : zT 15 29 = some (.iload_n 3, 1, 0, 0, 0) := by rfl
theorem t15_30 : zT 15 30 = some (.iaload, 1, 0, 0, 0) := by rfl
theorem t15_31 : zT 15 31 = some (.iconst 2, 1, 0, 0, 0) := by rfl
theorem t15_32 : zT 15 32 = some (.if_icmp .eq 15, 3, 0, 0, 0) := by rfl
theorem t15_35 : zT 15 35 = some (.aload_n 0, 1, 0, 0, 0) := by rfl
theorem t15_36 : zT 15 36 = some (.iload_n 3, 1, 0, 0, 0) := by rfl
theorem t15_37 : zT 15 37 = some (.aload_n 1, 1, 0, 0, 0) := by rfl
theorem t15_38 : zT 15 38 = some (.iload_n 2, 1, 0, 0, 0) := by rfl
theorem t15_39 : zT 15 39 = some (.invokevirtual 47, 3, 13, 0, 454) := by rfl
theorem t15_42 : zT 15 42 = some (.ifCond .eq 5, 3, 0, 0, 0) := by rfl
theorem t15_45 : zT 15 45 = some (.iconst 1, 1, 0, 0, 0) := by rfl
theorem t15_46 : zT 15 46 = some (.ireturn, 1, 0, 0, 0) := by rfl
theorem t15_47 : zT 15 47 = some (.iinc 3 1, 3, 0, 0, 0) := by rfl
theorem t15_50 : zT 15 50 = some (.goto (-48), 3, 0, 0, 0) := by rfl
theorem t15_53 : zT 15 53 = some (.iconst 0, 1, 0, 0, 0) := by rfl
theorem t15_54 : zT 15 54 = some (.ireturn, 1, 0, 0, 0) := by rfl
theorem t16_0 : zT 16 0 = some (.iconst 0, 1, 0, 0, 0) := by rfl
theorem t16_1 : zT 16 1 = some (.istore_n 3, 1, 0, 0, 0) := by rfl
theorem t16_2 : zT 16 2 = some (.iload_n 3, 1, 0, 0, 0) := by rfl
theorem t16_3 : zT 16 3 = some (.aload_n 0, 1, 0, 0, 0) := by rfl
theorem t16_4 : zT 16 4 = some (.getfield 33, 3, 1, 7, 141) := by rfl
theorem t16_7 : zT 16 7 = some (.if_icmp .ge 35, 3, 0, 0, 0) := by rfl
theorem t16_10 : zT 16 10 = some (.iload_n 3, 1, 0, 0, 0) := by rfl
theorem t16_11 : zT 16 11 = some (.iload_n 1, 1, 0, 0, 0) := by rfl
theorem t16_12 : zT 16 12 = some (.if_icmp .eq 24, 3, 0, 0, 0) := by rfl
theorem t16_15 : zT 16 15 = some (.aload_n 0, 1, 0, 0, 0) := by rfl
theorem t16_16 : zT 16 16 = some (.getfield 24, 3, 1, 4, 132) := by rfl
theorem t16_19 : zT 16 19 = some (.iload_n 3, 1, 0, 0, 0) := by rfl
theorem t16_20 : zT 16 20 = some (.iaload, 1, 0, 0, 0) := by rfl
theorem t16_21 : zT 16 21 = some (.iload_n 2, 1, 0, 0, 0) := by rfl
theorem t16_22 : zT 16 22 = some (.if_icmp .ne 14, 3, 0, 0, 0) := by rfl
theorem t16_25 : zT 16 25 = some (.aload_n 0, 1, 0, 0, 0) := by rfl
theorem t16_26 : zT 16 26 = some (.iload_n 1, 1, 0, 0, 0) := by rfl
theorem t16_27 : zT 16 27 = some (.iload_n 3, 1, 0, 0, 0) := by rfl
theorem t16_28 : zT 16 28 = some (.invokevirtual 51, 3, 12, 0, 490) := by rfl
theorem t16_31 : zT 16 31 = some (.ifCond .eq 5, 3, 0, 0, 0) := by rfl
theorem t16_34 : zT 16 34 = some (.iconst 1, 1, 0, 0, 0) := by rfl
theorem t16_35 : zT 16 35 = some (.ireturn, 1, 0, 0, 0) := by rfl
theorem t16_36 : zT 16 36 = some (.iinc 3 1, 3, 0, 0, 0) := by rfl
theorem t16_39 : zT 16 39 = some (.goto (-37), 3, 0, 0, 0) := by rfl
theorem t16_42 : zT 16 42 = some (.iconst 0, 1, 0, 0, 0) := by rfl
theorem t16_43 : zT 16 43 = some (.ireturn, 1, 0, 0, 0) := by rfl
theorem t17_0 : zT 17 0 = some (.iconst 0, 1, 0, 0, 0) := by rfl
theorem t17_1 : zT 17 1 = some (.istore_n 3, 1, 0, 0, 0) := by rfl
theorem t17_2 : zT 17 2 = some (.iload_n 3, 1, 0, 0, 0) := by rfl
theorem t17_3 : zT 17 3 = some (.aload_n 0, 1, 0, 0, 0) := by rfl
theorem t17_4 : zT 17 4 = some (.getfield 33, 3, 1, 7, 141) := by rfl
theorem t17_7 : zT 17 7 = some (.if_icmp .ge 44, 3, 0, 0, 0) := by rfl
theorem t17_10 : zT 17 10 = some (.iload_n 3, 1, 0, 0, 0) := by rfl
theorem t17_11 : zT 17 11 = some (.iload_n 2, 1, 0, 0, 0) := by rfl
theorem t17_12 : zT 17 12 = some (.if_icmp .eq 33, 3, 0, 0, 0) := by rfl
theorem t17_15 : zT 17 15 = some (.aload_n 0, 1, 0, 0, 0) := by rfl
theorem t17_16 : zT 17 16 = some (.getfield 9, 3, 1, 0, 116) := by rfl
theorem t17_19 : zT 17 19 = some (.iload_n 3, 1, 0, 0, 0) := by rfl
theorem t17_20 : zT 17 20 = some (.iaload, 1, 0, 0, 0) := by rfl
theorem t17_21 : zT 17 21 = some (.iload_n 1, 1, 0, 0, 0) := by rfl
theorem t17_22 : zT 17 22 = some (.if_icmp .ne 23, 3, 0, 0, 0) := by rfl
theorem t17_25 : zT 17 25 = some (.aload_n 0, 1, 0, 0, 0) := by rfl
theorem t17_26 : zT 17 26 = some (.getfield 24, 3, 1, 4, 132) := by rfl
theorem t17_29 : zT 17 29 = some (.iload_n 3, 1, 0, 0, 0) := by rfl
theorem t17_30 : zT 17 30 = some (.iaload, 1, 0, 0, 0) := by rfl
theorem t17_31 : zT 17 31 = some (.ifCond .ne 14, 3, 0, 0, 0) := by rfl
theorem t17_34 : zT 17 34 = some (.aload_n 0, 1, 0, 0, 0) := by rfl
theorem t17_35 : zT 17 35 = some (.iload_n 2, 1, 0, 0, 0) := by rfl
theorem t17_36 : zT 17 36 = some (.iload_n 3, 1, 0, 0, 0) := by rfl
theorem t17_37 : zT 17 37 = some (.invokevirtual 51, 3, 12, 0, 490) := by rfl
theorem t17_40 : zT 17 40 = some (.ifCond .eq 5, 3, 0, 0, 0) := by rfl
theorem t17_43 : zT 17 43 = some (.iconst 1, 1, 0, 0, 0) := by rfl
theorem t17_44 : zT 17 44 = some (.ireturn, 1, 0, 0, 0) := by rfl
theorem t17_45 : zT 17 45 = some (.iinc 3 1, 3, 0, 0, 0) := by rfl
theorem t17_48 : zT 17 48 = some (.goto (-46), 3, 0, 0, 0) := by rfl
theorem t17_51 : zT 17 51 = some (.iconst 0, 1, 0, 0, 0) := by rfl
theorem t17_52 : zT 17 52 = some (.ireturn, 1, 0, 0, 0) := by rfl
theorem t18_0 : zT 18 0 = some (.iconst 0, 1, 0, 0, 0) := by rfl
theorem t18_1 : zT 18 1 = some (.istore_n 2, 1, 0, 0, 0) := by rfl
theorem t18_2 : zT 18 2 = some (.iconst 0, 1, 0, 0, 0) := by rfl
theorem t18_3 : zT 18 3 = some (.istore_n 3, 1, 0, 0, 0) := by rfl
theorem t18_4 : zT 18 4 = some (.iload_n 3, 1, 0, 0, 0) := by rfl
theorem t18_5 : zT 18 5 = some (.aload_n 0, 1, 0, 0, 0) := by rfl
theorem t18_6 : zT 18 6 = some (.getfield 33, 3, 1, 7, 141) := by rfl
theorem t18_9 : zT 18 9 = some (.if_icmp .ge 35, 3, 0, 0, 0) := by rfl
theorem t18_12 : zT 18 12 = some (.iload_n 3, 1, 0, 0, 0) := by rfl
theorem t18_13 : zT 18 13 = some (.iload_n 1, 1, 0, 0, 0) := by rfl
theorem t18_14 : zT 18 14 = some (.if_icmp .eq 24, 3, 0, 0, 0) := by rfl
theorem t18_17 : zT 18 17 = some (.aload_n 0, 1, 0, 0, 0) := by rfl
theorem t18_18 : zT 18 18 = some (.getfield 24, 3, 1, 4, 132) := by rfl
theorem t18_21 : zT 18 21 = some (.iload_n 3, 1, 0, 0, 0) := by rfl
theorem t18_22 : zT 18 22 = some (.iaload, 1, 0, 0, 0) := by rfl
theorem t18_23 : zT 18 23 = some (.ifCond .ne 15, 3, 0, 0, 0) := by rfl
theorem t18_26 : zT 18 26 = some (.aload_n 0, 1, 0, 0, 0) := by rfl
theorem t18_27 : zT 18 27 = some (.iload_n 1, 1, 0, 0, 0) := by rfl
theorem t18_28 : zT 18 28 = some (.iload_n 3, 1, 0, 0, 0) := by rfl
theorem t18_29 : zT 18 29 = some (.invokevirtual 51, 3, 12, 0, 490) := by rfl
theorem t18_32 : zT 18 32 = some (.ifCond .eq 6, 3, 0, 0, 0) := by rfl
theorem t18_35 : zT 18 35 = some (.iinc 2 1, 3, 0, 0, 0) := by rfl
theorem t18_38 : zT 18 38 = some (.iinc 3 1, 3, 0, 0, 0) := by rfl
theorem t18_41 : zT 18 41 = some (.goto (-37), 3, 0, 0, 0) := by rfl
theorem t18_44 : zT 18 44 = some (.iload_n 2, 1, 0, 0, 0) := by rfl
theorem t18_45 : zT 18 45 = some (.ireturn, 1, 0, 0, 0) := by rfl
theorem t19_0 : zT 19 0 = some (.aload_n 0, 1, 0, 0, 0) := by rfl
theorem t19_1 : zT 19 1 = some (.getfield 24, 3, 1, 4, 132) := by rfl
theorem t19_4 : zT 19 4 = some (.iload_n 1, 1, 0, 0, 0) := by rfl
theorem t19_5 : zT 19 5 = some (.iconst 1, 1, 0, 0, 0) := by rfl
theorem t19_6 : zT 19 6 = some (.iastore, 1, 0, 0, 0) := by rfl
theorem t19_7 : zT 19 7 = some (.iconst 0, 1, 0, 0, 0) := by rfl
theorem t19_8 : zT 19 8 = some (.istore_n 2, 1, 0, 0, 0) := by rfl
theorem t19_9 : zT 19 9 = some (.iconst 0, 1, 0, 0, 0) := by rfl
theorem t19_10 : zT 19 10 = some (.istore_n 3, 1, 0, 0, 0) := by rfl
theorem t19_11 : zT 19 11 = some (.iload_n 3, 1, 0, 0, 0) := by rfl
theorem t19_12 : zT 19 12 = some (.aload_n 0, 1, 0, 0, 0) := by rfl
theorem t19_13 : zT 19 13 = some (.getfield 33, 3, 1, 7, 141) := by rfl
theorem t19_16 : zT 19 16 = some (.if_icmp .ge 42, 3, 0, 0, 0) := by rfl
theorem t19_19 : zT 19 19 = some (.iload_n 3, 1, 0, 0, 0) := by rfl
theorem t19_20 : zT 19 20 = some (.iload_n 1, 1, 0, 0, 0) := by rfl
theorem t19_21 : zT 19 21 = some (.if_icmp .eq 31, 3, 0, 0, 0) := by rfl
theorem t19_24 : zT 19 24 = some (.aload_n 0, 1, 0, 0, 0) := by rfl
theorem t19_25 : zT 19 25 = some (.getfield 24, 3, 1, 4, 132) := by rfl
theorem t19_28 : zT 19 28 = some (.iload_n 3, 1, 0, 0, 0) := by rfl
theorem t19_29 : zT 19 29 = some (.iaload, 1, 0, 0, 0) := by rfl
theorem t19_30 : zT 19 30 = some (.ifCond .ne 22, 3, 0, 0, 0) := by rfl
theorem t19_33 : zT 19 33 = some (.aload_n 0, 1, 0, 0, 0) := by rfl
theorem t19_34 : zT 19 34 = some (.iload_n 1, 1, 0, 0, 0) := by rfl
theorem t19_35 : zT 19 35 = some (.iload_n 3, 1, 0, 0, 0) := by rfl
theorem t19_36 : zT 19 36 = some (.invokevirtual 51, 3, 12, 0, 490) := by rfl
theorem t19_39 : zT 19 39 = some (.ifCond .eq 13, 3, 0, 0, 0) := by rfl
theorem t19_42 : zT 19 42 = some (.aload_n 0, 1, 0, 0, 0) := by rfl
theorem t19_43 : zT 19 43 = some (.getfield 24, 3, 1, 4, 132) := by rfl
theorem t19_46 : zT 19 46 = some (.iload_n 3, 1, 0, 0, 0) := by rfl
theorem t19_47 : zT 19 47 = some (.iconst 2, 1, 0, 0, 0) := by rfl
theorem t19_48 : zT 19 48 = some (.iastore, 1, 0, 0, 0) := by rfl
theorem t19_49 : zT 19 49 = some (.iinc 2 1, 3, 0, 0, 0) := by rfl
theorem t19_52 : zT 19 52 = some (.iinc 3 1, 3, 0, 0, 0) := by rfl
theorem t19_55 : zT 19 55 = some (.goto (-44), 3, 0, 0, 0) := by rfl
theorem t19_58 : zT 19 58 = some (.iload_n 2, 1, 0, 0, 0) := by rfl
theorem t19_59 : zT 19 59 = some (.ireturn, 1, 0, 0, 0) := by rfl
theorem t20_0 : zT 20 0 = some (.aload_n 0, 1, 0, 0, 0) := by rfl
theorem t20_1 : zT 20 1 = some (.getfield 27, 3, 1, 5, 136) := by rfl
theorem t20_4 : zT 20 4 = some (.iload_n 1, 1, 0, 0, 0) := by rfl
theorem t20_5 : zT 20 5 = some (.iaload, 1, 0, 0, 0) := by rfl
theorem t20_6 : zT 20 6 = some (.aload_n 0, 1, 0, 0, 0) := by rfl
theorem t20_7 : zT 20 7 = some (.getfield 21, 3, 1, 3, 128) := by rfl
theorem t20_10 : zT 20 10 = some (.iload_n 1, 1, 0, 0, 0) := by rfl
theorem t20_11 : zT 20 11 = some (.iaload, 1, 0, 0, 0) := by rfl
theorem t20_12 : zT 20 12 = some (.aload_n 0, 1, 0, 0, 0) := by rfl
theorem t20_13 : zT 20 13 = some (.getfield 18, 3, 1, 2, 124) := by rfl
theorem t20_16 : zT 20 16 = some (.iload_n 1, 1, 0, 0, 0) := by rfl
theorem t20_17 : zT 20 17 = some (.iaload, 1, 0, 0, 0) := by rfl
theorem t20_18 : zT 20 18 = some (.isub, 1, 0, 0, 0) := by rfl
theorem t20_19 : zT 20 19 = some (.isub, 1, 0, 0, 0) := by rfl
theorem t20_20 : zT 20 20 = some (.ireturn, 1, 0, 0, 0) := by rfl
theorem t21_0 : zT 21 0 = some (.iconst 0, 1, 0, 0, 0) := by rfl
theorem t21_1 : zT 21 1 = some (.istore_n 1, 1, 0, 0, 0) := by rfl
theorem t21_2 : zT 21 2 = some (.iconst 0, 1, 0, 0, 0) := by rfl
theorem t21_3 : zT 21 3 = some (.istore_n 2, 1, 0, 0, 0) := by rfl
theorem t21_4 : zT 21 4 = some (.iload_n 2, 1, 0, 0, 0) := by rfl
theorem t21_5 : zT 21 5 = some (.aload_n 0, 1, 0, 0, 0) := by rfl
theorem t21_6 : zT 21 6 = some (.getfield 33, 3, 1, 7, 141) := by rfl
theorem t21_9 : zT 21 9 = some (.if_icmp .ge 27, 3, 0, 0, 0) := by rfl
theorem t21_12 : zT 21 12 = some (.aload_n 0, 1, 0, 0, 0) := by rfl
theorem t21_13 : zT 21 13 = some (.getfield 24, 3, 1, 4, 132) := by rfl
theorem t21_16 : zT 21 16 = some (.iload_n 2, 1, 0, 0, 0) := by rfl
theorem t21_17 : zT 21 17 = some (.iaload, 1, 0, 0, 0) := by rfl
theorem t21_18 : zT 21 18 = some (.iconst 1, 1, 0, 0, 0) := by rfl
theorem t21_19 : zT 21 19 = some (.if_icmp .ne 11, 3, 0, 0, 0) := by rfl
theorem t21_22 : zT 21 22 = some (.iload_n 1, 1, 0, 0, 0) := by rfl
theorem t21_23 : zT 21 23 = some (.aload_n 0, 1, 0, 0, 0) := by rfl
theorem t21_24 : zT 21 24 = some (.iload_n 2, 1, 0, 0, 0) := by rfl
theorem t21_25 : zT 21 25 = some (.invokevirtual 55, 3, 20, 0, 502) := by rfl
theorem t21_28 : zT 21 28 = some (.iadd, 1, 0, 0, 0) := by rfl
theorem t21_29 : zT 21 29 = some (.istore_n 1, 1, 0, 0, 0) := by rfl
theorem t21_30 : zT 21 30 = some (.iinc 2 1, 3, 0, 0, 0) := by rfl
theorem t21_33 : zT 21 33 = some (.goto (-29), 3, 0, 0, 0) := by rfl
theorem t21_36 : zT 21 36 = some (.iload_n 1, 1, 0, 0, 0) := by rfl
theorem t21_37 : zT 21 37 = some (.ireturn, 1, 0, 0, 0) := by rfl
theorem t22_0 : zT 22 0 = some (.iconst 0, 1, 0, 0, 0) := by rfl
theorem t22_1 : zT 22 1 = some (.istore_n 2, 1, 0, 0, 0) := by rfl
theorem t22_2 : zT 22 2 = some (.iconst 0, 1, 0, 0, 0) := by rfl
theorem t22_3 : zT 22 3 = some (.istore_n 3, 1, 0, 0, 0) := by rfl
theorem t22_4 : zT 22 4 = some (.iload_n 3, 1, 0, 0, 0) := by rfl
theorem t22_5 : zT 22 5 = some (.aload_n 0, 1, 0, 0, 0) := by rfl
theorem t22_6 : zT 22 6 = some (.getfield 33, 3, 1, 7, 141) := by rfl
theorem t22_9 : zT 22 9 = some (.if_icmp .ge 21, 3, 0, 0, 0) := by rfl
theorem t22_12 : zT 22 12 = some (.aload_n 0, 1, 0, 0, 0) := by rfl
theorem t22_13 : zT 22 13 = some (.iload_n 1, 1, 0, 0, 0) := by rfl
theorem t22_14 : zT 22 14 = some (.iload_n 3, 1, 0, 0, 0) := by rfl
theorem t22_15 : zT 22 15 = some (.invokevirtual 59, 3, 14, 0, 631) := by rfl
theorem t22_18 : zT 22 18 = some (.ifCond .eq 6, 3, 0, 0, 0) := by rfl
theorem t22_21 : zT 22 21 = some (.iinc 2 1, 3, 0, 0, 0) := by rfl
theorem t22_24 : zT 22 24 = some (.iinc 3 1, 3, 0, 0, 0) := by rfl
theorem t22_27 : zT 22 27 = some (.goto (-23), 3, 0, 0, 0) := by rfl
theorem t22_30 : zT 22 30 = some (.iload_n 2, 1, 0, 0, 0) := by rfl
theorem t22_31 : zT 22 31 = some (.ireturn, 1, 0, 0, 0) := by rfl
theorem t23_0 : zT 23 0 = some (.iconst 0, 1, 0, 0, 0) := by rfl
theorem t23_1 : zT 23 1 = some (.istore_n 2, 1, 0, 0, 0) := by rfl
theorem t23_2 : zT 23 2 = some (.iconst 0, 1, 0, 0, 0) := by rfl
theorem t23_3 : zT 23 3 = some (.istore_n 3, 1, 0, 0, 0) := by rfl
theorem t23_4 : zT 23 4 = some (.iload_n 3, 1, 0, 0, 0) := by rfl
theorem t23_5 : zT 23 5 = some (.aload_n 0, 1, 0, 0, 0) := by rfl
theorem t23_6 : zT 23 6 = some (.getfield 33, 3, 1, 7, 141) := by rfl
theorem t23_9 : zT 23 9 = some (.if_icmp .ge 27, 3, 0, 0, 0) := by rfl
theorem t23_12 : zT 23 12 = some (.aload_n 0, 1, 0, 0, 0) := by rfl
theorem t23_13 : zT 23 13 = some (.getfield 9, 3, 1, 0, 116) := by rfl
theorem t23_16 : zT 23 16 = some (.iload_n 3, 1, 0, 0, 0) := by rfl
theorem t23_17 : zT 23 17 = some (.iaload, 1, 0, 0, 0) := by rfl
theorem t23_18 : zT 23 18 = some (.iload_n 1, 1, 0, 0, 0) := by rfl
theorem t23_19 : zT 23 19 = some (.if_icmp .ne 11, 3, 0, 0, 0) := by rfl
theorem t23_22 : zT 23 22 = some (.iload_n 2, 1, 0, 0, 0) := by rfl
theorem t23_23 : zT 23 23 = some (.aload_n 0, 1, 0, 0, 0) := by rfl
theorem t23_24 : zT 23 24 = some (.iload_n 3, 1, 0, 0, 0) := by rfl
theorem t23_25 : zT 23 25 = some (.invokevirtual 62, 3, 22, 0, 658) := by rfl
theorem t23_28 : zT 23 28 = some (.iadd, 1, 0, 0, 0) := by rfl
theorem t23_29 : zT 23 29 = some (.istore_n 2, 1, 0, 0, 0) := by rfl
theorem t23_30 : zT 23 30 = some (.iinc 3 1, 3, 0, 0, 0) := by rfl
theorem t23_33 : zT 23 33 = some (.goto (-29), 3, 0, 0, 0) := by rfl
theorem t23_36 : zT 23 36 = some (.iload_n 2, 1, 0, 0, 0) := by rfl
theorem t23_37 : zT 23 37 = some (.ireturn, 1, 0, 0, 0) := by rfl
theorem t24_0 : zT 24 0 = some (.iconst 0, 1, 0, 0, 0) := by rfl
theorem t24_1 : zT 24 1 = some (.istore_n 1, 1, 0, 0, 0) := by rfl
theorem t24_2 : zT 24 2 = some (.iconst 0, 1, 0, 0, 0) := by rfl
theorem t24_3 : zT 24 3 = some (.istore_n 2, 1, 0, 0, 0) := by rfl
theorem t24_4 : zT 24 4 = some (.iload_n 2, 1, 0, 0, 0) := by rfl
theorem t24_5 : zT 24 5 = some (.aload_n 0, 1, 0, 0, 0) := by rfl
theorem t24_6 : zT 24 6 = some (.getfield 33, 3, 1, 7, 141) := by rfl
theorem t24_9 : zT 24 9 = some (.if_icmp .ge 39, 3, 0, 0, 0) := by rfl
theorem t24_12 : zT 24 12 = some (.iload_n 2, 1, 0, 0, 0) := by rfl
theorem t24_13 : zT 24 13 = some (.iconst 1, 1, 0, 0, 0) := by rfl
theorem t24_14 : zT 24 14 = some (.iadd, 1, 0, 0, 0) := by rfl
theorem t24_15 : zT 24 15 = some (.istore_n 3, 1, 0, 0, 0) := by rfl
theorem t24_16 : zT 24 16 = some (.iload_n 3, 1, 0, 0, 0) := by rfl
theorem t24_17 : zT 24 17 = some (.aload_n 0, 1, 0, 0, 0) := by rfl
theorem t24_18 : zT 24 18 = some (.getfield 33, 3, 1, 7, 141) := by rfl
theorem t24_21 : zT 24 21 = some (.if_icmp .ge 21, 3, 0, 0, 0) := by rfl
theorem t24_24 : zT 24 24 = some (.aload_n 0, 1, 0, 0, 0) := by rfl
theorem t24_25 : zT 24 25 = some (.iload_n 2, 1, 0, 0, 0) := by rfl
theorem t24_26 : zT 24 26 = some (.iload_n 3, 1, 0, 0, 0) := by rfl
theorem t24_27 : zT 24 27 = some (.invokevirtual 59, 3, 14, 0, 631) := by rfl
theorem t24_30 : zT 24 30 = some (.ifCond .eq 6, 3, 0, 0, 0) := by rfl
theorem t24_33 : zT 24 33 = some (.iinc 1 1, 3, 0, 0, 0) := by rfl
theorem t24_36 : zT 24 36 = some (.iinc 3 1, 3, 0, 0, 0) := by rfl
theorem t24_39 : zT 24 39 = some (.goto (-23), 3, 0, 0, 0) := by rfl
theorem t24_42 : zT 24 42 = some (.iinc 2 1, 3, 0, 0, 0) := by rfl
theorem t24_45 : zT 24 45 = some (.goto (-41), 3, 0, 0, 0) := by rfl
theorem t24_48 : zT 24 48 = some (.iload_n 1, 1, 0, 0, 0) := by rfl
theorem t24_49 : zT 24 49 = some (.ireturn, 1, 0, 0, 0) := by rfl
theorem t25_0 : zT 25 0 = some (.iconst 0, 1, 0, 0, 0) := by rfl
theorem t25_1 : zT 25 1 = some (.istore_n 2, 1, 0, 0, 0) := by rfl
theorem t25_2 : zT 25 2 = some (.iconst 0, 1, 0, 0, 0) := by rfl
theorem t25_3 : zT 25 3 = some (.istore_n 3, 1, 0, 0, 0) := by rfl
theorem t25_4 : zT 25 4 = some (.iload_n 3, 1, 0, 0, 0) := by rfl
theorem t25_5 : zT 25 5 = some (.aload_n 0, 1, 0, 0, 0) := by rfl
theorem t25_6 : zT 25 6 = some (.getfield 33, 3, 1, 7, 141) := by rfl
theorem t25_9 : zT 25 9 = some (.if_icmp .ge 22, 3, 0, 0, 0) := by rfl
theorem t25_12 : zT 25 12 = some (.aload_n 0, 1, 0, 0, 0) := by rfl
theorem t25_13 : zT 25 13 = some (.getfield 24, 3, 1, 4, 132) := by rfl
theorem t25_16 : zT 25 16 = some (.iload_n 3, 1, 0, 0, 0) := by rfl
theorem t25_17 : zT 25 17 = some (.iaload, 1, 0, 0, 0) := by rfl
theorem t25_18 : zT 25 18 = some (.iload_n 1, 1, 0, 0, 0) := by rfl
theorem t25_19 : zT 25 19 = some (.if_icmp .ne 6, 3, 0, 0, 0) := by rfl
theorem t25_22 : zT 25 22 = some (.iinc 2 1, 3, 0, 0, 0) := by rfl
theorem t25_25 : zT 25 25 = some (.iinc 3 1, 3, 0, 0, 0) := by rfl
theorem t25_28 : zT 25 28 = some (.goto (-24), 3, 0, 0, 0) := by rfl
theorem t25_31 : zT 25 31 = some (.iload_n 2, 1, 0, 0, 0) := by rfl
theorem t25_32 : zT 25 32 = some (.ireturn, 1, 0, 0, 0) := by rfl
theorem t26_0 : zT 26 0 = some (.iconst 0, 1, 0, 0, 0) := by rfl
theorem t26_1 : zT 26 1 = some (.istore_n 2, 1, 0, 0, 0) := by rfl
theorem t26_2 : zT 26 2 = some (.iconst 0, 1, 0, 0, 0) := by rfl
theorem t26_3 : zT 26 3 = some (.istore_n 3, 1, 0, 0, 0) := by rfl
theorem t26_4 : zT 26 4 = some (.iload_n 3, 1, 0, 0, 0) := by rfl
theorem t26_5 : zT 26 5 = some (.aload_n 0, 1, 0, 0, 0) := by rfl
theorem t26_6 : zT 26 6 = some (.getfield 33, 3, 1, 7, 141) := by rfl
theorem t26_9 : zT 26 9 = some (.if_icmp .ge 22, 3, 0, 0, 0) := by rfl
theorem t26_12 : zT 26 12 = some (.aload_n 0, 1, 0, 0, 0) := by rfl
theorem t26_13 : zT 26 13 = some (.getfield 9, 3, 1, 0, 116) := by rfl
theorem t26_16 : zT 26 16 = some (.iload_n 3, 1, 0, 0, 0) := by rfl
theorem t26_17 : zT 26 17 = some (.iaload, 1, 0, 0, 0) := by rfl
theorem t26_18 : zT 26 18 = some (.iload_n 1, 1, 0, 0, 0) := by rfl
theorem t26_19 : zT 26 19 = some (.if_icmp .ne 6, 3, 0, 0, 0) := by rfl
theorem t26_22 : zT 26 22 = some (.iinc 2 1, 3, 0, 0, 0) := by rfl
theorem t26_25 : zT 26 25 = some (.iinc 3 1, 3, 0, 0, 0) := by rfl
theorem t26_28 : zT 26 28 = some (.goto (-24), 3, 0, 0, 0) := by rfl
theorem t26_31 : zT 26 31 = some (.iload_n 2, 1, 0, 0, 0) := by rfl
theorem t26_32 : zT 26 32 = some (.ireturn, 1, 0, 0, 0) := by rfl
theorem t27_0 : zT 27 0 = some (.iconst 0, 1, 0, 0, 0) := by rfl
theorem t27_1 : zT 27 1 = some (.istore_n 3, 1, 0, 0, 0) := by rfl
theorem t27_2 : zT 27 2 = some (.iconst 0, 1, 0, 0, 0) := by rfl
theorem t27_3 : zT 27 3 = some (.istore 4, 2, 0, 0, 0) := by rfl
theorem t27_5 : zT 27 5 = some (.iload 4, 2, 0, 0, 0) := by rfl
theorem t27_7 : zT 27 7 = some (.aload_n 0, 1, 0, 0, 0) := by rfl
theorem t27_8 : zT 27 8 = some (.getfield 33, 3, 1, 7, 141) := by rfl
theorem t27_11 : zT 27 11 = some (.if_icmp .ge 34, 3, 0, 0, 0) := by rfl
theorem t27_14 : zT 27 14 = some (.aload_n 0, 1, 0, 0, 0) := by rfl
theorem t27_15 : zT 27 15 = some (.getfield 9, 3, 1, 0, 116) := by rfl
theorem t27_18 : zT 27 18 = some (.iload 4, 2, 0, 0, 0) := by rfl
theorem t27_20 : zT 27 20 = some (.iaload, 1, 0, 0, 0) := by rfl
theorem t27_21 : zT 27 21 = some (.iload_n 1, 1, 0, 0, 0) := by rfl
theorem t27_22 : zT 27 22 = some (.if_icmp .ne 17, 3, 0, 0, 0) := by rfl
theorem t27_25 : zT 27 25 = some (.aload_n 0, 1, 0, 0, 0) := by rfl
theorem t27_26 : zT 27 26 = some (.getfield 24, 3, 1, 4, 132) := by rfl
theorem t27_29 : zT 27 29 = some (.iload 4, 2, 0, 0, 0) := by rfl
theorem t27_31 : zT 27 31 = some (.iaload, 1, 0, 0, 0) := by rfl
theorem t27_32 : zT 27 32 = some (.iload_n 2, 1, 0, 0, 0) := by rfl
theorem t27_33 : zT 27 33 = some (.if_icmp .ne 6, 3, 0, 0, 0) := by rfl
theorem t27_36 : zT 27 36 = some (.iinc 3 1, 3, 0, 0, 0) := by rfl
theorem t27_39 : zT 27 39 = some (.iinc 4 1, 3, 0, 0, 0) := by rfl
theorem t27_42 : zT 27 42 = some (.goto (-37), 3, 0, 0, 0) := by rfl
theorem t27_45 : zT 27 45 = some (.iload_n 3, 1, 0, 0, 0) := by rfl
theorem t27_46 : zT 27 46 = some (.ireturn, 1, 0, 0, 0) := by rfl
theorem t28_0 : zT 28 0 = some (.iconst 0, 1, 0, 0, 0) := by rfl
theorem t28_1 : zT 28 1 = some (.istore_n 3, 1, 0, 0, 0) := by rfl
theorem t28_2 : zT 28 2 = some (.iconst 0, 1, 0, 0, 0) := by rfl
theorem t28_3 : zT 28 3 = some (.istore 4, 2, 0, 0, 0) := by rfl
theorem t28_5 : zT 28 5 = some (.iload 4, 2, 0, 0, 0) := by rfl
theorem t28_7 : zT 28 7 = some (.aload_n 0, 1, 0, 0, 0) := by rfl
theorem t28_8 : zT 28 8 = some (.getfield 33, 3, 1, 7, 141) := by rfl
theorem t28_11 : zT 28 11 = some (.if_icmp .ge 49, 3, 0, 0, 0) := by rfl
theorem t28_14 : zT 28 14 = some (.iload 4, 2, 0, 0, 0) := by rfl
theorem t28_16 : zT 28 16 = some (.aload_n 1, 1, 0, 0, 0) := by rfl
theorem t28_17 : zT 28 17 = some (.arraylength, 1, 0, 0, 0) := by rfl
theorem t28_18 : zT 28 18 = some (.if_icmp .ge 42, 3, 0, 0, 0) := by rfl
theorem t28_21 : zT 28 21 = some (.aload_n 0, 1, 0, 0, 0) := by rfl
theorem t28_22 : zT 28 22 = some (.getfield 9, 3, 1, 0, 116) := by rfl
theorem t28_25 : zT 28 25 = some (.iload 4, 2, 0, 0, 0) := by rfl
theorem t28_27 : zT 28 27 = some (.iaload, 1, 0, 0, 0) := by rfl
theorem t28_28 : zT 28 28 = some (.iload_n 2, 1, 0, 0, 0) := by rfl
theorem t28_29 : zT 28 29 = some (.if_icmp .ne 25, 3, 0, 0, 0) := by rfl
theorem t28_32 : zT 28 32 = some (.aload_n 1, 1, 0, 0, 0) := by rfl
theorem t28_33 : zT 28 33 = some (.iload 4, 2, 0, 0, 0) := by rfl
theorem t28_35 : zT 28 35 = some (.iaload, 1, 0, 0, 0) := by rfl
theorem t28_36 : zT 28 36 = some (.iconst 2, 1, 0, 0, 0) := by rfl
theorem t28_37 : zT 28 37 = some (.if_icmp .eq 17, 3, 0, 0, 0) := by rfl
theorem t28_40 : zT 28 40 = some (.aload_n 0, 1, 0, 0, 0) := by rfl
theorem t28_41 : zT 28 41 = some (.getfield 24, 3, 1, 4, 132) := by rfl
theorem t28_44 : zT 28 44 = some (.iload 4, 2, 0, 0, 0) := by rfl
theorem t28_46 : zT 28 46 = some (.iaload, 1, 0, 0, 0) := by rfl
theorem t28_47 : zT 28 47 = some (.iconst 2, 1, 0, 0, 0) := by rfl
theorem t28_48 : zT 28 48 = some (.if_icmp .ne 6, 3, 0, 0, 0) := by rfl
theorem t28_51 : zT 28 51 = some (.iinc 3 1, 3, 0, 0, 0) := by rfl
theorem t28_54 : zT 28 54 = some (.iinc 4 1, 3, 0, 0, 0) := by rfl
theorem t28_57 : zT 28 57 = some (.goto (-52), 3, 0, 0, 0) := by rfl
theorem t28_60 : zT 28 60 = some (.iload_n 3, 1, 0, 0, 0) := by rfl
theorem t28_61 : zT 28 61 = some (.ireturn, 1, 0, 0, 0) := by rfl
theorem t29_0 : zT 29 0 = some (.iconst 0, 1, 0, 0, 0) := by rfl
theorem t29_1 : zT 29 1 = some (.istore_n 1, 1, 0, 0, 0) := by rfl
theorem t29_2 : zT 29 2 = some (.iload_n 1, 1, 0, 0, 0) := by rfl
theorem t29_3 : zT 29 3 = some (.aload_n 0, 1, 0, 0, 0) := by rfl
theorem t29_4 : zT 29 4 = some (.getfield 33, 3, 1, 7, 141) := by rfl
theorem t29_7 : zT 29 7 = some (.if_icmp .ge 23, 3, 0, 0, 0) := by rfl
theorem t29_10 : zT 29 10 = some (.aload_n 0, 1, 0, 0, 0) := by rfl
theorem t29_11 : zT 29 11 = some (.getfield 24, 3, 1, 4, 132) := by rfl
theorem t29_14 : zT 29 14 = some (.iload_n 1, 1, 0, 0, 0) := by rfl
theorem t29_15 : zT 29 15 = some (.iaload, 1, 0, 0, 0) := by rfl
theorem t29_16 : zT 29 16 = some (.ifCond .ne 8, 3, 0, 0, 0) := by rfl
theorem t29_19 : zT 29 19 = some (.aload_n 0, 1, 0, 0, 0) := by rfl
theorem t29_20 : zT 29 20 = some (.iload_n 1, 1, 0, 0, 0) := by rfl
theorem t29_21 : zT 29 21 = some (.invokevirtual 65, 3, 30, 0, 585) := by rfl
theorem t29_24 : zT 29 24 = some (.iinc 1 1, 3, 0, 0, 0) := by rfl
theorem t29_27 : zT 29 27 = some (.goto (-25), 3, 0, 0, 0) := by rfl
theorem t29_30 : zT 29 30 = some (.iconst 0, 1, 0, 0, 0) := by rfl
theorem t29_31 : zT 29 31 = some (.istore_n 1, 1, 0, 0, 0) := by rfl
theorem t29_32 : zT 29 32 = some (.iconst 0, 1, 0, 0, 0) := by rfl
theorem t29_33 : zT 29 33 = some (.istore_n 2, 1, 0, 0, 0) := by rfl
theorem t29_34 : zT 29 34 = some (.iload_n 2, 1, 0, 0, 0) := by rfl
theorem t29_35 : zT 29 35 = some (.aload_n 0, 1, 0, 0, 0) := by rfl
theorem t29_36 : zT 29 36 = some (.getfield 33, 3, 1, 7, 141) := by rfl
theorem t29_39 : zT 29 39 = some (.if_icmp .ge 37, 3, 0, 0, 0) := by rfl
theorem t29_42 : zT 29 42 = some (.aload_n 0, 1, 0, 0, 0) := by rfl
theorem t29_43 : zT 29 43 = some (.getfield 24, 3, 1, 4, 132) := by rfl
theorem t29_46 : zT 29 46 = some (.iload_n 2, 1, 0, 0, 0) := by rfl
theorem t29_47 : zT 29 47 = some (.iaload, 1, 0, 0, 0) := by rfl
theorem t29_48 : zT 29 48 = some (.ifCond .ne 22, 3, 0, 0, 0) := by rfl
theorem t29_51 : zT 29 51 = some (.aload_n 0, 1, 0, 0, 0) := by rfl
theorem t29_52 : zT 29 52 = some (.iload_n 2, 1, 0, 0, 0) := by rfl
theorem t29_53 : zT 29 53 = some (.iload_n 1, 1, 0, 0, 0) := by rfl
theorem t29_54 : zT 29 54 = some (.invokevirtual 69, 3, 31, 0, 598) := by rfl
theorem t29_57 : zT 29 57 = some (.ifCond .ne 13, 3, 0, 0, 0) := by rfl
theorem t29_60 : zT 29 60 = some (.aload_n 0, 1, 0, 0, 0) := by rfl
theorem t29_61 : zT 29 61 = some (.aload_n 0, 1, 0, 0, 0) := by rfl
theorem t29_62 : zT 29 62 = some (.iload_n 2, 1, 0, 0, 0) := by rfl
theorem t29_63 : zT 29 63 = some (.iload_n 1, 1, 0, 0, 0) := by rfl
theorem t29_64 : zT 29 64 = some (.invokevirtual 37, 3, 10, 0, 462) := by rfl
theorem t29_67 : zT 29 67 = some (.iinc 1 1, 3, 0, 0, 0) := by rfl
theorem t29_70 : zT 29 70 = some (.iinc 2 1, 3, 0, 0, 0) := by rfl
theorem t29_73 : zT 29 73 = some (.goto (-39), 3, 0, 0, 0) := by rfl
theorem t29_76 : zT 29 76 = some (.aload_n 0, 1, 0, 0, 0) := by rfl
theorem t29_77 : zT 29 77 = some (.iload_n 1, 1, 0, 0, 0) := by rfl
theorem t29_78 : zT 29 78 = some (.putfield 33, 3, 1, 7, 141) := by rfl
theorem t29_81 : zT 29 81 = some (.return_, 1, 0, 0, 0) := by rfl
theorem t30_0 : zT 30 0 = some (.aload_n 0, 1, 0, 0, 0) := by rfl
theorem t30_1 : zT 30 1 = some (.iload_n 1, 1, 0, 0, 0) := by rfl
theorem t30_2 : zT 30 2 = some (.iconst 1, 1, 0, 0, 0) := by rfl
theorem t30_3 : zT 30 3 = some (.invokevirtual 72, 3, 16, 0, 589) := by rfl
theorem t30_6 : zT 30 6 = some (.ifCond .eq 11, 3, 0, 0, 0) := by rfl
theorem t30_9 : zT 30 9 = some (.aload_n 0, 1, 0, 0, 0) := by rfl
theorem t30_10 : zT 30 10 = some (.getfield 24, 3, 1, 4, 132) := by rfl
theorem t30_13 : zT 30 13 = some (.iload_n 1, 1, 0, 0, 0) := by rfl
theorem t30_14 : zT 30 14 = some (.iconst 2, 1, 0, 0, 0) := by rfl
theorem t30_15 : zT 30 15 = some (.iastore, 1, 0, 0, 0) := by rfl
theorem t30_16 : zT 30 16 = some (.return_, 1, 0, 0, 0) := by rfl
theorem t30_17 : zT 30 17 = some (.aload_n 0, 1, 0, 0, 0) := by rfl
theorem t30_18 : zT 30 18 = some (.aload_n 0, 1, 0, 0, 0) := by rfl
theorem t30_19 : zT 30 19 = some (.getfield 21, 3, 1, 3, 128) := by rfl
theorem t30_22 : zT 30 22 = some (.iload_n 1, 1, 0, 0, 0) := by rfl
theorem t30_23 : zT 30 23 = some (.iaload, 1, 0, 0, 0) := by rfl
theorem t30_24 : zT 30 24 = some (.invokevirtual 75, 3, 32, 0, 590) := by rfl
theorem t30_27 : zT 30 27 = some (.istore_n 2, 1, 0, 0, 0) := by rfl
theorem t30_28 : zT 30 28 = some (.aload_n 0, 1, 0, 0, 0) := by rfl
theorem t30_29 : zT 30 29 = some (.getfield 18, 3, 1, 2, 124) := by rfl
theorem t30_32 : zT 30 32 = some (.iload_n 1, 1, 0, 0, 0) := by rfl
theorem t30_33 : zT 30 33 = some (.aload_n 0, 1, 0, 0, 0) := by rfl
theorem t30_34 : zT 30 34 = some (.getfield 15, 3, 1, 1, 120) := by rfl
theorem t30_37 : zT 30 37 = some (.iload_n 1, 1, 0, 0, 0) := by rfl
theorem t30_38 : zT 30 38 = some (.iaload, 1, 0, 0, 0) := by rfl
theorem t30_39 : zT 30 39 = some (.iconst 1, 1, 0, 0, 0) := by rfl
theorem t30_40 : zT 30 40 = some (.if_icmp .ne 7, 3, 0, 0, 0) := by rfl
theorem t30_43 : zT 30 43 = some (.iload_n 2, 1, 0, 0, 0) := by rfl
theorem t30_44 : zT 30 44 = some (.goto 24, 3, 0, 0, 0) := by rfl
theorem t30_47 : zT 30 47 = some (.aload_n 0, 1, 0, 0, 0) := by rfl
theorem t30_48 : zT 30 48 = some (.aload_n 0, 1, 0, 0, 0) := by rfl
theorem t30_49 : zT 30 49 = some (.getfield 18, 3, 1, 2, 124) := by rfl
theorem t30_52 : zT 30 52 = some (.iload_n 1, 1, 0, 0, 0) := by rfl
theorem t30_53 : zT 30 53 = some (.iaload, 1, 0, 0, 0) := by rfl
theorem t30_54 : zT 30 54 = some (.invokevirtual 75, 3, 32, 0, 590) := by rfl
theorem t30_57 : zT 30 57 = some (.aload_n 0, 1, 0, 0, 0) := by rfl
theorem t30_58 : zT 30 58 = some (.aload_n 0, 1, 0, 0, 0) := by rfl
theorem t30_59 : zT 30 59 = some (.getfield 18, 3, 1, 2, 124) := by rfl
theorem t30_62 : zT 30 62 = some (.iload_n 1, 1, 0, 0, 0) := by rfl
theorem t30_63 : zT 30 63 = some (.iaload, 1, 0, 0, 0) := by rfl
theorem t30_64 : zT 30 64 = some (.invokevirtual 78, 3, 33, 0, 594) := by rfl
theorem t30_67 : zT 30 67 = some (.iadd, 1, 0, 0, 0) := by rfl
theorem t30_68 : zT 30 68 = some (.iastore, 1, 0, 0, 0) := by rfl
theorem t30_69 : zT 30 69 = some (.aload_n 0, 1, 0, 0, 0) := by rfl
theorem t30_70 : zT 30 70 = some (.getfield 21, 3, 1, 3, 128) := by rfl
theorem t30_73 : zT 30 73 = some (.iload_n 1, 1, 0, 0, 0) := by rfl
theorem t30_74 : zT 30 74 = some (.iload_n 2, 1, 0, 0, 0) := by rfl
theorem t30_75 : zT 30 75 = some (.iastore, 1, 0, 0, 0) := by rfl
theorem t30_76 : zT 30 76 = some (.return_, 1, 0, 0, 0) := by rfl
theorem t31_0 : zT 31 0 = some (.iconst 0, 1, 0, 0, 0) := by rfl
theorem t31_1 : zT 31 1 = some (.istore_n 3, 1, 0, 0, 0) := by rfl
theorem t31_2 : zT 31 2 = some (.iload_n 3, 1, 0, 0, 0) := by rfl
theorem t31_3 : zT 31 3 = some (.iload_n 2, 1, 0, 0, 0) := by rfl
theorem t31_4 : zT 31 4 = some (.if_icmp .ge 61, 3, 0, 0, 0) := by rfl
theorem t31_7 : zT 31 7 = some (.aload_n 0, 1, 0, 0, 0) := by rfl
theorem t31_8 : zT 31 8 = some (.getfield 15, 3, 1, 1, 120) := by rfl
theorem t31_11 : zT 31 11 = some (.iload_n 1, 1, 0, 0, 0) := by rfl
theorem t31_12 : zT 31 12 = some (.iaload, 1, 0, 0, 0) := by rfl
theorem t31_13 : zT 31 13 = some (.iconst 1, 1, 0, 0, 0) := by rfl
theorem t31_14 : zT 31 14 = some (.if_icmp .ne 45, 3, 0, 0, 0) := by rfl
theorem t31_17 : zT 31 17 = some (.aload_n 0, 1, 0, 0, 0) := by rfl
theorem t31_18 : zT 31 18 = some (.getfield 15, 3, 1, 1, 120) := by rfl
theorem t31_21 : zT 31 21 = some (.iload_n 3, 1, 0, 0, 0) := by rfl
theorem t31_22 : zT 31 22 = some (.iaload, 1, 0, 0, 0) := by rfl
theorem t31_23 : zT 31 23 = some (.iconst 1, 1, 0, 0, 0) := by rfl
theorem t31_24 : zT 31 24 = some (.if_icmp .ne 35, 3, 0, 0, 0) := by rfl
theorem t31_27 : zT 31 27 = some (.aload_n 0, 1, 0, 0, 0) := by rfl
theorem t31_28 : zT 31 28 = some (.getfield 9, 3, 1, 0, 116) := by rfl
theorem t31_31 : zT 31 31 = some (.iload_n 3, 1, 0, 0, 0) := by rfl
theorem t31_32 : zT 31 32 = some (.iaload, 1, 0, 0, 0) := by rfl
theorem t31_33 : zT 31 33 = some (.aload_n 0, 1, 0, 0, 0) := by rfl
theorem t31_34 : zT 31 34 = some (.getfield 9, 3, 1, 0, 116) := by rfl
theorem t31_37 : zT 31 37 = some (.iload_n 1, 1, 0, 0, 0) := by rfl
theorem t31_38 : zT 31 38 = some (.iaload, 1, 0, 0, 0) := by rfl
theorem t31_39 : zT 31 39 = some (.if_icmp .ne 20, 3, 0, 0, 0) := by rfl
theorem t31_42 : zT 31 42 = some (.aload_n 0, 1, 0, 0, 0) := by rfl
theorem t31_43 : zT 31 43 = some (.getfield 18, 3, 1, 2, 124) := by rfl
theorem t31_46 : zT 31 46 = some (.iload_n 3, 1, 0, 0, 0) := by rfl
theorem t31_47 : zT 31 47 = some (.iaload, 1, 0, 0, 0) := by rfl
theorem t31_48 : zT 31 48 = some (.aload_n 0, 1, 0, 0, 0) := by rfl
theorem t31_49 : zT 31 49 = some (.getfield 18, 3, 1, 2, 124) := by rfl
theorem t31_52 : zT 31 52 = some (.iload_n 1, 1, 0, 0, 0) := by rfl
theorem t31_53 : zT 31 53 = some (.iaload, 1, 0, 0, 0) := by rfl
theorem t31_54 : zT 31 54 = some (.if_icmp .ne 5, 3, 0, 0, 0) := by rfl
theorem t31_57 : zT 31 57 = some (.iconst 1, 1, 0, 0, 0) := by rfl
theorem t31_58 : zT 31 58 = some (.ireturn, 1, 0, 0, 0) := by rfl
theorem t31_59 : zT 31 59 = some (.iinc 3 1, 3, 0, 0, 0) := by rfl
theorem t31_62 : zT 31 62 = some (.goto (-60), 3, 0, 0, 0) := by rfl
theorem t31_65 : zT 31 65 = some (.iconst 0, 1, 0, 0, 0) := by rfl
theorem t31_66 : zT 31 66 = some (.ireturn, 1, 0, 0, 0) := by rfl
theorem t32_0 : zT 32 0 = some (.iload_n 1, 1, 0, 0, 0) := by rfl
theorem t32_1 : zT 32 1 = some (.istore_n 2, 1, 0, 0, 0) := by rfl
theorem t32_2 : zT 32 2 = some (.iconst 0, 1, 0, 0, 0) := by rfl
theorem t32_3 : zT 32 3 = some (.istore_n 3, 1, 0, 0, 0) := by rfl
theorem t32_4 : zT 32 4 = some (.iload_n 3, 1, 0, 0, 0) := by rfl
theorem t32_5 : zT 32 5 = some (.aload_n 0, 1, 0, 0, 0) := by rfl
theorem t32_6 : zT 32 6 = some (.getfield 33, 3, 1, 7, 141) := by rfl
theorem t32_9 : zT 32 9 = some (.if_icmp .ge 77, 3, 0, 0, 0) := by rfl
theorem t32_12 : zT 32 12 = some (.aload_n 0, 1, 0, 0, 0) := by rfl
theorem t32_13 : zT 32 13 = some (.getfield 15, 3, 1, 1, 120) := by rfl
theorem t32_16 : zT 32 16 = some (.iload_n 3, 1, 0, 0, 0) := by rfl
theorem t32_17 : zT 32 17 = some (.iaload, 1, 0, 0, 0) := by rfl
theorem t32_18 : zT 32 18 = some (.iconst 1, 1, 0, 0, 0) := by rfl
theorem t32_19 : zT 32 19 = some (.if_icmp .ne 21, 3, 0, 0, 0) := by rfl
theorem t32_22 : zT 32 22 = some (.aload_n 0, 1, 0, 0, 0) := by rfl
theorem t32_23 : zT 32 23 = some (.getfield 18, 3, 1, 2, 124) := by rfl
theorem t32_26 : zT 32 26 = some (.iload_n 3, 1, 0, 0, 0) := by rfl
theorem t32_27 : zT 32 27 = some (.iaload, 1, 0, 0, 0) := by rfl
theorem t32_28 : zT 32 28 = some (.iload_n 1, 1, 0, 0, 0) := by rfl
theorem t32_29 : zT 32 29 = some (.if_icmp .ge 7, 3, 0, 0, 0) := by rfl
theorem t32_32 : zT 32 32 = some (.iconst 1, 1, 0, 0, 0) := by rfl
theorem t32_33 : zT 32 33 = some (.goto 22, 3, 0, 0, 0) := by rfl
theorem t32_36 : zT 32 36 = some (.iconst 0, 1, 0, 0, 0) := by rfl
theorem t32_37 : zT 32 37 = some (.goto 18, 3, 0, 0, 0) := by rfl
theorem t32_40 : zT 32 40 = some (.aload_n 0, 1, 0, 0, 0) := by rfl
theorem t32_41 : zT 32 41 = some (.getfield 21, 3, 1, 3, 128) := by rfl
theorem t32_44 : zT 32 44 = some (.iload_n 3, 1, 0, 0, 0) := by rfl
theorem t32_45 : zT 32 45 = some (.iaload, 1, 0, 0, 0) := by rfl
theorem t32_46 : zT 32 46 = some (.iload_n 1, 1, 0, 0, 0) := by rfl
theorem t32_47 : zT 32 47 = some (.if_icmp .gt 7, 3, 0, 0, 0) := by rfl
theorem t32_50 : zT 32 50 = some (.iconst 1, 1, 0, 0, 0) := by rfl
theorem t32_51 : zT 32 51 = some (.goto 4, 3, 0, 0, 0) := by rfl
theorem t32_54 : zT 32 54 = some (.iconst 0, 1, 0, 0, 0) := by rfl
theorem t32_55 : zT 32 55 = some (.istore 4, 2, 0, 0, 0) := by rfl
theorem t32_57 : zT 32 57 = some (.aload_n 0, 1, 0, 0, 0) := by rfl
theorem t32_58 : zT 32 58 = some (.getfield 24, 3, 1, 4, 132) := by rfl
theorem t32_61 : zT 32 61 = some (.iload_n 3, 1, 0, 0, 0) := by rfl
theorem t32_62 : zT 32 62 = some (.iaload, 1, 0, 0, 0) := by rfl
theorem t32_63 : zT 32 63 = some (.iconst 1, 1, 0, 0, 0) := by rfl
theorem t32_64 : zT 32 64 = some (.if_icmp .ne 16, 3, 0, 0, 0) := by rfl
theorem t32_67 : zT 32 67 = some (.iload 4, 2, 0, 0, 0) := by rfl
theorem t32_69 : zT 32 69 = some (.ifCond .eq 11, 3, 0, 0, 0) := by rfl
theorem t32_72 : zT 32 72 = some (.iload_n 2, 1, 0, 0, 0) := by rfl
theorem t32_73 : zT 32 73 = some (.aload_n 0, 1, 0, 0, 0) := by rfl
theorem t32_74 : zT 32 74 = some (.iload_n 3, 1, 0, 0, 0) := by rfl
theorem t32_75 : zT 32 75 = some (.invokevirtual 55, 3, 20, 0, 502) := by rfl
theorem t32_78 : zT 32 78 = some (.iadd, 1, 0, 0, 0) := by rfl
theorem t32_79 : zT 32 79 = some (.istore_n 2, 1, 0, 0, 0) := by rfl
theorem t32_80 : zT 32 80 = some (.iinc 3 1, 3, 0, 0, 0) := by rfl
theorem t32_83 : zT 32 83 = some (.goto (-79), 3, 0, 0, 0) := by rfl
theorem t32_86 : zT 32 86 = some (.iload_n 2, 1, 0, 0, 0) := by rfl
theorem t32_87 : zT 32 87 = some (.ireturn, 1, 0, 0, 0) := by rfl
theorem t33_0 : zT 33 0 = some (.iconst 0, 1, 0, 0, 0) := by rfl
theorem t33_1 : zT 33 1 = some (.istore_n 2, 1, 0, 0, 0) := by rfl
theorem t33_2 : zT 33 2 = some (.iconst 0, 1, 0, 0, 0) := by rfl
theorem t33_3 : zT 33 3 = some (.istore_n 3, 1, 0, 0, 0) := by rfl
theorem t33_4 : zT 33 4 = some (.iload_n 3, 1, 0, 0, 0) := by rfl
theorem t33_5 : zT 33 5 = some (.aload_n 0, 1, 0, 0, 0) := by rfl
theorem t33_6 : zT 33 6 = some (.getfield 33, 3, 1, 7, 141) := by rfl
theorem t33_9 : zT 33 9 = some (.if_icmp .ge 48, 3, 0, 0, 0) := by rfl
theorem t33_12 : zT 33 12 = some (.aload_n 0, 1, 0, 0, 0) := by rfl
theorem t33_13 : zT 33 13 = some (.getfield 24, 3, 1, 4, 132) := by rfl
theorem t33_16 : zT 33 16 = some (.iload_n 3, 1, 0, 0, 0) := by rfl
theorem t33_17 : zT 33 17 = some (.iaload, 1, 0, 0, 0) := by rfl
theorem t33_18 : zT 33 18 = some (.iconst 1, 1, 0, 0, 0) := by rfl
theorem t33_19 : zT 33 19 = some (.if_icmp .ne 32, 3, 0, 0, 0) := by rfl
theorem t33_22 : zT 33 22 = some (.aload_n 0, 1, 0, 0, 0) := by rfl
theorem t33_23 : zT 33 23 = some (.getfield 15, 3, 1, 1, 120) := by rfl
theorem t33_26 : zT 33 26 = some (.iload_n 3, 1, 0, 0, 0) := by rfl
theorem t33_27 : zT 33 27 = some (.iaload, 1, 0, 0, 0) := by rfl
theorem t33_28 : zT 33 28 = some (.iconst 1, 1, 0, 0, 0) := by rfl
theorem t33_29 : zT 33 29 = some (.if_icmp .ne 22, 3, 0, 0, 0) := by rfl
theorem t33_32 : zT 33 32 = some (.aload_n 0, 1, 0, 0, 0) := by rfl
theorem t33_33 : zT 33 33 = some (.getfield 18, 3, 1, 2, 124) := by rfl
theorem t33_36 : zT 33 36 = some (.iload_n 3, 1, 0, 0, 0) := by rfl
theorem t33_37 : zT 33 37 = some (.iaload, 1, 0, 0, 0) := by rfl
theorem t33_38 : zT 33 38 = some (.iload_n 1, 1, 0, 0, 0) := by rfl
theorem t33_39 : zT 33 39 = some (.if_icmp .ne 12, 3, 0, 0, 0) := by rfl
theorem t33_42 : zT 33 42 = some (.iload_n 2, 1, 0, 0, 0) := by rfl
theorem t33_43 : zT 33 43 = some (.aload_n 0, 1, 0, 0, 0) := by rfl
theorem t33_44 : zT 33 44 = some (.getfield 27, 3, 1, 5, 136) := by rfl
theorem t33_47 : zT 33 47 = some (.iload_n 3, 1, 0, 0, 0) := by rfl
theorem t33_48 : zT 33 48 = some (.iaload, 1, 0, 0, 0) := by rfl
theorem t33_49 : zT 33 49 = some (.iadd, 1, 0, 0, 0) := by rfl
theorem t33_50 : zT 33 50 = some (.istore_n 2, 1, 0, 0, 0) := by rfl
theorem t33_51 : zT 33 51 = some (.iinc 3 1, 3, 0, 0, 0) := by rfl
theorem t33_54 : zT 33 54 = some (.goto (-50), 3, 0, 0, 0) := by rfl
theorem t33_57 : zT 33 57 = some (.iload_n 2, 1, 0, 0, 0) := by rfl
theorem t33_58 : zT 33 58 = some (.ireturn, 1, 0, 0, 0) := by rfl
/-! X0_record FiveInks$History.record -/
theorem k1_0 {X : Nat × (Nat → Int32)} {I : Nat → Nat → Int32}  (q1 : zin (I 17 1) 6 = true) (q2 : zSb ((zR0.getD 18 []).getD (zx (I 17 1)) 0) = true) : zr X 1 0 [.ref 17, .ref 2] [] (zk I) = zcb (zr X 51 0 [.ref ((zR0.getD 18 []).getD (zx (I 17 1)) 0), .ref 2] [] (zk I)) (fun v m1 => zr X 1 13 [.ref 17, .ref 2] (v.toList ++ []) m1) :=
  (zr_aload_n t1_0 rfl).trans <|
    (zr_getR (u := 18) t1_1 (rfl)).trans <|
    (zr_aload_n t1_4 rfl).trans <|
    (zr_getI t1_5 (rfl)).trans <|
    (zr_aald (N := 6) t1_8 rfl q1 rfl (zSb_ne q2)).trans <|
    (zr_aload_n t1_9 rfl).trans <|
    zr_callv t1_10 (zcok_recv (t := ((zR0.getD 18 []).getD (zx (I 17 1)) 0)) (zbase q2 (fun z => zKb z 4) (by decide)) rfl rfl) rfl rfl rfl
theorem k1_13 {X : Nat × (Nat → Int32)} {I : Nat → Nat → Int32}   : zr X 1 13 [.ref 17, .ref 2] [] (zk I) = some (none, zk (zs1 (zs1 I 17 1 (((I 17 1) + 1) - ((I 17 1) + 1) / 6 * 6)) 17 2 (if 6 < (((zs1 I 17 1 (((I 17 1) + 1) - ((I 17 1) + 1) / 6 * 6)) 17 2) + 1) then 6 else (((zs1 I 17 1 (((I 17 1) + 1) - ((I 17 1) + 1) / 6 * 6)) 17 2) + 1)))) :=
  (zr_aload_n t1_13 rfl).trans <|
    (zr_aload_n t1_14 rfl).trans <|
    (zr_getI t1_15 (rfl)).trans <|
    (zr_iconst t1_18 zci_1).trans <|
    (zr_iadd t1_19).trans <|
    (zr_bipush t1_20 zcb_6).trans <|
    (zr_irem t1_22 (by decide)).trans <|
    (zr_putI t1_23 (rfl) (Or.inl rfl)).trans <|
    (zr_aload_n t1_26 rfl).trans <|
    (zr_aload_n t1_27 rfl).trans <|
    (zr_getI t1_28 (rfl)).trans <|
    (zr_iconst t1_31 zci_1).trans <|
    (zr_iadd t1_32).trans <|
    (zr_bipush t1_33 zcb_6).trans <|
    (zr_min t1_35 rfl).trans <|
    (zr_putI t1_38 (rfl) (Or.inl rfl)).trans <|
    zr_vret t1_41 rfl
/-! X0_takeBack FiveInks$History.takeBack -/
theorem k2_0 {X : Nat × (Nat → Int32)} {I : Nat → Nat → Int32}  (q1 : zin ((zs1 (zs1 I 17 1 ((((I 17 1) + 6) - 1) - (((I 17 1) + 6) - 1) / 6 * 6)) 17 2 (((zs1 I 17 1 ((((I 17 1) + 6) - 1) - (((I 17 1) + 6) - 1) / 6 * 6)) 17 2) - 1)) 17 1) 6 = true) (q2 : zSb ((zR0.getD 18 []).getD (zx ((zs1 (zs1 I 17 1 ((((I 17 1) + 6) - 1) - (((I 17 1) + 6) - 1) / 6 * 6)) 17 2 (((zs1 I 17 1 ((((I 17 1) + 6) - 1) - (((I 17 1) + 6) - 1) / 6 * 6)) 17 2) - 1)) 17 1)) 0) = true) : zr X 2 0 [.ref 17, .ref 2] [] (zk I) = zcb (zr X 51 0 [.ref 2, .ref ((zR0.getD 18 []).getD (zx ((zs1 (zs1 I 17 1 ((((I 17 1) + 6) - 1) - (((I 17 1) + 6) - 1) / 6 * 6)) 17 2 (((zs1 I 17 1 ((((I 17 1) + 6) - 1) - (((I 17 1) + 6) - 1) / 6 * 6)) 17 2) - 1)) 17 1)) 0)] [] (zk (zs1 (zs1 I 17 1 ((((I 17 1) + 6) - 1) - (((I 17 1) + 6) - 1) / 6 * 6)) 17 2 (((zs1 I 17 1 ((((I 17 1) + 6) - 1) - (((I 17 1) + 6) - 1) / 6 * 6)) 17 2) - 1)))) (fun v m1 => zr X 2 39 [.ref 17, .ref 2] (v.toList ++ []) m1) :=
  (zr_aload_n t2_0 rfl).trans <|
    (zr_aload_n t2_1 rfl).trans <|
    (zr_getI t2_2 (rfl)).trans <|
    (zr_bipush t2_5 zcb_6).trans <|
    (zr_iadd t2_7).trans <|
    (zr_iconst t2_8 zci_1).trans <|
    (zr_isub t2_9).trans <|
    (zr_bipush t2_10 zcb_6).trans <|
    (zr_irem t2_12 (by decide)).trans <|
    (zr_putI t2_13 (rfl) (Or.inl rfl)).trans <|
    (zr_aload_n t2_16 rfl).trans <|
    (zr_dup t2_17 rfl).trans <|
    (zr_getI t2_18 (rfl)).trans <|
    (zr_iconst t2_21 zci_1).trans <|
    (zr_isub t2_22).trans <|
    (zr_putI t2_23 (rfl) (Or.inl rfl)).trans <|
    (zr_aload_n t2_26 rfl).trans <|
    (zr_aload_n t2_27 rfl).trans <|
    (zr_getR (u := 18) t2_28 (rfl)).trans <|
    (zr_aload_n t2_31 rfl).trans <|
    (zr_getI t2_32 (rfl)).trans <|
    (zr_aald (N := 6) t2_35 rfl q1 rfl (zSb_ne q2)).trans <|
    zr_callv t2_36 rfl rfl rfl rfl
theorem k2_39 {X : Nat × (Nat → Int32)} {I : Nat → Nat → Int32}   : zr X 2 39 [.ref 17, .ref 2] [] (zk I) = some (none, zk I) :=
  zr_vret t2_39 rfl
/-! X1_clear FiveInks$Marks.clear -/
theorem k4_0 {X : Nat × (Nat → Int32)} {I : Nat → Nat → Int32}   : zr X 4 0 [.ref 145] [] (zk I) = some (none, zk (zs1 I 145 7 0)) :=
  (zr_aload_n t4_0 rfl).trans <|
    (zr_iconst t4_1 zci_0).trans <|
    (zr_putI t4_2 (rfl) (Or.inl rfl)).trans <|
    zr_vret t4_5 rfl
/-! X1_clear FiveInks$Marks.clear at ['5'] -/
theorem k4b_0 {X : Nat × (Nat → Int32)} {I : Nat → Nat → Int32}   : zr X 4 0 [.ref 5] [] (zk I) = some (none, zk (zs1 I 5 7 0)) :=
  (zr_aload_n t4_0 rfl).trans <|
    (zr_iconst t4_1 zci_0).trans <|
    (zr_putI t4_2 (rfl) (Or.inl rfl)).trans <|
    zr_vret t4_5 rfl
/-! X1_has FiveInks$Marks.has -/
theorem k5_0 {X : Nat × (Nat → Int32)} {I : Nat → Nat → Int32} {v1 : Int32}  : zr X 5 0 [.ref 5, .int v1] [] (zk I) = if v1 < 0 then zr X 5 16 [.ref 5, .int v1] [] (zk I) else zr X 5 4 [.ref 5, .int v1] [] (zk I) :=
  (zr_iload_n t5_0 rfl).trans <|
    zr_if_lt (tgt := 16) t5_1 rfl
theorem k5_4 {X : Nat × (Nat → Int32)} {I : Nat → Nat → Int32} {v1 : Int32}  : zr X 5 4 [.ref 5, .int v1] [] (zk I) = if (I 5 7) ≤ v1 then zr X 5 16 [.ref 5, .int v1] [] (zk I) else zr X 5 12 [.ref 5, .int v1] [] (zk I) :=
  (zr_iload_n t5_4 rfl).trans <|
    (zr_aload_n t5_5 rfl).trans <|
    (zr_getI t5_6 (rfl)).trans <|
    zr_ic_ge (tgt := 16) t5_9 rfl
theorem k5_12 {X : Nat × (Nat → Int32)} {I : Nat → Nat → Int32} {v1 : Int32}  : zr X 5 12 [.ref 5, .int v1] [] (zk I) = some (some (.int 1), zk I) :=
  (zr_iconst t5_12 zci_1).trans <|
    (zr_goto (tgt := 17) t5_13 rfl).trans <|
    zr_zret t5_17 rfl (Or.inr rfl)
theorem k5_16 {X : Nat × (Nat → Int32)} {I : Nat → Nat → Int32} {v1 : Int32}  : zr X 5 16 [.ref 5, .int v1] [] (zk I) = some (some (.int 0), zk I) :=
  (zr_iconst t5_16 zci_0).trans <|
    zr_zret t5_17 rfl (Or.inl rfl)
/-! X1_add FiveInks$Marks.add -/
theorem k6_0 {X : Nat × (Nat → Int32)} {I : Nat → Nat → Int32} {v1 : Int32} {v2 : Int32} {v3 : Int32} {v4 : Int32}  : zr X 6 0 [.ref 145, .int v1, .int v2, .int v3, .int v4] [] (zk I) = if 20 ≤ (I 145 7) then zr X 6 80 [.ref 145, .int v1, .int v2, .int v3, .int v4] [] (zk I) else zr X 6 9 [.ref 145, .int v1, .int v2, .int v3, .int v4] [] (zk I) :=
  (zr_aload_n t6_0 rfl).trans <|
    (zr_getI t6_1 (rfl)).trans <|
    (zr_bipush t6_4 zcb_20).trans <|
    zr_ic_ge (tgt := 80) t6_6 rfl
theorem k6_9 {X : Nat × (Nat → Int32)} {I : Nat → Nat → Int32} {v1 : Int32} {v2 : Int32} {v3 : Int32} {v4 : Int32} (q1 : zin (I 145 7) 20 = true) : zr X 6 9 [.ref 145, .int v1, .int v2, .int v3, .int v4] [] (zk I) = some (none, zk (zs1 (zs1 (zs1 (zs1 (zs1 (zs1 (zs1 I 146 (zx (I 145 7)) v1) 147 (zx (I 145 7)) v2) 148 (zx (I 145 7)) v3) 149 (zx (I 145 7)) v4) 150 (zx (I 145 7)) 0) 151 (zx (I 145 7)) 0) 145 7 ((I 145 7) + 1))) :=
  (zr_aload_n t6_9 rfl).trans <|
    (zr_getR (u := 146) t6_10 (rfl)).trans <|
    (zr_aload_n t6_13 rfl).trans <|
    (zr_getI t6_14 (rfl)).trans <|
    (zr_iload_n t6_17 rfl).trans <|
    (zr_iast (j := zx (I 145 7)) t6_18 (N := 20) rfl rfl q1).trans <|
    (zr_aload_n t6_19 rfl).trans <|
    (zr_getR (u := 147) t6_20 (rfl)).trans <|
    (zr_aload_n t6_23 rfl).trans <|
    (zr_getI t6_24 (rfl)).trans <|
    (zr_iload_n t6_27 rfl).trans <|
    (zr_iast (j := zx (I 145 7)) t6_28 (N := 20) rfl rfl q1).trans <|
    (zr_aload_n t6_29 rfl).trans <|
    (zr_getR (u := 148) t6_30 (rfl)).trans <|
    (zr_aload_n t6_33 rfl).trans <|
    (zr_getI t6_34 (rfl)).trans <|
    (zr_iload_n t6_37 rfl).trans <|
    (zr_iast (j := zx (I 145 7)) t6_38 (N := 20) rfl rfl q1).trans <|
    (zr_aload_n t6_39 rfl).trans <|
    (zr_getR (u := 149) t6_40 (rfl)).trans <|
    (zr_aload_n t6_43 rfl).trans <|
    (zr_getI t6_44 (rfl)).trans <|
    (zr_iload t6_47 rfl).trans <|
    (zr_iast (j := zx (I 145 7)) t6_49 (N := 20) rfl rfl q1).trans <|
    (zr_aload_n t6_50 rfl).trans <|
    (zr_getR (u := 150) t6_51 (rfl)).trans <|
    (zr_aload_n t6_54 rfl).trans <|
    (zr_getI t6_55 (rfl)).trans <|
    (zr_iconst t6_58 zci_0).trans <|
    (zr_iast (j := zx (I 145 7)) t6_59 (N := 20) rfl rfl q1).trans <|
    (zr_aload_n t6_60 rfl).trans <|
    (zr_getR (u := 151) t6_61 (rfl)).trans <|
    (zr_aload_n t6_64 rfl).trans <|
    (zr_getI t6_65 (rfl)).trans <|
    (zr_iconst t6_68 zci_0).trans <|
    (zr_iast (j := zx (I 145 7)) t6_69 (N := 20) rfl rfl q1).trans <|
    (zr_aload_n t6_70 rfl).trans <|
    (zr_dup t6_71 rfl).trans <|
    (zr_getI t6_72 (rfl)).trans <|
    (zr_iconst t6_75 zci_1).trans <|
    (zr_iadd t6_76).trans <|
    (zr_putI t6_77 (rfl) (Or.inl rfl)).trans <|
    zr_vret t6_80 rfl
theorem k6_80 {X : Nat × (Nat → Int32)} {I : Nat → Nat → Int32} {v1 : Int32} {v2 : Int32} {v3 : Int32} {v4 : Int32}  : zr X 6 80 [.ref 145, .int v1, .int v2, .int v3, .int v4] [] (zk I) = some (none, zk I) :=
  zr_vret t6_80 rfl
/-! X1_addLetterToLast FiveInks$Marks.addLetterToLast -/
theorem k7_0 {X : Nat × (Nat → Int32)} {I : Nat → Nat → Int32} {v1 : Int32}  : zr X 7 0 [.ref 145, .int v1, .null] [] (zk I) = if ((I 145 7) - 1) < 0 then zr X 7 49 [.ref 145, .int v1, .int ((I 145 7) - 1)] [] (zk I) else zr X 7 11 [.ref 145, .int v1, .int ((I 145 7) - 1)] [] (zk I) :=
  (zr_aload_n t7_0 rfl).trans <|
    (zr_getI t7_1 (rfl)).trans <|
    (zr_iconst t7_4 zci_1).trans <|
    (zr_isub t7_5).trans <|
    (zr_istore_n t7_6 rfl rfl).trans <|
    (zr_iload_n t7_7 rfl).trans <|
    zr_if_lt (tgt := 49) t7_8 rfl
theorem k7_11 {X : Nat × (Nat → Int32)} {I : Nat → Nat → Int32} {v1 : Int32} {v2 : Int32} (q1 : zin v2 20 = true) : zr X 7 11 [.ref 145, .int v1, .int v2] [] (zk I) = if 6 ≤ (I 151 (zx v2)) then zr X 7 49 [.ref 145, .int v1, .int v2] [] (zk I) else zr X 7 22 [.ref 145, .int v1, .int v2] [] (zk I) :=
  (zr_aload_n t7_11 rfl).trans <|
    (zr_getR (u := 151) t7_12 (rfl)).trans <|
    (zr_iload_n t7_15 rfl).trans <|
    (zr_iald (j := zx v2) t7_16 (N := 20) rfl rfl q1).trans <|
    (zr_bipush t7_17 zcb_6).trans <|
    zr_ic_ge (tgt := 49) t7_19 rfl
theorem k7_22 {X : Nat × (Nat → Int32)} {I : Nat → Nat → Int32} {v1 : Int32} {v2 : Int32} (q1 : zin v2 20 = true) (q2 : zin ((v2 * 6) + (I 151 (zx v2))) 120 = true) : zr X 7 22 [.ref 145, .int v1, .int v2] [] (zk I) = some (none, zk (zs1 (zs1 I 152 (zx ((v2 * 6) + (I 151 (zx v2)))) v1) 151 (zx v2) ((I 151 (zx v2)) + 1))) :=
  (zr_aload_n t7_22 rfl).trans <|
    (zr_getR (u := 152) t7_23 (rfl)).trans <|
    (zr_iload_n t7_26 rfl).trans <|
    (zr_bipush t7_27 zcb_6).trans <|
    (zr_imul t7_29).trans <|
    (zr_aload_n t7_30 rfl).trans <|
    (zr_getR (u := 151) t7_31 (rfl)).trans <|
    (zr_iload_n t7_34 rfl).trans <|
    (zr_iald (j := zx v2) t7_35 (N := 20) rfl rfl q1).trans <|
    (zr_iadd t7_36).trans <|
    (zr_iload_n t7_37 rfl).trans <|
    (zr_iast (j := zx ((v2 * 6) + (I 151 (zx v2)))) t7_38 (N := 120) rfl rfl q2).trans <|
    (zr_aload_n t7_39 rfl).trans <|
    (zr_getR (u := 151) t7_40 (rfl)).trans <|
    (zr_iload_n t7_43 rfl).trans <|
    (zr_dup2 t7_44 ⟨rfl, rfl⟩).trans <|
    (zr_iald (j := zx v2) t7_45 (N := 20) rfl rfl q1).trans <|
    (zr_iconst t7_46 zci_1).trans <|
    (zr_iadd t7_47).trans <|
    (zr_iast (j := zx v2) t7_48 (N := 20) rfl rfl q1).trans <|
    zr_vret t7_49 rfl
theorem k7_49 {X : Nat × (Nat → Int32)} {I : Nat → Nat → Int32} {v1 : Int32} {v2 : Int32}  : zr X 7 49 [.ref 145, .int v1, .int v2] [] (zk I) = some (none, zk I) :=
  zr_vret t7_49 rfl
/-! X1_take FiveInks$Marks.take -/
theorem k8_0 {X : Nat × (Nat → Int32)} {I : Nat → Nat → Int32} {v2 : Int32}  : zr X 8 0 [.ref 5, .ref 145, .int v2] [] (zk I) = if 20 ≤ (I 5 7) then zr X 8 29 [.ref 5, .ref 145, .int v2] [] (zk I) else zr X 8 9 [.ref 5, .ref 145, .int v2] [] (zk I) :=
  (zr_aload_n t8_0 rfl).trans <|
    (zr_getI t8_1 (rfl)).trans <|
    (zr_bipush t8_4 zcb_20).trans <|
    zr_ic_ge (tgt := 29) t8_6 rfl
theorem k8_9 {X : Nat × (Nat → Int32)} {I : Nat → Nat → Int32} {v2 : Int32}  : zr X 8 9 [.ref 5, .ref 145, .int v2] [] (zk I) = zcb (zr X 10 0 [.ref 5, .ref 145, .int v2, .int (I 5 7)] [] (zk I)) (fun v m1 => zr X 8 19 [.ref 5, .ref 145, .int v2] (v.toList ++ []) m1) :=
  (zr_aload_n t8_9 rfl).trans <|
    (zr_aload_n t8_10 rfl).trans <|
    (zr_iload_n t8_11 rfl).trans <|
    (zr_aload_n t8_12 rfl).trans <|
    (zr_getI t8_13 (rfl)).trans <|
    zr_callv t8_16 rfl rfl rfl rfl
theorem k8_19 {X : Nat × (Nat → Int32)} {I : Nat → Nat → Int32} {v2 : Int32}  : zr X 8 19 [.ref 5, .ref 145, .int v2] [] (zk I) = some (none, zk (zs1 I 5 7 ((I 5 7) + 1))) :=
  (zr_aload_n t8_19 rfl).trans <|
    (zr_dup t8_20 rfl).trans <|
    (zr_getI t8_21 (rfl)).trans <|
    (zr_iconst t8_24 zci_1).trans <|
    (zr_iadd t8_25).trans <|
    (zr_putI t8_26 (rfl) (Or.inl rfl)).trans <|
    zr_vret t8_29 rfl
theorem k8_29 {X : Nat × (Nat → Int32)} {I : Nat → Nat → Int32} {v2 : Int32}  : zr X 8 29 [.ref 5, .ref 145, .int v2] [] (zk I) = some (none, zk I) :=
  zr_vret t8_29 rfl
/-! X1_remove FiveInks$Marks.remove -/
theorem k9_0 {X : Nat × (Nat → Int32)} {I : Nat → Nat → Int32} {v1 : Int32}  : zr X 9 0 [.ref 5, .int v1, .null] [] (zk I) = zr X 9 4 [.ref 5, .int v1, .int (v1 + 1)] [] (zk I) :=
  (zr_iload_n t9_0 rfl).trans <|
    (zr_iconst t9_1 zci_1).trans <|
    (zr_iadd t9_2).trans <|
    zr_istore_n t9_3 rfl rfl
theorem k9_4 {X : Nat × (Nat → Int32)} {I : Nat → Nat → Int32} {v1 : Int32} {v2 : Int32}  : zr X 9 4 [.ref 5, .int v1, .int v2] [] (zk I) = if (I 5 7) ≤ v2 then zr X 9 27 [.ref 5, .int v1, .int v2] [] (zk I) else zr X 9 12 [.ref 5, .int v1, .int v2] [] (zk I) :=
  (zr_iload_n t9_4 rfl).trans <|
    (zr_aload_n t9_5 rfl).trans <|
    (zr_getI t9_6 (rfl)).trans <|
    zr_ic_ge (tgt := 27) t9_9 rfl
theorem k9_12 {X : Nat × (Nat → Int32)} {I : Nat → Nat → Int32} {v1 : Int32} {v2 : Int32}  : zr X 9 12 [.ref 5, .int v1, .int v2] [] (zk I) = zcb (zr X 10 0 [.ref 5, .ref 5, .int v2, .int (v2 - 1)] [] (zk I)) (fun v m1 => zr X 9 21 [.ref 5, .int v1, .int v2] (v.toList ++ []) m1) :=
  (zr_aload_n t9_12 rfl).trans <|
    (zr_aload_n t9_13 rfl).trans <|
    (zr_iload_n t9_14 rfl).trans <|
    (zr_iload_n t9_15 rfl).trans <|
    (zr_iconst t9_16 zci_1).trans <|
    (zr_isub t9_17).trans <|
    zr_callv t9_18 rfl rfl rfl rfl
theorem k9_21 {X : Nat × (Nat → Int32)} {I : Nat → Nat → Int32} {v1 : Int32} {v2 : Int32}  : zr X 9 21 [.ref 5, .int v1, .int v2] [] (zk I) = zr X 9 4 [.ref 5, .int v1, .int (v2 + 1)] [] (zk I) :=
  (zr_iinc t9_21 rfl rfl (congrArg (fun z => v2 + z) zci_1) rfl).trans <|
    zr_goto (tgt := 4) t9_24 rfl
theorem k9_27 {X : Nat × (Nat → Int32)} {I : Nat → Nat → Int32} {v1 : Int32} {v2 : Int32}  : zr X 9 27 [.ref 5, .int v1, .int v2] [] (zk I) = some (none, zk (zs1 I 5 7 ((I 5 7) - 1))) :=
  (zr_aload_n t9_27 rfl).trans <|
    (zr_dup t9_28 rfl).trans <|
    (zr_getI t9_29 (rfl)).trans <|
    (zr_iconst t9_32 zci_1).trans <|
    (zr_isub t9_33).trans <|
    (zr_putI t9_34 (rfl) (Or.inl rfl)).trans <|
    zr_vret t9_37 rfl
/-! X1_copyRow FiveInks$Marks.copyRow -/
theorem k10_0 {X : Nat × (Nat → Int32)} {I : Nat → Nat → Int32} {v2 : Int32} {v3 : Int32} (q1 : zin v2 20 = true) (q2 : zin v3 20 = true) (q3 : ¬ (v2 * 6) < 0) (q4 : ¬ (v3 * 6) < 0) (q5 : zx (v2 * 6) + 6 ≤ 120) (q6 : zx (v3 * 6) + 6 ≤ 120) : zr X 10 0 [.ref 5, .ref 5, .int v2, .int v3] [] (zk I) = some (none, zk (zs2 (zs1 (zs1 (zs1 (zs1 (zs1 (zs1 I 6 (zx v3) (I 6 (zx v2))) 7 (zx v3) (I 7 (zx v2))) 8 (zx v3) (I 8 (zx v2))) 9 (zx v3) (I 9 (zx v2))) 10 (zx v3) (I 10 (zx v2))) 11 (zx v3) (I 11 (zx v2))) 12 12 (zx (v2 * 6)) (zx (v3 * 6)) 6)) :=
  (zr_aload_n t10_0 rfl).trans <|
    (zr_getR (u := 6) t10_1 (rfl)).trans <|
    (zr_iload_n t10_4 rfl).trans <|
    (zr_aload_n t10_5 rfl).trans <|
    (zr_getR (u := 6) t10_6 (rfl)).trans <|
    (zr_iload_n t10_9 rfl).trans <|
    (zr_iald (j := zx v2) t10_10 (N := 20) rfl rfl q1).trans <|
    (zr_iast (j := zx v3) t10_11 (N := 20) rfl rfl q2).trans <|
    (zr_aload_n t10_12 rfl).trans <|
    (zr_getR (u := 7) t10_13 (rfl)).trans <|
    (zr_iload_n t10_16 rfl).trans <|
    (zr_aload_n t10_17 rfl).trans <|
    (zr_getR (u := 7) t10_18 (rfl)).trans <|
    (zr_iload_n t10_21 rfl).trans <|
    (zr_iald (j := zx v2) t10_22 (N := 20) rfl rfl q1).trans <|
    (zr_iast (j := zx v3) t10_23 (N := 20) rfl rfl q2).trans <|
    (zr_aload_n t10_24 rfl).trans <|
    (zr_getR (u := 8) t10_25 (rfl)).trans <|
    (zr_iload_n t10_28 rfl).trans <|
    (zr_aload_n t10_29 rfl).trans <|
    (zr_getR (u := 8) t10_30 (rfl)).trans <|
    (zr_iload_n t10_33 rfl).trans <|
    (zr_iald (j := zx v2) t10_34 (N := 20) rfl rfl q1).trans <|
    (zr_iast (j := zx v3) t10_35 (N := 20) rfl rfl q2).trans <|
    (zr_aload_n t10_36 rfl).trans <|
    (zr_getR (u := 9) t10_37 (rfl)).trans <|
    (zr_iload_n t10_40 rfl).trans <|
    (zr_aload_n t10_41 rfl).trans <|
    (zr_getR (u := 9) t10_42 (rfl)).trans <|
    (zr_iload_n t10_45 rfl).trans <|
    (zr_iald (j := zx v2) t10_46 (N := 20) rfl rfl q1).trans <|
    (zr_iast (j := zx v3) t10_47 (N := 20) rfl rfl q2).trans <|
    (zr_aload_n t10_48 rfl).trans <|
    (zr_getR (u := 10) t10_49 (rfl)).trans <|
    (zr_iload_n t10_52 rfl).trans <|
    (zr_aload_n t10_53 rfl).trans <|
    (zr_getR (u := 10) t10_54 (rfl)).trans <|
    (zr_iload_n t10_57 rfl).trans <|
    (zr_iald (j := zx v2) t10_58 (N := 20) rfl rfl q1).trans <|
    (zr_iast (j := zx v3) t10_59 (N := 20) rfl rfl q2).trans <|
    (zr_aload_n t10_60 rfl).trans <|
    (zr_getR (u := 11) t10_61 (rfl)).trans <|
    (zr_iload_n t10_64 rfl).trans <|
    (zr_aload_n t10_65 rfl).trans <|
    (zr_getR (u := 11) t10_66 (rfl)).trans <|
    (zr_iload_n t10_69 rfl).trans <|
    (zr_iald (j := zx v2) t10_70 (N := 20) rfl rfl q1).trans <|
    (zr_iast (j := zx v3) t10_71 (N := 20) rfl rfl q2).trans <|
    (zr_aload_n t10_72 rfl).trans <|
    (zr_getR (u := 12) t10_73 (rfl)).trans <|
    (zr_iload_n t10_76 rfl).trans <|
    (zr_bipush t10_77 zcb_6).trans <|
    (zr_imul t10_79).trans <|
    (zr_aload_n t10_80 rfl).trans <|
    (zr_getR (u := 12) t10_81 (rfl)).trans <|
    (zr_iload_n t10_84 rfl).trans <|
    (zr_bipush t10_85 zcb_6).trans <|
    (zr_imul t10_87).trans <|
    (zr_bipush t10_88 zcb_6).trans <|
    (zr_acopy (j := zx (v2 * 6)) (k := zx (v3 * 6)) (z := 6) (N := 120) (M := 120) t10_90 (rfl) (rfl) q3 q4 (by decide) rfl rfl (by decide) q5 q6).trans <|
    zr_vret t10_93 rfl
/-! X1_copyRow FiveInks$Marks.copyRow at ['5', '145'] -/
theorem k10b_0 {X : Nat × (Nat → Int32)} {I : Nat → Nat → Int32} {v2 : Int32} {v3 : Int32} (q1 : zin v2 20 = true) (q2 : zin v3 20 = true) (q3 : ¬ (v2 * 6) < 0) (q4 : ¬ (v3 * 6) < 0) (q5 : zx (v2 * 6) + 6 ≤ 120) (q6 : zx (v3 * 6) + 6 ≤ 120) : zr X 10 0 [.ref 5, .ref 145, .int v2, .int v3] [] (zk I) = some (none, zk (zs2 (zs1 (zs1 (zs1 (zs1 (zs1 (zs1 I 6 (zx v3) (I 146 (zx v2))) 7 (zx v3) (I 147 (zx v2))) 8 (zx v3) (I 148 (zx v2))) 9 (zx v3) (I 149 (zx v2))) 10 (zx v3) (I 150 (zx v2))) 11 (zx v3) (I 151 (zx v2))) 152 12 (zx (v2 * 6)) (zx (v3 * 6)) 6)) :=
  (zr_aload_n t10_0 rfl).trans <|
    (zr_getR (u := 6) t10_1 (rfl)).trans <|
    (zr_iload_n t10_4 rfl).trans <|
    (zr_aload_n t10_5 rfl).trans <|
    (zr_getR (u := 146) t10_6 (rfl)).trans <|
    (zr_iload_n t10_9 rfl).trans <|
    (zr_iald (j := zx v2) t10_10 (N := 20) rfl rfl q1).trans <|
    (zr_iast (j := zx v3) t10_11 (N := 20) rfl rfl q2).trans <|
    (zr_aload_n t10_12 rfl).trans <|
    (zr_getR (u := 7) t10_13 (rfl)).trans <|
    (zr_iload_n t10_16 rfl).trans <|
    (zr_aload_n t10_17 rfl).trans <|
    (zr_getR (u := 147) t10_18 (rfl)).trans <|
    (zr_iload_n t10_21 rfl).trans <|
    (zr_iald (j := zx v2) t10_22 (N := 20) rfl rfl q1).trans <|
    (zr_iast (j := zx v3) t10_23 (N := 20) rfl rfl q2).trans <|
    (zr_aload_n t10_24 rfl).trans <|
    (zr_getR (u := 8) t10_25 (rfl)).trans <|
    (zr_iload_n t10_28 rfl).trans <|
    (zr_aload_n t10_29 rfl).trans <|
    (zr_getR (u := 148) t10_30 (rfl)).trans <|
    (zr_iload_n t10_33 rfl).trans <|
    (zr_iald (j := zx v2) t10_34 (N := 20) rfl rfl q1).trans <|
    (zr_iast (j := zx v3) t10_35 (N := 20) rfl rfl q2).trans <|
    (zr_aload_n t10_36 rfl).trans <|
    (zr_getR (u := 9) t10_37 (rfl)).trans <|
    (zr_iload_n t10_40 rfl).trans <|
    (zr_aload_n t10_41 rfl).trans <|
    (zr_getR (u := 149) t10_42 (rfl)).trans <|
    (zr_iload_n t10_45 rfl).trans <|
    (zr_iald (j := zx v2) t10_46 (N := 20) rfl rfl q1).trans <|
    (zr_iast (j := zx v3) t10_47 (N := 20) rfl rfl q2).trans <|
    (zr_aload_n t10_48 rfl).trans <|
    (zr_getR (u := 10) t10_49 (rfl)).trans <|
    (zr_iload_n t10_52 rfl).trans <|
    (zr_aload_n t10_53 rfl).trans <|
    (zr_getR (u := 150) t10_54 (rfl)).trans <|
    (zr_iload_n t10_57 rfl).trans <|
    (zr_iald (j := zx v2) t10_58 (N := 20) rfl rfl q1).trans <|
    (zr_iast (j := zx v3) t10_59 (N := 20) rfl rfl q2).trans <|
    (zr_aload_n t10_60 rfl).trans <|
    (zr_getR (u := 11) t10_61 (rfl)).trans <|
    (zr_iload_n t10_64 rfl).trans <|
    (zr_aload_n t10_65 rfl).trans <|
    (zr_getR (u := 151) t10_66 (rfl)).trans <|
    (zr_iload_n t10_69 rfl).trans <|
    (zr_iald (j := zx v2) t10_70 (N := 20) rfl rfl q1).trans <|
    (zr_iast (j := zx v3) t10_71 (N := 20) rfl rfl q2).trans <|
    (zr_aload_n t10_72 rfl).trans <|
    (zr_getR (u := 152) t10_73 (rfl)).trans <|
    (zr_iload_n t10_76 rfl).trans <|
    (zr_bipush t10_77 zcb_6).trans <|
    (zr_imul t10_79).trans <|
    (zr_aload_n t10_80 rfl).trans <|
    (zr_getR (u := 12) t10_81 (rfl)).trans <|
    (zr_iload_n t10_84 rfl).trans <|
    (zr_bipush t10_85 zcb_6).trans <|
    (zr_imul t10_87).trans <|
    (zr_bipush t10_88 zcb_6).trans <|
    (zr_acopy (j := zx (v2 * 6)) (k := zx (v3 * 6)) (z := 6) (N := 120) (M := 120) t10_90 (rfl) (rfl) q3 q4 (by decide) rfl rfl (by decide) q5 q6).trans <|
    zr_vret t10_93 rfl
/-! X1_takeOver FiveInks$Marks.takeOver -/
theorem k11_0 {X : Nat × (Nat → Int32)} {I : Nat → Nat → Int32} {b : Nat} (hb : zSb b = true) : zr X 11 0 [.ref (b + 3), .ref 5] [] (zk I) = some (none, zk (zs1 (zs2 (zs2 (zs2 (zs2 (zs2 (zs2 (zs2 I 6 (b + 4) 0 0 20) 7 (b + 5) 0 0 20) 8 (b + 6) 0 0 20) 9 (b + 7) 0 0 20) 10 (b + 8) 0 0 20) 11 (b + 9) 0 0 20) 12 (b + 10) 0 0 120) (b + 3) 7 ((zs2 (zs2 (zs2 (zs2 (zs2 (zs2 (zs2 I 6 (b + 4) 0 0 20) 7 (b + 5) 0 0 20) 8 (b + 6) 0 0 20) 9 (b + 7) 0 0 20) 10 (b + 8) 0 0 20) 11 (b + 9) 0 0 20) 12 (b + 10) 0 0 120) 5 7))) :=
  (zr_aload_n t11_0 rfl).trans <|
    (zr_getR (u := 6) t11_1 (rfl)).trans <|
    (zr_iconst t11_4 zci_0).trans <|
    (zr_aload_n t11_5 rfl).trans <|
    (zr_getR (u := (b + 4)) t11_6 (zbase hb (fun b => zfR (b + 3) 1 0 (b + 4)) (by decide))).trans <|
    (zr_iconst t11_9 zci_0).trans <|
    (zr_bipush t11_10 zcb_20).trans <|
    (zr_acopy (j := 0) (k := 0) (z := 20) (N := 20) (M := 20) t11_12 (rfl) (zbase hb (fun b => zaI (b + 4) 0 20) (by decide)) (by decide) (by decide) (by decide) (by decide) (by decide) (by decide) (by decide) (by decide)).trans <|
    (zr_aload_n t11_15 rfl).trans <|
    (zr_getR (u := 7) t11_16 (rfl)).trans <|
    (zr_iconst t11_19 zci_0).trans <|
    (zr_aload_n t11_20 rfl).trans <|
    (zr_getR (u := (b + 5)) t11_21 (zbase hb (fun b => zfR (b + 3) 1 1 (b + 5)) (by decide))).trans <|
    (zr_iconst t11_24 zci_0).trans <|
    (zr_bipush t11_25 zcb_20).trans <|
    (zr_acopy (j := 0) (k := 0) (z := 20) (N := 20) (M := 20) t11_27 (rfl) (zbase hb (fun b => zaI (b + 5) 0 20) (by decide)) (by decide) (by decide) (by decide) (by decide) (by decide) (by decide) (by decide) (by decide)).trans <|
    (zr_aload_n t11_30 rfl).trans <|
    (zr_getR (u := 8) t11_31 (rfl)).trans <|
    (zr_iconst t11_34 zci_0).trans <|
    (zr_aload_n t11_35 rfl).trans <|
    (zr_getR (u := (b + 6)) t11_36 (zbase hb (fun b => zfR (b + 3) 1 2 (b + 6)) (by decide))).trans <|
    (zr_iconst t11_39 zci_0).trans <|
    (zr_bipush t11_40 zcb_20).trans <|
    (zr_acopy (j := 0) (k := 0) (z := 20) (N := 20) (M := 20) t11_42 (rfl) (zbase hb (fun b => zaI (b + 6) 0 20) (by decide)) (by decide) (by decide) (by decide) (by decide) (by decide) (by decide) (by decide) (by decide)).trans <|
    (zr_aload_n t11_45 rfl).trans <|
    (zr_getR (u := 9) t11_46 (rfl)).trans <|
    (zr_iconst t11_49 zci_0).trans <|
    (zr_aload_n t11_50 rfl).trans <|
    (zr_getR (u := (b + 7)) t11_51 (zbase hb (fun b => zfR (b + 3) 1 3 (b + 7)) (by decide))).trans <|
    (zr_iconst t11_54 zci_0).trans <|
    (zr_bipush t11_55 zcb_20).trans <|
    (zr_acopy (j := 0) (k := 0) (z := 20) (N := 20) (M := 20) t11_57 (rfl) (zbase hb (fun b => zaI (b + 7) 0 20) (by decide)) (by decide) (by decide) (by decide) (by decide) (by decide) (by decide) (by decide) (by decide)).trans <|
    (zr_aload_n t11_60 rfl).trans <|
    (zr_getR (u := 10) t11_61 (rfl)).trans <|
    (zr_iconst t11_64 zci_0).trans <|
    (zr_aload_n t11_65 rfl).trans <|
    (zr_getR (u := (b + 8)) t11_66 (zbase hb (fun b => zfR (b + 3) 1 4 (b + 8)) (by decide))).trans <|
    (zr_iconst t11_69 zci_0).trans <|
    (zr_bipush t11_70 zcb_20).trans <|
    (zr_acopy (j := 0) (k := 0) (z := 20) (N := 20) (M := 20) t11_72 (rfl) (zbase hb (fun b => zaI (b + 8) 0 20) (by decide)) (by decide) (by decide) (by decide) (by decide) (by decide) (by decide) (by decide) (by decide)).trans <|
    (zr_aload_n t11_75 rfl).trans <|
    (zr_getR (u := 11) t11_76 (rfl)).trans <|
    (zr_iconst t11_79 zci_0).trans <|
    (zr_aload_n t11_80 rfl).trans <|
    (zr_getR (u := (b + 9)) t11_81 (zbase hb (fun b => zfR (b + 3) 1 5 (b + 9)) (by decide))).trans <|
    (zr_iconst t11_84 zci_0).trans <|
    (zr_bipush t11_85 zcb_20).trans <|
    (zr_acopy (j := 0) (k := 0) (z := 20) (N := 20) (M := 20) t11_87 (rfl) (zbase hb (fun b => zaI (b + 9) 0 20) (by decide)) (by decide) (by decide) (by decide) (by decide) (by decide) (by decide) (by decide) (by decide)).trans <|
    (zr_aload_n t11_90 rfl).trans <|
    (zr_getR (u := 12) t11_91 (rfl)).trans <|
    (zr_iconst t11_94 zci_0).trans <|
    (zr_aload_n t11_95 rfl).trans <|
    (zr_getR (u := (b + 10)) t11_96 (zbase hb (fun b => zfR (b + 3) 1 6 (b + 10)) (by decide))).trans <|
    (zr_iconst t11_99 zci_0).trans <|
    (zr_bipush t11_100 zcb_120).trans <|
    (zr_acopy (j := 0) (k := 0) (z := 120) (N := 120) (M := 120) t11_102 (rfl) (zbase hb (fun b => zaI (b + 10) 0 120) (by decide)) (by decide) (by decide) (by decide) (by decide) (by decide) (by decide) (by decide) (by decide)).trans <|
    (zr_aload_n t11_105 rfl).trans <|
    (zr_aload_n t11_106 rfl).trans <|
    (zr_getI t11_107 (rfl)).trans <|
    (zr_putI t11_110 (zbase hb (fun b => zfI (b + 3) 1 7) (by decide)) (Or.inl rfl)).trans <|
    zr_vret t11_113 rfl
/-! X1_takeOver FiveInks$Marks.takeOver at ['5', '(b + 3)'] -/
theorem k11b_0 {X : Nat × (Nat → Int32)} {I : Nat → Nat → Int32} {b : Nat} (hb : zSb b = true) : zr X 11 0 [.ref 5, .ref (b + 3)] [] (zk I) = some (none, zk (zs1 (zs2 (zs2 (zs2 (zs2 (zs2 (zs2 (zs2 I (b + 4) 6 0 0 20) (b + 5) 7 0 0 20) (b + 6) 8 0 0 20) (b + 7) 9 0 0 20) (b + 8) 10 0 0 20) (b + 9) 11 0 0 20) (b + 10) 12 0 0 120) 5 7 ((zs2 (zs2 (zs2 (zs2 (zs2 (zs2 (zs2 I (b + 4) 6 0 0 20) (b + 5) 7 0 0 20) (b + 6) 8 0 0 20) (b + 7) 9 0 0 20) (b + 8) 10 0 0 20) (b + 9) 11 0 0 20) (b + 10) 12 0 0 120) (b + 3) 7))) :=
  (zr_aload_n t11_0 rfl).trans <|
    (zr_getR (u := (b + 4)) t11_1 (zbase hb (fun b => zfR (b + 3) 1 0 (b + 4)) (by decide))).trans <|
    (zr_iconst t11_4 zci_0).trans <|
    (zr_aload_n t11_5 rfl).trans <|
    (zr_getR (u := 6) t11_6 (rfl)).trans <|
    (zr_iconst t11_9 zci_0).trans <|
    (zr_bipush t11_10 zcb_20).trans <|
    (zr_acopy (j := 0) (k := 0) (z := 20) (N := 20) (M := 20) t11_12 (zbase hb (fun b => zaI (b + 4) 0 20) (by decide)) (rfl) (by decide) (by decide) (by decide) (by decide) (by decide) (by decide) (by decide) (by decide)).trans <|
    (zr_aload_n t11_15 rfl).trans <|
    (zr_getR (u := (b + 5)) t11_16 (zbase hb (fun b => zfR (b + 3) 1 1 (b + 5)) (by decide))).trans <|
    (zr_iconst t11_19 zci_0).trans <|
    (zr_aload_n t11_20 rfl).trans <|
    (zr_getR (u := 7) t11_21 (rfl)).trans <|
    (zr_iconst t11_24 zci_0).trans <|
    (zr_bipush t11_25 zcb_20).trans <|
    (zr_acopy (j := 0) (k := 0) (z := 20) (N := 20) (M := 20) t11_27 (zbase hb (fun b => zaI (b + 5) 0 20) (by decide)) (rfl) (by decide) (by decide) (by decide) (by decide) (by decide) (by decide) (by decide) (by decide)).trans <|
    (zr_aload_n t11_30 rfl).trans <|
    (zr_getR (u := (b + 6)) t11_31 (zbase hb (fun b => zfR (b + 3) 1 2 (b + 6)) (by decide))).trans <|
    (zr_iconst t11_34 zci_0).trans <|
    (zr_aload_n t11_35 rfl).trans <|
    (zr_getR (u := 8) t11_36 (rfl)).trans <|
    (zr_iconst t11_39 zci_0).trans <|
    (zr_bipush t11_40 zcb_20).trans <|
    (zr_acopy (j := 0) (k := 0) (z := 20) (N := 20) (M := 20) t11_42 (zbase hb (fun b => zaI (b + 6) 0 20) (by decide)) (rfl) (by decide) (by decide) (by decide) (by decide) (by decide) (by decide) (by decide) (by decide)).trans <|
    (zr_aload_n t11_45 rfl).trans <|
    (zr_getR (u := (b + 7)) t11_46 (zbase hb (fun b => zfR (b + 3) 1 3 (b + 7)) (by decide))).trans <|
    (zr_iconst t11_49 zci_0).trans <|
    (zr_aload_n t11_50 rfl).trans <|
    (zr_getR (u := 9) t11_51 (rfl)).trans <|
    (zr_iconst t11_54 zci_0).trans <|
    (zr_bipush t11_55 zcb_20).trans <|
    (zr_acopy (j := 0) (k := 0) (z := 20) (N := 20) (M := 20) t11_57 (zbase hb (fun b => zaI (b + 7) 0 20) (by decide)) (rfl) (by decide) (by decide) (by decide) (by decide) (by decide) (by decide) (by decide) (by decide)).trans <|
    (zr_aload_n t11_60 rfl).trans <|
    (zr_getR (u := (b + 8)) t11_61 (zbase hb (fun b => zfR (b + 3) 1 4 (b + 8)) (by decide))).trans <|
    (zr_iconst t11_64 zci_0).trans <|
    (zr_aload_n t11_65 rfl).trans <|
    (zr_getR (u := 10) t11_66 (rfl)).trans <|
    (zr_iconst t11_69 zci_0).trans <|
    (zr_bipush t11_70 zcb_20).trans <|
    (zr_acopy (j := 0) (k := 0) (z := 20) (N := 20) (M := 20) t11_72 (zbase hb (fun b => zaI (b + 8) 0 20) (by decide)) (rfl) (by decide) (by decide) (by decide) (by decide) (by decide) (by decide) (by decide) (by decide)).trans <|
    (zr_aload_n t11_75 rfl).trans <|
    (zr_getR (u := (b + 9)) t11_76 (zbase hb (fun b => zfR (b + 3) 1 5 (b + 9)) (by decide))).trans <|
    (zr_iconst t11_79 zci_0).trans <|
    (zr_aload_n t11_80 rfl).trans <|
    (zr_getR (u := 11) t11_81 (rfl)).trans <|
    (zr_iconst t11_84 zci_0).trans <|
    (zr_bipush t11_85 zcb_20).trans <|
    (zr_acopy (j := 0) (k := 0) (z := 20) (N := 20) (M := 20) t11_87 (zbase hb (fun b => zaI (b + 9) 0 20) (by decide)) (rfl) (by decide) (by decide) (by decide) (by decide) (by decide) (by decide) (by decide) (by decide)).trans <|
    (zr_aload_n t11_90 rfl).trans <|
    (zr_getR (u := (b + 10)) t11_91 (zbase hb (fun b => zfR (b + 3) 1 6 (b + 10)) (by decide))).trans <|
    (zr_iconst t11_94 zci_0).trans <|
    (zr_aload_n t11_95 rfl).trans <|
    (zr_getR (u := 12) t11_96 (rfl)).trans <|
    (zr_iconst t11_99 zci_0).trans <|
    (zr_bipush t11_100 zcb_120).trans <|
    (zr_acopy (j := 0) (k := 0) (z := 120) (N := 120) (M := 120) t11_102 (zbase hb (fun b => zaI (b + 10) 0 120) (by decide)) (rfl) (by decide) (by decide) (by decide) (by decide) (by decide) (by decide) (by decide) (by decide)).trans <|
    (zr_aload_n t11_105 rfl).trans <|
    (zr_aload_n t11_106 rfl).trans <|
    (zr_getI t11_107 (zbase hb (fun b => zfI (b + 3) 1 7) (by decide))).trans <|
    (zr_putI t11_110 (rfl) (Or.inl rfl)).trans <|
    zr_vret t11_113 rfl
/-! X1_clashing FiveInks$Marks.clashing -/
theorem k12_0 {X : Nat × (Nat → Int32)} {I : Nat → Nat → Int32} {v1 : Int32} {v2 : Int32}  : zr X 12 0 [.ref 5, .int v1, .int v2] [] (zk I) = zcb (zr X 13 0 [.ref 5, .int v1, .ref 5, .int v2, .null, .null] [] (zk I)) (fun v m1 => zr X 12 7 [.ref 5, .int v1, .int v2] (v.toList ++ []) m1) :=
  (zr_aload_n t12_0 rfl).trans <|
    (zr_iload_n t12_1 rfl).trans <|
    (zr_aload_n t12_2 rfl).trans <|
    (zr_iload_n t12_3 rfl).trans <|
    zr_callv t12_4 rfl rfl rfl rfl
theorem k12_7 {X : Nat × (Nat → Int32)} {I : Nat → Nat → Int32} {v1 : Int32} {v2 : Int32} {s0 : Int32} (q1 : s0 = 0 ∨ s0 = 1) : zr X 12 7 [.ref 5, .int v1, .int v2] [.int s0] (zk I) = some (some (.int s0), zk I) :=
  zr_zret t12_7 rfl q1
/-! X1_clashingWith FiveInks$Marks.clashingWith -/
theorem k13_0 {X : Nat × (Nat → Int32)} {I : Nat → Nat → Int32} {v1 : Int32} {v3 : Int32} (q1 : zin v1 20 = true) : zr X 13 0 [.ref 5, .int v1, .ref 5, .int v3, .null, .null] [] (zk I) = if ¬ (I 7 (zx v1)) = 1 then zr X 13 14 [.ref 5, .int v1, .ref 5, .int v3, .null, .null] [] (zk I) else zr X 13 10 [.ref 5, .int v1, .ref 5, .int v3, .null, .null] [] (zk I) :=
  (zr_aload_n t13_0 rfl).trans <|
    (zr_getR (u := 7) t13_1 (rfl)).trans <|
    (zr_iload_n t13_4 rfl).trans <|
    (zr_iald (j := zx v1) t13_5 (N := 20) rfl rfl q1).trans <|
    (zr_iconst t13_6 zci_1).trans <|
    zr_ic_ne (tgt := 14) t13_7 rfl
theorem k13_10 {X : Nat × (Nat → Int32)} {I : Nat → Nat → Int32} {v1 : Int32} {v3 : Int32} (q1 : zin v3 20 = true) : zr X 13 10 [.ref 5, .int v1, .ref 5, .int v3, .null, .null] [] (zk I) = if ¬ (I 7 (zx v3)) = 1 then zr X 13 31 [.ref 5, .int v1, .ref 5, .int v3, .int 1, .null] [] (zk I) else zr X 13 27 [.ref 5, .int v1, .ref 5, .int v3, .int 1, .null] [] (zk I) :=
  (zr_iconst t13_10 zci_1).trans <|
    (zr_goto (tgt := 15) t13_11 rfl).trans <|
    (zr_istore t13_15 rfl rfl).trans <|
    (zr_aload_n t13_17 rfl).trans <|
    (zr_getR (u := 7) t13_18 (rfl)).trans <|
    (zr_iload_n t13_21 rfl).trans <|
    (zr_iald (j := zx v3) t13_22 (N := 20) rfl rfl q1).trans <|
    (zr_iconst t13_23 zci_1).trans <|
    zr_ic_ne (tgt := 31) t13_24 rfl
theorem k13_14 {X : Nat × (Nat → Int32)} {I : Nat → Nat → Int32} {v1 : Int32} {v3 : Int32} (q1 : zin v3 20 = true) : zr X 13 14 [.ref 5, .int v1, .ref 5, .int v3, .null, .null] [] (zk I) = if ¬ (I 7 (zx v3)) = 1 then zr X 13 31 [.ref 5, .int v1, .ref 5, .int v3, .int 0, .null] [] (zk I) else zr X 13 27 [.ref 5, .int v1, .ref 5, .int v3, .int 0, .null] [] (zk I) :=
  (zr_iconst t13_14 zci_0).trans <|
    (zr_istore t13_15 rfl rfl).trans <|
    (zr_aload_n t13_17 rfl).trans <|
    (zr_getR (u := 7) t13_18 (rfl)).trans <|
    (zr_iload_n t13_21 rfl).trans <|
    (zr_iald (j := zx v3) t13_22 (N := 20) rfl rfl q1).trans <|
    (zr_iconst t13_23 zci_1).trans <|
    zr_ic_ne (tgt := 31) t13_24 rfl
theorem k13_27 {X : Nat × (Nat → Int32)} {I : Nat → Nat → Int32} {v1 : Int32} {v3 : Int32} {v4 : Int32}  : zr X 13 27 [.ref 5, .int v1, .ref 5, .int v3, .int v4, .null] [] (zk I) = if v4 = 0 then zr X 13 65 [.ref 5, .int v1, .ref 5, .int v3, .int v4, .int 1] [] (zk I) else zr X 13 39 [.ref 5, .int v1, .ref 5, .int v3, .int v4, .int 1] [] (zk I) :=
  (zr_iconst t13_27 zci_1).trans <|
    (zr_goto (tgt := 32) t13_28 rfl).trans <|
    (zr_istore t13_32 rfl rfl).trans <|
    (zr_iload t13_34 rfl).trans <|
    zr_if_eq (tgt := 65) t13_36 rfl
theorem k13_31 {X : Nat × (Nat → Int32)} {I : Nat → Nat → Int32} {v1 : Int32} {v3 : Int32} {v4 : Int32}  : zr X 13 31 [.ref 5, .int v1, .ref 5, .int v3, .int v4, .null] [] (zk I) = if v4 = 0 then zr X 13 65 [.ref 5, .int v1, .ref 5, .int v3, .int v4, .int 0] [] (zk I) else zr X 13 39 [.ref 5, .int v1, .ref 5, .int v3, .int v4, .int 0] [] (zk I) :=
  (zr_iconst t13_31 zci_0).trans <|
    (zr_istore t13_32 rfl rfl).trans <|
    (zr_iload t13_34 rfl).trans <|
    zr_if_eq (tgt := 65) t13_36 rfl
theorem k13_39 {X : Nat × (Nat → Int32)} {I : Nat → Nat → Int32} {v1 : Int32} {v3 : Int32} {v4 : Int32} {v5 : Int32}  : zr X 13 39 [.ref 5, .int v1, .ref 5, .int v3, .int v4, .int v5] [] (zk I) = if v5 = 0 then zr X 13 65 [.ref 5, .int v1, .ref 5, .int v3, .int v4, .int v5] [] (zk I) else zr X 13 44 [.ref 5, .int v1, .ref 5, .int v3, .int v4, .int v5] [] (zk I) :=
  (zr_iload t13_39 rfl).trans <|
    zr_if_eq (tgt := 65) t13_41 rfl
theorem k13_44 {X : Nat × (Nat → Int32)} {I : Nat → Nat → Int32} {v1 : Int32} {v3 : Int32} {v4 : Int32} {v5 : Int32} (q1 : zin v1 20 = true) (q2 : zin v3 20 = true) : zr X 13 44 [.ref 5, .int v1, .ref 5, .int v3, .int v4, .int v5] [] (zk I) = if ¬ (I 8 (zx v1)) = (I 8 (zx v3)) then zr X 13 63 [.ref 5, .int v1, .ref 5, .int v3, .int v4, .int v5] [] (zk I) else zr X 13 59 [.ref 5, .int v1, .ref 5, .int v3, .int v4, .int v5] [] (zk I) :=
  (zr_aload_n t13_44 rfl).trans <|
    (zr_getR (u := 8) t13_45 (rfl)).trans <|
    (zr_iload_n t13_48 rfl).trans <|
    (zr_iald (j := zx v1) t13_49 (N := 20) rfl rfl q1).trans <|
    (zr_aload_n t13_50 rfl).trans <|
    (zr_getR (u := 8) t13_51 (rfl)).trans <|
    (zr_iload_n t13_54 rfl).trans <|
    (zr_iald (j := zx v3) t13_55 (N := 20) rfl rfl q2).trans <|
    zr_ic_ne (tgt := 63) t13_56 rfl
theorem k13_59 {X : Nat × (Nat → Int32)} {I : Nat → Nat → Int32} {v1 : Int32} {v3 : Int32} {v4 : Int32} {v5 : Int32}  : zr X 13 59 [.ref 5, .int v1, .ref 5, .int v3, .int v4, .int v5] [] (zk I) = some (some (.int 1), zk I) :=
  (zr_iconst t13_59 zci_1).trans <|
    (zr_goto (tgt := 64) t13_60 rfl).trans <|
    zr_zret t13_64 rfl (Or.inr rfl)
theorem k13_63 {X : Nat × (Nat → Int32)} {I : Nat → Nat → Int32} {v1 : Int32} {v3 : Int32} {v4 : Int32} {v5 : Int32}  : zr X 13 63 [.ref 5, .int v1, .ref 5, .int v3, .int v4, .int v5] [] (zk I) = some (some (.int 0), zk I) :=
  (zr_iconst t13_63 zci_0).trans <|
    zr_zret t13_64 rfl (Or.inl rfl)
theorem k13_65 {X : Nat × (Nat → Int32)} {I : Nat → Nat → Int32} {v1 : Int32} {v3 : Int32} {v4 : Int32} {v5 : Int32}  : zr X 13 65 [.ref 5, .int v1, .ref 5, .int v3, .int v4, .int v5] [] (zk I) = if v4 = 0 then zr X 13 106 [.ref 5, .int v1, .ref 5, .int v3, .int v4, .int v5] [] (zk I) else zr X 13 70 [.ref 5, .int v1, .ref 5, .int v3, .int v4, .int v5] [] (zk I) :=
  (zr_iload t13_65 rfl).trans <|
    zr_if_eq (tgt := 106) t13_67 rfl
theorem k13_70 {X : Nat × (Nat → Int32)} {I : Nat → Nat → Int32} {v1 : Int32} {v3 : Int32} {v4 : Int32} {v5 : Int32} (q1 : zin v1 20 = true) (q2 : zin v3 20 = true) : zr X 13 70 [.ref 5, .int v1, .ref 5, .int v3, .int v4, .int v5] [] (zk I) = if (I 8 (zx v1)) ≤ (I 8 (zx v3)) then zr X 13 104 [.ref 5, .int v1, .ref 5, .int v3, .int v4, .int v5] [] (zk I) else zr X 13 85 [.ref 5, .int v1, .ref 5, .int v3, .int v4, .int v5] [] (zk I) :=
  (zr_aload_n t13_70 rfl).trans <|
    (zr_getR (u := 8) t13_71 (rfl)).trans <|
    (zr_iload_n t13_74 rfl).trans <|
    (zr_iald (j := zx v1) t13_75 (N := 20) rfl rfl q1).trans <|
    (zr_aload_n t13_76 rfl).trans <|
    (zr_getR (u := 8) t13_77 (rfl)).trans <|
    (zr_iload_n t13_80 rfl).trans <|
    (zr_iald (j := zx v3) t13_81 (N := 20) rfl rfl q2).trans <|
    zr_ic_le (tgt := 104) t13_82 rfl
theorem k13_85 {X : Nat × (Nat → Int32)} {I : Nat → Nat → Int32} {v1 : Int32} {v3 : Int32} {v4 : Int32} {v5 : Int32} (q1 : zin v1 20 = true) (q2 : zin v3 20 = true) : zr X 13 85 [.ref 5, .int v1, .ref 5, .int v3, .int v4, .int v5] [] (zk I) = if (I 9 (zx v3)) ≤ (I 8 (zx v1)) then zr X 13 104 [.ref 5, .int v1, .ref 5, .int v3, .int v4, .int v5] [] (zk I) else zr X 13 100 [.ref 5, .int v1, .ref 5, .int v3, .int v4, .int v5] [] (zk I) :=
  (zr_aload_n t13_85 rfl).trans <|
    (zr_getR (u := 8) t13_86 (rfl)).trans <|
    (zr_iload_n t13_89 rfl).trans <|
    (zr_iald (j := zx v1) t13_90 (N := 20) rfl rfl q1).trans <|
    (zr_aload_n t13_91 rfl).trans <|
    (zr_getR (u := 9) t13_92 (rfl)).trans <|
    (zr_iload_n t13_95 rfl).trans <|
    (zr_iald (j := zx v3) t13_96 (N := 20) rfl rfl q2).trans <|
    zr_ic_ge (tgt := 104) t13_97 rfl
theorem k13_100 {X : Nat × (Nat → Int32)} {I : Nat → Nat → Int32} {v1 : Int32} {v3 : Int32} {v4 : Int32} {v5 : Int32}  : zr X 13 100 [.ref 5, .int v1, .ref 5, .int v3, .int v4, .int v5] [] (zk I) = some (some (.int 1), zk I) :=
  (zr_iconst t13_100 zci_1).trans <|
    (zr_goto (tgt := 105) t13_101 rfl).trans <|
    zr_zret t13_105 rfl (Or.inr rfl)
theorem k13_104 {X : Nat × (Nat → Int32)} {I : Nat → Nat → Int32} {v1 : Int32} {v3 : Int32} {v4 : Int32} {v5 : Int32}  : zr X 13 104 [.ref 5, .int v1, .ref 5, .int v3, .int v4, .int v5] [] (zk I) = some (some (.int 0), zk I) :=
  (zr_iconst t13_104 zci_0).trans <|
    zr_zret t13_105 rfl (Or.inl rfl)
theorem k13_106 {X : Nat × (Nat → Int32)} {I : Nat → Nat → Int32} {v1 : Int32} {v3 : Int32} {v4 : Int32} {v5 : Int32}  : zr X 13 106 [.ref 5, .int v1, .ref 5, .int v3, .int v4, .int v5] [] (zk I) = if v5 = 0 then zr X 13 147 [.ref 5, .int v1, .ref 5, .int v3, .int v4, .int v5] [] (zk I) else zr X 13 111 [.ref 5, .int v1, .ref 5, .int v3, .int v4, .int v5] [] (zk I) :=
  (zr_iload t13_106 rfl).trans <|
    zr_if_eq (tgt := 147) t13_108 rfl
theorem k13_111 {X : Nat × (Nat → Int32)} {I : Nat → Nat → Int32} {v1 : Int32} {v3 : Int32} {v4 : Int32} {v5 : Int32} (q1 : zin v3 20 = true) (q2 : zin v1 20 = true) : zr X 13 111 [.ref 5, .int v1, .ref 5, .int v3, .int v4, .int v5] [] (zk I) = if (I 8 (zx v3)) ≤ (I 8 (zx v1)) then zr X 13 145 [.ref 5, .int v1, .ref 5, .int v3, .int v4, .int v5] [] (zk I) else zr X 13 126 [.ref 5, .int v1, .ref 5, .int v3, .int v4, .int v5] [] (zk I) :=
  (zr_aload_n t13_111 rfl).trans <|
    (zr_getR (u := 8) t13_112 (rfl)).trans <|
    (zr_iload_n t13_115 rfl).trans <|
    (zr_iald (j := zx v3) t13_116 (N := 20) rfl rfl q1).trans <|
    (zr_aload_n t13_117 rfl).trans <|
    (zr_getR (u := 8) t13_118 (rfl)).trans <|
    (zr_iload_n t13_121 rfl).trans <|
    (zr_iald (j := zx v1) t13_122 (N := 20) rfl rfl q2).trans <|
    zr_ic_le (tgt := 145) t13_123 rfl
theorem k13_126 {X : Nat × (Nat → Int32)} {I : Nat → Nat → Int32} {v1 : Int32} {v3 : Int32} {v4 : Int32} {v5 : Int32} (q1 : zin v3 20 = true) (q2 : zin v1 20 = true) : zr X 13 126 [.ref 5, .int v1, .ref 5, .int v3, .int v4, .int v5] [] (zk I) = if (I 9 (zx v1)) ≤ (I 8 (zx v3)) then zr X 13 145 [.ref 5, .int v1, .ref 5, .int v3, .int v4, .int v5] [] (zk I) else zr X 13 141 [.ref 5, .int v1, .ref 5, .int v3, .int v4, .int v5] [] (zk I) :=
  (zr_aload_n t13_126 rfl).trans <|
    (zr_getR (u := 8) t13_127 (rfl)).trans <|
    (zr_iload_n t13_130 rfl).trans <|
    (zr_iald (j := zx v3) t13_131 (N := 20) rfl rfl q1).trans <|
    (zr_aload_n t13_132 rfl).trans <|
    (zr_getR (u := 9) t13_133 (rfl)).trans <|
    (zr_iload_n t13_136 rfl).trans <|
    (zr_iald (j := zx v1) t13_137 (N := 20) rfl rfl q2).trans <|
    zr_ic_ge (tgt := 145) t13_138 rfl
theorem k13_141 {X : Nat × (Nat → Int32)} {I : Nat → Nat → Int32} {v1 : Int32} {v3 : Int32} {v4 : Int32} {v5 : Int32}  : zr X 13 141 [.ref 5, .int v1, .ref 5, .int v3, .int v4, .int v5] [] (zk I) = some (some (.int 1), zk I) :=
  (zr_iconst t13_141 zci_1).trans <|
    (zr_goto (tgt := 146) t13_142 rfl).trans <|
    zr_zret t13_146 rfl (Or.inr rfl)
theorem k13_145 {X : Nat × (Nat → Int32)} {I : Nat → Nat → Int32} {v1 : Int32} {v3 : Int32} {v4 : Int32} {v5 : Int32}  : zr X 13 145 [.ref 5, .int v1, .ref 5, .int v3, .int v4, .int v5] [] (zk I) = some (some (.int 0), zk I) :=
  (zr_iconst t13_145 zci_0).trans <|
    zr_zret t13_146 rfl (Or.inl rfl)
theorem k13_147 {X : Nat × (Nat → Int32)} {I : Nat → Nat → Int32} {v1 : Int32} {v3 : Int32} {v4 : Int32} {v5 : Int32} (q1 : zin v1 20 = true) (q2 : zin v3 20 = true) : zr X 13 147 [.ref 5, .int v1, .ref 5, .int v3, .int v4, .int v5] [] (zk I) = if (I 9 (zx v3)) ≤ (I 8 (zx v1)) then zr X 13 181 [.ref 5, .int v1, .ref 5, .int v3, .int v4, .int v5] [] (zk I) else zr X 13 162 [.ref 5, .int v1, .ref 5, .int v3, .int v4, .int v5] [] (zk I) :=
  (zr_aload_n t13_147 rfl).trans <|
    (zr_getR (u := 8) t13_148 (rfl)).trans <|
    (zr_iload_n t13_151 rfl).trans <|
    (zr_iald (j := zx v1) t13_152 (N := 20) rfl rfl q1).trans <|
    (zr_aload_n t13_153 rfl).trans <|
    (zr_getR (u := 9) t13_154 (rfl)).trans <|
    (zr_iload_n t13_157 rfl).trans <|
    (zr_iald (j := zx v3) t13_158 (N := 20) rfl rfl q2).trans <|
    zr_ic_ge (tgt := 181) t13_159 rfl
theorem k13_162 {X : Nat × (Nat → Int32)} {I : Nat → Nat → Int32} {v1 : Int32} {v3 : Int32} {v4 : Int32} {v5 : Int32} (q1 : zin v3 20 = true) (q2 : zin v1 20 = true) : zr X 13 162 [.ref 5, .int v1, .ref 5, .int v3, .int v4, .int v5] [] (zk I) = if (I 9 (zx v1)) ≤ (I 8 (zx v3)) then zr X 13 181 [.ref 5, .int v1, .ref 5, .int v3, .int v4, .int v5] [] (zk I) else zr X 13 177 [.ref 5, .int v1, .ref 5, .int v3, .int v4, .int v5] [] (zk I) :=
  (zr_aload_n t13_162 rfl).trans <|
    (zr_getR (u := 8) t13_163 (rfl)).trans <|
    (zr_iload_n t13_166 rfl).trans <|
    (zr_iald (j := zx v3) t13_167 (N := 20) rfl rfl q1).trans <|
    (zr_aload_n t13_168 rfl).trans <|
    (zr_getR (u := 9) t13_169 (rfl)).trans <|
    (zr_iload_n t13_172 rfl).trans <|
    (zr_iald (j := zx v1) t13_173 (N := 20) rfl rfl q2).trans <|
    zr_ic_ge (tgt := 181) t13_174 rfl
theorem k13_177 {X : Nat × (Nat → Int32)} {I : Nat → Nat → Int32} {v1 : Int32} {v3 : Int32} {v4 : Int32} {v5 : Int32}  : zr X 13 177 [.ref 5, .int v1, .ref 5, .int v3, .int v4, .int v5] [] (zk I) = some (some (.int 1), zk I) :=
  (zr_iconst t13_177 zci_1).trans <|
    (zr_goto (tgt := 182) t13_178 rfl).trans <|
    zr_zret t13_182 rfl (Or.inr rfl)
theorem k13_181 {X : Nat × (Nat → Int32)} {I : Nat → Nat → Int32} {v1 : Int32} {v3 : Int32} {v4 : Int32} {v5 : Int32}  : zr X 13 181 [.ref 5, .int v1, .ref 5, .int v3, .int v4, .int v5] [] (zk I) = some (some (.int 0), zk I) :=
  (zr_iconst t13_181 zci_0).trans <|
    zr_zret t13_182 rfl (Or.inl rfl)
/-! X1_clashingWith FiveInks$Marks.clashingWith at ['5', '145'] -/
theorem k13b_0 {X : Nat × (Nat → Int32)} {I : Nat → Nat → Int32} {v1 : Int32} {v3 : Int32} (q1 : zin v1 20 = true) : zr X 13 0 [.ref 5, .int v1, .ref 145, .int v3, .null, .null] [] (zk I) = if ¬ (I 7 (zx v1)) = 1 then zr X 13 14 [.ref 5, .int v1, .ref 145, .int v3, .null, .null] [] (zk I) else zr X 13 10 [.ref 5, .int v1, .ref 145, .int v3, .null, .null] [] (zk I) :=
  (zr_aload_n t13_0 rfl).trans <|
    (zr_getR (u := 7) t13_1 (rfl)).trans <|
    (zr_iload_n t13_4 rfl).trans <|
    (zr_iald (j := zx v1) t13_5 (N := 20) rfl rfl q1).trans <|
    (zr_iconst t13_6 zci_1).trans <|
    zr_ic_ne (tgt := 14) t13_7 rfl
theorem k13b_10 {X : Nat × (Nat → Int32)} {I : Nat → Nat → Int32} {v1 : Int32} {v3 : Int32} (q1 : zin v3 20 = true) : zr X 13 10 [.ref 5, .int v1, .ref 145, .int v3, .null, .null] [] (zk I) = if ¬ (I 147 (zx v3)) = 1 then zr X 13 31 [.ref 5, .int v1, .ref 145, .int v3, .int 1, .null] [] (zk I) else zr X 13 27 [.ref 5, .int v1, .ref 145, .int v3, .int 1, .null] [] (zk I) :=
  (zr_iconst t13_10 zci_1).trans <|
    (zr_goto (tgt := 15) t13_11 rfl).trans <|
    (zr_istore t13_15 rfl rfl).trans <|
    (zr_aload_n t13_17 rfl).trans <|
    (zr_getR (u := 147) t13_18 (rfl)).trans <|
    (zr_iload_n t13_21 rfl).trans <|
    (zr_iald (j := zx v3) t13_22 (N := 20) rfl rfl q1).trans <|
    (zr_iconst t13_23 zci_1).trans <|
    zr_ic_ne (tgt := 31) t13_24 rfl
theorem k13b_14 {X : Nat × (Nat → Int32)} {I : Nat → Nat → Int32} {v1 : Int32} {v3 : Int32} (q1 : zin v3 20 = true) : zr X 13 14 [.ref 5, .int v1, .ref 145, .int v3, .null, .null] [] (zk I) = if ¬ (I 147 (zx v3)) = 1 then zr X 13 31 [.ref 5, .int v1, .ref 145, .int v3, .int 0, .null] [] (zk I) else zr X 13 27 [.ref 5, .int v1, .ref 145, .int v3, .int 0, .null] [] (zk I) :=
  (zr_iconst t13_14 zci_0).trans <|
    (zr_istore t13_15 rfl rfl).trans <|
    (zr_aload_n t13_17 rfl).trans <|
    (zr_getR (u := 147) t13_18 (rfl)).trans <|
    (zr_iload_n t13_21 rfl).trans <|
    (zr_iald (j := zx v3) t13_22 (N := 20) rfl rfl q1).trans <|
    (zr_iconst t13_23 zci_1).trans <|
    zr_ic_ne (tgt := 31) t13_24 rfl
theorem k13b_27 {X : Nat × (Nat → Int32)} {I : Nat → Nat → Int32} {v1 : Int32} {v3 : Int32} {v4 : Int32}  : zr X 13 27 [.ref 5, .int v1, .ref 145, .int v3, .int v4, .null] [] (zk I) = if v4 = 0 then zr X 13 65 [.ref 5, .int v1, .ref 145, .int v3, .int v4, .int 1] [] (zk I) else zr X 13 39 [.ref 5, .int v1, .ref 145, .int v3, .int v4, .int 1] [] (zk I) :=
  (zr_iconst t13_27 zci_1).trans <|
    (zr_goto (tgt := 32) t13_28 rfl).trans <|
    (zr_istore t13_32 rfl rfl).trans <|
    (zr_iload t13_34 rfl).trans <|
    zr_if_eq (tgt := 65) t13_36 rfl
theorem k13b_31 {X : Nat × (Nat → Int32)} {I : Nat → Nat → Int32} {v1 : Int32} {v3 : Int32} {v4 : Int32}  : zr X 13 31 [.ref 5, .int v1, .ref 145, .int v3, .int v4, .null] [] (zk I) = if v4 = 0 then zr X 13 65 [.ref 5, .int v1, .ref 145, .int v3, .int v4, .int 0] [] (zk I) else zr X 13 39 [.ref 5, .int v1, .ref 145, .int v3, .int v4, .int 0] [] (zk I) :=
  (zr_iconst t13_31 zci_0).trans <|
    (zr_istore t13_32 rfl rfl).trans <|
    (zr_iload t13_34 rfl).trans <|
    zr_if_eq (tgt := 65) t13_36 rfl
theorem k13b_39 {X : Nat × (Nat → Int32)} {I : Nat → Nat → Int32} {v1 : Int32} {v3 : Int32} {v4 : Int32} {v5 : Int32}  : zr X 13 39 [.ref 5, .int v1, .ref 145, .int v3, .int v4, .int v5] [] (zk I) = if v5 = 0 then zr X 13 65 [.ref 5, .int v1, .ref 145, .int v3, .int v4, .int v5] [] (zk I) else zr X 13 44 [.ref 5, .int v1, .ref 145, .int v3, .int v4, .int v5] [] (zk I) :=
  (zr_iload t13_39 rfl).trans <|
    zr_if_eq (tgt := 65) t13_41 rfl
theorem k13b_44 {X : Nat × (Nat → Int32)} {I : Nat → Nat → Int32} {v1 : Int32} {v3 : Int32} {v4 : Int32} {v5 : Int32} (q1 : zin v1 20 = true) (q2 : zin v3 20 = true) : zr X 13 44 [.ref 5, .int v1, .ref 145, .int v3, .int v4, .int v5] [] (zk I) = if ¬ (I 8 (zx v1)) = (I 148 (zx v3)) then zr X 13 63 [.ref 5, .int v1, .ref 145, .int v3, .int v4, .int v5] [] (zk I) else zr X 13 59 [.ref 5, .int v1, .ref 145, .int v3, .int v4, .int v5] [] (zk I) :=
  (zr_aload_n t13_44 rfl).trans <|
    (zr_getR (u := 8) t13_45 (rfl)).trans <|
    (zr_iload_n t13_48 rfl).trans <|
    (zr_iald (j := zx v1) t13_49 (N := 20) rfl rfl q1).trans <|
    (zr_aload_n t13_50 rfl).trans <|
    (zr_getR (u := 148) t13_51 (rfl)).trans <|
    (zr_iload_n t13_54 rfl).trans <|
    (zr_iald (j := zx v3) t13_55 (N := 20) rfl rfl q2).trans <|
    zr_ic_ne (tgt := 63) t13_56 rfl
theorem k13b_59 {X : Nat × (Nat → Int32)} {I : Nat → Nat → Int32} {v1 : Int32} {v3 : Int32} {v4 : Int32} {v5 : Int32}  : zr X 13 59 [.ref 5, .int v1, .ref 145, .int v3, .int v4, .int v5] [] (zk I) = some (some (.int 1), zk I) :=
  (zr_iconst t13_59 zci_1).trans <|
    (zr_goto (tgt := 64) t13_60 rfl).trans <|
    zr_zret t13_64 rfl (Or.inr rfl)
theorem k13b_63 {X : Nat × (Nat → Int32)} {I : Nat → Nat → Int32} {v1 : Int32} {v3 : Int32} {v4 : Int32} {v5 : Int32}  : zr X 13 63 [.ref 5, .int v1, .ref 145, .int v3, .int v4, .int v5] [] (zk I) = some (some (.int 0), zk I) :=
  (zr_iconst t13_63 zci_0).trans <|
    zr_zret t13_64 rfl (Or.inl rfl)
theorem k13b_65 {X : Nat × (Nat → Int32)} {I : Nat → Nat → Int32} {v1 : Int32} {v3 : Int32} {v4 : Int32} {v5 : Int32}  : zr X 13 65 [.ref 5, .int v1, .ref 145, .int v3, .int v4, .int v5] [] (zk I) = if v4 = 0 then zr X 13 106 [.ref 5, .int v1, .ref 145, .int v3, .int v4, .int v5] [] (zk I) else zr X 13 70 [.ref 5, .int v1, .ref 145, .int v3, .int v4, .int v5] [] (zk I) :=
  (zr_iload t13_65 rfl).trans <|
    zr_if_eq (tgt := 106) t13_67 rfl
theorem k13b_70 {X : Nat × (Nat → Int32)} {I : Nat → Nat → Int32} {v1 : Int32} {v3 : Int32} {v4 : Int32} {v5 : Int32} (q1 : zin v1 20 = true) (q2 : zin v3 20 = true) : zr X 13 70 [.ref 5, .int v1, .ref 145, .int v3, .int v4, .int v5] [] (zk I) = if (I 8 (zx v1)) ≤ (I 148 (zx v3)) then zr X 13 104 [.ref 5, .int v1, .ref 145, .int v3, .int v4, .int v5] [] (zk I) else zr X 13 85 [.ref 5, .int v1, .ref 145, .int v3, .int v4, .int v5] [] (zk I) :=
  (zr_aload_n t13_70 rfl).trans <|
    (zr_getR (u := 8) t13_71 (rfl)).trans <|
    (zr_iload_n t13_74 rfl).trans <|
    (zr_iald (j := zx v1) t13_75 (N := 20) rfl rfl q1).trans <|
    (zr_aload_n t13_76 rfl).trans <|
    (zr_getR (u := 148) t13_77 (rfl)).trans <|
    (zr_iload_n t13_80 rfl).trans <|
    (zr_iald (j := zx v3) t13_81 (N := 20) rfl rfl q2).trans <|
    zr_ic_le (tgt := 104) t13_82 rfl
theorem k13b_85 {X : Nat × (Nat → Int32)} {I : Nat → Nat → Int32} {v1 : Int32} {v3 : Int32} {v4 : Int32} {v5 : Int32} (q1 : zin v1 20 = true) (q2 : zin v3 20 = true) : zr X 13 85 [.ref 5, .int v1, .ref 145, .int v3, .int v4, .int v5] [] (zk I) = if (I 149 (zx v3)) ≤ (I 8 (zx v1)) then zr X 13 104 [.ref 5, .int v1, .ref 145, .int v3, .int v4, .int v5] [] (zk I) else zr X 13 100 [.ref 5, .int v1, .ref 145, .int v3, .int v4, .int v5] [] (zk I) :=
  (zr_aload_n t13_85 rfl).trans <|
    (zr_getR (u := 8) t13_86 (rfl)).trans <|
    (zr_iload_n t13_89 rfl).trans <|
    (zr_iald (j := zx v1) t13_90 (N := 20) rfl rfl q1).trans <|
    (zr_aload_n t13_91 rfl).trans <|
    (zr_getR (u := 149) t13_92 (rfl)).trans <|
    (zr_iload_n t13_95 rfl).trans <|
    (zr_iald (j := zx v3) t13_96 (N := 20) rfl rfl q2).trans <|
    zr_ic_ge (tgt := 104) t13_97 rfl
theorem k13b_100 {X : Nat × (Nat → Int32)} {I : Nat → Nat → Int32} {v1 : Int32} {v3 : Int32} {v4 : Int32} {v5 : Int32}  : zr X 13 100 [.ref 5, .int v1, .ref 145, .int v3, .int v4, .int v5] [] (zk I) = some (some (.int 1), zk I) :=
  (zr_iconst t13_100 zci_1).trans <|
    (zr_goto (tgt := 105) t13_101 rfl).trans <|
    zr_zret t13_105 rfl (Or.inr rfl)
theorem k13b_104 {X : Nat × (Nat → Int32)} {I : Nat → Nat → Int32} {v1 : Int32} {v3 : Int32} {v4 : Int32} {v5 : Int32}  : zr X 13 104 [.ref 5, .int v1, .ref 145, .int v3, .int v4, .int v5] [] (zk I) = some (some (.int 0), zk I) :=
  (zr_iconst t13_104 zci_0).trans <|
    zr_zret t13_105 rfl (Or.inl rfl)
theorem k13b_106 {X : Nat × (Nat → Int32)} {I : Nat → Nat → Int32} {v1 : Int32} {v3 : Int32} {v4 : Int32} {v5 : Int32}  : zr X 13 106 [.ref 5, .int v1, .ref 145, .int v3, .int v4, .int v5] [] (zk I) = if v5 = 0 then zr X 13 147 [.ref 5, .int v1, .ref 145, .int v3, .int v4, .int v5] [] (zk I) else zr X 13 111 [.ref 5, .int v1, .ref 145, .int v3, .int v4, .int v5] [] (zk I) :=
  (zr_iload t13_106 rfl).trans <|
    zr_if_eq (tgt := 147) t13_108 rfl
theorem k13b_111 {X : Nat × (Nat → Int32)} {I : Nat → Nat → Int32} {v1 : Int32} {v3 : Int32} {v4 : Int32} {v5 : Int32} (q1 : zin v3 20 = true) (q2 : zin v1 20 = true) : zr X 13 111 [.ref 5, .int v1, .ref 145, .int v3, .int v4, .int v5] [] (zk I) = if (I 148 (zx v3)) ≤ (I 8 (zx v1)) then zr X 13 145 [.ref 5, .int v1, .ref 145, .int v3, .int v4, .int v5] [] (zk I) else zr X 13 126 [.ref 5, .int v1, .ref 145, .int v3, .int v4, .int v5] [] (zk I) :=
  (zr_aload_n t13_111 rfl).trans <|
    (zr_getR (u := 148) t13_112 (rfl)).trans <|
    (zr_iload_n t13_115 rfl).trans <|
    (zr_iald (j := zx v3) t13_116 (N := 20) rfl rfl q1).trans <|
    (zr_aload_n t13_117 rfl).trans <|
    (zr_getR (u := 8) t13_118 (rfl)).trans <|
    (zr_iload_n t13_121 rfl).trans <|
    (zr_iald (j := zx v1) t13_122 (N := 20) rfl rfl q2).trans <|
    zr_ic_le (tgt := 145) t13_123 rfl
theorem k13b_126 {X : Nat × (Nat → Int32)} {I : Nat → Nat → Int32} {v1 : Int32} {v3 : Int32} {v4 : Int32} {v5 : Int32} (q1 : zin v3 20 = true) (q2 : zin v1 20 = true) : zr X 13 126 [.ref 5, .int v1, .ref 145, .int v3, .int v4, .int v5] [] (zk I) = if (I 9 (zx v1)) ≤ (I 148 (zx v3)) then zr X 13 145 [.ref 5, .int v1, .ref 145, .int v3, .int v4, .int v5] [] (zk I) else zr X 13 141 [.ref 5, .int v1, .ref 145, .int v3, .int v4, .int v5] [] (zk I) :=
  (zr_aload_n t13_126 rfl).trans <|
    (zr_getR (u := 148) t13_127 (rfl)).trans <|
    (zr_iload_n t13_130 rfl).trans <|
    (zr_iald (j := zx v3) t13_131 (N := 20) rfl rfl q1).trans <|
    (zr_aload_n t13_132 rfl).trans <|
    (zr_getR (u := 9) t13_133 (rfl)).trans <|
    (zr_iload_n t13_136 rfl).trans <|
    (zr_iald (j := zx v1) t13_137 (N := 20) rfl rfl q2).trans <|
    zr_ic_ge (tgt := 145) t13_138 rfl
theorem k13b_141 {X : Nat × (Nat → Int32)} {I : Nat → Nat → Int32} {v1 : Int32} {v3 : Int32} {v4 : Int32} {v5 : Int32}  : zr X 13 141 [.ref 5, .int v1, .ref 145, .int v3, .int v4, .int v5] [] (zk I) = some (some (.int 1), zk I) :=
  (zr_iconst t13_141 zci_1).trans <|
    (zr_goto (tgt := 146) t13_142 rfl).trans <|
    zr_zret t13_146 rfl (Or.inr rfl)
theorem k13b_145 {X : Nat × (Nat → Int32)} {I : Nat → Nat → Int32} {v1 : Int32} {v3 : Int32} {v4 : Int32} {v5 : Int32}  : zr X 13 145 [.ref 5, .int v1, .ref 145, .int v3, .int v4, .int v5] [] (zk I) = some (some (.int 0), zk I) :=
  (zr_iconst t13_145 zci_0).trans <|
    zr_zret t13_146 rfl (Or.inl rfl)
theorem k13b_147 {X : Nat × (Nat → Int32)} {I : Nat → Nat → Int32} {v1 : Int32} {v3 : Int32} {v4 : Int32} {v5 : Int32} (q1 : zin v1 20 = true) (q2 : zin v3 20 = true) : zr X 13 147 [.ref 5, .int v1, .ref 145, .int v3, .int v4, .int v5] [] (zk I) = if (I 149 (zx v3)) ≤ (I 8 (zx v1)) then zr X 13 181 [.ref 5, .int v1, .ref 145, .int v3, .int v4, .int v5] [] (zk I) else zr X 13 162 [.ref 5, .int v1, .ref 145, .int v3, .int v4, .int v5] [] (zk I) :=
  (zr_aload_n t13_147 rfl).trans <|
    (zr_getR (u := 8) t13_148 (rfl)).trans <|
    (zr_iload_n t13_151 rfl).trans <|
    (zr_iald (j := zx v1) t13_152 (N := 20) rfl rfl q1).trans <|
    (zr_aload_n t13_153 rfl).trans <|
    (zr_getR (u := 149) t13_154 (rfl)).trans <|
    (zr_iload_n t13_157 rfl).trans <|
    (zr_iald (j := zx v3) t13_158 (N := 20) rfl rfl q2).trans <|
    zr_ic_ge (tgt := 181) t13_159 rfl
theorem k13b_162 {X : Nat × (Nat → Int32)} {I : Nat → Nat → Int32} {v1 : Int32} {v3 : Int32} {v4 : Int32} {v5 : Int32} (q1 : zin v3 20 = true) (q2 : zin v1 20 = true) : zr X 13 162 [.ref 5, .int v1, .ref 145, .int v3, .int v4, .int v5] [] (zk I) = if (I 9 (zx v1)) ≤ (I 148 (zx v3)) then zr X 13 181 [.ref 5, .int v1, .ref 145, .int v3, .int v4, .int v5] [] (zk I) else zr X 13 177 [.ref 5, .int v1, .ref 145, .int v3, .int v4, .int v5] [] (zk I) :=
  (zr_aload_n t13_162 rfl).trans <|
    (zr_getR (u := 148) t13_163 (rfl)).trans <|
    (zr_iload_n t13_166 rfl).trans <|
    (zr_iald (j := zx v3) t13_167 (N := 20) rfl rfl q1).trans <|
    (zr_aload_n t13_168 rfl).trans <|
    (zr_getR (u := 9) t13_169 (rfl)).trans <|
    (zr_iload_n t13_172 rfl).trans <|
    (zr_iald (j := zx v1) t13_173 (N := 20) rfl rfl q2).trans <|
    zr_ic_ge (tgt := 181) t13_174 rfl
theorem k13b_177 {X : Nat × (Nat → Int32)} {I : Nat → Nat → Int32} {v1 : Int32} {v3 : Int32} {v4 : Int32} {v5 : Int32}  : zr X 13 177 [.ref 5, .int v1, .ref 145, .int v3, .int v4, .int v5] [] (zk I) = some (some (.int 1), zk I) :=
  (zr_iconst t13_177 zci_1).trans <|
    (zr_goto (tgt := 182) t13_178 rfl).trans <|
    zr_zret t13_182 rfl (Or.inr rfl)
theorem k13b_181 {X : Nat × (Nat → Int32)} {I : Nat → Nat → Int32} {v1 : Int32} {v3 : Int32} {v4 : Int32} {v5 : Int32}  : zr X 13 181 [.ref 5, .int v1, .ref 145, .int v3, .int v4, .int v5] [] (zk I) = some (some (.int 0), zk I) :=
  (zr_iconst t13_181 zci_0).trans <|
    zr_zret t13_182 rfl (Or.inl rfl)
/-! X1_quarrelling FiveInks$Marks.quarrelling -/
theorem k14_0 {X : Nat × (Nat → Int32)} {I : Nat → Nat → Int32} {v1 : Int32} {v2 : Int32} (q1 : zin v1 20 = true) (q2 : zin v2 20 = true) : zr X 14 0 [.ref 5, .int v1, .int v2] [] (zk I) = if (I 6 (zx v1)) = (I 6 (zx v2)) then zr X 14 48 [.ref 5, .int v1, .int v2] [] (zk I) else zr X 14 15 [.ref 5, .int v1, .int v2] [] (zk I) :=
  (zr_aload_n t14_0 rfl).trans <|
    (zr_getR (u := 6) t14_1 (rfl)).trans <|
    (zr_iload_n t14_4 rfl).trans <|
    (zr_iald (j := zx v1) t14_5 (N := 20) rfl rfl q1).trans <|
    (zr_aload_n t14_6 rfl).trans <|
    (zr_getR (u := 6) t14_7 (rfl)).trans <|
    (zr_iload_n t14_10 rfl).trans <|
    (zr_iald (j := zx v2) t14_11 (N := 20) rfl rfl q2).trans <|
    zr_ic_eq (tgt := 48) t14_12 rfl
theorem k14_15 {X : Nat × (Nat → Int32)} {I : Nat → Nat → Int32} {v1 : Int32} {v2 : Int32} (q1 : zin v1 20 = true) : zr X 14 15 [.ref 5, .int v1, .int v2] [] (zk I) = if (I 10 (zx v1)) = 2 then zr X 14 48 [.ref 5, .int v1, .int v2] [] (zk I) else zr X 14 25 [.ref 5, .int v1, .int v2] [] (zk I) :=
  (zr_aload_n t14_15 rfl).trans <|
    (zr_getR (u := 10) t14_16 (rfl)).trans <|
    (zr_iload_n t14_19 rfl).trans <|
    (zr_iald (j := zx v1) t14_20 (N := 20) rfl rfl q1).trans <|
    (zr_iconst t14_21 zci_2).trans <|
    zr_ic_eq (tgt := 48) t14_22 rfl
theorem k14_25 {X : Nat × (Nat → Int32)} {I : Nat → Nat → Int32} {v1 : Int32} {v2 : Int32} (q1 : zin v2 20 = true) : zr X 14 25 [.ref 5, .int v1, .int v2] [] (zk I) = if (I 10 (zx v2)) = 2 then zr X 14 48 [.ref 5, .int v1, .int v2] [] (zk I) else zr X 14 35 [.ref 5, .int v1, .int v2] [] (zk I) :=
  (zr_aload_n t14_25 rfl).trans <|
    (zr_getR (u := 10) t14_26 (rfl)).trans <|
    (zr_iload_n t14_29 rfl).trans <|
    (zr_iald (j := zx v2) t14_30 (N := 20) rfl rfl q1).trans <|
    (zr_iconst t14_31 zci_2).trans <|
    zr_ic_eq (tgt := 48) t14_32 rfl
theorem k14_35 {X : Nat × (Nat → Int32)} {I : Nat → Nat → Int32} {v1 : Int32} {v2 : Int32}  : zr X 14 35 [.ref 5, .int v1, .int v2] [] (zk I) = zcb (zr X 12 0 [.ref 5, .int v1, .int v2] [] (zk I)) (fun v m1 => zr X 14 41 [.ref 5, .int v1, .int v2] (v.toList ++ []) m1) :=
  (zr_aload_n t14_35 rfl).trans <|
    (zr_iload_n t14_36 rfl).trans <|
    (zr_iload_n t14_37 rfl).trans <|
    zr_callv t14_38 rfl rfl rfl rfl
theorem k14_41 {X : Nat × (Nat → Int32)} {I : Nat → Nat → Int32} {v1 : Int32} {v2 : Int32} {s0 : Int32}  : zr X 14 41 [.ref 5, .int v1, .int v2] [.int s0] (zk I) = if s0 = 0 then zr X 14 48 [.ref 5, .int v1, .int v2] [] (zk I) else zr X 14 44 [.ref 5, .int v1, .int v2] [] (zk I) :=
  zr_if_eq (tgt := 48) t14_41 rfl
theorem k14_44 {X : Nat × (Nat → Int32)} {I : Nat → Nat → Int32} {v1 : Int32} {v2 : Int32}  : zr X 14 44 [.ref 5, .int v1, .int v2] [] (zk I) = some (some (.int 1), zk I) :=
  (zr_iconst t14_44 zci_1).trans <|
    (zr_goto (tgt := 49) t14_45 rfl).trans <|
    zr_zret t14_49 rfl (Or.inr rfl)
theorem k14_48 {X : Nat × (Nat → Int32)} {I : Nat → Nat → Int32} {v1 : Int32} {v2 : Int32}  : zr X 14 48 [.ref 5, .int v1, .int v2] [] (zk I) = some (some (.int 0), zk I) :=
  (zr_iconst t14_48 zci_0).trans <|
    zr_zret t14_49 rfl (Or.inl rfl)
/-! X1_hasClashInOwnInk FiveInks$Marks.hasClashInOwnInk -/
theorem k15_0 {X : Nat × (Nat → Int32)} {I : Nat → Nat → Int32} {v2 : Int32}  : zr X 15 0 [.ref 5, .ref 145, .int v2, .null] [] (zk I) = zr X 15 2 [.ref 5, .ref 145, .int v2, .int 0] [] (zk I) :=
  (zr_iconst t15_0 zci_0).trans <|
    zr_istore_n t15_1 rfl rfl
theorem k15_2 {X : Nat × (Nat → Int32)} {I : Nat → Nat → Int32} {v2 : Int32} {v3 : Int32}  : zr X 15 2 [.ref 5, .ref 145, .int v2, .int v3] [] (zk I) = if (I 5 7) ≤ v3 then zr X 15 53 [.ref 5, .ref 145, .int v2, .int v3] [] (zk I) else zr X 15 10 [.ref 5, .ref 145, .int v2, .int v3] [] (zk I) :=
  (zr_iload_n t15_2 rfl).trans <|
    (zr_aload_n t15_3 rfl).trans <|
    (zr_getI t15_4 (rfl)).trans <|
    zr_ic_ge (tgt := 53) t15_7 rfl
theorem k15_10 {X : Nat × (Nat → Int32)} {I : Nat → Nat → Int32} {v2 : Int32} {v3 : Int32} (q1 : zin v3 20 = true) (q2 : zin v2 20 = true) : zr X 15 10 [.ref 5, .ref 145, .int v2, .int v3] [] (zk I) = if ¬ (I 6 (zx v3)) = (I 146 (zx v2)) then zr X 15 47 [.ref 5, .ref 145, .int v2, .int v3] [] (zk I) else zr X 15 25 [.ref 5, .ref 145, .int v2, .int v3] [] (zk I) :=
  (zr_aload_n t15_10 rfl).trans <|
    (zr_getR (u := 6) t15_11 (rfl)).trans <|
    (zr_iload_n t15_14 rfl).trans <|
    (zr_iald (j := zx v3) t15_15 (N := 20) rfl rfl q1).trans <|
    (zr_aload_n t15_16 rfl).trans <|
    (zr_getR (u := 146) t15_17 (rfl)).trans <|
    (zr_iload_n t15_20 rfl).trans <|
    (zr_iald (j := zx v2) t15_21 (N := 20) rfl rfl q2).trans <|
    zr_ic_ne (tgt := 47) t15_22 rfl
theorem k15_25 {X : Nat × (Nat → Int32)} {I : Nat → Nat → Int32} {v2 : Int32} {v3 : Int32} (q1 : zin v3 20 = true) : zr X 15 25 [.ref 5, .ref 145, .int v2, .int v3] [] (zk I) = if (I 10 (zx v3)) = 2 then zr X 15 47 [.ref 5, .ref 145, .int v2, .int v3] [] (zk I) else zr X 15 35 [.ref 5, .ref 145, .int v2, .int v3] [] (zk I) :=
  (zr_aload_n t15_25 rfl).trans <|
    (zr_getR (u := 10) t15_26 (rfl)).trans <|
    (zr_iload_n t15_29 rfl).trans <|
    (zr_iald (j := zx v3) t15_30 (N := 20) rfl rfl q1).trans <|
    (zr_iconst t15_31 zci_2).trans <|
    zr_ic_eq (tgt := 47) t15_32 rfl
theorem k15_35 {X : Nat × (Nat → Int32)} {I : Nat → Nat → Int32} {v2 : Int32} {v3 : Int32}  : zr X 15 35 [.ref 5, .ref 145, .int v2, .int v3] [] (zk I) = zcb (zr X 13 0 [.ref 5, .int v3, .ref 145, .int v2, .null, .null] [] (zk I)) (fun v m1 => zr X 15 42 [.ref 5, .ref 145, .int v2, .int v3] (v.toList ++ []) m1) :=
  (zr_aload_n t15_35 rfl).trans <|
    (zr_iload_n t15_36 rfl).trans <|
    (zr_aload_n t15_37 rfl).trans <|
    (zr_iload_n t15_38 rfl).trans <|
    zr_callv t15_39 rfl rfl rfl rfl
theorem k15_42 {X : Nat × (Nat → Int32)} {I : Nat → Nat → Int32} {v2 : Int32} {v3 : Int32} {s0 : Int32}  : zr X 15 42 [.ref 5, .ref 145, .int v2, .int v3] [.int s0] (zk I) = if s0 = 0 then zr X 15 47 [.ref 5, .ref 145, .int v2, .int v3] [] (zk I) else zr X 15 45 [.ref 5, .ref 145, .int v2, .int v3] [] (zk I) :=
  zr_if_eq (tgt := 47) t15_42 rfl
theorem k15_45 {X : Nat × (Nat → Int32)} {I : Nat → Nat → Int32} {v2 : Int32} {v3 : Int32}  : zr X 15 45 [.ref 5, .ref 145, .int v2, .int v3] [] (zk I) = some (some (.int 1), zk I) :=
  (zr_iconst t15_45 zci_1).trans <|
    zr_zret t15_46 rfl (Or.inr rfl)
theorem k15_47 {X : Nat × (Nat → Int32)} {I : Nat → Nat → Int32} {v2 : Int32} {v3 : Int32}  : zr X 15 47 [.ref 5, .ref 145, .int v2, .int v3] [] (zk I) = zr X 15 2 [.ref 5, .ref 145, .int v2, .int (v3 + 1)] [] (zk I) :=
  (zr_iinc t15_47 rfl rfl (congrArg (fun z => v3 + z) zci_1) rfl).trans <|
    zr_goto (tgt := 2) t15_50 rfl
theorem k15_53 {X : Nat × (Nat → Int32)} {I : Nat → Nat → Int32} {v2 : Int32} {v3 : Int32}  : zr X 15 53 [.ref 5, .ref 145, .int v2, .int v3] [] (zk I) = some (some (.int 0), zk I) :=
  (zr_iconst t15_53 zci_0).trans <|
    zr_zret t15_54 rfl (Or.inl rfl)
/-! X1_clashesWithAny FiveInks$Marks.clashesWithAny -/
theorem k16_0 {X : Nat × (Nat → Int32)} {I : Nat → Nat → Int32} {v1 : Int32} {v2 : Int32}  : zr X 16 0 [.ref 5, .int v1, .int v2, .null] [] (zk I) = zr X 16 2 [.ref 5, .int v1, .int v2, .int 0] [] (zk I) :=
  (zr_iconst t16_0 zci_0).trans <|
    zr_istore_n t16_1 rfl rfl
theorem k16_2 {X : Nat × (Nat → Int32)} {I : Nat → Nat → Int32} {v1 : Int32} {v2 : Int32} {v3 : Int32}  : zr X 16 2 [.ref 5, .int v1, .int v2, .int v3] [] (zk I) = if (I 5 7) ≤ v3 then zr X 16 42 [.ref 5, .int v1, .int v2, .int v3] [] (zk I) else zr X 16 10 [.ref 5, .int v1, .int v2, .int v3] [] (zk I) :=
  (zr_iload_n t16_2 rfl).trans <|
    (zr_aload_n t16_3 rfl).trans <|
    (zr_getI t16_4 (rfl)).trans <|
    zr_ic_ge (tgt := 42) t16_7 rfl
theorem k16_10 {X : Nat × (Nat → Int32)} {I : Nat → Nat → Int32} {v1 : Int32} {v2 : Int32} {v3 : Int32}  : zr X 16 10 [.ref 5, .int v1, .int v2, .int v3] [] (zk I) = if v3 = v1 then zr X 16 36 [.ref 5, .int v1, .int v2, .int v3] [] (zk I) else zr X 16 15 [.ref 5, .int v1, .int v2, .int v3] [] (zk I) :=
  (zr_iload_n t16_10 rfl).trans <|
    (zr_iload_n t16_11 rfl).trans <|
    zr_ic_eq (tgt := 36) t16_12 rfl
theorem k16_15 {X : Nat × (Nat → Int32)} {I : Nat → Nat → Int32} {v1 : Int32} {v2 : Int32} {v3 : Int32} (q1 : zin v3 20 = true) : zr X 16 15 [.ref 5, .int v1, .int v2, .int v3] [] (zk I) = if ¬ (I 10 (zx v3)) = v2 then zr X 16 36 [.ref 5, .int v1, .int v2, .int v3] [] (zk I) else zr X 16 25 [.ref 5, .int v1, .int v2, .int v3] [] (zk I) :=
  (zr_aload_n t16_15 rfl).trans <|
    (zr_getR (u := 10) t16_16 (rfl)).trans <|
    (zr_iload_n t16_19 rfl).trans <|
    (zr_iald (j := zx v3) t16_20 (N := 20) rfl rfl q1).trans <|
    (zr_iload_n t16_21 rfl).trans <|
    zr_ic_ne (tgt := 36) t16_22 rfl
theorem k16_25 {X : Nat × (Nat → Int32)} {I : Nat → Nat → Int32} {v1 : Int32} {v2 : Int32} {v3 : Int32}  : zr X 16 25 [.ref 5, .int v1, .int v2, .int v3] [] (zk I) = zcb (zr X 12 0 [.ref 5, .int v1, .int v3] [] (zk I)) (fun v m1 => zr X 16 31 [.ref 5, .int v1, .int v2, .int v3] (v.toList ++ []) m1) :=
  (zr_aload_n t16_25 rfl).trans <|
    (zr_iload_n t16_26 rfl).trans <|
    (zr_iload_n t16_27 rfl).trans <|
    zr_callv t16_28 rfl rfl rfl rfl
theorem k16_31 {X : Nat × (Nat → Int32)} {I : Nat → Nat → Int32} {v1 : Int32} {v2 : Int32} {v3 : Int32} {s0 : Int32}  : zr X 16 31 [.ref 5, .int v1, .int v2, .int v3] [.int s0] (zk I) = if s0 = 0 then zr X 16 36 [.ref 5, .int v1, .int v2, .int v3] [] (zk I) else zr X 16 34 [.ref 5, .int v1, .int v2, .int v3] [] (zk I) :=
  zr_if_eq (tgt := 36) t16_31 rfl
theorem k16_34 {X : Nat × (Nat → Int32)} {I : Nat → Nat → Int32} {v1 : Int32} {v2 : Int32} {v3 : Int32}  : zr X 16 34 [.ref 5, .int v1, .int v2, .int v3] [] (zk I) = some (some (.int 1), zk I) :=
  (zr_iconst t16_34 zci_1).trans <|
    zr_zret t16_35 rfl (Or.inr rfl)
theorem k16_36 {X : Nat × (Nat → Int32)} {I : Nat → Nat → Int32} {v1 : Int32} {v2 : Int32} {v3 : Int32}  : zr X 16 36 [.ref 5, .int v1, .int v2, .int v3] [] (zk I) = zr X 16 2 [.ref 5, .int v1, .int v2, .int (v3 + 1)] [] (zk I) :=
  (zr_iinc t16_36 rfl rfl (congrArg (fun z => v3 + z) zci_1) rfl).trans <|
    zr_goto (tgt := 2) t16_39 rfl
theorem k16_42 {X : Nat × (Nat → Int32)} {I : Nat → Nat → Int32} {v1 : Int32} {v2 : Int32} {v3 : Int32}  : zr X 16 42 [.ref 5, .int v1, .int v2, .int v3] [] (zk I) = some (some (.int 0), zk I) :=
  (zr_iconst t16_42 zci_0).trans <|
    zr_zret t16_43 rfl (Or.inl rfl)
/-! X1_clashesWithOpenOf FiveInks$Marks.clashesWithOpenOf -/
theorem k17_0 {X : Nat × (Nat → Int32)} {I : Nat → Nat → Int32} {v1 : Int32} {v2 : Int32}  : zr X 17 0 [.ref 5, .int v1, .int v2, .null] [] (zk I) = zr X 17 2 [.ref 5, .int v1, .int v2, .int 0] [] (zk I) :=
  (zr_iconst t17_0 zci_0).trans <|
    zr_istore_n t17_1 rfl rfl
theorem k17_2 {X : Nat × (Nat → Int32)} {I : Nat → Nat → Int32} {v1 : Int32} {v2 : Int32} {v3 : Int32}  : zr X 17 2 [.ref 5, .int v1, .int v2, .int v3] [] (zk I) = if (I 5 7) ≤ v3 then zr X 17 51 [.ref 5, .int v1, .int v2, .int v3] [] (zk I) else zr X 17 10 [.ref 5, .int v1, .int v2, .int v3] [] (zk I) :=
  (zr_iload_n t17_2 rfl).trans <|
    (zr_aload_n t17_3 rfl).trans <|
    (zr_getI t17_4 (rfl)).trans <|
    zr_ic_ge (tgt := 51) t17_7 rfl
theorem k17_10 {X : Nat × (Nat → Int32)} {I : Nat → Nat → Int32} {v1 : Int32} {v2 : Int32} {v3 : Int32}  : zr X 17 10 [.ref 5, .int v1, .int v2, .int v3] [] (zk I) = if v3 = v2 then zr X 17 45 [.ref 5, .int v1, .int v2, .int v3] [] (zk I) else zr X 17 15 [.ref 5, .int v1, .int v2, .int v3] [] (zk I) :=
  (zr_iload_n t17_10 rfl).trans <|
    (zr_iload_n t17_11 rfl).trans <|
    zr_ic_eq (tgt := 45) t17_12 rfl
theorem k17_15 {X : Nat × (Nat → Int32)} {I : Nat → Nat → Int32} {v1 : Int32} {v2 : Int32} {v3 : Int32} (q1 : zin v3 20 = true) : zr X 17 15 [.ref 5, .int v1, .int v2, .int v3] [] (zk I) = if ¬ (I 6 (zx v3)) = v1 then zr X 17 45 [.ref 5, .int v1, .int v2, .int v3] [] (zk I) else zr X 17 25 [.ref 5, .int v1, .int v2, .int v3] [] (zk I) :=
  (zr_aload_n t17_15 rfl).trans <|
    (zr_getR (u := 6) t17_16 (rfl)).trans <|
    (zr_iload_n t17_19 rfl).trans <|
    (zr_iald (j := zx v3) t17_20 (N := 20) rfl rfl q1).trans <|
    (zr_iload_n t17_21 rfl).trans <|
    zr_ic_ne (tgt := 45) t17_22 rfl
theorem k17_25 {X : Nat × (Nat → Int32)} {I : Nat → Nat → Int32} {v1 : Int32} {v2 : Int32} {v3 : Int32} (q1 : zin v3 20 = true) : zr X 17 25 [.ref 5, .int v1, .int v2, .int v3] [] (zk I) = if ¬ (I 10 (zx v3)) = 0 then zr X 17 45 [.ref 5, .int v1, .int v2, .int v3] [] (zk I) else zr X 17 34 [.ref 5, .int v1, .int v2, .int v3] [] (zk I) :=
  (zr_aload_n t17_25 rfl).trans <|
    (zr_getR (u := 10) t17_26 (rfl)).trans <|
    (zr_iload_n t17_29 rfl).trans <|
    (zr_iald (j := zx v3) t17_30 (N := 20) rfl rfl q1).trans <|
    zr_if_ne (tgt := 45) t17_31 rfl
theorem k17_34 {X : Nat × (Nat → Int32)} {I : Nat → Nat → Int32} {v1 : Int32} {v2 : Int32} {v3 : Int32}  : zr X 17 34 [.ref 5, .int v1, .int v2, .int v3] [] (zk I) = zcb (zr X 12 0 [.ref 5, .int v2, .int v3] [] (zk I)) (fun v m1 => zr X 17 40 [.ref 5, .int v1, .int v2, .int v3] (v.toList ++ []) m1) :=
  (zr_aload_n t17_34 rfl).trans <|
    (zr_iload_n t17_35 rfl).trans <|
    (zr_iload_n t17_36 rfl).trans <|
    zr_callv t17_37 rfl rfl rfl rfl
theorem k17_40 {X : Nat × (Nat → Int32)} {I : Nat → Nat → Int32} {v1 : Int32} {v2 : Int32} {v3 : Int32} {s0 : Int32}  : zr X 17 40 [.ref 5, .int v1, .int v2, .int v3] [.int s0] (zk I) = if s0 = 0 then zr X 17 45 [.ref 5, .int v1, .int v2, .int v3] [] (zk I) else zr X 17 43 [.ref 5, .int v1, .int v2, .int v3] [] (zk I) :=
  zr_if_eq (tgt := 45) t17_40 rfl
theorem k17_43 {X : Nat × (Nat → Int32)} {I : Nat → Nat → Int32} {v1 : Int32} {v2 : Int32} {v3 : Int32}  : zr X 17 43 [.ref 5, .int v1, .int v2, .int v3] [] (zk I) = some (some (.int 1), zk I) :=
  (zr_iconst t17_43 zci_1).trans <|
    zr_zret t17_44 rfl (Or.inr rfl)
theorem k17_45 {X : Nat × (Nat → Int32)} {I : Nat → Nat → Int32} {v1 : Int32} {v2 : Int32} {v3 : Int32}  : zr X 17 45 [.ref 5, .int v1, .int v2, .int v3] [] (zk I) = zr X 17 2 [.ref 5, .int v1, .int v2, .int (v3 + 1)] [] (zk I) :=
  (zr_iinc t17_45 rfl rfl (congrArg (fun z => v3 + z) zci_1) rfl).trans <|
    zr_goto (tgt := 2) t17_48 rfl
theorem k17_51 {X : Nat × (Nat → Int32)} {I : Nat → Nat → Int32} {v1 : Int32} {v2 : Int32} {v3 : Int32}  : zr X 17 51 [.ref 5, .int v1, .int v2, .int v3] [] (zk I) = some (some (.int 0), zk I) :=
  (zr_iconst t17_51 zci_0).trans <|
    zr_zret t17_52 rfl (Or.inl rfl)
/-! X1_openClashesOf FiveInks$Marks.openClashesOf -/
theorem k18_0 {X : Nat × (Nat → Int32)} {I : Nat → Nat → Int32} {v1 : Int32}  : zr X 18 0 [.ref 5, .int v1, .null, .null] [] (zk I) = zr X 18 4 [.ref 5, .int v1, .int 0, .int 0] [] (zk I) :=
  (zr_iconst t18_0 zci_0).trans <|
    (zr_istore_n t18_1 rfl rfl).trans <|
    (zr_iconst t18_2 zci_0).trans <|
    zr_istore_n t18_3 rfl rfl
theorem k18_4 {X : Nat × (Nat → Int32)} {I : Nat → Nat → Int32} {v1 : Int32} {v2 : Int32} {v3 : Int32}  : zr X 18 4 [.ref 5, .int v1, .int v2, .int v3] [] (zk I) = if (I 5 7) ≤ v3 then zr X 18 44 [.ref 5, .int v1, .int v2, .int v3] [] (zk I) else zr X 18 12 [.ref 5, .int v1, .int v2, .int v3] [] (zk I) :=
  (zr_iload_n t18_4 rfl).trans <|
    (zr_aload_n t18_5 rfl).trans <|
    (zr_getI t18_6 (rfl)).trans <|
    zr_ic_ge (tgt := 44) t18_9 rfl
theorem k18_12 {X : Nat × (Nat → Int32)} {I : Nat → Nat → Int32} {v1 : Int32} {v2 : Int32} {v3 : Int32}  : zr X 18 12 [.ref 5, .int v1, .int v2, .int v3] [] (zk I) = if v3 = v1 then zr X 18 38 [.ref 5, .int v1, .int v2, .int v3] [] (zk I) else zr X 18 17 [.ref 5, .int v1, .int v2, .int v3] [] (zk I) :=
  (zr_iload_n t18_12 rfl).trans <|
    (zr_iload_n t18_13 rfl).trans <|
    zr_ic_eq (tgt := 38) t18_14 rfl
theorem k18_17 {X : Nat × (Nat → Int32)} {I : Nat → Nat → Int32} {v1 : Int32} {v2 : Int32} {v3 : Int32} (q1 : zin v3 20 = true) : zr X 18 17 [.ref 5, .int v1, .int v2, .int v3] [] (zk I) = if ¬ (I 10 (zx v3)) = 0 then zr X 18 38 [.ref 5, .int v1, .int v2, .int v3] [] (zk I) else zr X 18 26 [.ref 5, .int v1, .int v2, .int v3] [] (zk I) :=
  (zr_aload_n t18_17 rfl).trans <|
    (zr_getR (u := 10) t18_18 (rfl)).trans <|
    (zr_iload_n t18_21 rfl).trans <|
    (zr_iald (j := zx v3) t18_22 (N := 20) rfl rfl q1).trans <|
    zr_if_ne (tgt := 38) t18_23 rfl
theorem k18_26 {X : Nat × (Nat → Int32)} {I : Nat → Nat → Int32} {v1 : Int32} {v2 : Int32} {v3 : Int32}  : zr X 18 26 [.ref 5, .int v1, .int v2, .int v3] [] (zk I) = zcb (zr X 12 0 [.ref 5, .int v1, .int v3] [] (zk I)) (fun v m1 => zr X 18 32 [.ref 5, .int v1, .int v2, .int v3] (v.toList ++ []) m1) :=
  (zr_aload_n t18_26 rfl).trans <|
    (zr_iload_n t18_27 rfl).trans <|
    (zr_iload_n t18_28 rfl).trans <|
    zr_callv t18_29 rfl rfl rfl rfl
theorem k18_32 {X : Nat × (Nat → Int32)} {I : Nat → Nat → Int32} {v1 : Int32} {v2 : Int32} {v3 : Int32} {s0 : Int32}  : zr X 18 32 [.ref 5, .int v1, .int v2, .int v3] [.int s0] (zk I) = if s0 = 0 then zr X 18 38 [.ref 5, .int v1, .int v2, .int v3] [] (zk I) else zr X 18 35 [.ref 5, .int v1, .int v2, .int v3] [] (zk I) :=
  zr_if_eq (tgt := 38) t18_32 rfl
theorem k18_35 {X : Nat × (Nat → Int32)} {I : Nat → Nat → Int32} {v1 : Int32} {v2 : Int32} {v3 : Int32}  : zr X 18 35 [.ref 5, .int v1, .int v2, .int v3] [] (zk I) = zr X 18 4 [.ref 5, .int v1, .int (v2 + 1), .int (v3 + 1)] [] (zk I) :=
  (zr_iinc t18_35 rfl rfl (congrArg (fun z => v2 + z) zci_1) rfl).trans <|
    (zr_iinc t18_38 rfl rfl (congrArg (fun z => v3 + z) zci_1) rfl).trans <|
    zr_goto (tgt := 4) t18_41 rfl
theorem k18_38 {X : Nat × (Nat → Int32)} {I : Nat → Nat → Int32} {v1 : Int32} {v2 : Int32} {v3 : Int32}  : zr X 18 38 [.ref 5, .int v1, .int v2, .int v3] [] (zk I) = zr X 18 4 [.ref 5, .int v1, .int v2, .int (v3 + 1)] [] (zk I) :=
  (zr_iinc t18_38 rfl rfl (congrArg (fun z => v3 + z) zci_1) rfl).trans <|
    zr_goto (tgt := 4) t18_41 rfl
theorem k18_44 {X : Nat × (Nat → Int32)} {I : Nat → Nat → Int32} {v1 : Int32} {v2 : Int32} {v3 : Int32}  : zr X 18 44 [.ref 5, .int v1, .int v2, .int v3] [] (zk I) = some (some (.int v2), zk I) :=
  (zr_iload_n t18_44 rfl).trans <|
    zr_iret t18_45 rfl
/-! X1_acceptOpen FiveInks$Marks.acceptOpen -/
theorem k19_0 {X : Nat × (Nat → Int32)} {I : Nat → Nat → Int32} {v1 : Int32} (q1 : zin v1 20 = true) : zr X 19 0 [.ref 5, .int v1, .null, .null] [] (zk I) = zr X 19 11 [.ref 5, .int v1, .int 0, .int 0] [] (zk (zs1 I 10 (zx v1) 1)) :=
  (zr_aload_n t19_0 rfl).trans <|
    (zr_getR (u := 10) t19_1 (rfl)).trans <|
    (zr_iload_n t19_4 rfl).trans <|
    (zr_iconst t19_5 zci_1).trans <|
    (zr_iast (j := zx v1) t19_6 (N := 20) rfl rfl q1).trans <|
    (zr_iconst t19_7 zci_0).trans <|
    (zr_istore_n t19_8 rfl rfl).trans <|
    (zr_iconst t19_9 zci_0).trans <|
    zr_istore_n t19_10 rfl rfl
theorem k19_11 {X : Nat × (Nat → Int32)} {I : Nat → Nat → Int32} {v1 : Int32} {v2 : Int32} {v3 : Int32}  : zr X 19 11 [.ref 5, .int v1, .int v2, .int v3] [] (zk I) = if (I 5 7) ≤ v3 then zr X 19 58 [.ref 5, .int v1, .int v2, .int v3] [] (zk I) else zr X 19 19 [.ref 5, .int v1, .int v2, .int v3] [] (zk I) :=
  (zr_iload_n t19_11 rfl).trans <|
    (zr_aload_n t19_12 rfl).trans <|
    (zr_getI t19_13 (rfl)).trans <|
    zr_ic_ge (tgt := 58) t19_16 rfl
theorem k19_19 {X : Nat × (Nat → Int32)} {I : Nat → Nat → Int32} {v1 : Int32} {v2 : Int32} {v3 : Int32}  : zr X 19 19 [.ref 5, .int v1, .int v2, .int v3] [] (zk I) = if v3 = v1 then zr X 19 52 [.ref 5, .int v1, .int v2, .int v3] [] (zk I) else zr X 19 24 [.ref 5, .int v1, .int v2, .int v3] [] (zk I) :=
  (zr_iload_n t19_19 rfl).trans <|
    (zr_iload_n t19_20 rfl).trans <|
    zr_ic_eq (tgt := 52) t19_21 rfl
theorem k19_24 {X : Nat × (Nat → Int32)} {I : Nat → Nat → Int32} {v1 : Int32} {v2 : Int32} {v3 : Int32} (q1 : zin v3 20 = true) : zr X 19 24 [.ref 5, .int v1, .int v2, .int v3] [] (zk I) = if ¬ (I 10 (zx v3)) = 0 then zr X 19 52 [.ref 5, .int v1, .int v2, .int v3] [] (zk I) else zr X 19 33 [.ref 5, .int v1, .int v2, .int v3] [] (zk I) :=
  (zr_aload_n t19_24 rfl).trans <|
    (zr_getR (u := 10) t19_25 (rfl)).trans <|
    (zr_iload_n t19_28 rfl).trans <|
    (zr_iald (j := zx v3) t19_29 (N := 20) rfl rfl q1).trans <|
    zr_if_ne (tgt := 52) t19_30 rfl
theorem k19_33 {X : Nat × (Nat → Int32)} {I : Nat → Nat → Int32} {v1 : Int32} {v2 : Int32} {v3 : Int32}  : zr X 19 33 [.ref 5, .int v1, .int v2, .int v3] [] (zk I) = zcb (zr X 12 0 [.ref 5, .int v1, .int v3] [] (zk I)) (fun v m1 => zr X 19 39 [.ref 5, .int v1, .int v2, .int v3] (v.toList ++ []) m1) :=
  (zr_aload_n t19_33 rfl).trans <|
    (zr_iload_n t19_34 rfl).trans <|
    (zr_iload_n t19_35 rfl).trans <|
    zr_callv t19_36 rfl rfl rfl rfl
theorem k19_39 {X : Nat × (Nat → Int32)} {I : Nat → Nat → Int32} {v1 : Int32} {v2 : Int32} {v3 : Int32} {s0 : Int32}  : zr X 19 39 [.ref 5, .int v1, .int v2, .int v3] [.int s0] (zk I) = if s0 = 0 then zr X 19 52 [.ref 5, .int v1, .int v2, .int v3] [] (zk I) else zr X 19 42 [.ref 5, .int v1, .int v2, .int v3] [] (zk I) :=
  zr_if_eq (tgt := 52) t19_39 rfl
theorem k19_42 {X : Nat × (Nat → Int32)} {I : Nat → Nat → Int32} {v1 : Int32} {v2 : Int32} {v3 : Int32} (q1 : zin v3 20 = true) : zr X 19 42 [.ref 5, .int v1, .int v2, .int v3] [] (zk I) = zr X 19 11 [.ref 5, .int v1, .int (v2 + 1), .int (v3 + 1)] [] (zk (zs1 I 10 (zx v3) 2)) :=
  (zr_aload_n t19_42 rfl).trans <|
    (zr_getR (u := 10) t19_43 (rfl)).trans <|
    (zr_iload_n t19_46 rfl).trans <|
    (zr_iconst t19_47 zci_2).trans <|
    (zr_iast (j := zx v3) t19_48 (N := 20) rfl rfl q1).trans <|
    (zr_iinc t19_49 rfl rfl (congrArg (fun z => v2 + z) zci_1) rfl).trans <|
    (zr_iinc t19_52 rfl rfl (congrArg (fun z => v3 + z) zci_1) rfl).trans <|
    zr_goto (tgt := 11) t19_55 rfl
theorem k19_52 {X : Nat × (Nat → Int32)} {I : Nat → Nat → Int32} {v1 : Int32} {v2 : Int32} {v3 : Int32}  : zr X 19 52 [.ref 5, .int v1, .int v2, .int v3] [] (zk I) = zr X 19 11 [.ref 5, .int v1, .int v2, .int (v3 + 1)] [] (zk I) :=
  (zr_iinc t19_52 rfl rfl (congrArg (fun z => v3 + z) zci_1) rfl).trans <|
    zr_goto (tgt := 11) t19_55 rfl
theorem k19_58 {X : Nat × (Nat → Int32)} {I : Nat → Nat → Int32} {v1 : Int32} {v2 : Int32} {v3 : Int32}  : zr X 19 58 [.ref 5, .int v1, .int v2, .int v3] [] (zk I) = some (some (.int v2), zk I) :=
  (zr_iload_n t19_58 rfl).trans <|
    zr_iret t19_59 rfl
/-! X1_growthBy FiveInks$Marks.growthBy -/
theorem k20_0 {X : Nat × (Nat → Int32)} {I : Nat → Nat → Int32} {v1 : Int32} (q1 : zin v1 20 = true) : zr X 20 0 [.ref 5, .int v1] [] (zk I) = some (some (.int ((I 11 (zx v1)) - ((I 9 (zx v1)) - (I 8 (zx v1))))), zk I) :=
  (zr_aload_n t20_0 rfl).trans <|
    (zr_getR (u := 11) t20_1 (rfl)).trans <|
    (zr_iload_n t20_4 rfl).trans <|
    (zr_iald (j := zx v1) t20_5 (N := 20) rfl rfl q1).trans <|
    (zr_aload_n t20_6 rfl).trans <|
    (zr_getR (u := 9) t20_7 (rfl)).trans <|
    (zr_iload_n t20_10 rfl).trans <|
    (zr_iald (j := zx v1) t20_11 (N := 20) rfl rfl q1).trans <|
    (zr_aload_n t20_12 rfl).trans <|
    (zr_getR (u := 8) t20_13 (rfl)).trans <|
    (zr_iload_n t20_16 rfl).trans <|
    (zr_iald (j := zx v1) t20_17 (N := 20) rfl rfl q1).trans <|
    (zr_isub t20_18).trans <|
    (zr_isub t20_19).trans <|
    zr_iret t20_20 rfl
/-! X1_growthByAccepted FiveInks$Marks.growthByAccepted -/
theorem k21_0 {X : Nat × (Nat → Int32)} {I : Nat → Nat → Int32}   : zr X 21 0 [.ref 5, .null, .null] [] (zk I) = zr X 21 4 [.ref 5, .int 0, .int 0] [] (zk I) :=
  (zr_iconst t21_0 zci_0).trans <|
    (zr_istore_n t21_1 rfl rfl).trans <|
    (zr_iconst t21_2 zci_0).trans <|
    zr_istore_n t21_3 rfl rfl
theorem k21_4 {X : Nat × (Nat → Int32)} {I : Nat → Nat → Int32} {v1 : Int32} {v2 : Int32}  : zr X 21 4 [.ref 5, .int v1, .int v2] [] (zk I) = if (I 5 7) ≤ v2 then zr X 21 36 [.ref 5, .int v1, .int v2] [] (zk I) else zr X 21 12 [.ref 5, .int v1, .int v2] [] (zk I) :=
  (zr_iload_n t21_4 rfl).trans <|
    (zr_aload_n t21_5 rfl).trans <|
    (zr_getI t21_6 (rfl)).trans <|
    zr_ic_ge (tgt := 36) t21_9 rfl
theorem k21_12 {X : Nat × (Nat → Int32)} {I : Nat → Nat → Int32} {v1 : Int32} {v2 : Int32} (q1 : zin v2 20 = true) : zr X 21 12 [.ref 5, .int v1, .int v2] [] (zk I) = if ¬ (I 10 (zx v2)) = 1 then zr X 21 30 [.ref 5, .int v1, .int v2] [] (zk I) else zr X 21 22 [.ref 5, .int v1, .int v2] [] (zk I) :=
  (zr_aload_n t21_12 rfl).trans <|
    (zr_getR (u := 10) t21_13 (rfl)).trans <|
    (zr_iload_n t21_16 rfl).trans <|
    (zr_iald (j := zx v2) t21_17 (N := 20) rfl rfl q1).trans <|
    (zr_iconst t21_18 zci_1).trans <|
    zr_ic_ne (tgt := 30) t21_19 rfl
theorem k21_22 {X : Nat × (Nat → Int32)} {I : Nat → Nat → Int32} {v1 : Int32} {v2 : Int32}  : zr X 21 22 [.ref 5, .int v1, .int v2] [] (zk I) = zcb (zr X 20 0 [.ref 5, .int v2] [] (zk I)) (fun v m1 => zr X 21 28 [.ref 5, .int v1, .int v2] (v.toList ++ [.int v1]) m1) :=
  (zr_iload_n t21_22 rfl).trans <|
    (zr_aload_n t21_23 rfl).trans <|
    (zr_iload_n t21_24 rfl).trans <|
    zr_callv t21_25 rfl rfl rfl rfl
theorem k21_28 {X : Nat × (Nat → Int32)} {I : Nat → Nat → Int32} {v1 : Int32} {v2 : Int32} {s0 : Int32} {s1 : Int32}  : zr X 21 28 [.ref 5, .int v1, .int v2] [.int s1, .int s0] (zk I) = zr X 21 4 [.ref 5, .int (s0 + s1), .int (v2 + 1)] [] (zk I) :=
  (zr_iadd t21_28).trans <|
    (zr_istore_n t21_29 rfl rfl).trans <|
    (zr_iinc t21_30 rfl rfl (congrArg (fun z => v2 + z) zci_1) rfl).trans <|
    zr_goto (tgt := 4) t21_33 rfl
theorem k21_30 {X : Nat × (Nat → Int32)} {I : Nat → Nat → Int32} {v1 : Int32} {v2 : Int32}  : zr X 21 30 [.ref 5, .int v1, .int v2] [] (zk I) = zr X 21 4 [.ref 5, .int v1, .int (v2 + 1)] [] (zk I) :=
  (zr_iinc t21_30 rfl rfl (congrArg (fun z => v2 + z) zci_1) rfl).trans <|
    zr_goto (tgt := 4) t21_33 rfl
theorem k21_36 {X : Nat × (Nat → Int32)} {I : Nat → Nat → Int32} {v1 : Int32} {v2 : Int32}  : zr X 21 36 [.ref 5, .int v1, .int v2] [] (zk I) = some (some (.int v1), zk I) :=
  (zr_iload_n t21_36 rfl).trans <|
    zr_iret t21_37 rfl
/-! X1_quarrelsOf FiveInks$Marks.quarrelsOf -/
theorem k22_0 {X : Nat × (Nat → Int32)} {I : Nat → Nat → Int32} {v1 : Int32}  : zr X 22 0 [.ref 5, .int v1, .null, .null] [] (zk I) = zr X 22 4 [.ref 5, .int v1, .int 0, .int 0] [] (zk I) :=
  (zr_iconst t22_0 zci_0).trans <|
    (zr_istore_n t22_1 rfl rfl).trans <|
    (zr_iconst t22_2 zci_0).trans <|
    zr_istore_n t22_3 rfl rfl
theorem k22_4 {X : Nat × (Nat → Int32)} {I : Nat → Nat → Int32} {v1 : Int32} {v2 : Int32} {v3 : Int32}  : zr X 22 4 [.ref 5, .int v1, .int v2, .int v3] [] (zk I) = if (I 5 7) ≤ v3 then zr X 22 30 [.ref 5, .int v1, .int v2, .int v3] [] (zk I) else zr X 22 12 [.ref 5, .int v1, .int v2, .int v3] [] (zk I) :=
  (zr_iload_n t22_4 rfl).trans <|
    (zr_aload_n t22_5 rfl).trans <|
    (zr_getI t22_6 (rfl)).trans <|
    zr_ic_ge (tgt := 30) t22_9 rfl
theorem k22_12 {X : Nat × (Nat → Int32)} {I : Nat → Nat → Int32} {v1 : Int32} {v2 : Int32} {v3 : Int32}  : zr X 22 12 [.ref 5, .int v1, .int v2, .int v3] [] (zk I) = zcb (zr X 14 0 [.ref 5, .int v1, .int v3] [] (zk I)) (fun v m1 => zr X 22 18 [.ref 5, .int v1, .int v2, .int v3] (v.toList ++ []) m1) :=
  (zr_aload_n t22_12 rfl).trans <|
    (zr_iload_n t22_13 rfl).trans <|
    (zr_iload_n t22_14 rfl).trans <|
    zr_callv t22_15 rfl rfl rfl rfl
theorem k22_18 {X : Nat × (Nat → Int32)} {I : Nat → Nat → Int32} {v1 : Int32} {v2 : Int32} {v3 : Int32} {s0 : Int32}  : zr X 22 18 [.ref 5, .int v1, .int v2, .int v3] [.int s0] (zk I) = if s0 = 0 then zr X 22 24 [.ref 5, .int v1, .int v2, .int v3] [] (zk I) else zr X 22 21 [.ref 5, .int v1, .int v2, .int v3] [] (zk I) :=
  zr_if_eq (tgt := 24) t22_18 rfl
theorem k22_21 {X : Nat × (Nat → Int32)} {I : Nat → Nat → Int32} {v1 : Int32} {v2 : Int32} {v3 : Int32}  : zr X 22 21 [.ref 5, .int v1, .int v2, .int v3] [] (zk I) = zr X 22 4 [.ref 5, .int v1, .int (v2 + 1), .int (v3 + 1)] [] (zk I) :=
  (zr_iinc t22_21 rfl rfl (congrArg (fun z => v2 + z) zci_1) rfl).trans <|
    (zr_iinc t22_24 rfl rfl (congrArg (fun z => v3 + z) zci_1) rfl).trans <|
    zr_goto (tgt := 4) t22_27 rfl
theorem k22_24 {X : Nat × (Nat → Int32)} {I : Nat → Nat → Int32} {v1 : Int32} {v2 : Int32} {v3 : Int32}  : zr X 22 24 [.ref 5, .int v1, .int v2, .int v3] [] (zk I) = zr X 22 4 [.ref 5, .int v1, .int v2, .int (v3 + 1)] [] (zk I) :=
  (zr_iinc t22_24 rfl rfl (congrArg (fun z => v3 + z) zci_1) rfl).trans <|
    zr_goto (tgt := 4) t22_27 rfl
theorem k22_30 {X : Nat × (Nat → Int32)} {I : Nat → Nat → Int32} {v1 : Int32} {v2 : Int32} {v3 : Int32}  : zr X 22 30 [.ref 5, .int v1, .int v2, .int v3] [] (zk I) = some (some (.int v2), zk I) :=
  (zr_iload_n t22_30 rfl).trans <|
    zr_iret t22_31 rfl
/-! X1_quarrelsOfInk FiveInks$Marks.quarrelsOfInk -/
theorem k23_0 {X : Nat × (Nat → Int32)} {I : Nat → Nat → Int32} {v1 : Int32}  : zr X 23 0 [.ref 5, .int v1, .null, .null] [] (zk I) = zr X 23 4 [.ref 5, .int v1, .int 0, .int 0] [] (zk I) :=
  (zr_iconst t23_0 zci_0).trans <|
    (zr_istore_n t23_1 rfl rfl).trans <|
    (zr_iconst t23_2 zci_0).trans <|
    zr_istore_n t23_3 rfl rfl
theorem k23_4 {X : Nat × (Nat → Int32)} {I : Nat → Nat → Int32} {v1 : Int32} {v2 : Int32} {v3 : Int32}  : zr X 23 4 [.ref 5, .int v1, .int v2, .int v3] [] (zk I) = if (I 5 7) ≤ v3 then zr X 23 36 [.ref 5, .int v1, .int v2, .int v3] [] (zk I) else zr X 23 12 [.ref 5, .int v1, .int v2, .int v3] [] (zk I) :=
  (zr_iload_n t23_4 rfl).trans <|
    (zr_aload_n t23_5 rfl).trans <|
    (zr_getI t23_6 (rfl)).trans <|
    zr_ic_ge (tgt := 36) t23_9 rfl
theorem k23_12 {X : Nat × (Nat → Int32)} {I : Nat → Nat → Int32} {v1 : Int32} {v2 : Int32} {v3 : Int32} (q1 : zin v3 20 = true) : zr X 23 12 [.ref 5, .int v1, .int v2, .int v3] [] (zk I) = if ¬ (I 6 (zx v3)) = v1 then zr X 23 30 [.ref 5, .int v1, .int v2, .int v3] [] (zk I) else zr X 23 22 [.ref 5, .int v1, .int v2, .int v3] [] (zk I) :=
  (zr_aload_n t23_12 rfl).trans <|
    (zr_getR (u := 6) t23_13 (rfl)).trans <|
    (zr_iload_n t23_16 rfl).trans <|
    (zr_iald (j := zx v3) t23_17 (N := 20) rfl rfl q1).trans <|
    (zr_iload_n t23_18 rfl).trans <|
    zr_ic_ne (tgt := 30) t23_19 rfl
theorem k23_22 {X : Nat × (Nat → Int32)} {I : Nat → Nat → Int32} {v1 : Int32} {v2 : Int32} {v3 : Int32}  : zr X 23 22 [.ref 5, .int v1, .int v2, .int v3] [] (zk I) = zcb (zr X 22 0 [.ref 5, .int v3, .null, .null] [] (zk I)) (fun v m1 => zr X 23 28 [.ref 5, .int v1, .int v2, .int v3] (v.toList ++ [.int v2]) m1) :=
  (zr_iload_n t23_22 rfl).trans <|
    (zr_aload_n t23_23 rfl).trans <|
    (zr_iload_n t23_24 rfl).trans <|
    zr_callv t23_25 rfl rfl rfl rfl
theorem k23_28 {X : Nat × (Nat → Int32)} {I : Nat → Nat → Int32} {v1 : Int32} {v2 : Int32} {v3 : Int32} {s0 : Int32} {s1 : Int32}  : zr X 23 28 [.ref 5, .int v1, .int v2, .int v3] [.int s1, .int s0] (zk I) = zr X 23 4 [.ref 5, .int v1, .int (s0 + s1), .int (v3 + 1)] [] (zk I) :=
  (zr_iadd t23_28).trans <|
    (zr_istore_n t23_29 rfl rfl).trans <|
    (zr_iinc t23_30 rfl rfl (congrArg (fun z => v3 + z) zci_1) rfl).trans <|
    zr_goto (tgt := 4) t23_33 rfl
theorem k23_30 {X : Nat × (Nat → Int32)} {I : Nat → Nat → Int32} {v1 : Int32} {v2 : Int32} {v3 : Int32}  : zr X 23 30 [.ref 5, .int v1, .int v2, .int v3] [] (zk I) = zr X 23 4 [.ref 5, .int v1, .int v2, .int (v3 + 1)] [] (zk I) :=
  (zr_iinc t23_30 rfl rfl (congrArg (fun z => v3 + z) zci_1) rfl).trans <|
    zr_goto (tgt := 4) t23_33 rfl
theorem k23_36 {X : Nat × (Nat → Int32)} {I : Nat → Nat → Int32} {v1 : Int32} {v2 : Int32} {v3 : Int32}  : zr X 23 36 [.ref 5, .int v1, .int v2, .int v3] [] (zk I) = some (some (.int v2), zk I) :=
  (zr_iload_n t23_36 rfl).trans <|
    zr_iret t23_37 rfl
/-! X1_quarrels FiveInks$Marks.quarrels -/
theorem k24_0 {X : Nat × (Nat → Int32)} {I : Nat → Nat → Int32}   : zr X 24 0 [.ref 5, .null, .null, .null] [] (zk I) = zr X 24 4 [.ref 5, .int 0, .int 0, .null] [] (zk I) :=
  (zr_iconst t24_0 zci_0).trans <|
    (zr_istore_n t24_1 rfl rfl).trans <|
    (zr_iconst t24_2 zci_0).trans <|
    zr_istore_n t24_3 rfl rfl
theorem k24_4 {X : Nat × (Nat → Int32)} {I : Nat → Nat → Int32} {v1 : Int32} {v2 : Int32} {v3 : Value}  : zr X 24 4 [.ref 5, .int v1, .int v2, v3] [] (zk I) = if (I 5 7) ≤ v2 then zr X 24 48 [.ref 5, .int v1, .int v2, v3] [] (zk I) else zr X 24 12 [.ref 5, .int v1, .int v2, v3] [] (zk I) :=
  (zr_iload_n t24_4 rfl).trans <|
    (zr_aload_n t24_5 rfl).trans <|
    (zr_getI t24_6 (rfl)).trans <|
    zr_ic_ge (tgt := 48) t24_9 rfl
theorem k24_12 {X : Nat × (Nat → Int32)} {I : Nat → Nat → Int32} {v1 : Int32} {v2 : Int32} {v3 : Value}  : zr X 24 12 [.ref 5, .int v1, .int v2, v3] [] (zk I) = zr X 24 16 [.ref 5, .int v1, .int v2, .int (v2 + 1)] [] (zk I) :=
  (zr_iload_n t24_12 rfl).trans <|
    (zr_iconst t24_13 zci_1).trans <|
    (zr_iadd t24_14).trans <|
    zr_istore_n t24_15 rfl rfl
theorem k24_16 {X : Nat × (Nat → Int32)} {I : Nat → Nat → Int32} {v1 : Int32} {v2 : Int32} {v3 : Int32}  : zr X 24 16 [.ref 5, .int v1, .int v2, .int v3] [] (zk I) = if (I 5 7) ≤ v3 then zr X 24 42 [.ref 5, .int v1, .int v2, .int v3] [] (zk I) else zr X 24 24 [.ref 5, .int v1, .int v2, .int v3] [] (zk I) :=
  (zr_iload_n t24_16 rfl).trans <|
    (zr_aload_n t24_17 rfl).trans <|
    (zr_getI t24_18 (rfl)).trans <|
    zr_ic_ge (tgt := 42) t24_21 rfl
theorem k24_24 {X : Nat × (Nat → Int32)} {I : Nat → Nat → Int32} {v1 : Int32} {v2 : Int32} {v3 : Int32}  : zr X 24 24 [.ref 5, .int v1, .int v2, .int v3] [] (zk I) = zcb (zr X 14 0 [.ref 5, .int v2, .int v3] [] (zk I)) (fun v m1 => zr X 24 30 [.ref 5, .int v1, .int v2, .int v3] (v.toList ++ []) m1) :=
  (zr_aload_n t24_24 rfl).trans <|
    (zr_iload_n t24_25 rfl).trans <|
    (zr_iload_n t24_26 rfl).trans <|
    zr_callv t24_27 rfl rfl rfl rfl
theorem k24_30 {X : Nat × (Nat → Int32)} {I : Nat → Nat → Int32} {v1 : Int32} {v2 : Int32} {v3 : Int32} {s0 : Int32}  : zr X 24 30 [.ref 5, .int v1, .int v2, .int v3] [.int s0] (zk I) = if s0 = 0 then zr X 24 36 [.ref 5, .int v1, .int v2, .int v3] [] (zk I) else zr X 24 33 [.ref 5, .int v1, .int v2, .int v3] [] (zk I) :=
  zr_if_eq (tgt := 36) t24_30 rfl
theorem k24_33 {X : Nat × (Nat → Int32)} {I : Nat → Nat → Int32} {v1 : Int32} {v2 : Int32} {v3 : Int32}  : zr X 24 33 [.ref 5, .int v1, .int v2, .int v3] [] (zk I) = zr X 24 16 [.ref 5, .int (v1 + 1), .int v2, .int (v3 + 1)] [] (zk I) :=
  (zr_iinc t24_33 rfl rfl (congrArg (fun z => v1 + z) zci_1) rfl).trans <|
    (zr_iinc t24_36 rfl rfl (congrArg (fun z => v3 + z) zci_1) rfl).trans <|
    zr_goto (tgt := 16) t24_39 rfl
theorem k24_36 {X : Nat × (Nat → Int32)} {I : Nat → Nat → Int32} {v1 : Int32} {v2 : Int32} {v3 : Int32}  : zr X 24 36 [.ref 5, .int v1, .int v2, .int v3] [] (zk I) = zr X 24 16 [.ref 5, .int v1, .int v2, .int (v3 + 1)] [] (zk I) :=
  (zr_iinc t24_36 rfl rfl (congrArg (fun z => v3 + z) zci_1) rfl).trans <|
    zr_goto (tgt := 16) t24_39 rfl
theorem k24_42 {X : Nat × (Nat → Int32)} {I : Nat → Nat → Int32} {v1 : Int32} {v2 : Int32} {v3 : Int32}  : zr X 24 42 [.ref 5, .int v1, .int v2, .int v3] [] (zk I) = zr X 24 4 [.ref 5, .int v1, .int (v2 + 1), .int v3] [] (zk I) :=
  (zr_iinc t24_42 rfl rfl (congrArg (fun z => v2 + z) zci_1) rfl).trans <|
    zr_goto (tgt := 4) t24_45 rfl
theorem k24_48 {X : Nat × (Nat → Int32)} {I : Nat → Nat → Int32} {v1 : Int32} {v2 : Int32} {v3 : Value}  : zr X 24 48 [.ref 5, .int v1, .int v2, v3] [] (zk I) = some (some (.int v1), zk I) :=
  (zr_iload_n t24_48 rfl).trans <|
    zr_iret t24_49 rfl
/-! X1_inState FiveInks$Marks.inState -/
theorem k25_0 {X : Nat × (Nat → Int32)} {I : Nat → Nat → Int32} {v1 : Int32}  : zr X 25 0 [.ref 5, .int v1, .null, .null] [] (zk I) = zr X 25 4 [.ref 5, .int v1, .int 0, .int 0] [] (zk I) :=
  (zr_iconst t25_0 zci_0).trans <|
    (zr_istore_n t25_1 rfl rfl).trans <|
    (zr_iconst t25_2 zci_0).trans <|
    zr_istore_n t25_3 rfl rfl
theorem k25_4 {X : Nat × (Nat → Int32)} {I : Nat → Nat → Int32} {v1 : Int32} {v2 : Int32} {v3 : Int32}  : zr X 25 4 [.ref 5, .int v1, .int v2, .int v3] [] (zk I) = if (I 5 7) ≤ v3 then zr X 25 31 [.ref 5, .int v1, .int v2, .int v3] [] (zk I) else zr X 25 12 [.ref 5, .int v1, .int v2, .int v3] [] (zk I) :=
  (zr_iload_n t25_4 rfl).trans <|
    (zr_aload_n t25_5 rfl).trans <|
    (zr_getI t25_6 (rfl)).trans <|
    zr_ic_ge (tgt := 31) t25_9 rfl
theorem k25_12 {X : Nat × (Nat → Int32)} {I : Nat → Nat → Int32} {v1 : Int32} {v2 : Int32} {v3 : Int32} (q1 : zin v3 20 = true) : zr X 25 12 [.ref 5, .int v1, .int v2, .int v3] [] (zk I) = if ¬ (I 10 (zx v3)) = v1 then zr X 25 25 [.ref 5, .int v1, .int v2, .int v3] [] (zk I) else zr X 25 22 [.ref 5, .int v1, .int v2, .int v3] [] (zk I) :=
  (zr_aload_n t25_12 rfl).trans <|
    (zr_getR (u := 10) t25_13 (rfl)).trans <|
    (zr_iload_n t25_16 rfl).trans <|
    (zr_iald (j := zx v3) t25_17 (N := 20) rfl rfl q1).trans <|
    (zr_iload_n t25_18 rfl).trans <|
    zr_ic_ne (tgt := 25) t25_19 rfl
theorem k25_22 {X : Nat × (Nat → Int32)} {I : Nat → Nat → Int32} {v1 : Int32} {v2 : Int32} {v3 : Int32}  : zr X 25 22 [.ref 5, .int v1, .int v2, .int v3] [] (zk I) = zr X 25 4 [.ref 5, .int v1, .int (v2 + 1), .int (v3 + 1)] [] (zk I) :=
  (zr_iinc t25_22 rfl rfl (congrArg (fun z => v2 + z) zci_1) rfl).trans <|
    (zr_iinc t25_25 rfl rfl (congrArg (fun z => v3 + z) zci_1) rfl).trans <|
    zr_goto (tgt := 4) t25_28 rfl
theorem k25_25 {X : Nat × (Nat → Int32)} {I : Nat → Nat → Int32} {v1 : Int32} {v2 : Int32} {v3 : Int32}  : zr X 25 25 [.ref 5, .int v1, .int v2, .int v3] [] (zk I) = zr X 25 4 [.ref 5, .int v1, .int v2, .int (v3 + 1)] [] (zk I) :=
  (zr_iinc t25_25 rfl rfl (congrArg (fun z => v3 + z) zci_1) rfl).trans <|
    zr_goto (tgt := 4) t25_28 rfl
theorem k25_31 {X : Nat × (Nat → Int32)} {I : Nat → Nat → Int32} {v1 : Int32} {v2 : Int32} {v3 : Int32}  : zr X 25 31 [.ref 5, .int v1, .int v2, .int v3] [] (zk I) = some (some (.int v2), zk I) :=
  (zr_iload_n t25_31 rfl).trans <|
    zr_iret t25_32 rfl
/-! X1_inInk FiveInks$Marks.inInk -/
theorem k26_0 {X : Nat × (Nat → Int32)} {I : Nat → Nat → Int32} {v1 : Int32}  : zr X 26 0 [.ref 5, .int v1, .null, .null] [] (zk I) = zr X 26 4 [.ref 5, .int v1, .int 0, .int 0] [] (zk I) :=
  (zr_iconst t26_0 zci_0).trans <|
    (zr_istore_n t26_1 rfl rfl).trans <|
    (zr_iconst t26_2 zci_0).trans <|
    zr_istore_n t26_3 rfl rfl
theorem k26_4 {X : Nat × (Nat → Int32)} {I : Nat → Nat → Int32} {v1 : Int32} {v2 : Int32} {v3 : Int32}  : zr X 26 4 [.ref 5, .int v1, .int v2, .int v3] [] (zk I) = if (I 5 7) ≤ v3 then zr X 26 31 [.ref 5, .int v1, .int v2, .int v3] [] (zk I) else zr X 26 12 [.ref 5, .int v1, .int v2, .int v3] [] (zk I) :=
  (zr_iload_n t26_4 rfl).trans <|
    (zr_aload_n t26_5 rfl).trans <|
    (zr_getI t26_6 (rfl)).trans <|
    zr_ic_ge (tgt := 31) t26_9 rfl
theorem k26_12 {X : Nat × (Nat → Int32)} {I : Nat → Nat → Int32} {v1 : Int32} {v2 : Int32} {v3 : Int32} (q1 : zin v3 20 = true) : zr X 26 12 [.ref 5, .int v1, .int v2, .int v3] [] (zk I) = if ¬ (I 6 (zx v3)) = v1 then zr X 26 25 [.ref 5, .int v1, .int v2, .int v3] [] (zk I) else zr X 26 22 [.ref 5, .int v1, .int v2, .int v3] [] (zk I) :=
  (zr_aload_n t26_12 rfl).trans <|
    (zr_getR (u := 6) t26_13 (rfl)).trans <|
    (zr_iload_n t26_16 rfl).trans <|
    (zr_iald (j := zx v3) t26_17 (N := 20) rfl rfl q1).trans <|
    (zr_iload_n t26_18 rfl).trans <|
    zr_ic_ne (tgt := 25) t26_19 rfl
theorem k26_22 {X : Nat × (Nat → Int32)} {I : Nat → Nat → Int32} {v1 : Int32} {v2 : Int32} {v3 : Int32}  : zr X 26 22 [.ref 5, .int v1, .int v2, .int v3] [] (zk I) = zr X 26 4 [.ref 5, .int v1, .int (v2 + 1), .int (v3 + 1)] [] (zk I) :=
  (zr_iinc t26_22 rfl rfl (congrArg (fun z => v2 + z) zci_1) rfl).trans <|
    (zr_iinc t26_25 rfl rfl (congrArg (fun z => v3 + z) zci_1) rfl).trans <|
    zr_goto (tgt := 4) t26_28 rfl
theorem k26_25 {X : Nat × (Nat → Int32)} {I : Nat → Nat → Int32} {v1 : Int32} {v2 : Int32} {v3 : Int32}  : zr X 26 25 [.ref 5, .int v1, .int v2, .int v3] [] (zk I) = zr X 26 4 [.ref 5, .int v1, .int v2, .int (v3 + 1)] [] (zk I) :=
  (zr_iinc t26_25 rfl rfl (congrArg (fun z => v3 + z) zci_1) rfl).trans <|
    zr_goto (tgt := 4) t26_28 rfl
theorem k26_31 {X : Nat × (Nat → Int32)} {I : Nat → Nat → Int32} {v1 : Int32} {v2 : Int32} {v3 : Int32}  : zr X 26 31 [.ref 5, .int v1, .int v2, .int v3] [] (zk I) = some (some (.int v2), zk I) :=
  (zr_iload_n t26_31 rfl).trans <|
    zr_iret t26_32 rfl
/-! X1_inInkAndState FiveInks$Marks.inInkAndState -/
theorem k27_0 {X : Nat × (Nat → Int32)} {I : Nat → Nat → Int32} {v1 : Int32} {v2 : Int32}  : zr X 27 0 [.ref 5, .int v1, .int v2, .null, .null] [] (zk I) = zr X 27 5 [.ref 5, .int v1, .int v2, .int 0, .int 0] [] (zk I) :=
  (zr_iconst t27_0 zci_0).trans <|
    (zr_istore_n t27_1 rfl rfl).trans <|
    (zr_iconst t27_2 zci_0).trans <|
    zr_istore t27_3 rfl rfl
theorem k27_5 {X : Nat × (Nat → Int32)} {I : Nat → Nat → Int32} {v1 : Int32} {v2 : Int32} {v3 : Int32} {v4 : Int32}  : zr X 27 5 [.ref 5, .int v1, .int v2, .int v3, .int v4] [] (zk I) = if (I 5 7) ≤ v4 then zr X 27 45 [.ref 5, .int v1, .int v2, .int v3, .int v4] [] (zk I) else zr X 27 14 [.ref 5, .int v1, .int v2, .int v3, .int v4] [] (zk I) :=
  (zr_iload t27_5 rfl).trans <|
    (zr_aload_n t27_7 rfl).trans <|
    (zr_getI t27_8 (rfl)).trans <|
    zr_ic_ge (tgt := 45) t27_11 rfl
theorem k27_14 {X : Nat × (Nat → Int32)} {I : Nat → Nat → Int32} {v1 : Int32} {v2 : Int32} {v3 : Int32} {v4 : Int32} (q1 : zin v4 20 = true) : zr X 27 14 [.ref 5, .int v1, .int v2, .int v3, .int v4] [] (zk I) = if ¬ (I 6 (zx v4)) = v1 then zr X 27 39 [.ref 5, .int v1, .int v2, .int v3, .int v4] [] (zk I) else zr X 27 25 [.ref 5, .int v1, .int v2, .int v3, .int v4] [] (zk I) :=
  (zr_aload_n t27_14 rfl).trans <|
    (zr_getR (u := 6) t27_15 (rfl)).trans <|
    (zr_iload t27_18 rfl).trans <|
    (zr_iald (j := zx v4) t27_20 (N := 20) rfl rfl q1).trans <|
    (zr_iload_n t27_21 rfl).trans <|
    zr_ic_ne (tgt := 39) t27_22 rfl
theorem k27_25 {X : Nat × (Nat → Int32)} {I : Nat → Nat → Int32} {v1 : Int32} {v2 : Int32} {v3 : Int32} {v4 : Int32} (q1 : zin v4 20 = true) : zr X 27 25 [.ref 5, .int v1, .int v2, .int v3, .int v4] [] (zk I) = if ¬ (I 10 (zx v4)) = v2 then zr X 27 39 [.ref 5, .int v1, .int v2, .int v3, .int v4] [] (zk I) else zr X 27 36 [.ref 5, .int v1, .int v2, .int v3, .int v4] [] (zk I) :=
  (zr_aload_n t27_25 rfl).trans <|
    (zr_getR (u := 10) t27_26 (rfl)).trans <|
    (zr_iload t27_29 rfl).trans <|
    (zr_iald (j := zx v4) t27_31 (N := 20) rfl rfl q1).trans <|
    (zr_iload_n t27_32 rfl).trans <|
    zr_ic_ne (tgt := 39) t27_33 rfl
theorem k27_36 {X : Nat × (Nat → Int32)} {I : Nat → Nat → Int32} {v1 : Int32} {v2 : Int32} {v3 : Int32} {v4 : Int32}  : zr X 27 36 [.ref 5, .int v1, .int v2, .int v3, .int v4] [] (zk I) = zr X 27 5 [.ref 5, .int v1, .int v2, .int (v3 + 1), .int (v4 + 1)] [] (zk I) :=
  (zr_iinc t27_36 rfl rfl (congrArg (fun z => v3 + z) zci_1) rfl).trans <|
    (zr_iinc t27_39 rfl rfl (congrArg (fun z => v4 + z) zci_1) rfl).trans <|
    zr_goto (tgt := 5) t27_42 rfl
theorem k27_39 {X : Nat × (Nat → Int32)} {I : Nat → Nat → Int32} {v1 : Int32} {v2 : Int32} {v3 : Int32} {v4 : Int32}  : zr X 27 39 [.ref 5, .int v1, .int v2, .int v3, .int v4] [] (zk I) = zr X 27 5 [.ref 5, .int v1, .int v2, .int v3, .int (v4 + 1)] [] (zk I) :=
  (zr_iinc t27_39 rfl rfl (congrArg (fun z => v4 + z) zci_1) rfl).trans <|
    zr_goto (tgt := 5) t27_42 rfl
theorem k27_45 {X : Nat × (Nat → Int32)} {I : Nat → Nat → Int32} {v1 : Int32} {v2 : Int32} {v3 : Int32} {v4 : Int32}  : zr X 27 45 [.ref 5, .int v1, .int v2, .int v3, .int v4] [] (zk I) = some (some (.int v3), zk I) :=
  (zr_iload_n t27_45 rfl).trans <|
    zr_iret t27_46 rfl
/-! X1_refusedSince FiveInks$Marks.refusedSince -/
theorem k28_0 {X : Nat × (Nat → Int32)} {I : Nat → Nat → Int32} {v2 : Int32}  : zr X 28 0 [.ref 5, .ref 158, .int v2, .null, .null] [] (zk I) = zr X 28 5 [.ref 5, .ref 158, .int v2, .int 0, .int 0] [] (zk I) :=
  (zr_iconst t28_0 zci_0).trans <|
    (zr_istore_n t28_1 rfl rfl).trans <|
    (zr_iconst t28_2 zci_0).trans <|
    zr_istore t28_3 rfl rfl
theorem k28_5 {X : Nat × (Nat → Int32)} {I : Nat → Nat → Int32} {v2 : Int32} {v3 : Int32} {v4 : Int32}  : zr X 28 5 [.ref 5, .ref 158, .int v2, .int v3, .int v4] [] (zk I) = if (I 5 7) ≤ v4 then zr X 28 60 [.ref 5, .ref 158, .int v2, .int v3, .int v4] [] (zk I) else zr X 28 14 [.ref 5, .ref 158, .int v2, .int v3, .int v4] [] (zk I) :=
  (zr_iload t28_5 rfl).trans <|
    (zr_aload_n t28_7 rfl).trans <|
    (zr_getI t28_8 (rfl)).trans <|
    zr_ic_ge (tgt := 60) t28_11 rfl
theorem k28_14 {X : Nat × (Nat → Int32)} {I : Nat → Nat → Int32} {v2 : Int32} {v3 : Int32} {v4 : Int32}  : zr X 28 14 [.ref 5, .ref 158, .int v2, .int v3, .int v4] [] (zk I) = if 20 ≤ v4 then zr X 28 60 [.ref 5, .ref 158, .int v2, .int v3, .int v4] [] (zk I) else zr X 28 21 [.ref 5, .ref 158, .int v2, .int v3, .int v4] [] (zk I) :=
  (zr_iload t28_14 rfl).trans <|
    (zr_aload_n t28_16 rfl).trans <|
    (zr_alen (N := 20) (x := 20) t28_17 rfl (by decide)).trans <|
    zr_ic_ge (tgt := 60) t28_18 rfl
theorem k28_21 {X : Nat × (Nat → Int32)} {I : Nat → Nat → Int32} {v2 : Int32} {v3 : Int32} {v4 : Int32} (q1 : zin v4 20 = true) : zr X 28 21 [.ref 5, .ref 158, .int v2, .int v3, .int v4] [] (zk I) = if ¬ (I 6 (zx v4)) = v2 then zr X 28 54 [.ref 5, .ref 158, .int v2, .int v3, .int v4] [] (zk I) else zr X 28 32 [.ref 5, .ref 158, .int v2, .int v3, .int v4] [] (zk I) :=
  (zr_aload_n t28_21 rfl).trans <|
    (zr_getR (u := 6) t28_22 (rfl)).trans <|
    (zr_iload t28_25 rfl).trans <|
    (zr_iald (j := zx v4) t28_27 (N := 20) rfl rfl q1).trans <|
    (zr_iload_n t28_28 rfl).trans <|
    zr_ic_ne (tgt := 54) t28_29 rfl
theorem k28_32 {X : Nat × (Nat → Int32)} {I : Nat → Nat → Int32} {v2 : Int32} {v3 : Int32} {v4 : Int32} (q1 : zin v4 20 = true) : zr X 28 32 [.ref 5, .ref 158, .int v2, .int v3, .int v4] [] (zk I) = if (I 158 (zx v4)) = 2 then zr X 28 54 [.ref 5, .ref 158, .int v2, .int v3, .int v4] [] (zk I) else zr X 28 40 [.ref 5, .ref 158, .int v2, .int v3, .int v4] [] (zk I) :=
  (zr_aload_n t28_32 rfl).trans <|
    (zr_iload t28_33 rfl).trans <|
    (zr_iald (j := zx v4) t28_35 (N := 20) rfl rfl q1).trans <|
    (zr_iconst t28_36 zci_2).trans <|
    zr_ic_eq (tgt := 54) t28_37 rfl
theorem k28_40 {X : Nat × (Nat → Int32)} {I : Nat → Nat → Int32} {v2 : Int32} {v3 : Int32} {v4 : Int32} (q1 : zin v4 20 = true) : zr X 28 40 [.ref 5, .ref 158, .int v2, .int v3, .int v4] [] (zk I) = if ¬ (I 10 (zx v4)) = 2 then zr X 28 54 [.ref 5, .ref 158, .int v2, .int v3, .int v4] [] (zk I) else zr X 28 51 [.ref 5, .ref 158, .int v2, .int v3, .int v4] [] (zk I) :=
  (zr_aload_n t28_40 rfl).trans <|
    (zr_getR (u := 10) t28_41 (rfl)).trans <|
    (zr_iload t28_44 rfl).trans <|
    (zr_iald (j := zx v4) t28_46 (N := 20) rfl rfl q1).trans <|
    (zr_iconst t28_47 zci_2).trans <|
    zr_ic_ne (tgt := 54) t28_48 rfl
theorem k28_51 {X : Nat × (Nat → Int32)} {I : Nat → Nat → Int32} {v2 : Int32} {v3 : Int32} {v4 : Int32}  : zr X 28 51 [.ref 5, .ref 158, .int v2, .int v3, .int v4] [] (zk I) = zr X 28 5 [.ref 5, .ref 158, .int v2, .int (v3 + 1), .int (v4 + 1)] [] (zk I) :=
  (zr_iinc t28_51 rfl rfl (congrArg (fun z => v3 + z) zci_1) rfl).trans <|
    (zr_iinc t28_54 rfl rfl (congrArg (fun z => v4 + z) zci_1) rfl).trans <|
    zr_goto (tgt := 5) t28_57 rfl
theorem k28_54 {X : Nat × (Nat → Int32)} {I : Nat → Nat → Int32} {v2 : Int32} {v3 : Int32} {v4 : Int32}  : zr X 28 54 [.ref 5, .ref 158, .int v2, .int v3, .int v4] [] (zk I) = zr X 28 5 [.ref 5, .ref 158, .int v2, .int v3, .int (v4 + 1)] [] (zk I) :=
  (zr_iinc t28_54 rfl rfl (congrArg (fun z => v4 + z) zci_1) rfl).trans <|
    zr_goto (tgt := 5) t28_57 rfl
theorem k28_60 {X : Nat × (Nat → Int32)} {I : Nat → Nat → Int32} {v2 : Int32} {v3 : Int32} {v4 : Int32}  : zr X 28 60 [.ref 5, .ref 158, .int v2, .int v3, .int v4] [] (zk I) = some (some (.int v3), zk I) :=
  (zr_iload_n t28_60 rfl).trans <|
    zr_iret t28_61 rfl
/-! X1_carryOver FiveInks$Marks.carryOver -/
theorem k29_0 {X : Nat × (Nat → Int32)} {I : Nat → Nat → Int32}   : zr X 29 0 [.ref 5, .null, .null] [] (zk I) = zr X 29 2 [.ref 5, .int 0, .null] [] (zk I) :=
  (zr_iconst t29_0 zci_0).trans <|
    zr_istore_n t29_1 rfl rfl
theorem k29_2 {X : Nat × (Nat → Int32)} {I : Nat → Nat → Int32} {v1 : Int32}  : zr X 29 2 [.ref 5, .int v1, .null] [] (zk I) = if (I 5 7) ≤ v1 then zr X 29 30 [.ref 5, .int v1, .null] [] (zk I) else zr X 29 10 [.ref 5, .int v1, .null] [] (zk I) :=
  (zr_iload_n t29_2 rfl).trans <|
    (zr_aload_n t29_3 rfl).trans <|
    (zr_getI t29_4 (rfl)).trans <|
    zr_ic_ge (tgt := 30) t29_7 rfl
theorem k29_10 {X : Nat × (Nat → Int32)} {I : Nat → Nat → Int32} {v1 : Int32} (q1 : zin v1 20 = true) : zr X 29 10 [.ref 5, .int v1, .null] [] (zk I) = if ¬ (I 10 (zx v1)) = 0 then zr X 29 24 [.ref 5, .int v1, .null] [] (zk I) else zr X 29 19 [.ref 5, .int v1, .null] [] (zk I) :=
  (zr_aload_n t29_10 rfl).trans <|
    (zr_getR (u := 10) t29_11 (rfl)).trans <|
    (zr_iload_n t29_14 rfl).trans <|
    (zr_iald (j := zx v1) t29_15 (N := 20) rfl rfl q1).trans <|
    zr_if_ne (tgt := 24) t29_16 rfl
theorem k29_19 {X : Nat × (Nat → Int32)} {I : Nat → Nat → Int32} {v1 : Int32}  : zr X 29 19 [.ref 5, .int v1, .null] [] (zk I) = zcb (zr X 30 0 [.ref 5, .int v1, .null] [] (zk I)) (fun v m1 => zr X 29 24 [.ref 5, .int v1, .null] (v.toList ++ []) m1) :=
  (zr_aload_n t29_19 rfl).trans <|
    (zr_iload_n t29_20 rfl).trans <|
    zr_callv t29_21 rfl rfl rfl rfl
theorem k29_24 {X : Nat × (Nat → Int32)} {I : Nat → Nat → Int32} {v1 : Int32}  : zr X 29 24 [.ref 5, .int v1, .null] [] (zk I) = zr X 29 2 [.ref 5, .int (v1 + 1), .null] [] (zk I) :=
  (zr_iinc t29_24 rfl rfl (congrArg (fun z => v1 + z) zci_1) rfl).trans <|
    zr_goto (tgt := 2) t29_27 rfl
theorem k29_30 {X : Nat × (Nat → Int32)} {I : Nat → Nat → Int32} {v1 : Int32}  : zr X 29 30 [.ref 5, .int v1, .null] [] (zk I) = zr X 29 34 [.ref 5, .int 0, .int 0] [] (zk I) :=
  (zr_iconst t29_30 zci_0).trans <|
    (zr_istore_n t29_31 rfl rfl).trans <|
    (zr_iconst t29_32 zci_0).trans <|
    zr_istore_n t29_33 rfl rfl
theorem k29_34 {X : Nat × (Nat → Int32)} {I : Nat → Nat → Int32} {v1 : Int32} {v2 : Int32}  : zr X 29 34 [.ref 5, .int v1, .int v2] [] (zk I) = if (I 5 7) ≤ v2 then zr X 29 76 [.ref 5, .int v1, .int v2] [] (zk I) else zr X 29 42 [.ref 5, .int v1, .int v2] [] (zk I) :=
  (zr_iload_n t29_34 rfl).trans <|
    (zr_aload_n t29_35 rfl).trans <|
    (zr_getI t29_36 (rfl)).trans <|
    zr_ic_ge (tgt := 76) t29_39 rfl
theorem k29_42 {X : Nat × (Nat → Int32)} {I : Nat → Nat → Int32} {v1 : Int32} {v2 : Int32} (q1 : zin v2 20 = true) : zr X 29 42 [.ref 5, .int v1, .int v2] [] (zk I) = if ¬ (I 10 (zx v2)) = 0 then zr X 29 70 [.ref 5, .int v1, .int v2] [] (zk I) else zr X 29 51 [.ref 5, .int v1, .int v2] [] (zk I) :=
  (zr_aload_n t29_42 rfl).trans <|
    (zr_getR (u := 10) t29_43 (rfl)).trans <|
    (zr_iload_n t29_46 rfl).trans <|
    (zr_iald (j := zx v2) t29_47 (N := 20) rfl rfl q1).trans <|
    zr_if_ne (tgt := 70) t29_48 rfl
theorem k29_51 {X : Nat × (Nat → Int32)} {I : Nat → Nat → Int32} {v1 : Int32} {v2 : Int32}  : zr X 29 51 [.ref 5, .int v1, .int v2] [] (zk I) = zcb (zr X 31 0 [.ref 5, .int v2, .int v1, .null] [] (zk I)) (fun v m1 => zr X 29 57 [.ref 5, .int v1, .int v2] (v.toList ++ []) m1) :=
  (zr_aload_n t29_51 rfl).trans <|
    (zr_iload_n t29_52 rfl).trans <|
    (zr_iload_n t29_53 rfl).trans <|
    zr_callv t29_54 rfl rfl rfl rfl
theorem k29_57 {X : Nat × (Nat → Int32)} {I : Nat → Nat → Int32} {v1 : Int32} {v2 : Int32} {s0 : Int32}  : zr X 29 57 [.ref 5, .int v1, .int v2] [.int s0] (zk I) = if ¬ s0 = 0 then zr X 29 70 [.ref 5, .int v1, .int v2] [] (zk I) else zr X 29 60 [.ref 5, .int v1, .int v2] [] (zk I) :=
  zr_if_ne (tgt := 70) t29_57 rfl
theorem k29_60 {X : Nat × (Nat → Int32)} {I : Nat → Nat → Int32} {v1 : Int32} {v2 : Int32}  : zr X 29 60 [.ref 5, .int v1, .int v2] [] (zk I) = zcb (zr X 10 0 [.ref 5, .ref 5, .int v2, .int v1] [] (zk I)) (fun v m1 => zr X 29 67 [.ref 5, .int v1, .int v2] (v.toList ++ []) m1) :=
  (zr_aload_n t29_60 rfl).trans <|
    (zr_aload_n t29_61 rfl).trans <|
    (zr_iload_n t29_62 rfl).trans <|
    (zr_iload_n t29_63 rfl).trans <|
    zr_callv t29_64 rfl rfl rfl rfl
theorem k29_67 {X : Nat × (Nat → Int32)} {I : Nat → Nat → Int32} {v1 : Int32} {v2 : Int32}  : zr X 29 67 [.ref 5, .int v1, .int v2] [] (zk I) = zr X 29 34 [.ref 5, .int (v1 + 1), .int (v2 + 1)] [] (zk I) :=
  (zr_iinc t29_67 rfl rfl (congrArg (fun z => v1 + z) zci_1) rfl).trans <|
    (zr_iinc t29_70 rfl rfl (congrArg (fun z => v2 + z) zci_1) rfl).trans <|
    zr_goto (tgt := 34) t29_73 rfl
theorem k29_70 {X : Nat × (Nat → Int32)} {I : Nat → Nat → Int32} {v1 : Int32} {v2 : Int32}  : zr X 29 70 [.ref 5, .int v1, .int v2] [] (zk I) = zr X 29 34 [.ref 5, .int v1, .int (v2 + 1)] [] (zk I) :=
  (zr_iinc t29_70 rfl rfl (congrArg (fun z => v2 + z) zci_1) rfl).trans <|
    zr_goto (tgt := 34) t29_73 rfl
theorem k29_76 {X : Nat × (Nat → Int32)} {I : Nat → Nat → Int32} {v1 : Int32} {v2 : Int32}  : zr X 29 76 [.ref 5, .int v1, .int v2] [] (zk I) = some (none, zk (zs1 I 5 7 v1)) :=
  (zr_aload_n t29_76 rfl).trans <|
    (zr_iload_n t29_77 rfl).trans <|
    (zr_putI t29_78 (rfl) (Or.inl rfl)).trans <|
    zr_vret t29_81 rfl
/-! X1_carryGaps FiveInks$Marks.carryGaps -/
theorem k30_0 {X : Nat × (Nat → Int32)} {I : Nat → Nat → Int32} {v1 : Int32}  : zr X 30 0 [.ref 5, .int v1, .null] [] (zk I) = zcb (zr X 16 0 [.ref 5, .int v1, .int 1, .null] [] (zk I)) (fun v m1 => zr X 30 6 [.ref 5, .int v1, .null] (v.toList ++ []) m1) :=
  (zr_aload_n t30_0 rfl).trans <|
    (zr_iload_n t30_1 rfl).trans <|
    (zr_iconst t30_2 zci_1).trans <|
    zr_callv t30_3 rfl rfl rfl rfl
theorem k30_6 {X : Nat × (Nat → Int32)} {I : Nat → Nat → Int32} {v1 : Int32} {s0 : Int32}  : zr X 30 6 [.ref 5, .int v1, .null] [.int s0] (zk I) = if s0 = 0 then zr X 30 17 [.ref 5, .int v1, .null] [] (zk I) else zr X 30 9 [.ref 5, .int v1, .null] [] (zk I) :=
  zr_if_eq (tgt := 17) t30_6 rfl
theorem k30_9 {X : Nat × (Nat → Int32)} {I : Nat → Nat → Int32} {v1 : Int32} (q1 : zin v1 20 = true) : zr X 30 9 [.ref 5, .int v1, .null] [] (zk I) = some (none, zk (zs1 I 10 (zx v1) 2)) :=
  (zr_aload_n t30_9 rfl).trans <|
    (zr_getR (u := 10) t30_10 (rfl)).trans <|
    (zr_iload_n t30_13 rfl).trans <|
    (zr_iconst t30_14 zci_2).trans <|
    (zr_iast (j := zx v1) t30_15 (N := 20) rfl rfl q1).trans <|
    zr_vret t30_16 rfl
theorem k30_17 {X : Nat × (Nat → Int32)} {I : Nat → Nat → Int32} {v1 : Int32} (q1 : zin v1 20 = true) : zr X 30 17 [.ref 5, .int v1, .null] [] (zk I) = zcb (zr X 32 0 [.ref 5, .int (I 9 (zx v1)), .null, .null, .null] [] (zk I)) (fun v m1 => zr X 30 27 [.ref 5, .int v1, .null] (v.toList ++ []) m1) :=
  (zr_aload_n t30_17 rfl).trans <|
    (zr_aload_n t30_18 rfl).trans <|
    (zr_getR (u := 9) t30_19 (rfl)).trans <|
    (zr_iload_n t30_22 rfl).trans <|
    (zr_iald (j := zx v1) t30_23 (N := 20) rfl rfl q1).trans <|
    zr_callv t30_24 rfl rfl rfl rfl
theorem k30_27 {X : Nat × (Nat → Int32)} {I : Nat → Nat → Int32} {v1 : Int32} {s0 : Int32} (q1 : zin v1 20 = true) : zr X 30 27 [.ref 5, .int v1, .null] [.int s0] (zk I) = if ¬ (I 7 (zx v1)) = 1 then zr X 30 47 [.ref 5, .int v1, .int s0] [.int v1, .ref 8] (zk I) else zr X 30 43 [.ref 5, .int v1, .int s0] [.int v1, .ref 8] (zk I) :=
  (zr_istore_n t30_27 rfl rfl).trans <|
    (zr_aload_n t30_28 rfl).trans <|
    (zr_getR (u := 8) t30_29 (rfl)).trans <|
    (zr_iload_n t30_32 rfl).trans <|
    (zr_aload_n t30_33 rfl).trans <|
    (zr_getR (u := 7) t30_34 (rfl)).trans <|
    (zr_iload_n t30_37 rfl).trans <|
    (zr_iald (j := zx v1) t30_38 (N := 20) rfl rfl q1).trans <|
    (zr_iconst t30_39 zci_1).trans <|
    zr_ic_ne (tgt := 47) t30_40 rfl
theorem k30_43 {X : Nat × (Nat → Int32)} {I : Nat → Nat → Int32} {v1 : Int32} {v2 : Int32} {s1 : Int32} (q1 : zin s1 20 = true) (q2 : zin v1 20 = true) : zr X 30 43 [.ref 5, .int v1, .int v2] [.int s1, .ref 8] (zk I) = some (none, zk (zs1 (zs1 I 8 (zx s1) v2) 9 (zx v1) v2)) :=
  (zr_iload_n t30_43 rfl).trans <|
    (zr_goto (tgt := 68) t30_44 rfl).trans <|
    (zr_iast (j := zx s1) t30_68 (N := 20) rfl rfl q1).trans <|
    (zr_aload_n t30_69 rfl).trans <|
    (zr_getR (u := 9) t30_70 (rfl)).trans <|
    (zr_iload_n t30_73 rfl).trans <|
    (zr_iload_n t30_74 rfl).trans <|
    (zr_iast (j := zx v1) t30_75 (N := 20) rfl rfl q2).trans <|
    zr_vret t30_76 rfl
theorem k30_47 {X : Nat × (Nat → Int32)} {I : Nat → Nat → Int32} {v1 : Int32} {v2 : Int32} {s1 : Int32} (q1 : zin v1 20 = true) : zr X 30 47 [.ref 5, .int v1, .int v2] [.int s1, .ref 8] (zk I) = zcb (zr X 32 0 [.ref 5, .int (I 8 (zx v1)), .null, .null, .null] [] (zk I)) (fun v m1 => zr X 30 57 [.ref 5, .int v1, .int v2] (v.toList ++ [.int s1, .ref 8]) m1) :=
  (zr_aload_n t30_47 rfl).trans <|
    (zr_aload_n t30_48 rfl).trans <|
    (zr_getR (u := 8) t30_49 (rfl)).trans <|
    (zr_iload_n t30_52 rfl).trans <|
    (zr_iald (j := zx v1) t30_53 (N := 20) rfl rfl q1).trans <|
    zr_callv t30_54 rfl rfl rfl rfl
theorem k30_57 {X : Nat × (Nat → Int32)} {I : Nat → Nat → Int32} {v1 : Int32} {v2 : Int32} {s1 : Int32} {s2 : Int32} (q1 : zin v1 20 = true) : zr X 30 57 [.ref 5, .int v1, .int v2] [.int s2, .int s1, .ref 8] (zk I) = zcb (zr X 33 0 [.ref 5, .int (I 8 (zx v1)), .null, .null] [] (zk I)) (fun v m1 => zr X 30 67 [.ref 5, .int v1, .int v2] (v.toList ++ [.int s2, .int s1, .ref 8]) m1) :=
  (zr_aload_n t30_57 rfl).trans <|
    (zr_aload_n t30_58 rfl).trans <|
    (zr_getR (u := 8) t30_59 (rfl)).trans <|
    (zr_iload_n t30_62 rfl).trans <|
    (zr_iald (j := zx v1) t30_63 (N := 20) rfl rfl q1).trans <|
    zr_callv t30_64 rfl rfl rfl rfl
theorem k30_67 {X : Nat × (Nat → Int32)} {I : Nat → Nat → Int32} {v1 : Int32} {v2 : Int32} {s1 : Int32} {s2 : Int32} {s3 : Int32} (q1 : zin s1 20 = true) (q2 : zin v1 20 = true) : zr X 30 67 [.ref 5, .int v1, .int v2] [.int s3, .int s2, .int s1, .ref 8] (zk I) = some (none, zk (zs1 (zs1 I 8 (zx s1) (s2 + s3)) 9 (zx v1) v2)) :=
  (zr_iadd t30_67).trans <|
    (zr_iast (j := zx s1) t30_68 (N := 20) rfl rfl q1).trans <|
    (zr_aload_n t30_69 rfl).trans <|
    (zr_getR (u := 9) t30_70 (rfl)).trans <|
    (zr_iload_n t30_73 rfl).trans <|
    (zr_iload_n t30_74 rfl).trans <|
    (zr_iast (j := zx v1) t30_75 (N := 20) rfl rfl q2).trans <|
    zr_vret t30_76 rfl
/-! X1_isPutInTwice FiveInks$Marks.isPutInTwice -/
theorem k31_0 {X : Nat × (Nat → Int32)} {I : Nat → Nat → Int32} {v1 : Int32} {v2 : Int32}  : zr X 31 0 [.ref 5, .int v1, .int v2, .null] [] (zk I) = zr X 31 2 [.ref 5, .int v1, .int v2, .int 0] [] (zk I) :=
  (zr_iconst t31_0 zci_0).trans <|
    zr_istore_n t31_1 rfl rfl
theorem k31_2 {X : Nat × (Nat → Int32)} {I : Nat → Nat → Int32} {v1 : Int32} {v2 : Int32} {v3 : Int32}  : zr X 31 2 [.ref 5, .int v1, .int v2, .int v3] [] (zk I) = if v2 ≤ v3 then zr X 31 65 [.ref 5, .int v1, .int v2, .int v3] [] (zk I) else zr X 31 7 [.ref 5, .int v1, .int v2, .int v3] [] (zk I) :=
  (zr_iload_n t31_2 rfl).trans <|
    (zr_iload_n t31_3 rfl).trans <|
    zr_ic_ge (tgt := 65) t31_4 rfl
theorem k31_7 {X : Nat × (Nat → Int32)} {I : Nat → Nat → Int32} {v1 : Int32} {v2 : Int32} {v3 : Int32} (q1 : zin v1 20 = true) : zr X 31 7 [.ref 5, .int v1, .int v2, .int v3] [] (zk I) = if ¬ (I 7 (zx v1)) = 1 then zr X 31 59 [.ref 5, .int v1, .int v2, .int v3] [] (zk I) else zr X 31 17 [.ref 5, .int v1, .int v2, .int v3] [] (zk I) :=
  (zr_aload_n t31_7 rfl).trans <|
    (zr_getR (u := 7) t31_8 (rfl)).trans <|
    (zr_iload_n t31_11 rfl).trans <|
    (zr_iald (j := zx v1) t31_12 (N := 20) rfl rfl q1).trans <|
    (zr_iconst t31_13 zci_1).trans <|
    zr_ic_ne (tgt := 59) t31_14 rfl
theorem k31_17 {X : Nat × (Nat → Int32)} {I : Nat → Nat → Int32} {v1 : Int32} {v2 : Int32} {v3 : Int32} (q1 : zin v3 20 = true) : zr X 31 17 [.ref 5, .int v1, .int v2, .int v3] [] (zk I) = if ¬ (I 7 (zx v3)) = 1 then zr X 31 59 [.ref 5, .int v1, .int v2, .int v3] [] (zk I) else zr X 31 27 [.ref 5, .int v1, .int v2, .int v3] [] (zk I) :=
  (zr_aload_n t31_17 rfl).trans <|
    (zr_getR (u := 7) t31_18 (rfl)).trans <|
    (zr_iload_n t31_21 rfl).trans <|
    (zr_iald (j := zx v3) t31_22 (N := 20) rfl rfl q1).trans <|
    (zr_iconst t31_23 zci_1).trans <|
    zr_ic_ne (tgt := 59) t31_24 rfl
theorem k31_27 {X : Nat × (Nat → Int32)} {I : Nat → Nat → Int32} {v1 : Int32} {v2 : Int32} {v3 : Int32} (q1 : zin v3 20 = true) (q2 : zin v1 20 = true) : zr X 31 27 [.ref 5, .int v1, .int v2, .int v3] [] (zk I) = if ¬ (I 6 (zx v3)) = (I 6 (zx v1)) then zr X 31 59 [.ref 5, .int v1, .int v2, .int v3] [] (zk I) else zr X 31 42 [.ref 5, .int v1, .int v2, .int v3] [] (zk I) :=
  (zr_aload_n t31_27 rfl).trans <|
    (zr_getR (u := 6) t31_28 (rfl)).trans <|
    (zr_iload_n t31_31 rfl).trans <|
    (zr_iald (j := zx v3) t31_32 (N := 20) rfl rfl q1).trans <|
    (zr_aload_n t31_33 rfl).trans <|
    (zr_getR (u := 6) t31_34 (rfl)).trans <|
    (zr_iload_n t31_37 rfl).trans <|
    (zr_iald (j := zx v1) t31_38 (N := 20) rfl rfl q2).trans <|
    zr_ic_ne (tgt := 59) t31_39 rfl
theorem k31_42 {X : Nat × (Nat → Int32)} {I : Nat → Nat → Int32} {v1 : Int32} {v2 : Int32} {v3 : Int32} (q1 : zin v3 20 = true) (q2 : zin v1 20 = true) : zr X 31 42 [.ref 5, .int v1, .int v2, .int v3] [] (zk I) = if ¬ (I 8 (zx v3)) = (I 8 (zx v1)) then zr X 31 59 [.ref 5, .int v1, .int v2, .int v3] [] (zk I) else zr X 31 57 [.ref 5, .int v1, .int v2, .int v3] [] (zk I) :=
  (zr_aload_n t31_42 rfl).trans <|
    (zr_getR (u := 8) t31_43 (rfl)).trans <|
    (zr_iload_n t31_46 rfl).trans <|
    (zr_iald (j := zx v3) t31_47 (N := 20) rfl rfl q1).trans <|
    (zr_aload_n t31_48 rfl).trans <|
    (zr_getR (u := 8) t31_49 (rfl)).trans <|
    (zr_iload_n t31_52 rfl).trans <|
    (zr_iald (j := zx v1) t31_53 (N := 20) rfl rfl q2).trans <|
    zr_ic_ne (tgt := 59) t31_54 rfl
theorem k31_57 {X : Nat × (Nat → Int32)} {I : Nat → Nat → Int32} {v1 : Int32} {v2 : Int32} {v3 : Int32}  : zr X 31 57 [.ref 5, .int v1, .int v2, .int v3] [] (zk I) = some (some (.int 1), zk I) :=
  (zr_iconst t31_57 zci_1).trans <|
    zr_zret t31_58 rfl (Or.inr rfl)
theorem k31_59 {X : Nat × (Nat → Int32)} {I : Nat → Nat → Int32} {v1 : Int32} {v2 : Int32} {v3 : Int32}  : zr X 31 59 [.ref 5, .int v1, .int v2, .int v3] [] (zk I) = zr X 31 2 [.ref 5, .int v1, .int v2, .int (v3 + 1)] [] (zk I) :=
  (zr_iinc t31_59 rfl rfl (congrArg (fun z => v3 + z) zci_1) rfl).trans <|
    zr_goto (tgt := 2) t31_62 rfl
theorem k31_65 {X : Nat × (Nat → Int32)} {I : Nat → Nat → Int32} {v1 : Int32} {v2 : Int32} {v3 : Int32}  : zr X 31 65 [.ref 5, .int v1, .int v2, .int v3] [] (zk I) = some (some (.int 0), zk I) :=
  (zr_iconst t31_65 zci_0).trans <|
    zr_zret t31_66 rfl (Or.inl rfl)
/-! X1_printedAhead FiveInks$Marks.printedAhead -/
theorem k32_0 {X : Nat × (Nat → Int32)} {I : Nat → Nat → Int32} {v1 : Int32}  : zr X 32 0 [.ref 5, .int v1, .null, .null, .null] [] (zk I) = zr X 32 4 [.ref 5, .int v1, .int v1, .int 0, .null] [] (zk I) :=
  (zr_iload_n t32_0 rfl).trans <|
    (zr_istore_n t32_1 rfl rfl).trans <|
    (zr_iconst t32_2 zci_0).trans <|
    zr_istore_n t32_3 rfl rfl
theorem k32_4 {X : Nat × (Nat → Int32)} {I : Nat → Nat → Int32} {v1 : Int32} {v2 : Int32} {v3 : Int32} {v4 : Value}  : zr X 32 4 [.ref 5, .int v1, .int v2, .int v3, v4] [] (zk I) = if (I 5 7) ≤ v3 then zr X 32 86 [.ref 5, .int v1, .int v2, .int v3, v4] [] (zk I) else zr X 32 12 [.ref 5, .int v1, .int v2, .int v3, v4] [] (zk I) :=
  (zr_iload_n t32_4 rfl).trans <|
    (zr_aload_n t32_5 rfl).trans <|
    (zr_getI t32_6 (rfl)).trans <|
    zr_ic_ge (tgt := 86) t32_9 rfl
theorem k32_12 {X : Nat × (Nat → Int32)} {I : Nat → Nat → Int32} {v1 : Int32} {v2 : Int32} {v3 : Int32} {v4 : Value} (q1 : zin v3 20 = true) : zr X 32 12 [.ref 5, .int v1, .int v2, .int v3, v4] [] (zk I) = if ¬ (I 7 (zx v3)) = 1 then zr X 32 40 [.ref 5, .int v1, .int v2, .int v3, v4] [] (zk I) else zr X 32 22 [.ref 5, .int v1, .int v2, .int v3, v4] [] (zk I) :=
  (zr_aload_n t32_12 rfl).trans <|
    (zr_getR (u := 7) t32_13 (rfl)).trans <|
    (zr_iload_n t32_16 rfl).trans <|
    (zr_iald (j := zx v3) t32_17 (N := 20) rfl rfl q1).trans <|
    (zr_iconst t32_18 zci_1).trans <|
    zr_ic_ne (tgt := 40) t32_19 rfl
theorem k32_22 {X : Nat × (Nat → Int32)} {I : Nat → Nat → Int32} {v1 : Int32} {v2 : Int32} {v3 : Int32} {v4 : Value} (q1 : zin v3 20 = true) : zr X 32 22 [.ref 5, .int v1, .int v2, .int v3, v4] [] (zk I) = if v1 ≤ (I 8 (zx v3)) then zr X 32 36 [.ref 5, .int v1, .int v2, .int v3, v4] [] (zk I) else zr X 32 32 [.ref 5, .int v1, .int v2, .int v3, v4] [] (zk I) :=
  (zr_aload_n t32_22 rfl).trans <|
    (zr_getR (u := 8) t32_23 (rfl)).trans <|
    (zr_iload_n t32_26 rfl).trans <|
    (zr_iald (j := zx v3) t32_27 (N := 20) rfl rfl q1).trans <|
    (zr_iload_n t32_28 rfl).trans <|
    zr_ic_ge (tgt := 36) t32_29 rfl
theorem k32_32 {X : Nat × (Nat → Int32)} {I : Nat → Nat → Int32} {v1 : Int32} {v2 : Int32} {v3 : Int32} {v4 : Value} (q1 : zin v3 20 = true) : zr X 32 32 [.ref 5, .int v1, .int v2, .int v3, v4] [] (zk I) = if ¬ (I 10 (zx v3)) = 1 then zr X 32 80 [.ref 5, .int v1, .int v2, .int v3, .int 1] [] (zk I) else zr X 32 67 [.ref 5, .int v1, .int v2, .int v3, .int 1] [] (zk I) :=
  (zr_iconst t32_32 zci_1).trans <|
    (zr_goto (tgt := 55) t32_33 rfl).trans <|
    (zr_istore t32_55 rfl rfl).trans <|
    (zr_aload_n t32_57 rfl).trans <|
    (zr_getR (u := 10) t32_58 (rfl)).trans <|
    (zr_iload_n t32_61 rfl).trans <|
    (zr_iald (j := zx v3) t32_62 (N := 20) rfl rfl q1).trans <|
    (zr_iconst t32_63 zci_1).trans <|
    zr_ic_ne (tgt := 80) t32_64 rfl
theorem k32_36 {X : Nat × (Nat → Int32)} {I : Nat → Nat → Int32} {v1 : Int32} {v2 : Int32} {v3 : Int32} {v4 : Value} (q1 : zin v3 20 = true) : zr X 32 36 [.ref 5, .int v1, .int v2, .int v3, v4] [] (zk I) = if ¬ (I 10 (zx v3)) = 1 then zr X 32 80 [.ref 5, .int v1, .int v2, .int v3, .int 0] [] (zk I) else zr X 32 67 [.ref 5, .int v1, .int v2, .int v3, .int 0] [] (zk I) :=
  (zr_iconst t32_36 zci_0).trans <|
    (zr_goto (tgt := 55) t32_37 rfl).trans <|
    (zr_istore t32_55 rfl rfl).trans <|
    (zr_aload_n t32_57 rfl).trans <|
    (zr_getR (u := 10) t32_58 (rfl)).trans <|
    (zr_iload_n t32_61 rfl).trans <|
    (zr_iald (j := zx v3) t32_62 (N := 20) rfl rfl q1).trans <|
    (zr_iconst t32_63 zci_1).trans <|
    zr_ic_ne (tgt := 80) t32_64 rfl
theorem k32_40 {X : Nat × (Nat → Int32)} {I : Nat → Nat → Int32} {v1 : Int32} {v2 : Int32} {v3 : Int32} {v4 : Value} (q1 : zin v3 20 = true) : zr X 32 40 [.ref 5, .int v1, .int v2, .int v3, v4] [] (zk I) = if v1 < (I 9 (zx v3)) then zr X 32 54 [.ref 5, .int v1, .int v2, .int v3, v4] [] (zk I) else zr X 32 50 [.ref 5, .int v1, .int v2, .int v3, v4] [] (zk I) :=
  (zr_aload_n t32_40 rfl).trans <|
    (zr_getR (u := 9) t32_41 (rfl)).trans <|
    (zr_iload_n t32_44 rfl).trans <|
    (zr_iald (j := zx v3) t32_45 (N := 20) rfl rfl q1).trans <|
    (zr_iload_n t32_46 rfl).trans <|
    zr_ic_gt (tgt := 54) t32_47 rfl
theorem k32_50 {X : Nat × (Nat → Int32)} {I : Nat → Nat → Int32} {v1 : Int32} {v2 : Int32} {v3 : Int32} {v4 : Value} (q1 : zin v3 20 = true) : zr X 32 50 [.ref 5, .int v1, .int v2, .int v3, v4] [] (zk I) = if ¬ (I 10 (zx v3)) = 1 then zr X 32 80 [.ref 5, .int v1, .int v2, .int v3, .int 1] [] (zk I) else zr X 32 67 [.ref 5, .int v1, .int v2, .int v3, .int 1] [] (zk I) :=
  (zr_iconst t32_50 zci_1).trans <|
    (zr_goto (tgt := 55) t32_51 rfl).trans <|
    (zr_istore t32_55 rfl rfl).trans <|
    (zr_aload_n t32_57 rfl).trans <|
    (zr_getR (u := 10) t32_58 (rfl)).trans <|
    (zr_iload_n t32_61 rfl).trans <|
    (zr_iald (j := zx v3) t32_62 (N := 20) rfl rfl q1).trans <|
    (zr_iconst t32_63 zci_1).trans <|
    zr_ic_ne (tgt := 80) t32_64 rfl
theorem k32_54 {X : Nat × (Nat → Int32)} {I : Nat → Nat → Int32} {v1 : Int32} {v2 : Int32} {v3 : Int32} {v4 : Value} (q1 : zin v3 20 = true) : zr X 32 54 [.ref 5, .int v1, .int v2, .int v3, v4] [] (zk I) = if ¬ (I 10 (zx v3)) = 1 then zr X 32 80 [.ref 5, .int v1, .int v2, .int v3, .int 0] [] (zk I) else zr X 32 67 [.ref 5, .int v1, .int v2, .int v3, .int 0] [] (zk I) :=
  (zr_iconst t32_54 zci_0).trans <|
    (zr_istore t32_55 rfl rfl).trans <|
    (zr_aload_n t32_57 rfl).trans <|
    (zr_getR (u := 10) t32_58 (rfl)).trans <|
    (zr_iload_n t32_61 rfl).trans <|
    (zr_iald (j := zx v3) t32_62 (N := 20) rfl rfl q1).trans <|
    (zr_iconst t32_63 zci_1).trans <|
    zr_ic_ne (tgt := 80) t32_64 rfl
theorem k32_67 {X : Nat × (Nat → Int32)} {I : Nat → Nat → Int32} {v1 : Int32} {v2 : Int32} {v3 : Int32} {v4 : Int32}  : zr X 32 67 [.ref 5, .int v1, .int v2, .int v3, .int v4] [] (zk I) = if v4 = 0 then zr X 32 80 [.ref 5, .int v1, .int v2, .int v3, .int v4] [] (zk I) else zr X 32 72 [.ref 5, .int v1, .int v2, .int v3, .int v4] [] (zk I) :=
  (zr_iload t32_67 rfl).trans <|
    zr_if_eq (tgt := 80) t32_69 rfl
theorem k32_72 {X : Nat × (Nat → Int32)} {I : Nat → Nat → Int32} {v1 : Int32} {v2 : Int32} {v3 : Int32} {v4 : Int32}  : zr X 32 72 [.ref 5, .int v1, .int v2, .int v3, .int v4] [] (zk I) = zcb (zr X 20 0 [.ref 5, .int v3] [] (zk I)) (fun v m1 => zr X 32 78 [.ref 5, .int v1, .int v2, .int v3, .int v4] (v.toList ++ [.int v2]) m1) :=
  (zr_iload_n t32_72 rfl).trans <|
    (zr_aload_n t32_73 rfl).trans <|
    (zr_iload_n t32_74 rfl).trans <|
    zr_callv t32_75 rfl rfl rfl rfl
theorem k32_78 {X : Nat × (Nat → Int32)} {I : Nat → Nat → Int32} {v1 : Int32} {v2 : Int32} {v3 : Int32} {v4 : Int32} {s0 : Int32} {s1 : Int32}  : zr X 32 78 [.ref 5, .int v1, .int v2, .int v3, .int v4] [.int s1, .int s0] (zk I) = zr X 32 4 [.ref 5, .int v1, .int (s0 + s1), .int (v3 + 1), .int v4] [] (zk I) :=
  (zr_iadd t32_78).trans <|
    (zr_istore_n t32_79 rfl rfl).trans <|
    (zr_iinc t32_80 rfl rfl (congrArg (fun z => v3 + z) zci_1) rfl).trans <|
    zr_goto (tgt := 4) t32_83 rfl
theorem k32_80 {X : Nat × (Nat → Int32)} {I : Nat → Nat → Int32} {v1 : Int32} {v2 : Int32} {v3 : Int32} {v4 : Int32}  : zr X 32 80 [.ref 5, .int v1, .int v2, .int v3, .int v4] [] (zk I) = zr X 32 4 [.ref 5, .int v1, .int v2, .int (v3 + 1), .int v4] [] (zk I) :=
  (zr_iinc t32_80 rfl rfl (congrArg (fun z => v3 + z) zci_1) rfl).trans <|
    zr_goto (tgt := 4) t32_83 rfl
theorem k32_86 {X : Nat × (Nat → Int32)} {I : Nat → Nat → Int32} {v1 : Int32} {v2 : Int32} {v3 : Int32} {v4 : Value}  : zr X 32 86 [.ref 5, .int v1, .int v2, .int v3, v4] [] (zk I) = some (some (.int v2), zk I) :=
  (zr_iload_n t32_86 rfl).trans <|
    zr_iret t32_87 rfl
/-! X1_printedAt FiveInks$Marks.printedAt -/
theorem k33_0 {X : Nat × (Nat → Int32)} {I : Nat → Nat → Int32} {v1 : Int32}  : zr X 33 0 [.ref 5, .int v1, .null, .null] [] (zk I) = zr X 33 4 [.ref 5, .int v1, .int 0, .int 0] [] (zk I) :=
  (zr_iconst t33_0 zci_0).trans <|
    (zr_istore_n t33_1 rfl rfl).trans <|
    (zr_iconst t33_2 zci_0).trans <|
    zr_istore_n t33_3 rfl rfl
theorem k33_4 {X : Nat × (Nat → Int32)} {I : Nat → Nat → Int32} {v1 : Int32} {v2 : Int32} {v3 : Int32}  : zr X 33 4 [.ref 5, .int v1, .int v2, .int v3] [] (zk I) = if (I 5 7) ≤ v3 then zr X 33 57 [.ref 5, .int v1, .int v2, .int v3] [] (zk I) else zr X 33 12 [.ref 5, .int v1, .int v2, .int v3] [] (zk I) :=
  (zr_iload_n t33_4 rfl).trans <|
    (zr_aload_n t33_5 rfl).trans <|
    (zr_getI t33_6 (rfl)).trans <|
    zr_ic_ge (tgt := 57) t33_9 rfl
theorem k33_12 {X : Nat × (Nat → Int32)} {I : Nat → Nat → Int32} {v1 : Int32} {v2 : Int32} {v3 : Int32} (q1 : zin v3 20 = true) : zr X 33 12 [.ref 5, .int v1, .int v2, .int v3] [] (zk I) = if ¬ (I 10 (zx v3)) = 1 then zr X 33 51 [.ref 5, .int v1, .int v2, .int v3] [] (zk I) else zr X 33 22 [.ref 5, .int v1, .int v2, .int v3] [] (zk I) :=
  (zr_aload_n t33_12 rfl).trans <|
    (zr_getR (u := 10) t33_13 (rfl)).trans <|
    (zr_iload_n t33_16 rfl).trans <|
    (zr_iald (j := zx v3) t33_17 (N := 20) rfl rfl q1).trans <|
    (zr_iconst t33_18 zci_1).trans <|
    zr_ic_ne (tgt := 51) t33_19 rfl
theorem k33_22 {X : Nat × (Nat → Int32)} {I : Nat → Nat → Int32} {v1 : Int32} {v2 : Int32} {v3 : Int32} (q1 : zin v3 20 = true) : zr X 33 22 [.ref 5, .int v1, .int v2, .int v3] [] (zk I) = if ¬ (I 7 (zx v3)) = 1 then zr X 33 51 [.ref 5, .int v1, .int v2, .int v3] [] (zk I) else zr X 33 32 [.ref 5, .int v1, .int v2, .int v3] [] (zk I) :=
  (zr_aload_n t33_22 rfl).trans <|
    (zr_getR (u := 7) t33_23 (rfl)).trans <|
    (zr_iload_n t33_26 rfl).trans <|
    (zr_iald (j := zx v3) t33_27 (N := 20) rfl rfl q1).trans <|
    (zr_iconst t33_28 zci_1).trans <|
    zr_ic_ne (tgt := 51) t33_29 rfl
theorem k33_32 {X : Nat × (Nat → Int32)} {I : Nat → Nat → Int32} {v1 : Int32} {v2 : Int32} {v3 : Int32} (q1 : zin v3 20 = true) : zr X 33 32 [.ref 5, .int v1, .int v2, .int v3] [] (zk I) = if ¬ (I 8 (zx v3)) = v1 then zr X 33 51 [.ref 5, .int v1, .int v2, .int v3] [] (zk I) else zr X 33 42 [.ref 5, .int v1, .int v2, .int v3] [] (zk I) :=
  (zr_aload_n t33_32 rfl).trans <|
    (zr_getR (u := 8) t33_33 (rfl)).trans <|
    (zr_iload_n t33_36 rfl).trans <|
    (zr_iald (j := zx v3) t33_37 (N := 20) rfl rfl q1).trans <|
    (zr_iload_n t33_38 rfl).trans <|
    zr_ic_ne (tgt := 51) t33_39 rfl
theorem k33_42 {X : Nat × (Nat → Int32)} {I : Nat → Nat → Int32} {v1 : Int32} {v2 : Int32} {v3 : Int32} (q1 : zin v3 20 = true) : zr X 33 42 [.ref 5, .int v1, .int v2, .int v3] [] (zk I) = zr X 33 4 [.ref 5, .int v1, .int (v2 + (I 11 (zx v3))), .int (v3 + 1)] [] (zk I) :=
  (zr_iload_n t33_42 rfl).trans <|
    (zr_aload_n t33_43 rfl).trans <|
    (zr_getR (u := 11) t33_44 (rfl)).trans <|
    (zr_iload_n t33_47 rfl).trans <|
    (zr_iald (j := zx v3) t33_48 (N := 20) rfl rfl q1).trans <|
    (zr_iadd t33_49).trans <|
    (zr_istore_n t33_50 rfl rfl).trans <|
    (zr_iinc t33_51 rfl rfl (congrArg (fun z => v3 + z) zci_1) rfl).trans <|
    zr_goto (tgt := 4) t33_54 rfl
theorem k33_51 {X : Nat × (Nat → Int32)} {I : Nat → Nat → Int32} {v1 : Int32} {v2 : Int32} {v3 : Int32}  : zr X 33 51 [.ref 5, .int v1, .int v2, .int v3] [] (zk I) = zr X 33 4 [.ref 5, .int v1, .int v2, .int (v3 + 1)] [] (zk I) :=
  (zr_iinc t33_51 rfl rfl (congrArg (fun z => v3 + z) zci_1) rfl).trans <|
    zr_goto (tgt := 4) t33_54 rfl
theorem k33_57 {X : Nat × (Nat → Int32)} {I : Nat → Nat → Int32} {v1 : Int32} {v2 : Int32} {v3 : Int32}  : zr X 33 57 [.ref 5, .int v1, .int v2, .int v3] [] (zk I) = some (some (.int v2), zk I) :=
  (zr_iload_n t33_57 rfl).trans <|
    zr_iret t33_58 rfl
