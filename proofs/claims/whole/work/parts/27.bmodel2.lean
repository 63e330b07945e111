theorem t146_0 : zT 146 0 = some (.aload_n 0, 1, 0, 0, 0) := by rfl
theorem t146_1 : zT 146 1 = some (.iconst 0, 1, 0, 0, 0) := by rfl
theorem t146_2 : zT 146 2 = some (.putfield 47, 3, 10, 0, 783) := by rfl
theorem t146_5 : zT 146 5 = some (.aload_n 0, 1, 0, 0, 0) := by rfl
theorem t146_6 : zT 146 6 = some (.iload_n 1, 1, 0, 0, 0) := by rfl
theorem t146_7 : zT 146 7 = some (.invokevirtual 130, 3, 119, 0, 927) := by rfl
theorem t146_10 : zT 146 10 = some (.ifCond .ne 5, 3, 0, 0, 0) := by rfl
theorem t146_13 : zT 146 13 = some (.iconst (-1), 1, 0, 0, 0) := by rfl
theorem t146_14 : zT 146 14 = some (.ireturn, 1, 0, 0, 0) := by rfl
theorem t146_15 : zT 146 15 = some (.aload_n 0, 1, 0, 0, 0) := by rfl
theorem t146_16 : zT 146 16 = some (.iload_n 1, 1, 0, 0, 0) := by rfl
theorem t146_17 : zT 146 17 = some (.invokevirtual 133, 3, 144, 0, 931) := by rfl
theorem t146_20 : zT 146 20 = some (.ifCond .ne 6, 3, 0, 0, 0) := by rfl
theorem t146_23 : zT 146 23 = some (.bipush (-5), 2, 0, 0, 0) := by rfl
theorem t146_25 : zT 146 25 = some (.ireturn, 1, 0, 0, 0) := by rfl
theorem t146_26 : zT 146 26 = some (.aload_n 0, 1, 0, 0, 0) := by rfl
theorem t146_27 : zT 146 27 = some (.invokevirtual 94, 3, 121, 0, 848) := by rfl
theorem t146_30 : zT 146 30 = some (.aload_n 0, 1, 0, 0, 0) := by rfl
theorem t146_31 : zT 146 31 = some (.iload_n 1, 1, 0, 0, 0) := by rfl
theorem t146_32 : zT 146 32 = some (.invokevirtual 136, 3, 145, 0, 947) := by rfl
theorem t146_35 : zT 146 35 = some (.ireturn, 1, 0, 0, 0) := by rfl
theorem t147_0 : zT 147 0 = some (.iconst 0, 1, 0, 0, 0) := by rfl
theorem t147_1 : zT 147 1 = some (.istore_n 2, 1, 0, 0, 0) := by rfl
theorem t147_2 : zT 147 2 = some (.iconst 0, 1, 0, 0, 0) := by rfl
theorem t147_3 : zT 147 3 = some (.istore_n 3, 1, 0, 0, 0) := by rfl
theorem t147_4 : zT 147 4 = some (.iload_n 3, 1, 0, 0, 0) := by rfl
theorem t147_5 : zT 147 5 = some (.aload_n 0, 1, 0, 0, 0) := by rfl
theorem t147_6 : zT 147 6 = some (.getfield 7, 3, 10, 1, 784) := by rfl
theorem t147_9 : zT 147 9 = some (.bipush 66, 2, 0, 0, 0) := by rfl
theorem t147_11 : zT 147 11 = some (.iaload, 1, 0, 0, 0) := by rfl
theorem t147_12 : zT 147 12 = some (.if_icmp .ge 27, 3, 0, 0, 0) := by rfl
theorem t147_15 : zT 147 15 = some (.iload_n 2, 1, 0, 0, 0) := by rfl
theorem t147_16 : zT 147 16 = some (.aload_n 0, 1, 0, 0, 0) := by rfl
theorem t147_17 : zT 147 17 = some (.iload_n 3, 1, 0, 0, 0) := by rfl
theorem t147_18 : zT 147 18 = some (.iconst 5, 1, 0, 0, 0) := by rfl
theorem t147_19 : zT 147 19 = some (.invokevirtual 58, 3, 117, 0, 903) := by rfl
theorem t147_22 : zT 147 22 = some (.iload_n 1, 1, 0, 0, 0) := by rfl
theorem t147_23 : zT 147 23 = some (.if_icmp .ne 7, 3, 0, 0, 0) := by rfl
theorem t147_26 : zT 147 26 = some (.iconst 1, 1, 0, 0, 0) := by rfl
theorem t147_27 : zT 147 27 = some (.goto 4, 3, 0, 0, 0) := by rfl
theorem t147_30 : zT 147 30 = some (.iconst 0, 1, 0, 0, 0) := by rfl
theorem t147_31 : zT 147 31 = some (.iadd, 1, 0, 0, 0) := by rfl
theorem t147_32 : zT 147 32 = some (.istore_n 2, 1, 0, 0, 0) := by rfl
theorem t147_33 : zT 147 33 = some (.iinc 3 1, 3, 0, 0, 0) := by rfl
theorem t147_36 : zT 147 36 = some (.goto (-32), 3, 0, 0, 0) := by rfl
theorem t147_39 : zT 147 39 = some (.iload_n 2, 1, 0, 0, 0) := by rfl
theorem t147_40 : zT 147 40 = some (.ireturn, 1, 0, 0, 0) := by rfl
theorem t148_0 : zT 148 0 = some (.aload_n 0, 1, 0, 0, 0) := by rfl
theorem t148_1 : zT 148 1 = some (.iconst 0, 1, 0, 0, 0) := by rfl
theorem t148_2 : zT 148 2 = some (.putfield 47, 3, 10, 0, 783) := by rfl
theorem t148_5 : zT 148 5 = some (.aload_n 0, 1, 0, 0, 0) := by rfl
theorem t148_6 : zT 148 6 = some (.iload_n 1, 1, 0, 0, 0) := by rfl
theorem t148_7 : zT 148 7 = some (.invokevirtual 130, 3, 119, 0, 927) := by rfl
theorem t148_10 : zT 148 10 = some (.ifCond .ne 5, 3, 0, 0, 0) := by rfl
theorem t148_13 : zT 148 13 = some (.iconst (-1), 1, 0, 0, 0) := by rfl
theorem t148_14 : zT 148 14 = some (.ireturn, 1, 0, 0, 0) := by rfl
theorem t148_15 : zT 148 15 = some (.aload_n 0, 1, 0, 0, 0) := by rfl
theorem t148_16 : zT 148 16 = some (.iload_n 1, 1, 0, 0, 0) := by rfl
theorem t148_17 : zT 148 17 = some (.iconst 5, 1, 0, 0, 0) := by rfl
theorem t148_18 : zT 148 18 = some (.invokevirtual 58, 3, 117, 0, 903) := by rfl
theorem t148_21 : zT 148 21 = some (.ifCond .eq 6, 3, 0, 0, 0) := by rfl
theorem t148_24 : zT 148 24 = some (.bipush (-5), 2, 0, 0, 0) := by rfl
theorem t148_26 : zT 148 26 = some (.ireturn, 1, 0, 0, 0) := by rfl
theorem t148_27 : zT 148 27 = some (.aload_n 0, 1, 0, 0, 0) := by rfl
theorem t148_28 : zT 148 28 = some (.invokevirtual 94, 3, 121, 0, 848) := by rfl
theorem t148_31 : zT 148 31 = some (.aload_n 0, 1, 0, 0, 0) := by rfl
theorem t148_32 : zT 148 32 = some (.iload_n 1, 1, 0, 0, 0) := by rfl
theorem t148_33 : zT 148 33 = some (.iconst 5, 1, 0, 0, 0) := by rfl
theorem t148_34 : zT 148 34 = some (.iconst 2, 1, 0, 0, 0) := by rfl
theorem t148_35 : zT 148 35 = some (.invokevirtual 100, 3, 118, 0, 895) := by rfl
theorem t148_38 : zT 148 38 = some (.aload_n 0, 1, 0, 0, 0) := by rfl
theorem t148_39 : zT 148 39 = some (.iconst 0, 1, 0, 0, 0) := by rfl
theorem t148_40 : zT 148 40 = some (.invokevirtual 139, 3, 147, 0, 955) := by rfl
theorem t148_43 : zT 148 43 = some (.ireturn, 1, 0, 0, 0) := by rfl
theorem t149_0 : zT 149 0 = some (.aload_n 0, 1, 0, 0, 0) := by rfl
theorem t149_1 : zT 149 1 = some (.getfield 7, 3, 10, 1, 784) := by rfl
theorem t149_4 : zT 149 4 = some (.bipush 66, 2, 0, 0, 0) := by rfl
theorem t149_6 : zT 149 6 = some (.dup2, 1, 0, 0, 0) := by rfl
theorem t149_7 : zT 149 7 = some (.iaload, 1, 0, 0, 0) := by rfl
theorem t149_8 : zT 149 8 = some (.iconst 1, 1, 0, 0, 0) := by rfl
theorem t149_9 : zT 149 9 = some (.isub, 1, 0, 0, 0) := by rfl
theorem t149_10 : zT 149 10 = some (.iastore, 1, 0, 0, 0) := by rfl
theorem t149_11 : zT 149 11 = some (.bipush 12, 2, 0, 0, 0) := by rfl
theorem t149_13 : zT 149 13 = some (.iload_n 1, 1, 0, 0, 0) := by rfl
theorem t149_14 : zT 149 14 = some (.imul, 1, 0, 0, 0) := by rfl
theorem t149_15 : zT 149 15 = some (.istore_n 2, 1, 0, 0, 0) := by rfl
theorem t149_16 : zT 149 16 = some (.iload_n 2, 1, 0, 0, 0) := by rfl
theorem t149_17 : zT 149 17 = some (.bipush 12, 2, 0, 0, 0) := by rfl
theorem t149_19 : zT 149 19 = some (.aload_n 0, 1, 0, 0, 0) := by rfl
theorem t149_20 : zT 149 20 = some (.getfield 7, 3, 10, 1, 784) := by rfl
theorem t149_23 : zT 149 23 = some (.bipush 66, 2, 0, 0, 0) := by rfl
theorem t149_25 : zT 149 25 = some (.iaload, 1, 0, 0, 0) := by rfl
theorem t149_26 : zT 149 26 = some (.imul, 1, 0, 0, 0) := by rfl
theorem t149_27 : zT 149 27 = some (.if_icmp .ge 30, 3, 0, 0, 0) := by rfl
theorem t149_30 : zT 149 30 = some (.aload_n 0, 1, 0, 0, 0) := by rfl
theorem t149_31 : zT 149 31 = some (.getfield 7, 3, 10, 1, 784) := by rfl
theorem t149_34 : zT 149 34 = some (.bipush 67, 2, 0, 0, 0) := by rfl
theorem t149_36 : zT 149 36 = some (.iload_n 2, 1, 0, 0, 0) := by rfl
theorem t149_37 : zT 149 37 = some (.iadd, 1, 0, 0, 0) := by rfl
theorem t149_38 : zT 149 38 = some (.aload_n 0, 1, 0, 0, 0) := by rfl
theorem t149_39 : zT 149 39 = some (.getfield 7, 3, 10, 1, 784) := by rfl
theorem t149_42 : zT 149 42 = some (.bipush 67, 2, 0, 0, 0) := by rfl
theorem t149_44 : zT 149 44 = some (.iload_n 2, 1, 0, 0, 0) := by rfl
theorem t149_45 : zT 149 45 = some (.iadd, 1, 0, 0, 0) := by rfl
theorem t149_46 : zT 149 46 = some (.bipush 12, 2, 0, 0, 0) := by rfl
theorem t149_48 : zT 149 48 = some (.iadd, 1, 0, 0, 0) := by rfl
theorem t149_49 : zT 149 49 = some (.iaload, 1, 0, 0, 0) := by rfl
theorem t149_50 : zT 149 50 = some (.iastore, 1, 0, 0, 0) := by rfl
theorem t149_51 : zT 149 51 = some (.iinc 2 1, 3, 0, 0, 0) := by rfl
theorem t149_54 : zT 149 54 = some (.goto (-38), 3, 0, 0, 0) := by rfl
theorem t149_57 : zT 149 57 = some (.aload_n 0, 1, 0, 0, 0) := by rfl
theorem t149_58 : zT 149 58 = some (.aload_n 0, 1, 0, 0, 0) := by rfl
theorem t149_59 : zT 149 59 = some (.getfield 7, 3, 10, 1, 784) := by rfl
theorem t149_62 : zT 149 62 = some (.bipush 66, 2, 0, 0, 0) := by rfl
theorem t149_64 : zT 149 64 = some (.iaload, 1, 0, 0, 0) := by rfl
theorem t149_65 : zT 149 65 = some (.invokevirtual 104, 3, 139, 0, 911) := by rfl
theorem t149_68 : zT 149 68 = some (.return_, 1, 0, 0, 0) := by rfl
theorem t150_0 : zT 150 0 = some (.aload_n 0, 1, 0, 0, 0) := by rfl
theorem t150_1 : zT 150 1 = some (.iconst 0, 1, 0, 0, 0) := by rfl
theorem t150_2 : zT 150 2 = some (.putfield 47, 3, 10, 0, 783) := by rfl
theorem t150_5 : zT 150 5 = some (.aload_n 0, 1, 0, 0, 0) := by rfl
theorem t150_6 : zT 150 6 = some (.iload_n 1, 1, 0, 0, 0) := by rfl
theorem t150_7 : zT 150 7 = some (.invokevirtual 130, 3, 119, 0, 927) := by rfl
theorem t150_10 : zT 150 10 = some (.ifCond .ne 5, 3, 0, 0, 0) := by rfl
theorem t150_13 : zT 150 13 = some (.iconst (-1), 1, 0, 0, 0) := by rfl
theorem t150_14 : zT 150 14 = some (.ireturn, 1, 0, 0, 0) := by rfl
theorem t150_15 : zT 150 15 = some (.aload_n 0, 1, 0, 0, 0) := by rfl
theorem t150_16 : zT 150 16 = some (.iload_n 1, 1, 0, 0, 0) := by rfl
theorem t150_17 : zT 150 17 = some (.iconst 5, 1, 0, 0, 0) := by rfl
theorem t150_18 : zT 150 18 = some (.invokevirtual 58, 3, 117, 0, 903) := by rfl
theorem t150_21 : zT 150 21 = some (.iconst 1, 1, 0, 0, 0) := by rfl
theorem t150_22 : zT 150 22 = some (.if_icmp .ne 21, 3, 0, 0, 0) := by rfl
theorem t150_25 : zT 150 25 = some (.aload_n 0, 1, 0, 0, 0) := by rfl
theorem t150_26 : zT 150 26 = some (.invokevirtual 127, 3, 128, 0, 939) := by rfl
theorem t150_29 : zT 150 29 = some (.aload_n 0, 1, 0, 0, 0) := by rfl
theorem t150_30 : zT 150 30 = some (.iload_n 1, 1, 0, 0, 0) := by rfl
theorem t150_31 : zT 150 31 = some (.invokevirtual 66, 3, 127, 0, 943) := by rfl
theorem t150_34 : zT 150 34 = some (.isub, 1, 0, 0, 0) := by rfl
theorem t150_35 : zT 150 35 = some (.bipush 60, 2, 0, 0, 0) := by rfl
theorem t150_37 : zT 150 37 = some (.if_icmp .le 6, 3, 0, 0, 0) := by rfl
theorem t150_40 : zT 150 40 = some (.bipush (-5), 2, 0, 0, 0) := by rfl
theorem t150_42 : zT 150 42 = some (.ireturn, 1, 0, 0, 0) := by rfl
theorem t150_43 : zT 150 43 = some (.aload_n 0, 1, 0, 0, 0) := by rfl
theorem t150_44 : zT 150 44 = some (.invokevirtual 94, 3, 121, 0, 848) := by rfl
theorem t150_47 : zT 150 47 = some (.aload_n 0, 1, 0, 0, 0) := by rfl
theorem t150_48 : zT 150 48 = some (.iload_n 1, 1, 0, 0, 0) := by rfl
theorem t150_49 : zT 150 49 = some (.invokevirtual 142, 3, 149, 0, 963) := by rfl
theorem t150_52 : zT 150 52 = some (.aload_n 0, 1, 0, 0, 0) := by rfl
theorem t150_53 : zT 150 53 = some (.getfield 7, 3, 10, 1, 784) := by rfl
theorem t150_56 : zT 150 56 = some (.bipush 66, 2, 0, 0, 0) := by rfl
theorem t150_58 : zT 150 58 = some (.iaload, 1, 0, 0, 0) := by rfl
theorem t150_59 : zT 150 59 = some (.ireturn, 1, 0, 0, 0) := by rfl
theorem t151_0 : zT 151 0 = some (.bipush (-6), 2, 0, 0, 0) := by rfl
theorem t151_2 : zT 151 2 = some (.istore_n 1, 1, 0, 0, 0) := by rfl
theorem t151_3 : zT 151 3 = some (.iconst 0, 1, 0, 0, 0) := by rfl
theorem t151_4 : zT 151 4 = some (.istore_n 2, 1, 0, 0, 0) := by rfl
theorem t151_5 : zT 151 5 = some (.iload_n 2, 1, 0, 0, 0) := by rfl
theorem t151_6 : zT 151 6 = some (.aload_n 0, 1, 0, 0, 0) := by rfl
theorem t151_7 : zT 151 7 = some (.getfield 7, 3, 10, 1, 784) := by rfl
theorem t151_10 : zT 151 10 = some (.bipush 66, 2, 0, 0, 0) := by rfl
theorem t151_12 : zT 151 12 = some (.iaload, 1, 0, 0, 0) := by rfl
theorem t151_13 : zT 151 13 = some (.if_icmp .ge 71, 3, 0, 0, 0) := by rfl
theorem t151_16 : zT 151 16 = some (.aload_n 0, 1, 0, 0, 0) := by rfl
theorem t151_17 : zT 151 17 = some (.iload_n 2, 1, 0, 0, 0) := by rfl
theorem t151_18 : zT 151 18 = some (.iconst 5, 1, 0, 0, 0) := by rfl
theorem t151_19 : zT 151 19 = some (.invokevirtual 58, 3, 117, 0, 903) := by rfl
theorem t151_22 : zT 151 22 = some (.ifCond .ne 44, 3, 0, 0, 0) := by rfl
theorem t151_25 : zT 151 25 = some (.iload_n 1, 1, 0, 0, 0) := by rfl
theorem t151_26 : zT 151 26 = some (.bipush (-6), 2, 0, 0, 0) := by rfl
theorem t151_28 : zT 151 28 = some (.if_icmp .eq 34, 3, 0, 0, 0) := by rfl
theorem t151_31 : zT 151 31 = some (.aload_n 0, 1, 0, 0, 0) := by rfl
theorem t151_32 : zT 151 32 = some (.getfield 7, 3, 10, 1, 784) := by rfl
theorem t151_35 : zT 151 35 = some (.bipush 61, 2, 0, 0, 0) := by rfl
theorem t151_37 : zT 151 37 = some (.aload_n 0, 1, 0, 0, 0) := by rfl
theorem t151_38 : zT 151 38 = some (.iload_n 2, 1, 0, 0, 0) := by rfl
theorem t151_39 : zT 151 39 = some (.iconst 0, 1, 0, 0, 0) := by rfl
theorem t151_40 : zT 151 40 = some (.invokevirtual 58, 3, 117, 0, 903) := by rfl
theorem t151_43 : zT 151 43 = some (.iadd, 1, 0, 0, 0) := by rfl
theorem t151_44 : zT 151 44 = some (.iaload, 1, 0, 0, 0) := by rfl
theorem t151_45 : zT 151 45 = some (.aload_n 0, 1, 0, 0, 0) := by rfl
theorem t151_46 : zT 151 46 = some (.getfield 7, 3, 10, 1, 784) := by rfl
theorem t151_49 : zT 151 49 = some (.bipush 61, 2, 0, 0, 0) := by rfl
theorem t151_51 : zT 151 51 = some (.aload_n 0, 1, 0, 0, 0) := by rfl
theorem t151_52 : zT 151 52 = some (.iload_n 1, 1, 0, 0, 0) := by rfl
theorem t151_53 : zT 151 53 = some (.iconst 0, 1, 0, 0, 0) := by rfl
theorem t151_54 : zT 151 54 = some (.invokevirtual 58, 3, 117, 0, 903) := by rfl
theorem t151_57 : zT 151 57 = some (.iadd, 1, 0, 0, 0) := by rfl
theorem t151_58 : zT 151 58 = some (.iaload, 1, 0, 0, 0) := by rfl
theorem t151_59 : zT 151 59 = some (.if_icmp .le 7, 3, 0, 0, 0) := by rfl
theorem t151_62 : zT 151 62 = some (.iconst 1, 1, 0, 0, 0) := by rfl
theorem t151_63 : zT 151 63 = some (.goto 4, 3, 0, 0, 0) := by rfl
theorem t151_66 : zT 151 66 = some (.iconst 0, 1, 0, 0, 0) := by rfl
theorem t151_67 : zT 151 67 = some (.istore_n 3, 1, 0, 0, 0) := by rfl
theorem t151_68 : zT 151 68 = some (.iload_n 3, 1, 0, 0, 0) := by rfl
theorem t151_69 : zT 151 69 = some (.ifCond .eq 7, 3, 0, 0, 0) := by rfl
theorem t151_72 : zT 151 72 = some (.iload_n 2, 1, 0, 0, 0) := by rfl
theorem t151_73 : zT 151 73 = some (.goto 4, 3, 0, 0, 0) := by rfl
theorem t151_76 : zT 151 76 = some (.iload_n 1, 1, 0, 0, 0) := by rfl
theorem t151_77 : zT 151 77 = some (.istore_n 1, 1, 0, 0, 0) := by rfl
theorem t151_78 : zT 151 78 = some (.iinc 2 1, 3, 0, 0, 0) := by rfl
theorem t151_81 : zT 151 81 = some (.goto (-76), 3, 0, 0, 0) := by rfl
theorem t151_84 : zT 151 84 = some (.iload_n 1, 1, 0, 0, 0) := by rfl
theorem t151_85 : zT 151 85 = some (.ireturn, 1, 0, 0, 0) := by rfl
theorem t152_0 : zT 152 0 = some (.iconst 0, 1, 0, 0, 0) := by rfl
theorem t152_1 : zT 152 1 = some (.istore_n 1, 1, 0, 0, 0) := by rfl
theorem t152_2 : zT 152 2 = some (.aload_n 0, 1, 0, 0, 0) := by rfl
theorem t152_3 : zT 152 3 = some (.invokevirtual 145, 3, 151, 0, 975) := by rfl
theorem t152_6 : zT 152 6 = some (.istore_n 2, 1, 0, 0, 0) := by rfl
theorem t152_7 : zT 152 7 = some (.iload_n 2, 1, 0, 0, 0) := by rfl
theorem t152_8 : zT 152 8 = some (.bipush (-6), 2, 0, 0, 0) := by rfl
theorem t152_10 : zT 152 10 = some (.if_icmp .eq 38, 3, 0, 0, 0) := by rfl
theorem t152_13 : zT 152 13 = some (.aload_n 0, 1, 0, 0, 0) := by rfl
theorem t152_14 : zT 152 14 = some (.iload_n 2, 1, 0, 0, 0) := by rfl
theorem t152_15 : zT 152 15 = some (.invokevirtual 133, 3, 144, 0, 931) := by rfl
theorem t152_18 : zT 152 18 = some (.ifCond .eq 15, 3, 0, 0, 0) := by rfl
theorem t152_21 : zT 152 21 = some (.aload_n 0, 1, 0, 0, 0) := by rfl
theorem t152_22 : zT 152 22 = some (.iload_n 2, 1, 0, 0, 0) := by rfl
theorem t152_23 : zT 152 23 = some (.invokevirtual 136, 3, 145, 0, 947) := by rfl
theorem t152_26 : zT 152 26 = some (.pop, 1, 0, 0, 0) := by rfl
theorem t152_27 : zT 152 27 = some (.iinc 1 1, 3, 0, 0, 0) := by rfl
theorem t152_30 : zT 152 30 = some (.goto 10, 3, 0, 0, 0) := by rfl
theorem t152_33 : zT 152 33 = some (.aload_n 0, 1, 0, 0, 0) := by rfl
theorem t152_34 : zT 152 34 = some (.iload_n 2, 1, 0, 0, 0) := by rfl
theorem t152_35 : zT 152 35 = some (.iconst 5, 1, 0, 0, 0) := by rfl
theorem t152_36 : zT 152 36 = some (.iconst 2, 1, 0, 0, 0) := by rfl
theorem t152_37 : zT 152 37 = some (.invokevirtual 100, 3, 118, 0, 895) := by rfl
theorem t152_40 : zT 152 40 = some (.aload_n 0, 1, 0, 0, 0) := by rfl
theorem t152_41 : zT 152 41 = some (.invokevirtual 145, 3, 151, 0, 975) := by rfl
theorem t152_44 : zT 152 44 = some (.istore_n 2, 1, 0, 0, 0) := by rfl
theorem t152_45 : zT 152 45 = some (.goto (-38), 3, 0, 0, 0) := by rfl
theorem t152_48 : zT 152 48 = some (.iload_n 1, 1, 0, 0, 0) := by rfl
theorem t152_49 : zT 152 49 = some (.ireturn, 1, 0, 0, 0) := by rfl
theorem t153_0 : zT 153 0 = some (.aload_n 0, 1, 0, 0, 0) := by rfl
theorem t153_1 : zT 153 1 = some (.iconst 0, 1, 0, 0, 0) := by rfl
theorem t153_2 : zT 153 2 = some (.putfield 47, 3, 10, 0, 783) := by rfl
theorem t153_5 : zT 153 5 = some (.aload_n 0, 1, 0, 0, 0) := by rfl
theorem t153_6 : zT 153 6 = some (.invokevirtual 94, 3, 121, 0, 848) := by rfl
theorem t153_9 : zT 153 9 = some (.aload_n 0, 1, 0, 0, 0) := by rfl
theorem t153_10 : zT 153 10 = some (.invokevirtual 148, 3, 152, 0, 971) := by rfl
theorem t153_13 : zT 153 13 = some (.ireturn, 1, 0, 0, 0) := by rfl
theorem t154_0 : zT 154 0 = some (.iconst 0, 1, 0, 0, 0) := by rfl
theorem t154_1 : zT 154 1 = some (.istore_n 3, 1, 0, 0, 0) := by rfl
theorem t154_2 : zT 154 2 = some (.iconst 0, 1, 0, 0, 0) := by rfl
theorem t154_3 : zT 154 3 = some (.istore 4, 2, 0, 0, 0) := by rfl
theorem t154_5 : zT 154 5 = some (.iload 4, 2, 0, 0, 0) := by rfl
theorem t154_7 : zT 154 7 = some (.iload_n 1, 1, 0, 0, 0) := by rfl
theorem t154_8 : zT 154 8 = some (.if_icmp .ge 26, 3, 0, 0, 0) := by rfl
theorem t154_11 : zT 154 11 = some (.iload_n 3, 1, 0, 0, 0) := by rfl
theorem t154_12 : zT 154 12 = some (.aload_n 0, 1, 0, 0, 0) := by rfl
theorem t154_13 : zT 154 13 = some (.iload 4, 2, 0, 0, 0) := by rfl
theorem t154_15 : zT 154 15 = some (.invokevirtual 81, 3, 131, 0, 999) := by rfl
theorem t154_18 : zT 154 18 = some (.ifCond .eq 7, 3, 0, 0, 0) := by rfl
theorem t154_21 : zT 154 21 = some (.iconst 0, 1, 0, 0, 0) := by rfl
theorem t154_22 : zT 154 22 = some (.goto 4, 3, 0, 0, 0) := by rfl
theorem t154_25 : zT 154 25 = some (.iconst 1, 1, 0, 0, 0) := by rfl
theorem t154_26 : zT 154 26 = some (.iadd, 1, 0, 0, 0) := by rfl
theorem t154_27 : zT 154 27 = some (.istore_n 3, 1, 0, 0, 0) := by rfl
theorem t154_28 : zT 154 28 = some (.iinc 4 1, 3, 0, 0, 0) := by rfl
theorem t154_31 : zT 154 31 = some (.goto (-26), 3, 0, 0, 0) := by rfl
theorem t154_34 : zT 154 34 = some (.iconst 0, 1, 0, 0, 0) := by rfl
theorem t154_35 : zT 154 35 = some (.istore 4, 2, 0, 0, 0) := by rfl
theorem t154_37 : zT 154 37 = some (.iload 4, 2, 0, 0, 0) := by rfl
theorem t154_39 : zT 154 39 = some (.aload_n 0, 1, 0, 0, 0) := by rfl
theorem t154_40 : zT 154 40 = some (.getfield 7, 3, 10, 1, 784) := by rfl
theorem t154_43 : zT 154 43 = some (.bipush 66, 2, 0, 0, 0) := by rfl
theorem t154_45 : zT 154 45 = some (.iaload, 1, 0, 0, 0) := by rfl
theorem t154_46 : zT 154 46 = some (.if_icmp .ge 101, 3, 0, 0, 0) := by rfl
theorem t154_49 : zT 154 49 = some (.aload_n 0, 1, 0, 0, 0) := by rfl
theorem t154_50 : zT 154 50 = some (.iload 4, 2, 0, 0, 0) := by rfl
theorem t154_52 : zT 154 52 = some (.iconst 1, 1, 0, 0, 0) := by rfl
theorem t154_53 : zT 154 53 = some (.invokevirtual 58, 3, 117, 0, 903) := by rfl
theorem t154_56 : zT 154 56 = some (.iconst 1, 1, 0, 0, 0) := by rfl
theorem t154_57 : zT 154 57 = some (.if_icmp .ne 37, 3, 0, 0, 0) := by rfl
theorem t154_60 : zT 154 60 = some (.aload_n 0, 1, 0, 0, 0) := by rfl
theorem t154_61 : zT 154 61 = some (.iload 4, 2, 0, 0, 0) := by rfl
theorem t154_63 : zT 154 63 = some (.iconst 2, 1, 0, 0, 0) := by rfl
theorem t154_64 : zT 154 64 = some (.invokevirtual 58, 3, 117, 0, 903) := by rfl
theorem t154_67 : zT 154 67 = some (.iload_n 1, 1, 0, 0, 0) := by rfl
theorem t154_68 : zT 154 68 = some (.if_icmp .lt 18, 3, 0, 0, 0) := by rfl
theorem t154_71 : zT 154 71 = some (.iload_n 2, 1, 0, 0, 0) := by rfl
theorem t154_72 : zT 154 72 = some (.ifCond .eq 18, 3, 0, 0, 0) := by rfl
theorem t154_75 : zT 154 75 = some (.aload_n 0, 1, 0, 0, 0) := by rfl
theorem t154_76 : zT 154 76 = some (.iload 4, 2, 0, 0, 0) := by rfl
theorem t154_78 : zT 154 78 = some (.iconst 2, 1, 0, 0, 0) := by rfl
theorem t154_79 : zT 154 79 = some (.invokevirtual 58, 3, 117, 0, 903) := by rfl
theorem t154_82 : zT 154 82 = some (.iload_n 1, 1, 0, 0, 0) := by rfl
theorem t154_83 : zT 154 83 = some (.if_icmp .ne 7, 3, 0, 0, 0) := by rfl
theorem t154_86 : zT 154 86 = some (.iconst 1, 1, 0, 0, 0) := by rfl
theorem t154_87 : zT 154 87 = some (.goto 23, 3, 0, 0, 0) := by rfl
theorem t154_90 : zT 154 90 = some (.iconst 0, 1, 0, 0, 0) := by rfl
theorem t154_91 : zT 154 91 = some (.goto 19, 3, 0, 0, 0) := by rfl
theorem t154_94 : zT 154 94 = some (.aload_n 0, 1, 0, 0, 0) := by rfl
theorem t154_95 : zT 154 95 = some (.iload 4, 2, 0, 0, 0) := by rfl
theorem t154_97 : zT 154 97 = some (.iconst 3, 1, 0, 0, 0) := by rfl
theorem t154_98 : zT 154 98 = some (.invokevirtual 58, 3, 117, 0, 903) := by rfl
theorem t154_101 : zT 154 101 = some (.iload_n 1, 1, 0, 0, 0) := by rfl
theorem t154_102 : zT 154 102 = some (.if_icmp .gt 7, 3, 0, 0, 0) := by rfl
theorem t154_105 : zT 154 105 = some (.iconst 1, 1, 0, 0, 0) := by rfl
theorem t154_106 : zT 154 106 = some (.goto 4, 3, 0, 0, 0) := by rfl
theorem t154_109 : zT 154 109 = some (.iconst 0, 1, 0, 0, 0) := by rfl
theorem t154_110 : zT 154 110 = some (.istore 5, 2, 0, 0, 0) := by rfl
theorem t154_112 : zT 154 112 = some (.iload_n 3, 1, 0, 0, 0) := by rfl
theorem t154_113 : zT 154 113 = some (.aload_n 0, 1, 0, 0, 0) := by rfl
theorem t154_114 : zT 154 114 = some (.getfield 29, 3, 10, 9, 792) := by rfl
theorem t154_117 : zT 154 117 = some (.iload 4, 2, 0, 0, 0) := by rfl
theorem t154_119 : zT 154 119 = some (.baload, 1, 0, 0, 0) := by rfl
theorem t154_120 : zT 154 120 = some (.ifCond .eq 18, 3, 0, 0, 0) := by rfl
theorem t154_123 : zT 154 123 = some (.iload 5, 2, 0, 0, 0) := by rfl
theorem t154_125 : zT 154 125 = some (.ifCond .eq 13, 3, 0, 0, 0) := by rfl
theorem t154_128 : zT 154 128 = some (.aload_n 0, 1, 0, 0, 0) := by rfl
theorem t154_129 : zT 154 129 = some (.iload 4, 2, 0, 0, 0) := by rfl
theorem t154_131 : zT 154 131 = some (.iconst 4, 1, 0, 0, 0) := by rfl
theorem t154_132 : zT 154 132 = some (.invokevirtual 58, 3, 117, 0, 903) := by rfl
theorem t154_135 : zT 154 135 = some (.goto 4, 3, 0, 0, 0) := by rfl
theorem t154_138 : zT 154 138 = some (.iconst 0, 1, 0, 0, 0) := by rfl
theorem t154_139 : zT 154 139 = some (.iadd, 1, 0, 0, 0) := by rfl
theorem t154_140 : zT 154 140 = some (.istore_n 3, 1, 0, 0, 0) := by rfl
theorem t154_141 : zT 154 141 = some (.iinc 4 1, 3, 0, 0, 0) := by rfl
theorem t154_144 : zT 154 144 = some (.goto (-107), 3, 0, 0, 0) := by rfl
theorem t154_147 : zT 154 147 = some (.iload_n 3, 1, 0, 0, 0) := by rfl
theorem t154_148 : zT 154 148 = some (.ireturn, 1, 0, 0, 0) := by rfl
theorem t155_0 : zT 155 0 = some (.iconst 0, 1, 0, 0, 0) := by rfl
theorem t155_1 : zT 155 1 = some (.istore_n 1, 1, 0, 0, 0) := by rfl
theorem t155_2 : zT 155 2 = some (.iload_n 1, 1, 0, 0, 0) := by rfl
theorem t155_3 : zT 155 3 = some (.aload_n 0, 1, 0, 0, 0) := by rfl
theorem t155_4 : zT 155 4 = some (.getfield 7, 3, 10, 1, 784) := by rfl
theorem t155_7 : zT 155 7 = some (.bipush 66, 2, 0, 0, 0) := by rfl
theorem t155_9 : zT 155 9 = some (.iaload, 1, 0, 0, 0) := by rfl
theorem t155_10 : zT 155 10 = some (.if_icmp .ge 38, 3, 0, 0, 0) := by rfl
theorem t155_13 : zT 155 13 = some (.aload_n 0, 1, 0, 0, 0) := by rfl
theorem t155_14 : zT 155 14 = some (.getfield 35, 3, 10, 12, 795) := by rfl
theorem t155_17 : zT 155 17 = some (.iload_n 1, 1, 0, 0, 0) := by rfl
theorem t155_18 : zT 155 18 = some (.aload_n 0, 1, 0, 0, 0) := by rfl
theorem t155_19 : zT 155 19 = some (.iload_n 1, 1, 0, 0, 0) := by rfl
theorem t155_20 : zT 155 20 = some (.iconst 5, 1, 0, 0, 0) := by rfl
theorem t155_21 : zT 155 21 = some (.invokevirtual 58, 3, 117, 0, 903) := by rfl
theorem t155_24 : zT 155 24 = some (.ifCond .ne 12, 3, 0, 0, 0) := by rfl
theorem t155_27 : zT 155 27 = some (.aload_n 0, 1, 0, 0, 0) := by rfl
theorem t155_28 : zT 155 28 = some (.iload_n 1, 1, 0, 0, 0) := by rfl
theorem t155_29 : zT 155 29 = some (.iconst 1, 1, 0, 0, 0) := by rfl
theorem t155_30 : zT 155 30 = some (.invokevirtual 124, 3, 126, 0, 935) := by rfl
theorem t155_33 : zT 155 33 = some (.ifCond .le 7, 3, 0, 0, 0) := by rfl
theorem t155_36 : zT 155 36 = some (.iconst 1, 1, 0, 0, 0) := by rfl
theorem t155_37 : zT 155 37 = some (.goto 4, 3, 0, 0, 0) := by rfl
theorem t155_40 : zT 155 40 = some (.iconst 0, 1, 0, 0, 0) := by rfl
theorem t155_41 : zT 155 41 = some (.bastore, 1, 0, 0, 0) := by rfl
theorem t155_42 : zT 155 42 = some (.iinc 1 1, 3, 0, 0, 0) := by rfl
theorem t155_45 : zT 155 45 = some (.goto (-43), 3, 0, 0, 0) := by rfl
theorem t155_48 : zT 155 48 = some (.iconst 0, 1, 0, 0, 0) := by rfl
theorem t155_49 : zT 155 49 = some (.istore_n 1, 1, 0, 0, 0) := by rfl
theorem t155_50 : zT 155 50 = some (.iload_n 1, 1, 0, 0, 0) := by rfl
theorem t155_51 : zT 155 51 = some (.aload_n 0, 1, 0, 0, 0) := by rfl
theorem t155_52 : zT 155 52 = some (.getfield 7, 3, 10, 1, 784) := by rfl
theorem t155_55 : zT 155 55 = some (.bipush 66, 2, 0, 0, 0) := by rfl
theorem t155_57 : zT 155 57 = some (.iaload, 1, 0, 0, 0) := by rfl
theorem t155_58 : zT 155 58 = some (.if_icmp .ge 68, 3, 0, 0, 0) := by rfl
theorem t155_61 : zT 155 61 = some (.aload_n 0, 1, 0, 0, 0) := by rfl
theorem t155_62 : zT 155 62 = some (.getfield 35, 3, 10, 12, 795) := by rfl
theorem t155_65 : zT 155 65 = some (.iload_n 1, 1, 0, 0, 0) := by rfl
theorem t155_66 : zT 155 66 = some (.baload, 1, 0, 0, 0) := by rfl
theorem t155_67 : zT 155 67 = some (.ifCond .ne 53, 3, 0, 0, 0) := by rfl
theorem t155_70 : zT 155 70 = some (.aload_n 0, 1, 0, 0, 0) := by rfl
theorem t155_71 : zT 155 71 = some (.aload_n 0, 1, 0, 0, 0) := by rfl
theorem t155_72 : zT 155 72 = some (.iload_n 1, 1, 0, 0, 0) := by rfl
theorem t155_73 : zT 155 73 = some (.iconst 3, 1, 0, 0, 0) := by rfl
theorem t155_74 : zT 155 74 = some (.invokevirtual 58, 3, 117, 0, 903) := by rfl
theorem t155_77 : zT 155 77 = some (.iconst 0, 1, 0, 0, 0) := by rfl
theorem t155_78 : zT 155 78 = some (.invokevirtual 151, 3, 154, 0, 1007) := by rfl
theorem t155_81 : zT 155 81 = some (.istore_n 2, 1, 0, 0, 0) := by rfl
theorem t155_82 : zT 155 82 = some (.aload_n 0, 1, 0, 0, 0) := by rfl
theorem t155_83 : zT 155 83 = some (.iload_n 1, 1, 0, 0, 0) := by rfl
theorem t155_84 : zT 155 84 = some (.iconst 2, 1, 0, 0, 0) := by rfl
theorem t155_85 : zT 155 85 = some (.aload_n 0, 1, 0, 0, 0) := by rfl
theorem t155_86 : zT 155 86 = some (.iload_n 1, 1, 0, 0, 0) := by rfl
theorem t155_87 : zT 155 87 = some (.iconst 1, 1, 0, 0, 0) := by rfl
theorem t155_88 : zT 155 88 = some (.invokevirtual 58, 3, 117, 0, 903) := by rfl
theorem t155_91 : zT 155 91 = some (.iconst 1, 1, 0, 0, 0) := by rfl
theorem t155_92 : zT 155 92 = some (.if_icmp .ne 7, 3, 0, 0, 0) := by rfl
theorem t155_95 : zT 155 95 = some (.iload_n 2, 1, 0, 0, 0) := by rfl
theorem t155_96 : zT 155 96 = some (.goto 14, 3, 0, 0, 0) := by rfl
theorem t155_99 : zT 155 99 = some (.aload_n 0, 1, 0, 0, 0) := by rfl
theorem t155_100 : zT 155 100 = some (.aload_n 0, 1, 0, 0, 0) := by rfl
theorem t155_101 : zT 155 101 = some (.iload_n 1, 1, 0, 0, 0) := by rfl
theorem t155_102 : zT 155 102 = some (.iconst 2, 1, 0, 0, 0) := by rfl
theorem t155_103 : zT 155 103 = some (.invokevirtual 58, 3, 117, 0, 903) := by rfl
theorem t155_106 : zT 155 106 = some (.iconst 1, 1, 0, 0, 0) := by rfl
theorem t155_107 : zT 155 107 = some (.invokevirtual 151, 3, 154, 0, 1007) := by rfl
theorem t155_110 : zT 155 110 = some (.invokevirtual 100, 3, 118, 0, 895) := by rfl
theorem t155_113 : zT 155 113 = some (.aload_n 0, 1, 0, 0, 0) := by rfl
theorem t155_114 : zT 155 114 = some (.iload_n 1, 1, 0, 0, 0) := by rfl
theorem t155_115 : zT 155 115 = some (.iconst 3, 1, 0, 0, 0) := by rfl
theorem t155_116 : zT 155 116 = some (.iload_n 2, 1, 0, 0, 0) := by rfl
theorem t155_117 : zT 155 117 = some (.invokevirtual 100, 3, 118, 0, 895) := by rfl
theorem t155_120 : zT 155 120 = some (.iinc 1 1, 3, 0, 0, 0) := by rfl
theorem t155_123 : zT 155 123 = some (.goto (-73), 3, 0, 0, 0) := by rfl
theorem t155_126 : zT 155 126 = some (.iconst 0, 1, 0, 0, 0) := by rfl
theorem t155_127 : zT 155 127 = some (.istore_n 1, 1, 0, 0, 0) := by rfl
theorem t155_128 : zT 155 128 = some (.iload_n 1, 1, 0, 0, 0) := by rfl
theorem t155_129 : zT 155 129 = some (.aload_n 0, 1, 0, 0, 0) := by rfl
theorem t155_130 : zT 155 130 = some (.getfield 7, 3, 10, 1, 784) := by rfl
theorem t155_133 : zT 155 133 = some (.bipush 66, 2, 0, 0, 0) := by rfl
theorem t155_135 : zT 155 135 = some (.iaload, 1, 0, 0, 0) := by rfl
theorem t155_136 : zT 155 136 = some (.if_icmp .ge 111, 3, 0, 0, 0) := by rfl
theorem t155_139 : zT 155 139 = some (.iconst 0, 1, 0, 0, 0) := by rfl
theorem t155_140 : zT 155 140 = some (.istore_n 2, 1, 0, 0, 0) := by rfl
theorem t155_141 : zT 155 141 = some (.iload_n 2, 1, 0, 0, 0) := by rfl
theorem t155_142 : zT 155 142 = some (.iload_n 1, 1, 0, 0, 0) := by rfl
theorem t155_143 : zT 155 143 = some (.if_icmp .ge 98, 3, 0, 0, 0) := by rfl
theorem t155_146 : zT 155 146 = some (.aload_n 0, 1, 0, 0, 0) := by rfl
theorem t155_147 : zT 155 147 = some (.getfield 35, 3, 10, 12, 795) := by rfl
theorem t155_150 : zT 155 150 = some (.iload_n 1, 1, 0, 0, 0) := by rfl
theorem t155_151 : zT 155 151 = some (.baload, 1, 0, 0, 0) := by rfl
theorem t155_152 : zT 155 152 = some (.ifCond .ne 89, 3, 0, 0, 0) := by rfl
theorem t155_155 : zT 155 155 = some (.aload_n 0, 1, 0, 0, 0) := by rfl
theorem t155_156 : zT 155 156 = some (.getfield 35, 3, 10, 12, 795) := by rfl
theorem t155_159 : zT 155 159 = some (.iload_n 2, 1, 0, 0, 0) := by rfl
theorem t155_160 : zT 155 160 = some (.baload, 1, 0, 0, 0) := by rfl
theorem t155_161 : zT 155 161 = some (.ifCond .ne 42, 3, 0, 0, 0) := by rfl
theorem t155_164 : zT 155 164 = some (.aload_n 0, 1, 0, 0, 0) := by rfl
theorem t155_165 : zT 155 165 = some (.iload_n 1, 1, 0, 0, 0) := by rfl
theorem t155_166 : zT 155 166 = some (.iconst 1, 1, 0, 0, 0) := by rfl
theorem t155_167 : zT 155 167 = some (.invokevirtual 58, 3, 117, 0, 903) := by rfl
theorem t155_170 : zT 155 170 = some (.iconst 1, 1, 0, 0, 0) := by rfl
theorem t155_171 : zT 155 171 = some (.if_icmp .ne 32, 3, 0, 0, 0) := by rfl
theorem t155_174 : zT 155 174 = some (.aload_n 0, 1, 0, 0, 0) := by rfl
theorem t155_175 : zT 155 175 = some (.iload_n 2, 1, 0, 0, 0) := by rfl
theorem t155_176 : zT 155 176 = some (.iconst 1, 1, 0, 0, 0) := by rfl
theorem t155_177 : zT 155 177 = some (.invokevirtual 58, 3, 117, 0, 903) := by rfl
theorem t155_180 : zT 155 180 = some (.iconst 1, 1, 0, 0, 0) := by rfl
theorem t155_181 : zT 155 181 = some (.if_icmp .ne 22, 3, 0, 0, 0) := by rfl
theorem t155_184 : zT 155 184 = some (.aload_n 0, 1, 0, 0, 0) := by rfl
theorem t155_185 : zT 155 185 = some (.iload_n 1, 1, 0, 0, 0) := by rfl
theorem t155_186 : zT 155 186 = some (.iconst 0, 1, 0, 0, 0) := by rfl
theorem t155_187 : zT 155 187 = some (.invokevirtual 58, 3, 117, 0, 903) := by rfl
theorem t155_190 : zT 155 190 = some (.aload_n 0, 1, 0, 0, 0) := by rfl
theorem t155_191 : zT 155 191 = some (.iload_n 2, 1, 0, 0, 0) := by rfl
theorem t155_192 : zT 155 192 = some (.iconst 0, 1, 0, 0, 0) := by rfl
theorem t155_193 : zT 155 193 = some (.invokevirtual 58, 3, 117, 0, 903) := by rfl
theorem t155_196 : zT 155 196 = some (.if_icmp .ne 7, 3, 0, 0, 0) := by rfl
theorem t155_199 : zT 155 199 = some (.iconst 1, 1, 0, 0, 0) := by rfl
theorem t155_200 : zT 155 200 = some (.goto 4, 3, 0, 0, 0) := by rfl
theorem t155_203 : zT 155 203 = some (.iconst 0, 1, 0, 0, 0) := by rfl
theorem t155_204 : zT 155 204 = some (.istore_n 3, 1, 0, 0, 0) := by rfl
theorem t155_205 : zT 155 205 = some (.aload_n 0, 1, 0, 0, 0) := by rfl
theorem t155_206 : zT 155 206 = some (.getfield 35, 3, 10, 12, 795) := by rfl
theorem t155_209 : zT 155 209 = some (.iload_n 1, 1, 0, 0, 0) := by rfl
theorem t155_210 : zT 155 210 = some (.iload_n 3, 1, 0, 0, 0) := by rfl
theorem t155_211 : zT 155 211 = some (.ifCond .eq 22, 3, 0, 0, 0) := by rfl
theorem t155_214 : zT 155 214 = some (.aload_n 0, 1, 0, 0, 0) := by rfl
theorem t155_215 : zT 155 215 = some (.iload_n 1, 1, 0, 0, 0) := by rfl
theorem t155_216 : zT 155 216 = some (.iconst 2, 1, 0, 0, 0) := by rfl
theorem t155_217 : zT 155 217 = some (.invokevirtual 58, 3, 117, 0, 903) := by rfl
theorem t155_220 : zT 155 220 = some (.aload_n 0, 1, 0, 0, 0) := by rfl
theorem t155_221 : zT 155 221 = some (.iload_n 2, 1, 0, 0, 0) := by rfl
theorem t155_222 : zT 155 222 = some (.iconst 2, 1, 0, 0, 0) := by rfl
theorem t155_223 : zT 155 223 = some (.invokevirtual 58, 3, 117, 0, 903) := by rfl
theorem t155_226 : zT 155 226 = some (.if_icmp .ne 7, 3, 0, 0, 0) := by rfl
theorem t155_229 : zT 155 229 = some (.iconst 1, 1, 0, 0, 0) := by rfl
theorem t155_230 : zT 155 230 = some (.goto 4, 3, 0, 0, 0) := by rfl
theorem t155_233 : zT 155 233 = some (.iconst 0, 1, 0, 0, 0) := by rfl
theorem t155_234 : zT 155 234 = some (.bastore, 1, 0, 0, 0) := by rfl
theorem t155_235 : zT 155 235 = some (.iinc 2 1, 3, 0, 0, 0) := by rfl
theorem t155_238 : zT 155 238 = some (.goto (-97), 3, 0, 0, 0) := by rfl
theorem t155_241 : zT 155 241 = some (.iinc 1 1, 3, 0, 0, 0) := by rfl
theorem t155_244 : zT 155 244 = some (.goto (-116), 3, 0, 0, 0) := by rfl
theorem t155_247 : zT 155 247 = some (.return_, 1, 0, 0, 0) := by rfl
theorem t156_0 : zT 156 0 = some (.aload_n 0, 1, 0, 0, 0) := by rfl
theorem t156_1 : zT 156 1 = some (.iconst 0, 1, 0, 0, 0) := by rfl
theorem t156_2 : zT 156 2 = some (.putfield 47, 3, 10, 0, 783) := by rfl
theorem t156_5 : zT 156 5 = some (.aload_n 0, 1, 0, 0, 0) := by rfl
theorem t156_6 : zT 156 6 = some (.invokevirtual 94, 3, 121, 0, 848) := by rfl
theorem t156_9 : zT 156 9 = some (.aload_n 0, 1, 0, 0, 0) := by rfl
theorem t156_10 : zT 156 10 = some (.invokevirtual 155, 3, 133, 0, 983) := by rfl
theorem t156_13 : zT 156 13 = some (.aload_n 0, 1, 0, 0, 0) := by rfl
theorem t156_14 : zT 156 14 = some (.invokevirtual 158, 3, 155, 0, 1003) := by rfl
theorem t156_17 : zT 156 17 = some (.aload_n 0, 1, 0, 0, 0) := by rfl
theorem t156_18 : zT 156 18 = some (.getfield 7, 3, 10, 1, 784) := by rfl
theorem t156_21 : zT 156 21 = some (.bipush 66, 2, 0, 0, 0) := by rfl
theorem t156_23 : zT 156 23 = some (.iaload, 1, 0, 0, 0) := by rfl
theorem t156_24 : zT 156 24 = some (.iconst 1, 1, 0, 0, 0) := by rfl
theorem t156_25 : zT 156 25 = some (.isub, 1, 0, 0, 0) := by rfl
theorem t156_26 : zT 156 26 = some (.istore_n 1, 1, 0, 0, 0) := by rfl
theorem t156_27 : zT 156 27 = some (.iload_n 1, 1, 0, 0, 0) := by rfl
theorem t156_28 : zT 156 28 = some (.ifCond .lt 23, 3, 0, 0, 0) := by rfl
theorem t156_31 : zT 156 31 = some (.aload_n 0, 1, 0, 0, 0) := by rfl
theorem t156_32 : zT 156 32 = some (.getfield 35, 3, 10, 12, 795) := by rfl
theorem t156_35 : zT 156 35 = some (.iload_n 1, 1, 0, 0, 0) := by rfl
theorem t156_36 : zT 156 36 = some (.baload, 1, 0, 0, 0) := by rfl
theorem t156_37 : zT 156 37 = some (.ifCond .eq 8, 3, 0, 0, 0) := by rfl
theorem t156_40 : zT 156 40 = some (.aload_n 0, 1, 0, 0, 0) := by rfl
theorem t156_41 : zT 156 41 = some (.iload_n 1, 1, 0, 0, 0) := by rfl
theorem t156_42 : zT 156 42 = some (.invokevirtual 142, 3, 149, 0, 963) := by rfl
theorem t156_45 : zT 156 45 = some (.iinc 1 (-1), 3, 0, 0, 0) := by rfl
theorem t156_48 : zT 156 48 = some (.goto (-21), 3, 0, 0, 0) := by rfl
theorem t156_51 : zT 156 51 = some (.sipush 365, 3, 0, 0, 0) := by rfl
theorem t156_54 : zT 156 54 = some (.istore_n 1, 1, 0, 0, 0) := by rfl
theorem t156_55 : zT 156 55 = some (.iload_n 1, 1, 0, 0, 0) := by rfl
theorem t156_56 : zT 156 56 = some (.bipush 61, 2, 0, 0, 0) := by rfl
theorem t156_58 : zT 156 58 = some (.if_icmp .lt 32, 3, 0, 0, 0) := by rfl
theorem t156_61 : zT 156 61 = some (.aload_n 0, 1, 0, 0, 0) := by rfl
theorem t156_62 : zT 156 62 = some (.getfield 7, 3, 10, 1, 784) := by rfl
theorem t156_65 : zT 156 65 = some (.sipush 309, 3, 0, 0, 0) := by rfl
theorem t156_68 : zT 156 68 = some (.iload_n 1, 1, 0, 0, 0) := by rfl
theorem t156_69 : zT 156 69 = some (.iadd, 1, 0, 0, 0) := by rfl
theorem t156_70 : zT 156 70 = some (.aload_n 0, 1, 0, 0, 0) := by rfl
theorem t156_71 : zT 156 71 = some (.getfield 7, 3, 10, 1, 784) := by rfl
theorem t156_74 : zT 156 74 = some (.sipush 309, 3, 0, 0, 0) := by rfl
theorem t156_77 : zT 156 77 = some (.iload_n 1, 1, 0, 0, 0) := by rfl
theorem t156_78 : zT 156 78 = some (.iadd, 1, 0, 0, 0) := by rfl
theorem t156_79 : zT 156 79 = some (.bipush 61, 2, 0, 0, 0) := by rfl
theorem t156_81 : zT 156 81 = some (.isub, 1, 0, 0, 0) := by rfl
theorem t156_82 : zT 156 82 = some (.iaload, 1, 0, 0, 0) := by rfl
theorem t156_83 : zT 156 83 = some (.iastore, 1, 0, 0, 0) := by rfl
theorem t156_84 : zT 156 84 = some (.iinc 1 (-1), 3, 0, 0, 0) := by rfl
theorem t156_87 : zT 156 87 = some (.goto (-32), 3, 0, 0, 0) := by rfl
theorem t156_90 : zT 156 90 = some (.aload_n 0, 1, 0, 0, 0) := by rfl
theorem t156_91 : zT 156 91 = some (.getfield 7, 3, 10, 1, 784) := by rfl
theorem t156_94 : zT 156 94 = some (.iconst 0, 1, 0, 0, 0) := by rfl
theorem t156_95 : zT 156 95 = some (.aload_n 0, 1, 0, 0, 0) := by rfl
theorem t156_96 : zT 156 96 = some (.getfield 70, 3, 10, 11, 794) := by rfl
theorem t156_99 : zT 156 99 = some (.iastore, 1, 0, 0, 0) := by rfl
theorem t156_100 : zT 156 100 = some (.aload_n 0, 1, 0, 0, 0) := by rfl
theorem t156_101 : zT 156 101 = some (.getfield 7, 3, 10, 1, 784) := by rfl
theorem t156_104 : zT 156 104 = some (.sipush 309, 3, 0, 0, 0) := by rfl
theorem t156_107 : zT 156 107 = some (.aload_n 0, 1, 0, 0, 0) := by rfl
theorem t156_108 : zT 156 108 = some (.getfield 70, 3, 10, 11, 794) := by rfl
theorem t156_111 : zT 156 111 = some (.iastore, 1, 0, 0, 0) := by rfl
theorem t156_112 : zT 156 112 = some (.iconst 0, 1, 0, 0, 0) := by rfl
theorem t156_113 : zT 156 113 = some (.istore_n 1, 1, 0, 0, 0) := by rfl
theorem t156_114 : zT 156 114 = some (.iload_n 1, 1, 0, 0, 0) := by rfl
theorem t156_115 : zT 156 115 = some (.bipush 60, 2, 0, 0, 0) := by rfl
theorem t156_117 : zT 156 117 = some (.if_icmp .ge 53, 3, 0, 0, 0) := by rfl
theorem t156_120 : zT 156 120 = some (.aload_n 0, 1, 0, 0, 0) := by rfl
theorem t156_121 : zT 156 121 = some (.getfield 7, 3, 10, 1, 784) := by rfl
theorem t156_124 : zT 156 124 = some (.iconst 1, 1, 0, 0, 0) := by rfl
theorem t156_125 : zT 156 125 = some (.iload_n 1, 1, 0, 0, 0) := by rfl
theorem t156_126 : zT 156 126 = some (.iadd, 1, 0, 0, 0) := by rfl
theorem t156_127 : zT 156 127 = some (.iload_n 1, 1, 0, 0, 0) := by rfl
theorem t156_128 : zT 156 128 = some (.aload_n 0, 1, 0, 0, 0) := by rfl
theorem t156_129 : zT 156 129 = some (.getfield 70, 3, 10, 11, 794) := by rfl
theorem t156_132 : zT 156 132 = some (.if_icmp .ge 12, 3, 0, 0, 0) := by rfl
theorem t156_135 : zT 156 135 = some (.aload_n 0, 1, 0, 0, 0) := by rfl
theorem t156_136 : zT 156 136 = some (.getfield 32, 3, 10, 10, 793) := by rfl
theorem t156_139 : zT 156 139 = some (.iload_n 1, 1, 0, 0, 0) := by rfl
theorem t156_140 : zT 156 140 = some (.iaload, 1, 0, 0, 0) := by rfl
theorem t156_141 : zT 156 141 = some (.goto 4, 3, 0, 0, 0) := by rfl
theorem t156_144 : zT 156 144 = some (.iconst 0, 1, 0, 0, 0) := by rfl
theorem t156_145 : zT 156 145 = some (.iastore, 1, 0, 0, 0) := by rfl
theorem t156_146 : zT 156 146 = some (.aload_n 0, 1, 0, 0, 0) := by rfl
theorem t156_147 : zT 156 147 = some (.getfield 7, 3, 10, 1, 784) := by rfl
theorem t156_150 : zT 156 150 = some (.sipush 310, 3, 0, 0, 0) := by rfl
theorem t156_153 : zT 156 153 = some (.iload_n 1, 1, 0, 0, 0) := by rfl
theorem t156_154 : zT 156 154 = some (.iadd, 1, 0, 0, 0) := by rfl
theorem t156_155 : zT 156 155 = some (.aload_n 0, 1, 0, 0, 0) := by rfl
theorem t156_156 : zT 156 156 = some (.getfield 7, 3, 10, 1, 784) := by rfl
theorem t156_159 : zT 156 159 = some (.iconst 1, 1, 0, 0, 0) := by rfl
theorem t156_160 : zT 156 160 = some (.iload_n 1, 1, 0, 0, 0) := by rfl
theorem t156_161 : zT 156 161 = some (.iadd, 1, 0, 0, 0) := by rfl
theorem t156_162 : zT 156 162 = some (.iaload, 1, 0, 0, 0) := by rfl
theorem t156_163 : zT 156 163 = some (.iastore, 1, 0, 0, 0) := by rfl
theorem t156_164 : zT 156 164 = some (.iinc 1 1, 3, 0, 0, 0) := by rfl
theorem t156_167 : zT 156 167 = some (.goto (-53), 3, 0, 0, 0) := by rfl
theorem t156_170 : zT 156 170 = some (.aload_n 0, 1, 0, 0, 0) := by rfl
theorem t156_171 : zT 156 171 = some (.getfield 7, 3, 10, 1, 784) := by rfl
theorem t156_174 : zT 156 174 = some (.sipush 308, 3, 0, 0, 0) := by rfl
theorem t156_177 : zT 156 177 = some (.dup2, 1, 0, 0, 0) := by rfl
theorem t156_178 : zT 156 178 = some (.iaload, 1, 0, 0, 0) := by rfl
theorem t156_179 : zT 156 179 = some (.aload_n 0, 1, 0, 0, 0) := by rfl
theorem t156_180 : zT 156 180 = some (.getfield 7, 3, 10, 1, 784) := by rfl
theorem t156_183 : zT 156 183 = some (.sipush 308, 3, 0, 0, 0) := by rfl
theorem t156_186 : zT 156 186 = some (.iaload, 1, 0, 0, 0) := by rfl
theorem t156_187 : zT 156 187 = some (.bipush 6, 2, 0, 0, 0) := by rfl
theorem t156_189 : zT 156 189 = some (.if_icmp .ge 7, 3, 0, 0, 0) := by rfl
theorem t156_192 : zT 156 192 = some (.iconst 1, 1, 0, 0, 0) := by rfl
theorem t156_193 : zT 156 193 = some (.goto 4, 3, 0, 0, 0) := by rfl
theorem t156_196 : zT 156 196 = some (.iconst 0, 1, 0, 0, 0) := by rfl
theorem t156_197 : zT 156 197 = some (.iadd, 1, 0, 0, 0) := by rfl
theorem t156_198 : zT 156 198 = some (.iastore, 1, 0, 0, 0) := by rfl
theorem t156_199 : zT 156 199 = some (.aload_n 0, 1, 0, 0, 0) := by rfl
theorem t156_200 : zT 156 200 = some (.getfield 7, 3, 10, 1, 784) := by rfl
theorem t156_203 : zT 156 203 = some (.sipush 307, 3, 0, 0, 0) := by rfl
theorem t156_206 : zT 156 206 = some (.dup2, 1, 0, 0, 0) := by rfl
theorem t156_207 : zT 156 207 = some (.iaload, 1, 0, 0, 0) := by rfl
theorem t156_208 : zT 156 208 = some (.iconst 1, 1, 0, 0, 0) := by rfl
theorem t156_209 : zT 156 209 = some (.iadd, 1, 0, 0, 0) := by rfl
theorem t156_210 : zT 156 210 = some (.iastore, 1, 0, 0, 0) := by rfl
theorem t156_211 : zT 156 211 = some (.aload_n 0, 1, 0, 0, 0) := by rfl
theorem t156_212 : zT 156 212 = some (.getfield 7, 3, 10, 1, 784) := by rfl
theorem t156_215 : zT 156 215 = some (.sipush 307, 3, 0, 0, 0) := by rfl
theorem t156_218 : zT 156 218 = some (.iaload, 1, 0, 0, 0) := by rfl
theorem t156_219 : zT 156 219 = some (.iconst 1, 1, 0, 0, 0) := by rfl
theorem t156_220 : zT 156 220 = some (.isub, 1, 0, 0, 0) := by rfl
theorem t156_221 : zT 156 221 = some (.ireturn, 1, 0, 0, 0) := by rfl
theorem t157_0 : zT 157 0 = some (.aload_n 0, 1, 0, 0, 0) := by rfl
theorem t157_1 : zT 157 1 = some (.iconst 0, 1, 0, 0, 0) := by rfl
theorem t157_2 : zT 157 2 = some (.putfield 47, 3, 10, 0, 783) := by rfl
theorem t157_5 : zT 157 5 = some (.iload_n 1, 1, 0, 0, 0) := by rfl
theorem t157_6 : zT 157 6 = some (.ifCond .ne 32, 3, 0, 0, 0) := by rfl
theorem t157_9 : zT 157 9 = some (.iload_n 2, 1, 0, 0, 0) := by rfl
theorem t157_10 : zT 157 10 = some (.iconst 0, 1, 0, 0, 0) := by rfl
theorem t157_11 : zT 157 11 = some (.aload_n 0, 1, 0, 0, 0) := by rfl
theorem t157_12 : zT 157 12 = some (.getfield 7, 3, 10, 1, 784) := by rfl
theorem t157_15 : zT 157 15 = some (.iconst 0, 1, 0, 0, 0) := by rfl
theorem t157_16 : zT 157 16 = some (.iaload, 1, 0, 0, 0) := by rfl
theorem t157_17 : zT 157 17 = some (.iconst 1, 1, 0, 0, 0) := by rfl
theorem t157_18 : zT 157 18 = some (.isub, 1, 0, 0, 0) := by rfl
theorem t157_19 : zT 157 19 = some (.invokestatic 51, 3, 116, 0, 845) := by rfl
theorem t157_22 : zT 157 22 = some (.ifCond .eq 14, 3, 0, 0, 0) := by rfl
theorem t157_25 : zT 157 25 = some (.aload_n 0, 1, 0, 0, 0) := by rfl
theorem t157_26 : zT 157 26 = some (.getfield 7, 3, 10, 1, 784) := by rfl
theorem t157_29 : zT 157 29 = some (.iconst 1, 1, 0, 0, 0) := by rfl
theorem t157_30 : zT 157 30 = some (.iload_n 2, 1, 0, 0, 0) := by rfl
theorem t157_31 : zT 157 31 = some (.iadd, 1, 0, 0, 0) := by rfl
theorem t157_32 : zT 157 32 = some (.iaload, 1, 0, 0, 0) := by rfl
theorem t157_33 : zT 157 33 = some (.goto 4, 3, 0, 0, 0) := by rfl
theorem t157_36 : zT 157 36 = some (.iconst (-1), 1, 0, 0, 0) := by rfl
theorem t157_37 : zT 157 37 = some (.ireturn, 1, 0, 0, 0) := by rfl
theorem t157_38 : zT 157 38 = some (.iload_n 1, 1, 0, 0, 0) := by rfl
theorem t157_39 : zT 157 39 = some (.iconst 1, 1, 0, 0, 0) := by rfl
theorem t157_40 : zT 157 40 = some (.if_icmp .eq 6, 3, 0, 0, 0) := by rfl
theorem t157_43 : zT 157 43 = some (.bipush (-2), 2, 0, 0, 0) := by rfl
theorem t157_45 : zT 157 45 = some (.ireturn, 1, 0, 0, 0) := by rfl
theorem t157_46 : zT 157 46 = some (.aload_n 0, 1, 0, 0, 0) := by rfl
theorem t157_47 : zT 157 47 = some (.invokevirtual 155, 3, 133, 0, 983) := by rfl
theorem t157_50 : zT 157 50 = some (.iload_n 2, 1, 0, 0, 0) := by rfl
theorem t157_51 : zT 157 51 = some (.iconst 0, 1, 0, 0, 0) := by rfl
theorem t157_52 : zT 157 52 = some (.aload_n 0, 1, 0, 0, 0) := by rfl
theorem t157_53 : zT 157 53 = some (.getfield 70, 3, 10, 11, 794) := by rfl
theorem t157_56 : zT 157 56 = some (.iconst 1, 1, 0, 0, 0) := by rfl
theorem t157_57 : zT 157 57 = some (.isub, 1, 0, 0, 0) := by rfl
theorem t157_58 : zT 157 58 = some (.invokestatic 51, 3, 116, 0, 845) := by rfl
theorem t157_61 : zT 157 61 = some (.ifCond .eq 12, 3, 0, 0, 0) := by rfl
theorem t157_64 : zT 157 64 = some (.aload_n 0, 1, 0, 0, 0) := by rfl
theorem t157_65 : zT 157 65 = some (.getfield 32, 3, 10, 10, 793) := by rfl
theorem t157_68 : zT 157 68 = some (.iload_n 2, 1, 0, 0, 0) := by rfl
theorem t157_69 : zT 157 69 = some (.iaload, 1, 0, 0, 0) := by rfl
theorem t157_70 : zT 157 70 = some (.goto 4, 3, 0, 0, 0) := by rfl
theorem t157_73 : zT 157 73 = some (.iconst (-1), 1, 0, 0, 0) := by rfl
theorem t157_74 : zT 157 74 = some (.ireturn, 1, 0, 0, 0) := by rfl
theorem t158_0 : zT 158 0 = some (.aload_n 0, 1, 0, 0, 0) := by rfl
theorem t158_1 : zT 158 1 = some (.iconst 0, 1, 0, 0, 0) := by rfl
theorem t158_2 : zT 158 2 = some (.putfield 47, 3, 10, 0, 783) := by rfl
theorem t158_5 : zT 158 5 = some (.iload_n 1, 1, 0, 0, 0) := by rfl
theorem t158_6 : zT 158 6 = some (.invokestatic 97, 3, 120, 0, 856) := by rfl
theorem t158_9 : zT 158 9 = some (.ifCond .ne 5, 3, 0, 0, 0) := by rfl
theorem t158_12 : zT 158 12 = some (.iconst (-1), 1, 0, 0, 0) := by rfl
theorem t158_13 : zT 158 13 = some (.ireturn, 1, 0, 0, 0) := by rfl
theorem t158_14 : zT 158 14 = some (.aload_n 0, 1, 0, 0, 0) := by rfl
theorem t158_15 : zT 158 15 = some (.iload_n 1, 1, 0, 0, 0) := by rfl
theorem t158_16 : zT 158 16 = some (.invokevirtual 161, 3, 135, 0, 1019) := by rfl
theorem t158_19 : zT 158 19 = some (.iload_n 2, 1, 0, 0, 0) := by rfl
theorem t158_20 : zT 158 20 = some (.iconst 0, 1, 0, 0, 0) := by rfl
theorem t158_21 : zT 158 21 = some (.aload_n 0, 1, 0, 0, 0) := by rfl
theorem t158_22 : zT 158 22 = some (.getfield 70, 3, 10, 11, 794) := by rfl
theorem t158_25 : zT 158 25 = some (.iconst 1, 1, 0, 0, 0) := by rfl
theorem t158_26 : zT 158 26 = some (.isub, 1, 0, 0, 0) := by rfl
theorem t158_27 : zT 158 27 = some (.invokestatic 51, 3, 116, 0, 845) := by rfl
theorem t158_30 : zT 158 30 = some (.ifCond .eq 12, 3, 0, 0, 0) := by rfl
theorem t158_33 : zT 158 33 = some (.aload_n 0, 1, 0, 0, 0) := by rfl
theorem t158_34 : zT 158 34 = some (.getfield 32, 3, 10, 10, 793) := by rfl
theorem t158_37 : zT 158 37 = some (.iload_n 2, 1, 0, 0, 0) := by rfl
theorem t158_38 : zT 158 38 = some (.iaload, 1, 0, 0, 0) := by rfl
theorem t158_39 : zT 158 39 = some (.goto 4, 3, 0, 0, 0) := by rfl
theorem t158_42 : zT 158 42 = some (.iconst (-1), 1, 0, 0, 0) := by rfl
theorem t158_43 : zT 158 43 = some (.ireturn, 1, 0, 0, 0) := by rfl
theorem t159_0 : zT 159 0 = some (.iconst 0, 1, 0, 0, 0) := by rfl
theorem t159_1 : zT 159 1 = some (.istore_n 2, 1, 0, 0, 0) := by rfl
theorem t159_2 : zT 159 2 = some (.iconst 0, 1, 0, 0, 0) := by rfl
theorem t159_3 : zT 159 3 = some (.istore_n 3, 1, 0, 0, 0) := by rfl
theorem t159_4 : zT 159 4 = some (.iload_n 3, 1, 0, 0, 0) := by rfl
theorem t159_5 : zT 159 5 = some (.aload_n 0, 1, 0, 0, 0) := by rfl
theorem t159_6 : zT 159 6 = some (.getfield 7, 3, 10, 1, 784) := by rfl
theorem t159_9 : zT 159 9 = some (.bipush 66, 2, 0, 0, 0) := by rfl
theorem t159_11 : zT 159 11 = some (.iaload, 1, 0, 0, 0) := by rfl
theorem t159_12 : zT 159 12 = some (.if_icmp .ge 26, 3, 0, 0, 0) := by rfl
theorem t159_15 : zT 159 15 = some (.iload_n 2, 1, 0, 0, 0) := by rfl
theorem t159_16 : zT 159 16 = some (.aload_n 0, 1, 0, 0, 0) := by rfl
theorem t159_17 : zT 159 17 = some (.iload_n 1, 1, 0, 0, 0) := by rfl
theorem t159_18 : zT 159 18 = some (.iload_n 3, 1, 0, 0, 0) := by rfl
theorem t159_19 : zT 159 19 = some (.invokevirtual 164, 3, 125, 0, 1035) := by rfl
theorem t159_22 : zT 159 22 = some (.ifCond .eq 7, 3, 0, 0, 0) := by rfl
theorem t159_25 : zT 159 25 = some (.iconst 1, 1, 0, 0, 0) := by rfl
theorem t159_26 : zT 159 26 = some (.goto 4, 3, 0, 0, 0) := by rfl
theorem t159_29 : zT 159 29 = some (.iconst 0, 1, 0, 0, 0) := by rfl
theorem t159_30 : zT 159 30 = some (.iadd, 1, 0, 0, 0) := by rfl
theorem t159_31 : zT 159 31 = some (.istore_n 2, 1, 0, 0, 0) := by rfl
theorem t159_32 : zT 159 32 = some (.iinc 3 1, 3, 0, 0, 0) := by rfl
theorem t159_35 : zT 159 35 = some (.goto (-31), 3, 0, 0, 0) := by rfl
theorem t159_38 : zT 159 38 = some (.iload_n 2, 1, 0, 0, 0) := by rfl
theorem t159_39 : zT 159 39 = some (.ireturn, 1, 0, 0, 0) := by rfl
theorem t160_0 : zT 160 0 = some (.aload_n 0, 1, 0, 0, 0) := by rfl
theorem t160_1 : zT 160 1 = some (.iconst 0, 1, 0, 0, 0) := by rfl
theorem t160_2 : zT 160 2 = some (.putfield 47, 3, 10, 0, 783) := by rfl
theorem t160_5 : zT 160 5 = some (.aload_n 0, 1, 0, 0, 0) := by rfl
theorem t160_6 : zT 160 6 = some (.iload_n 1, 1, 0, 0, 0) := by rfl
theorem t160_7 : zT 160 7 = some (.invokevirtual 130, 3, 119, 0, 927) := by rfl
theorem t160_10 : zT 160 10 = some (.ifCond .ne 5, 3, 0, 0, 0) := by rfl
theorem t160_13 : zT 160 13 = some (.iconst (-1), 1, 0, 0, 0) := by rfl
theorem t160_14 : zT 160 14 = some (.ireturn, 1, 0, 0, 0) := by rfl
theorem t160_15 : zT 160 15 = some (.iload_n 2, 1, 0, 0, 0) := by rfl
theorem t160_16 : zT 160 16 = some (.lookupswitch 43 #[(6, 28), (7, 34)], 28, 0, 0, 0) := by rfl
theorem t160_44 : zT 160 44 = some (.aload_n 0, 1, 0, 0, 0) := by rfl
theorem t160_45 : zT 160 45 = some (.iload_n 1, 1, 0, 0, 0) := by rfl
theorem t160_46 : zT 160 46 = some (.invokevirtual 167, 3, 159, 0, 1031) := by rfl
theorem t160_49 : zT 160 49 = some (.ireturn, 1, 0, 0, 0) := by rfl
theorem t160_50 : zT 160 50 = some (.aload_n 0, 1, 0, 0, 0) := by rfl
theorem t160_51 : zT 160 51 = some (.iload_n 1, 1, 0, 0, 0) := by rfl
theorem t160_52 : zT 160 52 = some (.invokevirtual 66, 3, 127, 0, 943) := by rfl
theorem t160_55 : zT 160 55 = some (.bipush 100, 2, 0, 0, 0) := by rfl
theorem t160_57 : zT 160 57 = some (.iadd, 1, 0, 0, 0) := by rfl
theorem t160_58 : zT 160 58 = some (.ireturn, 1, 0, 0, 0) := by rfl
theorem t160_59 : zT 160 59 = some (.iload_n 2, 1, 0, 0, 0) := by rfl
theorem t160_60 : zT 160 60 = some (.iconst 0, 1, 0, 0, 0) := by rfl
theorem t160_61 : zT 160 61 = some (.iconst 5, 1, 0, 0, 0) := by rfl
theorem t160_62 : zT 160 62 = some (.invokestatic 51, 3, 116, 0, 845) := by rfl
theorem t160_65 : zT 160 65 = some (.ifCond .eq 12, 3, 0, 0, 0) := by rfl
theorem t160_68 : zT 160 68 = some (.aload_n 0, 1, 0, 0, 0) := by rfl
theorem t160_69 : zT 160 69 = some (.iload_n 1, 1, 0, 0, 0) := by rfl
theorem t160_70 : zT 160 70 = some (.iload_n 2, 1, 0, 0, 0) := by rfl
theorem t160_71 : zT 160 71 = some (.invokevirtual 58, 3, 117, 0, 903) := by rfl
theorem t160_74 : zT 160 74 = some (.goto 5, 3, 0, 0, 0) := by rfl
theorem t160_77 : zT 160 77 = some (.bipush (-2), 2, 0, 0, 0) := by rfl
theorem t160_79 : zT 160 79 = some (.ireturn, 1, 0, 0, 0) := by rfl
theorem t161_0 : zT 161 0 = some (.aload_n 0, 1, 0, 0, 0) := by rfl
theorem t161_1 : zT 161 1 = some (.iconst 0, 1, 0, 0, 0) := by rfl
theorem t161_2 : zT 161 2 = some (.putfield 47, 3, 10, 0, 783) := by rfl
theorem t161_5 : zT 161 5 = some (.aload_n 0, 1, 0, 0, 0) := by rfl
theorem t161_6 : zT 161 6 = some (.iload_n 1, 1, 0, 0, 0) := by rfl
theorem t161_7 : zT 161 7 = some (.invokevirtual 130, 3, 119, 0, 927) := by rfl
theorem t161_10 : zT 161 10 = some (.ifCond .eq 11, 3, 0, 0, 0) := by rfl
theorem t161_13 : zT 161 13 = some (.aload_n 0, 1, 0, 0, 0) := by rfl
theorem t161_14 : zT 161 14 = some (.iload_n 2, 1, 0, 0, 0) := by rfl
theorem t161_15 : zT 161 15 = some (.invokevirtual 130, 3, 119, 0, 927) := by rfl
theorem t161_18 : zT 161 18 = some (.ifCond .ne 5, 3, 0, 0, 0) := by rfl
theorem t161_21 : zT 161 21 = some (.iconst (-1), 1, 0, 0, 0) := by rfl
theorem t161_22 : zT 161 22 = some (.ireturn, 1, 0, 0, 0) := by rfl
theorem t161_23 : zT 161 23 = some (.iload_n 1, 1, 0, 0, 0) := by rfl
theorem t161_24 : zT 161 24 = some (.iload_n 2, 1, 0, 0, 0) := by rfl
theorem t161_25 : zT 161 25 = some (.if_icmp .ne 6, 3, 0, 0, 0) := by rfl
theorem t161_28 : zT 161 28 = some (.bipush (-2), 2, 0, 0, 0) := by rfl
theorem t161_30 : zT 161 30 = some (.ireturn, 1, 0, 0, 0) := by rfl
theorem t161_31 : zT 161 31 = some (.aload_n 0, 1, 0, 0, 0) := by rfl
theorem t161_32 : zT 161 32 = some (.iload_n 1, 1, 0, 0, 0) := by rfl
theorem t161_33 : zT 161 33 = some (.iload_n 2, 1, 0, 0, 0) := by rfl
theorem t161_34 : zT 161 34 = some (.invokevirtual 164, 3, 125, 0, 1035) := by rfl
theorem t161_37 : zT 161 37 = some (.ifCond .eq 7, 3, 0, 0, 0) := by rfl
theorem t161_40 : zT 161 40 = some (.iconst 2, 1, 0, 0, 0) := by rfl
theorem t161_41 : zT 161 41 = some (.goto 17, 3, 0, 0, 0) := by rfl
theorem t161_44 : zT 161 44 = some (.aload_n 0, 1, 0, 0, 0) := by rfl
theorem t161_45 : zT 161 45 = some (.iload_n 1, 1, 0, 0, 0) := by rfl
theorem t161_46 : zT 161 46 = some (.iload_n 2, 1, 0, 0, 0) := by rfl
theorem t161_47 : zT 161 47 = some (.invokevirtual 62, 3, 124, 0, 907) := by rfl
theorem t161_50 : zT 161 50 = some (.ifCond .eq 7, 3, 0, 0, 0) := by rfl
theorem t161_53 : zT 161 53 = some (.iconst 1, 1, 0, 0, 0) := by rfl
theorem t161_54 : zT 161 54 = some (.goto 4, 3, 0, 0, 0) := by rfl
theorem t161_57 : zT 161 57 = some (.iconst 0, 1, 0, 0, 0) := by rfl
theorem t161_58 : zT 161 58 = some (.ireturn, 1, 0, 0, 0) := by rfl
theorem t162_0 : zT 162 0 = some (.iconst 0, 1, 0, 0, 0) := by rfl
theorem t162_1 : zT 162 1 = some (.istore_n 3, 1, 0, 0, 0) := by rfl
theorem t162_2 : zT 162 2 = some (.iconst 0, 1, 0, 0, 0) := by rfl
theorem t162_3 : zT 162 3 = some (.istore 4, 2, 0, 0, 0) := by rfl
theorem t162_5 : zT 162 5 = some (.iload 4, 2, 0, 0, 0) := by rfl
theorem t162_7 : zT 162 7 = some (.aload_n 0, 1, 0, 0, 0) := by rfl
theorem t162_8 : zT 162 8 = some (.getfield 7, 3, 10, 1, 784) := by rfl
theorem t162_11 : zT 162 11 = some (.bipush 66, 2, 0, 0, 0) := by rfl
theorem t162_13 : zT 162 13 = some (.iaload, 1, 0, 0, 0) := by rfl
theorem t162_14 : zT 162 14 = some (.if_icmp .ge 72, 3, 0, 0, 0) := by rfl
theorem t162_17 : zT 162 17 = some (.iload_n 2, 1, 0, 0, 0) := by rfl
theorem t162_18 : zT 162 18 = some (.iconst 1, 1, 0, 0, 0) := by rfl
theorem t162_19 : zT 162 19 = some (.if_icmp .ne 7, 3, 0, 0, 0) := by rfl
theorem t162_22 : zT 162 22 = some (.iconst 1, 1, 0, 0, 0) := by rfl
theorem t162_23 : zT 162 23 = some (.goto 35, 3, 0, 0, 0) := by rfl
theorem t162_26 : zT 162 26 = some (.iload_n 2, 1, 0, 0, 0) := by rfl
theorem t162_27 : zT 162 27 = some (.iconst 5, 1, 0, 0, 0) := by rfl
theorem t162_28 : zT 162 28 = some (.if_icmp .ne 12, 3, 0, 0, 0) := by rfl
theorem t162_31 : zT 162 31 = some (.aload_n 0, 1, 0, 0, 0) := by rfl
theorem t162_32 : zT 162 32 = some (.iload 4, 2, 0, 0, 0) := by rfl
theorem t162_34 : zT 162 34 = some (.invokevirtual 167, 3, 159, 0, 1031) := by rfl
theorem t162_37 : zT 162 37 = some (.goto 21, 3, 0, 0, 0) := by rfl
theorem t162_40 : zT 162 40 = some (.aload_n 0, 1, 0, 0, 0) := by rfl
theorem t162_41 : zT 162 41 = some (.iload 4, 2, 0, 0, 0) := by rfl
theorem t162_43 : zT 162 43 = some (.iconst 5, 1, 0, 0, 0) := by rfl
theorem t162_44 : zT 162 44 = some (.invokevirtual 58, 3, 117, 0, 903) := by rfl
theorem t162_47 : zT 162 47 = some (.iload_n 2, 1, 0, 0, 0) := by rfl
theorem t162_48 : zT 162 48 = some (.iconst 2, 1, 0, 0, 0) := by rfl
theorem t162_49 : zT 162 49 = some (.isub, 1, 0, 0, 0) := by rfl
theorem t162_50 : zT 162 50 = some (.if_icmp .ne 7, 3, 0, 0, 0) := by rfl
theorem t162_53 : zT 162 53 = some (.iconst 1, 1, 0, 0, 0) := by rfl
theorem t162_54 : zT 162 54 = some (.goto 4, 3, 0, 0, 0) := by rfl
theorem t162_57 : zT 162 57 = some (.iconst 0, 1, 0, 0, 0) := by rfl
theorem t162_58 : zT 162 58 = some (.istore 5, 2, 0, 0, 0) := by rfl
theorem t162_60 : zT 162 60 = some (.iload_n 3, 1, 0, 0, 0) := by rfl
theorem t162_61 : zT 162 61 = some (.aload_n 0, 1, 0, 0, 0) := by rfl
theorem t162_62 : zT 162 62 = some (.iload 4, 2, 0, 0, 0) := by rfl
theorem t162_64 : zT 162 64 = some (.iconst 0, 1, 0, 0, 0) := by rfl
theorem t162_65 : zT 162 65 = some (.invokevirtual 58, 3, 117, 0, 903) := by rfl
theorem t162_68 : zT 162 68 = some (.iload_n 1, 1, 0, 0, 0) := by rfl
theorem t162_69 : zT 162 69 = some (.if_icmp .ne 8, 3, 0, 0, 0) := by rfl
theorem t162_72 : zT 162 72 = some (.iload 5, 2, 0, 0, 0) := by rfl
theorem t162_74 : zT 162 74 = some (.goto 4, 3, 0, 0, 0) := by rfl
theorem t162_77 : zT 162 77 = some (.iconst 0, 1, 0, 0, 0) := by rfl
theorem t162_78 : zT 162 78 = some (.iadd, 1, 0, 0, 0) := by rfl
theorem t162_79 : zT 162 79 = some (.istore_n 3, 1, 0, 0, 0) := by rfl
theorem t162_80 : zT 162 80 = some (.iinc 4 1, 3, 0, 0, 0) := by rfl
theorem t162_83 : zT 162 83 = some (.goto (-78), 3, 0, 0, 0) := by rfl
theorem t162_86 : zT 162 86 = some (.iload_n 3, 1, 0, 0, 0) := by rfl
theorem t162_87 : zT 162 87 = some (.ireturn, 1, 0, 0, 0) := by rfl
theorem t163_0 : zT 163 0 = some (.aload_n 0, 1, 0, 0, 0) := by rfl
theorem t163_1 : zT 163 1 = some (.iconst 0, 1, 0, 0, 0) := by rfl
theorem t163_2 : zT 163 2 = some (.putfield 47, 3, 10, 0, 783) := by rfl
theorem t163_5 : zT 163 5 = some (.iload_n 1, 1, 0, 0, 0) := by rfl
theorem t163_6 : zT 163 6 = some (.invokestatic 97, 3, 120, 0, 856) := by rfl
theorem t163_9 : zT 163 9 = some (.ifCond .ne 5, 3, 0, 0, 0) := by rfl
theorem t163_12 : zT 163 12 = some (.iconst (-1), 1, 0, 0, 0) := by rfl
theorem t163_13 : zT 163 13 = some (.ireturn, 1, 0, 0, 0) := by rfl
theorem t163_14 : zT 163 14 = some (.iload_n 2, 1, 0, 0, 0) := by rfl
theorem t163_15 : zT 163 15 = some (.iconst 0, 1, 0, 0, 0) := by rfl
theorem t163_16 : zT 163 16 = some (.bipush 6, 2, 0, 0, 0) := by rfl
theorem t163_18 : zT 163 18 = some (.invokestatic 51, 3, 116, 0, 845) := by rfl
theorem t163_21 : zT 163 21 = some (.ifCond .ne 6, 3, 0, 0, 0) := by rfl
theorem t163_24 : zT 163 24 = some (.bipush (-2), 2, 0, 0, 0) := by rfl
theorem t163_26 : zT 163 26 = some (.ireturn, 1, 0, 0, 0) := by rfl
theorem t163_27 : zT 163 27 = some (.iload_n 2, 1, 0, 0, 0) := by rfl
theorem t163_28 : zT 163 28 = some (.bipush 6, 2, 0, 0, 0) := by rfl
theorem t163_30 : zT 163 30 = some (.if_icmp .ne 13, 3, 0, 0, 0) := by rfl
theorem t163_33 : zT 163 33 = some (.aload_n 0, 1, 0, 0, 0) := by rfl
theorem t163_34 : zT 163 34 = some (.iload_n 1, 1, 0, 0, 0) := by rfl
theorem t163_35 : zT 163 35 = some (.invokevirtual 161, 3, 135, 0, 1019) := by rfl
theorem t163_38 : zT 163 38 = some (.aload_n 0, 1, 0, 0, 0) := by rfl
theorem t163_39 : zT 163 39 = some (.getfield 70, 3, 10, 11, 794) := by rfl
theorem t163_42 : zT 163 42 = some (.ireturn, 1, 0, 0, 0) := by rfl
theorem t163_43 : zT 163 43 = some (.iload_n 2, 1, 0, 0, 0) := by rfl
theorem t163_44 : zT 163 44 = some (.ifCond .ne 15, 3, 0, 0, 0) := by rfl
theorem t163_47 : zT 163 47 = some (.aload_n 0, 1, 0, 0, 0) := by rfl
theorem t163_48 : zT 163 48 = some (.getfield 7, 3, 10, 1, 784) := by rfl
theorem t163_51 : zT 163 51 = some (.bipush 61, 2, 0, 0, 0) := by rfl
theorem t163_53 : zT 163 53 = some (.iload_n 1, 1, 0, 0, 0) := by rfl
theorem t163_54 : zT 163 54 = some (.iadd, 1, 0, 0, 0) := by rfl
theorem t163_55 : zT 163 55 = some (.iaload, 1, 0, 0, 0) := by rfl
theorem t163_56 : zT 163 56 = some (.goto 9, 3, 0, 0, 0) := by rfl
theorem t163_59 : zT 163 59 = some (.aload_n 0, 1, 0, 0, 0) := by rfl
theorem t163_60 : zT 163 60 = some (.iload_n 1, 1, 0, 0, 0) := by rfl
theorem t163_61 : zT 163 61 = some (.iload_n 2, 1, 0, 0, 0) := by rfl
theorem t163_62 : zT 163 62 = some (.invokevirtual 170, 3, 162, 0, 1047) := by rfl
theorem t163_65 : zT 163 65 = some (.ireturn, 1, 0, 0, 0) := by rfl
theorem t164_0 : zT 164 0 = some (.iconst 0, 1, 0, 0, 0) := by rfl
theorem t164_1 : zT 164 1 = some (.istore_n 1, 1, 0, 0, 0) := by rfl
theorem t164_2 : zT 164 2 = some (.iconst 0, 1, 0, 0, 0) := by rfl
theorem t164_3 : zT 164 3 = some (.istore_n 2, 1, 0, 0, 0) := by rfl
theorem t164_4 : zT 164 4 = some (.iload_n 2, 1, 0, 0, 0) := by rfl
theorem t164_5 : zT 164 5 = some (.aload_n 0, 1, 0, 0, 0) := by rfl
theorem t164_6 : zT 164 6 = some (.getfield 7, 3, 10, 1, 784) := by rfl
theorem t164_9 : zT 164 9 = some (.bipush 66, 2, 0, 0, 0) := by rfl
theorem t164_11 : zT 164 11 = some (.iaload, 1, 0, 0, 0) := by rfl
theorem t164_12 : zT 164 12 = some (.if_icmp .ge 17, 3, 0, 0, 0) := by rfl
theorem t164_15 : zT 164 15 = some (.iload_n 1, 1, 0, 0, 0) := by rfl
theorem t164_16 : zT 164 16 = some (.aload_n 0, 1, 0, 0, 0) := by rfl
theorem t164_17 : zT 164 17 = some (.iload_n 2, 1, 0, 0, 0) := by rfl
theorem t164_18 : zT 164 18 = some (.invokevirtual 167, 3, 159, 0, 1031) := by rfl
theorem t164_21 : zT 164 21 = some (.iadd, 1, 0, 0, 0) := by rfl
theorem t164_22 : zT 164 22 = some (.istore_n 1, 1, 0, 0, 0) := by rfl
theorem t164_23 : zT 164 23 = some (.iinc 2 1, 3, 0, 0, 0) := by rfl
theorem t164_26 : zT 164 26 = some (.goto (-22), 3, 0, 0, 0) := by rfl
theorem t164_29 : zT 164 29 = some (.iload_n 1, 1, 0, 0, 0) := by rfl
theorem t164_30 : zT 164 30 = some (.iconst 2, 1, 0, 0, 0) := by rfl
theorem t164_31 : zT 164 31 = some (.idiv, 1, 0, 0, 0) := by rfl
theorem t164_32 : zT 164 32 = some (.ireturn, 1, 0, 0, 0) := by rfl
theorem t165_0 : zT 165 0 = some (.aload_n 0, 1, 0, 0, 0) := by rfl
theorem t165_1 : zT 165 1 = some (.iconst 0, 1, 0, 0, 0) := by rfl
theorem t165_2 : zT 165 2 = some (.putfield 47, 3, 10, 0, 783) := by rfl
theorem t165_5 : zT 165 5 = some (.iload_n 1, 1, 0, 0, 0) := by rfl
theorem t165_6 : zT 165 6 = some (.tableswitch 111 0 9 #[54, 61, 66, 74, 74, 82, 87, 87, 101, 106], 54, 0, 0, 0) := by rfl
theorem t165_60 : zT 165 60 = some (.aload_n 0, 1, 0, 0, 0) := by rfl
theorem t165_61 : zT 165 61 = some (.getfield 7, 3, 10, 1, 784) := by rfl
theorem t165_64 : zT 165 64 = some (.iconst 0, 1, 0, 0, 0) := by rfl
theorem t165_65 : zT 165 65 = some (.iaload, 1, 0, 0, 0) := by rfl
theorem t165_66 : zT 165 66 = some (.ireturn, 1, 0, 0, 0) := by rfl
theorem t165_67 : zT 165 67 = some (.aload_n 0, 1, 0, 0, 0) := by rfl
theorem t165_68 : zT 165 68 = some (.invokevirtual 127, 3, 128, 0, 939) := by rfl
theorem t165_71 : zT 165 71 = some (.ireturn, 1, 0, 0, 0) := by rfl
theorem t165_72 : zT 165 72 = some (.aload_n 0, 1, 0, 0, 0) := by rfl
theorem t165_73 : zT 165 73 = some (.getfield 7, 3, 10, 1, 784) := by rfl
theorem t165_76 : zT 165 76 = some (.bipush 66, 2, 0, 0, 0) := by rfl
theorem t165_78 : zT 165 78 = some (.iaload, 1, 0, 0, 0) := by rfl
theorem t165_79 : zT 165 79 = some (.ireturn, 1, 0, 0, 0) := by rfl
theorem t165_80 : zT 165 80 = some (.aload_n 0, 1, 0, 0, 0) := by rfl
theorem t165_81 : zT 165 81 = some (.iload_n 1, 1, 0, 0, 0) := by rfl
theorem t165_82 : zT 165 82 = some (.iconst 3, 1, 0, 0, 0) := by rfl
theorem t165_83 : zT 165 83 = some (.isub, 1, 0, 0, 0) := by rfl
theorem t165_84 : zT 165 84 = some (.invokevirtual 139, 3, 147, 0, 955) := by rfl
theorem t165_87 : zT 165 87 = some (.ireturn, 1, 0, 0, 0) := by rfl
theorem t165_88 : zT 165 88 = some (.aload_n 0, 1, 0, 0, 0) := by rfl
theorem t165_89 : zT 165 89 = some (.invokevirtual 173, 3, 164, 0, 1055) := by rfl
theorem t165_92 : zT 165 92 = some (.ireturn, 1, 0, 0, 0) := by rfl
theorem t165_93 : zT 165 93 = some (.aload_n 0, 1, 0, 0, 0) := by rfl
theorem t165_94 : zT 165 94 = some (.getfield 7, 3, 10, 1, 784) := by rfl
theorem t165_97 : zT 165 97 = some (.sipush 307, 3, 0, 0, 0) := by rfl
theorem t165_100 : zT 165 100 = some (.iload_n 1, 1, 0, 0, 0) := by rfl
theorem t165_101 : zT 165 101 = some (.iadd, 1, 0, 0, 0) := by rfl
theorem t165_102 : zT 165 102 = some (.bipush 6, 2, 0, 0, 0) := by rfl
theorem t165_104 : zT 165 104 = some (.isub, 1, 0, 0, 0) := by rfl
theorem t165_105 : zT 165 105 = some (.iaload, 1, 0, 0, 0) := by rfl
theorem t165_106 : zT 165 106 = some (.ireturn, 1, 0, 0, 0) := by rfl
theorem t165_107 : zT 165 107 = some (.aload_n 0, 1, 0, 0, 0) := by rfl
theorem t165_108 : zT 165 108 = some (.getfield 91, 3, 10, 8, 791) := by rfl
theorem t165_111 : zT 165 111 = some (.ireturn, 1, 0, 0, 0) := by rfl
theorem t165_112 : zT 165 112 = some (.aload_n 0, 1, 0, 0, 0) := by rfl
theorem t165_113 : zT 165 113 = some (.getfield 55, 3, 10, 4, 787) := by rfl
theorem t165_116 : zT 165 116 = some (.ireturn, 1, 0, 0, 0) := by rfl
theorem t165_117 : zT 165 117 = some (.bipush (-2), 2, 0, 0, 0) := by rfl
theorem t165_119 : zT 165 119 = some (.ireturn, 1, 0, 0, 0) := by rfl
theorem t166_0 : zT 166 0 = some (.iload_n 1, 1, 0, 0, 0) := by rfl
theorem t166_1 : zT 166 1 = some (.iconst 0, 1, 0, 0, 0) := by rfl
theorem t166_2 : zT 166 2 = some (.aload_n 0, 1, 0, 0, 0) := by rfl
theorem t166_3 : zT 166 3 = some (.getfield 7, 3, 10, 1, 784) := by rfl
theorem t166_6 : zT 166 6 = some (.sipush 308, 3, 0, 0, 0) := by rfl
theorem t166_9 : zT 166 9 = some (.iaload, 1, 0, 0, 0) := by rfl
theorem t166_10 : zT 166 10 = some (.iconst 1, 1, 0, 0, 0) := by rfl
theorem t166_11 : zT 166 11 = some (.isub, 1, 0, 0, 0) := by rfl
theorem t166_12 : zT 166 12 = some (.invokestatic 51, 3, 116, 0, 845) := by rfl
theorem t166_15 : zT 166 15 = some (.ireturn, 1, 0, 0, 0) := by rfl
theorem t167_0 : zT 167 0 = some (.aload_n 0, 1, 0, 0, 0) := by rfl
theorem t167_1 : zT 167 1 = some (.iconst 0, 1, 0, 0, 0) := by rfl
theorem t167_2 : zT 167 2 = some (.putfield 47, 3, 10, 0, 783) := by rfl
theorem t167_5 : zT 167 5 = some (.aload_n 0, 1, 0, 0, 0) := by rfl
theorem t167_6 : zT 167 6 = some (.iload_n 1, 1, 0, 0, 0) := by rfl
theorem t167_7 : zT 167 7 = some (.invokevirtual 176, 3, 166, 0, 1063) := by rfl
theorem t167_10 : zT 167 10 = some (.ifCond .ne 5, 3, 0, 0, 0) := by rfl
theorem t167_13 : zT 167 13 = some (.iconst (-1), 1, 0, 0, 0) := by rfl
theorem t167_14 : zT 167 14 = some (.ireturn, 1, 0, 0, 0) := by rfl
theorem t167_15 : zT 167 15 = some (.sipush 309, 3, 0, 0, 0) := by rfl
theorem t167_18 : zT 167 18 = some (.bipush 61, 2, 0, 0, 0) := by rfl
theorem t167_20 : zT 167 20 = some (.iload_n 1, 1, 0, 0, 0) := by rfl
theorem t167_21 : zT 167 21 = some (.imul, 1, 0, 0, 0) := by rfl
theorem t167_22 : zT 167 22 = some (.iadd, 1, 0, 0, 0) := by rfl
theorem t167_23 : zT 167 23 = some (.istore_n 3, 1, 0, 0, 0) := by rfl
theorem t167_24 : zT 167 24 = some (.iload_n 2, 1, 0, 0, 0) := by rfl
theorem t167_25 : zT 167 25 = some (.bipush (-6), 2, 0, 0, 0) := by rfl
theorem t167_27 : zT 167 27 = some (.if_icmp .ne 12, 3, 0, 0, 0) := by rfl
theorem t167_30 : zT 167 30 = some (.aload_n 0, 1, 0, 0, 0) := by rfl
theorem t167_31 : zT 167 31 = some (.getfield 7, 3, 10, 1, 784) := by rfl
theorem t167_34 : zT 167 34 = some (.iload_n 3, 1, 0, 0, 0) := by rfl
theorem t167_35 : zT 167 35 = some (.iaload, 1, 0, 0, 0) := by rfl
theorem t167_36 : zT 167 36 = some (.goto 33, 3, 0, 0, 0) := by rfl
theorem t167_39 : zT 167 39 = some (.iload_n 2, 1, 0, 0, 0) := by rfl
theorem t167_40 : zT 167 40 = some (.iconst 0, 1, 0, 0, 0) := by rfl
theorem t167_41 : zT 167 41 = some (.aload_n 0, 1, 0, 0, 0) := by rfl
theorem t167_42 : zT 167 42 = some (.getfield 7, 3, 10, 1, 784) := by rfl
theorem t167_45 : zT 167 45 = some (.iload_n 3, 1, 0, 0, 0) := by rfl
theorem t167_46 : zT 167 46 = some (.iaload, 1, 0, 0, 0) := by rfl
theorem t167_47 : zT 167 47 = some (.iconst 1, 1, 0, 0, 0) := by rfl
theorem t167_48 : zT 167 48 = some (.isub, 1, 0, 0, 0) := by rfl
theorem t167_49 : zT 167 49 = some (.invokestatic 51, 3, 116, 0, 845) := by rfl
theorem t167_52 : zT 167 52 = some (.ifCond .eq 16, 3, 0, 0, 0) := by rfl
theorem t167_55 : zT 167 55 = some (.aload_n 0, 1, 0, 0, 0) := by rfl
theorem t167_56 : zT 167 56 = some (.getfield 7, 3, 10, 1, 784) := by rfl
theorem t167_59 : zT 167 59 = some (.iload_n 3, 1, 0, 0, 0) := by rfl
theorem t167_60 : zT 167 60 = some (.iconst 1, 1, 0, 0, 0) := by rfl
theorem t167_61 : zT 167 61 = some (.iadd, 1, 0, 0, 0) := by rfl
theorem t167_62 : zT 167 62 = some (.iload_n 2, 1, 0, 0, 0) := by rfl
theorem t167_63 : zT 167 63 = some (.iadd, 1, 0, 0, 0) := by rfl
theorem t167_64 : zT 167 64 = some (.iaload, 1, 0, 0, 0) := by rfl
theorem t167_65 : zT 167 65 = some (.goto 4, 3, 0, 0, 0) := by rfl
theorem t167_68 : zT 167 68 = some (.iconst (-1), 1, 0, 0, 0) := by rfl
theorem t167_69 : zT 167 69 = some (.ireturn, 1, 0, 0, 0) := by rfl
theorem t168_0 : zT 168 0 = some (.iconst 0, 1, 0, 0, 0) := by rfl
theorem t168_1 : zT 168 1 = some (.istore_n 3, 1, 0, 0, 0) := by rfl
theorem t168_2 : zT 168 2 = some (.iload_n 3, 1, 0, 0, 0) := by rfl
theorem t168_3 : zT 168 3 = some (.aload_n 0, 1, 0, 0, 0) := by rfl
theorem t168_4 : zT 168 4 = some (.getfield 7, 3, 10, 1, 784) := by rfl
theorem t168_7 : zT 168 7 = some (.iload_n 2, 1, 0, 0, 0) := by rfl
theorem t168_8 : zT 168 8 = some (.iaload, 1, 0, 0, 0) := by rfl
theorem t168_9 : zT 168 9 = some (.if_icmp .gt 16, 3, 0, 0, 0) := by rfl
theorem t168_12 : zT 168 12 = some (.aload_n 0, 1, 0, 0, 0) := by rfl
theorem t168_13 : zT 168 13 = some (.getfield 38, 3, 10, 13, 796) := by rfl
theorem t168_16 : zT 168 16 = some (.iload_n 3, 1, 0, 0, 0) := by rfl
theorem t168_17 : zT 168 17 = some (.iload_n 3, 1, 0, 0, 0) := by rfl
theorem t168_18 : zT 168 18 = some (.iastore, 1, 0, 0, 0) := by rfl
theorem t168_19 : zT 168 19 = some (.iinc 3 1, 3, 0, 0, 0) := by rfl
theorem t168_22 : zT 168 22 = some (.goto (-20), 3, 0, 0, 0) := by rfl
theorem t168_25 : zT 168 25 = some (.iconst 1, 1, 0, 0, 0) := by rfl
theorem t168_26 : zT 168 26 = some (.istore_n 3, 1, 0, 0, 0) := by rfl
theorem t168_27 : zT 168 27 = some (.iload_n 3, 1, 0, 0, 0) := by rfl
theorem t168_28 : zT 168 28 = some (.aload_n 0, 1, 0, 0, 0) := by rfl
theorem t168_29 : zT 168 29 = some (.getfield 7, 3, 10, 1, 784) := by rfl
theorem t168_32 : zT 168 32 = some (.iload_n 1, 1, 0, 0, 0) := by rfl
theorem t168_33 : zT 168 33 = some (.iaload, 1, 0, 0, 0) := by rfl
theorem t168_34 : zT 168 34 = some (.if_icmp .gt 172, 3, 0, 0, 0) := by rfl
theorem t168_37 : zT 168 37 = some (.aload_n 0, 1, 0, 0, 0) := by rfl
theorem t168_38 : zT 168 38 = some (.getfield 41, 3, 10, 14, 797) := by rfl
theorem t168_41 : zT 168 41 = some (.iconst 0, 1, 0, 0, 0) := by rfl
theorem t168_42 : zT 168 42 = some (.iload_n 3, 1, 0, 0, 0) := by rfl
theorem t168_43 : zT 168 43 = some (.iastore, 1, 0, 0, 0) := by rfl
theorem t168_44 : zT 168 44 = some (.iconst 1, 1, 0, 0, 0) := by rfl
theorem t168_45 : zT 168 45 = some (.istore 4, 2, 0, 0, 0) := by rfl
theorem t168_47 : zT 168 47 = some (.iload 4, 2, 0, 0, 0) := by rfl
theorem t168_49 : zT 168 49 = some (.aload_n 0, 1, 0, 0, 0) := by rfl
theorem t168_50 : zT 168 50 = some (.getfield 7, 3, 10, 1, 784) := by rfl
theorem t168_53 : zT 168 53 = some (.iload_n 2, 1, 0, 0, 0) := by rfl
theorem t168_54 : zT 168 54 = some (.iaload, 1, 0, 0, 0) := by rfl
theorem t168_55 : zT 168 55 = some (.if_icmp .gt 111, 3, 0, 0, 0) := by rfl
theorem t168_58 : zT 168 58 = some (.aload_n 0, 1, 0, 0, 0) := by rfl
theorem t168_59 : zT 168 59 = some (.getfield 38, 3, 10, 13, 796) := by rfl
theorem t168_62 : zT 168 62 = some (.iload 4, 2, 0, 0, 0) := by rfl
theorem t168_64 : zT 168 64 = some (.iconst 1, 1, 0, 0, 0) := by rfl
theorem t168_65 : zT 168 65 = some (.isub, 1, 0, 0, 0) := by rfl
theorem t168_66 : zT 168 66 = some (.iaload, 1, 0, 0, 0) := by rfl
theorem t168_67 : zT 168 67 = some (.aload_n 0, 1, 0, 0, 0) := by rfl
theorem t168_68 : zT 168 68 = some (.getfield 7, 3, 10, 1, 784) := by rfl
theorem t168_71 : zT 168 71 = some (.iload_n 1, 1, 0, 0, 0) := by rfl
theorem t168_72 : zT 168 72 = some (.iload_n 3, 1, 0, 0, 0) := by rfl
theorem t168_73 : zT 168 73 = some (.iadd, 1, 0, 0, 0) := by rfl
theorem t168_74 : zT 168 74 = some (.iaload, 1, 0, 0, 0) := by rfl
theorem t168_75 : zT 168 75 = some (.aload_n 0, 1, 0, 0, 0) := by rfl
theorem t168_76 : zT 168 76 = some (.getfield 7, 3, 10, 1, 784) := by rfl
theorem t168_79 : zT 168 79 = some (.iload_n 2, 1, 0, 0, 0) := by rfl
theorem t168_80 : zT 168 80 = some (.iload 4, 2, 0, 0, 0) := by rfl
theorem t168_82 : zT 168 82 = some (.iadd, 1, 0, 0, 0) := by rfl
theorem t168_83 : zT 168 83 = some (.iaload, 1, 0, 0, 0) := by rfl
theorem t168_84 : zT 168 84 = some (.if_icmp .ne 7, 3, 0, 0, 0) := by rfl
theorem t168_87 : zT 168 87 = some (.iconst 0, 1, 0, 0, 0) := by rfl
theorem t168_88 : zT 168 88 = some (.goto 4, 3, 0, 0, 0) := by rfl
theorem t168_91 : zT 168 91 = some (.iconst 1, 1, 0, 0, 0) := by rfl
theorem t168_92 : zT 168 92 = some (.iadd, 1, 0, 0, 0) := by rfl
theorem t168_93 : zT 168 93 = some (.istore 5, 2, 0, 0, 0) := by rfl
theorem t168_95 : zT 168 95 = some (.aload_n 0, 1, 0, 0, 0) := by rfl
theorem t168_96 : zT 168 96 = some (.getfield 38, 3, 10, 13, 796) := by rfl
theorem t168_99 : zT 168 99 = some (.iload 4, 2, 0, 0, 0) := by rfl
theorem t168_101 : zT 168 101 = some (.iaload, 1, 0, 0, 0) := by rfl
theorem t168_102 : zT 168 102 = some (.aload_n 0, 1, 0, 0, 0) := by rfl
theorem t168_103 : zT 168 103 = some (.getfield 41, 3, 10, 14, 797) := by rfl
theorem t168_106 : zT 168 106 = some (.iload 4, 2, 0, 0, 0) := by rfl
theorem t168_108 : zT 168 108 = some (.iconst 1, 1, 0, 0, 0) := by rfl
theorem t168_109 : zT 168 109 = some (.isub, 1, 0, 0, 0) := by rfl
theorem t168_110 : zT 168 110 = some (.iaload, 1, 0, 0, 0) := by rfl
theorem t168_111 : zT 168 111 = some (.if_icmp .ge 15, 3, 0, 0, 0) := by rfl
theorem t168_114 : zT 168 114 = some (.aload_n 0, 1, 0, 0, 0) := by rfl
theorem t168_115 : zT 168 115 = some (.getfield 38, 3, 10, 13, 796) := by rfl
theorem t168_118 : zT 168 118 = some (.iload 4, 2, 0, 0, 0) := by rfl
theorem t168_120 : zT 168 120 = some (.iaload, 1, 0, 0, 0) := by rfl
theorem t168_121 : zT 168 121 = some (.iconst 1, 1, 0, 0, 0) := by rfl
theorem t168_122 : zT 168 122 = some (.iadd, 1, 0, 0, 0) := by rfl
theorem t168_123 : zT 168 123 = some (.goto 14, 3, 0, 0, 0) := by rfl
theorem t168_126 : zT 168 126 = some (.aload_n 0, 1, 0, 0, 0) := by rfl
theorem t168_127 : zT 168 127 = some (.getfield 41, 3, 10, 14, 797) := by rfl
theorem t168_130 : zT 168 130 = some (.iload 4, 2, 0, 0, 0) := by rfl
theorem t168_132 : zT 168 132 = some (.iconst 1, 1, 0, 0, 0) := by rfl
theorem t168_133 : zT 168 133 = some (.isub, 1, 0, 0, 0) := by rfl
theorem t168_134 : zT 168 134 = some (.iaload, 1, 0, 0, 0) := by rfl
theorem t168_135 : zT 168 135 = some (.iconst 1, 1, 0, 0, 0) := by rfl
theorem t168_136 : zT 168 136 = some (.iadd, 1, 0, 0, 0) := by rfl
theorem t168_137 : zT 168 137 = some (.istore 6, 2, 0, 0, 0) := by rfl
theorem t168_139 : zT 168 139 = some (.aload_n 0, 1, 0, 0, 0) := by rfl
theorem t168_140 : zT 168 140 = some (.getfield 41, 3, 10, 14, 797) := by rfl
theorem t168_143 : zT 168 143 = some (.iload 4, 2, 0, 0, 0) := by rfl
theorem t168_145 : zT 168 145 = some (.iload 5, 2, 0, 0, 0) := by rfl
theorem t168_147 : zT 168 147 = some (.iload 6, 2, 0, 0, 0) := by rfl
theorem t168_149 : zT 168 149 = some (.if_icmp .ge 8, 3, 0, 0, 0) := by rfl
theorem t168_152 : zT 168 152 = some (.iload 5, 2, 0, 0, 0) := by rfl
theorem t168_154 : zT 168 154 = some (.goto 5, 3, 0, 0, 0) := by rfl
theorem t168_157 : zT 168 157 = some (.iload 6, 2, 0, 0, 0) := by rfl
theorem t168_159 : zT 168 159 = some (.iastore, 1, 0, 0, 0) := by rfl
theorem t168_160 : zT 168 160 = some (.iinc 4 1, 3, 0, 0, 0) := by rfl
theorem t168_163 : zT 168 163 = some (.goto (-116), 3, 0, 0, 0) := by rfl
theorem t168_166 : zT 168 166 = some (.iconst 0, 1, 0, 0, 0) := by rfl
theorem t168_167 : zT 168 167 = some (.istore 4, 2, 0, 0, 0) := by rfl
theorem t168_169 : zT 168 169 = some (.iload 4, 2, 0, 0, 0) := by rfl
theorem t168_171 : zT 168 171 = some (.aload_n 0, 1, 0, 0, 0) := by rfl
theorem t168_172 : zT 168 172 = some (.getfield 7, 3, 10, 1, 784) := by rfl
theorem t168_175 : zT 168 175 = some (.iload_n 2, 1, 0, 0, 0) := by rfl
theorem t168_176 : zT 168 176 = some (.iaload, 1, 0, 0, 0) := by rfl
theorem t168_177 : zT 168 177 = some (.if_icmp .gt 23, 3, 0, 0, 0) := by rfl
theorem t168_180 : zT 168 180 = some (.aload_n 0, 1, 0, 0, 0) := by rfl
theorem t168_181 : zT 168 181 = some (.getfield 38, 3, 10, 13, 796) := by rfl
theorem t168_184 : zT 168 184 = some (.iload 4, 2, 0, 0, 0) := by rfl
theorem t168_186 : zT 168 186 = some (.aload_n 0, 1, 0, 0, 0) := by rfl
theorem t168_187 : zT 168 187 = some (.getfield 41, 3, 10, 14, 797) := by rfl
theorem t168_190 : zT 168 190 = some (.iload 4, 2, 0, 0, 0) := by rfl
theorem t168_192 : zT 168 192 = some (.iaload, 1, 0, 0, 0) := by rfl
theorem t168_193 : zT 168 193 = some (.iastore, 1, 0, 0, 0) := by rfl
theorem t168_194 : zT 168 194 = some (.iinc 4 1, 3, 0, 0, 0) := by rfl
theorem t168_197 : zT 168 197 = some (.goto (-28), 3, 0, 0, 0) := by rfl
theorem t168_200 : zT 168 200 = some (.iinc 3 1, 3, 0, 0, 0) := by rfl
theorem t168_203 : zT 168 203 = some (.goto (-176), 3, 0, 0, 0) := by rfl
theorem t168_206 : zT 168 206 = some (.aload_n 0, 1, 0, 0, 0) := by rfl
theorem t168_207 : zT 168 207 = some (.getfield 38, 3, 10, 13, 796) := by rfl
theorem t168_210 : zT 168 210 = some (.aload_n 0, 1, 0, 0, 0) := by rfl
theorem t168_211 : zT 168 211 = some (.getfield 7, 3, 10, 1, 784) := by rfl
theorem t168_214 : zT 168 214 = some (.iload_n 2, 1, 0, 0, 0) := by rfl
theorem t168_215 : zT 168 215 = some (.iaload, 1, 0, 0, 0) := by rfl
theorem t168_216 : zT 168 216 = some (.iaload, 1, 0, 0, 0) := by rfl
theorem t168_217 : zT 168 217 = some (.ireturn, 1, 0, 0, 0) := by rfl
theorem t169_0 : zT 169 0 = some (.aload_n 0, 1, 0, 0, 0) := by rfl
theorem t169_1 : zT 169 1 = some (.iconst 0, 1, 0, 0, 0) := by rfl
theorem t169_2 : zT 169 2 = some (.putfield 47, 3, 10, 0, 783) := by rfl
theorem t169_5 : zT 169 5 = some (.aload_n 0, 1, 0, 0, 0) := by rfl
theorem t169_6 : zT 169 6 = some (.iload_n 1, 1, 0, 0, 0) := by rfl
theorem t169_7 : zT 169 7 = some (.invokevirtual 176, 3, 166, 0, 1063) := by rfl
theorem t169_10 : zT 169 10 = some (.ifCond .eq 34, 3, 0, 0, 0) := by rfl
theorem t169_13 : zT 169 13 = some (.aload_n 0, 1, 0, 0, 0) := by rfl
theorem t169_14 : zT 169 14 = some (.iload_n 2, 1, 0, 0, 0) := by rfl
theorem t169_15 : zT 169 15 = some (.invokevirtual 176, 3, 166, 0, 1063) := by rfl
theorem t169_18 : zT 169 18 = some (.ifCond .eq 26, 3, 0, 0, 0) := by rfl
theorem t169_21 : zT 169 21 = some (.aload_n 0, 1, 0, 0, 0) := by rfl
theorem t169_22 : zT 169 22 = some (.sipush 309, 3, 0, 0, 0) := by rfl
theorem t169_25 : zT 169 25 = some (.bipush 61, 2, 0, 0, 0) := by rfl
theorem t169_27 : zT 169 27 = some (.iload_n 1, 1, 0, 0, 0) := by rfl
theorem t169_28 : zT 169 28 = some (.imul, 1, 0, 0, 0) := by rfl
theorem t169_29 : zT 169 29 = some (.iadd, 1, 0, 0, 0) := by rfl
theorem t169_30 : zT 169 30 = some (.sipush 309, 3, 0, 0, 0) := by rfl
theorem t169_33 : zT 169 33 = some (.bipush 61, 2, 0, 0, 0) := by rfl
theorem t169_35 : zT 169 35 = some (.iload_n 2, 1, 0, 0, 0) := by rfl
theorem t169_36 : zT 169 36 = some (.imul, 1, 0, 0, 0) := by rfl
theorem t169_37 : zT 169 37 = some (.iadd, 1, 0, 0, 0) := by rfl
theorem t169_38 : zT 169 38 = some (.invokevirtual 179, 3, 168, 0, 1071) := by rfl
theorem t169_41 : zT 169 41 = some (.goto 4, 3, 0, 0, 0) := by rfl
theorem t169_44 : zT 169 44 = some (.iconst (-1), 1, 0, 0, 0) := by rfl
theorem t169_45 : zT 169 45 = some (.ireturn, 1, 0, 0, 0) := by rfl
theorem t170_0 : zT 170 0 = some (.aload_n 0, 1, 0, 0, 0) := by rfl
theorem t170_1 : zT 170 1 = some (.iconst 0, 1, 0, 0, 0) := by rfl
theorem t170_2 : zT 170 2 = some (.putfield 47, 3, 10, 0, 783) := by rfl
theorem t170_5 : zT 170 5 = some (.aload_n 0, 1, 0, 0, 0) := by rfl
theorem t170_6 : zT 170 6 = some (.iload_n 1, 1, 0, 0, 0) := by rfl
theorem t170_7 : zT 170 7 = some (.invokevirtual 130, 3, 119, 0, 927) := by rfl
theorem t170_10 : zT 170 10 = some (.ifCond .ne 5, 3, 0, 0, 0) := by rfl
theorem t170_13 : zT 170 13 = some (.iconst (-1), 1, 0, 0, 0) := by rfl
theorem t170_14 : zT 170 14 = some (.ireturn, 1, 0, 0, 0) := by rfl
theorem t170_15 : zT 170 15 = some (.iload_n 2, 1, 0, 0, 0) := by rfl
theorem t170_16 : zT 170 16 = some (.iconst 0, 1, 0, 0, 0) := by rfl
theorem t170_17 : zT 170 17 = some (.iconst 1, 1, 0, 0, 0) := by rfl
theorem t170_18 : zT 170 18 = some (.invokestatic 51, 3, 116, 0, 845) := by rfl
theorem t170_21 : zT 170 21 = some (.ifCond .ne 6, 3, 0, 0, 0) := by rfl
theorem t170_24 : zT 170 24 = some (.bipush (-2), 2, 0, 0, 0) := by rfl
theorem t170_26 : zT 170 26 = some (.ireturn, 1, 0, 0, 0) := by rfl
theorem t170_27 : zT 170 27 = some (.aload_n 0, 1, 0, 0, 0) := by rfl
theorem t170_28 : zT 170 28 = some (.iload_n 1, 1, 0, 0, 0) := by rfl
theorem t170_29 : zT 170 29 = some (.iconst 5, 1, 0, 0, 0) := by rfl
theorem t170_30 : zT 170 30 = some (.invokevirtual 58, 3, 117, 0, 903) := by rfl
theorem t170_33 : zT 170 33 = some (.ifCond .ne 12, 3, 0, 0, 0) := by rfl
theorem t170_36 : zT 170 36 = some (.aload_n 0, 1, 0, 0, 0) := by rfl
theorem t170_37 : zT 170 37 = some (.iload_n 1, 1, 0, 0, 0) := by rfl
theorem t170_38 : zT 170 38 = some (.iconst 1, 1, 0, 0, 0) := by rfl
theorem t170_39 : zT 170 39 = some (.invokevirtual 124, 3, 126, 0, 935) := by rfl
theorem t170_42 : zT 170 42 = some (.ifCond .le 6, 3, 0, 0, 0) := by rfl
theorem t170_45 : zT 170 45 = some (.bipush (-5), 2, 0, 0, 0) := by rfl
theorem t170_47 : zT 170 47 = some (.ireturn, 1, 0, 0, 0) := by rfl
theorem t170_48 : zT 170 48 = some (.iload_n 2, 1, 0, 0, 0) := by rfl
theorem t170_49 : zT 170 49 = some (.ifCond .ne 12, 3, 0, 0, 0) := by rfl
theorem t170_52 : zT 170 52 = some (.aload_n 0, 1, 0, 0, 0) := by rfl
theorem t170_53 : zT 170 53 = some (.iload_n 1, 1, 0, 0, 0) := by rfl
theorem t170_54 : zT 170 54 = some (.iconst 0, 1, 0, 0, 0) := by rfl
theorem t170_55 : zT 170 55 = some (.invokevirtual 124, 3, 126, 0, 935) := by rfl
theorem t170_58 : zT 170 58 = some (.goto 13, 3, 0, 0, 0) := by rfl
theorem t170_61 : zT 170 61 = some (.aload_n 0, 1, 0, 0, 0) := by rfl
theorem t170_62 : zT 170 62 = some (.invokevirtual 127, 3, 128, 0, 939) := by rfl
theorem t170_65 : zT 170 65 = some (.aload_n 0, 1, 0, 0, 0) := by rfl
theorem t170_66 : zT 170 66 = some (.iload_n 1, 1, 0, 0, 0) := by rfl
theorem t170_67 : zT 170 67 = some (.invokevirtual 66, 3, 127, 0, 943) := by rfl
theorem t170_70 : zT 170 70 = some (.iadd, 1, 0, 0, 0) := by rfl
theorem t170_71 : zT 170 71 = some (.ireturn, 1, 0, 0, 0) := by rfl
theorem t171_0 : zT 171 0 = some (.aload_n 0, 1, 0, 0, 0) := by rfl
theorem t171_1 : zT 171 1 = some (.iconst 0, 1, 0, 0, 0) := by rfl
theorem t171_2 : zT 171 2 = some (.putfield 47, 3, 10, 0, 783) := by rfl
theorem t171_5 : zT 171 5 = some (.iload_n 1, 1, 0, 0, 0) := by rfl
theorem t171_6 : zT 171 6 = some (.iconst 0, 1, 0, 0, 0) := by rfl
theorem t171_7 : zT 171 7 = some (.iconst 5, 1, 0, 0, 0) := by rfl
theorem t171_8 : zT 171 8 = some (.invokestatic 51, 3, 116, 0, 845) := by rfl
theorem t171_11 : zT 171 11 = some (.ifCond .ne 6, 3, 0, 0, 0) := by rfl
theorem t171_14 : zT 171 14 = some (.bipush (-2), 2, 0, 0, 0) := by rfl
theorem t171_16 : zT 171 16 = some (.ireturn, 1, 0, 0, 0) := by rfl
theorem t171_17 : zT 171 17 = some (.aload_n 0, 1, 0, 0, 0) := by rfl
theorem t171_18 : zT 171 18 = some (.invokevirtual 182, 3, 122, 0, 1083) := by rfl
theorem t171_21 : zT 171 21 = some (.iload_n 1, 1, 0, 0, 0) := by rfl
theorem t171_22 : zT 171 22 = some (.iconst 5, 1, 0, 0, 0) := by rfl
theorem t171_23 : zT 171 23 = some (.if_icmp .ge 12, 3, 0, 0, 0) := by rfl
theorem t171_26 : zT 171 26 = some (.aload_n 0, 1, 0, 0, 0) := by rfl
theorem t171_27 : zT 171 27 = some (.iload_n 1, 1, 0, 0, 0) := by rfl
theorem t171_28 : zT 171 28 = some (.iconst 4, 1, 0, 0, 0) := by rfl
theorem t171_29 : zT 171 29 = some (.invokevirtual 170, 3, 162, 0, 1047) := by rfl
theorem t171_32 : zT 171 32 = some (.goto 4, 3, 0, 0, 0) := by rfl
theorem t171_35 : zT 171 35 = some (.iconst 0, 1, 0, 0, 0) := by rfl
theorem t171_36 : zT 171 36 = some (.istore_n 2, 1, 0, 0, 0) := by rfl
theorem t171_37 : zT 171 37 = some (.aload_n 0, 1, 0, 0, 0) := by rfl
theorem t171_38 : zT 171 38 = some (.invokevirtual 148, 3, 152, 0, 971) := by rfl
theorem t171_41 : zT 171 41 = some (.pop, 1, 0, 0, 0) := by rfl
theorem t171_42 : zT 171 42 = some (.iload_n 1, 1, 0, 0, 0) := by rfl
theorem t171_43 : zT 171 43 = some (.iconst 5, 1, 0, 0, 0) := by rfl
theorem t171_44 : zT 171 44 = some (.if_icmp .ge 14, 3, 0, 0, 0) := by rfl
theorem t171_47 : zT 171 47 = some (.aload_n 0, 1, 0, 0, 0) := by rfl
theorem t171_48 : zT 171 48 = some (.iload_n 1, 1, 0, 0, 0) := by rfl
theorem t171_49 : zT 171 49 = some (.iconst 4, 1, 0, 0, 0) := by rfl
theorem t171_50 : zT 171 50 = some (.invokevirtual 170, 3, 162, 0, 1047) := by rfl
theorem t171_53 : zT 171 53 = some (.iload_n 2, 1, 0, 0, 0) := by rfl
theorem t171_54 : zT 171 54 = some (.isub, 1, 0, 0, 0) := by rfl
theorem t171_55 : zT 171 55 = some (.goto 7, 3, 0, 0, 0) := by rfl
theorem t171_58 : zT 171 58 = some (.aload_n 0, 1, 0, 0, 0) := by rfl
theorem t171_59 : zT 171 59 = some (.invokevirtual 127, 3, 128, 0, 939) := by rfl
theorem t171_62 : zT 171 62 = some (.istore_n 3, 1, 0, 0, 0) := by rfl
theorem t171_63 : zT 171 63 = some (.aload_n 0, 1, 0, 0, 0) := by rfl
theorem t171_64 : zT 171 64 = some (.invokevirtual 185, 3, 123, 0, 1087) := by rfl
theorem t171_67 : zT 171 67 = some (.iload_n 3, 1, 0, 0, 0) := by rfl
theorem t171_68 : zT 171 68 = some (.ireturn, 1, 0, 0, 0) := by rfl
/-! X10_accept FiveInksModel.accept -/
theorem k146_0 {X : Nat × (Nat → Int32)} {I : Nat → Nat → Int32} {v1 : Int32}  : zr X 146 0 [.ref 160, .int v1] [] (zk I) = zcb (zr X 119 0 [.ref 160, .int v1] [] (zk (zs1 I 160 0 0))) (fun v m1 => zr X 146 10 [.ref 160, .int v1] (v.toList ++ []) m1) :=
  (zr_aload_n t146_0 rfl).trans <|
    (zr_iconst t146_1 zci_0).trans <|
    (zr_putI t146_2 (rfl) (Or.inl rfl)).trans <|
    (zr_aload_n t146_5 rfl).trans <|
    (zr_iload_n t146_6 rfl).trans <|
    zr_callv t146_7 rfl rfl rfl rfl
theorem k146_10 {X : Nat × (Nat → Int32)} {I : Nat → Nat → Int32} {v1 : Int32} {s0 : Int32}  : zr X 146 10 [.ref 160, .int v1] [.int s0] (zk I) = if ¬ s0 = 0 then zr X 146 15 [.ref 160, .int v1] [] (zk I) else zr X 146 13 [.ref 160, .int v1] [] (zk I) :=
  zr_if_ne (tgt := 15) t146_10 rfl
theorem k146_13 {X : Nat × (Nat → Int32)} {I : Nat → Nat → Int32} {v1 : Int32}  : zr X 146 13 [.ref 160, .int v1] [] (zk I) = some (some (.int (-1)), zk I) :=
  (zr_iconst t146_13 zci_m1).trans <|
    zr_iret t146_14 rfl
theorem k146_15 {X : Nat × (Nat → Int32)} {I : Nat → Nat → Int32} {v1 : Int32}  : zr X 146 15 [.ref 160, .int v1] [] (zk I) = zcb (zr X 144 0 [.ref 160, .int v1] [] (zk I)) (fun v m1 => zr X 146 20 [.ref 160, .int v1] (v.toList ++ []) m1) :=
  (zr_aload_n t146_15 rfl).trans <|
    (zr_iload_n t146_16 rfl).trans <|
    zr_callv t146_17 rfl rfl rfl rfl
theorem k146_20 {X : Nat × (Nat → Int32)} {I : Nat → Nat → Int32} {v1 : Int32} {s0 : Int32}  : zr X 146 20 [.ref 160, .int v1] [.int s0] (zk I) = if ¬ s0 = 0 then zr X 146 26 [.ref 160, .int v1] [] (zk I) else zr X 146 23 [.ref 160, .int v1] [] (zk I) :=
  zr_if_ne (tgt := 26) t146_20 rfl
theorem k146_23 {X : Nat × (Nat → Int32)} {I : Nat → Nat → Int32} {v1 : Int32}  : zr X 146 23 [.ref 160, .int v1] [] (zk I) = some (some (.int (-5)), zk I) :=
  (zr_bipush t146_23 zcb_m5).trans <|
    zr_iret t146_25 rfl
theorem k146_26 {X : Nat × (Nat → Int32)} {I : Nat → Nat → Int32} {v1 : Int32}  : zr X 146 26 [.ref 160, .int v1] [] (zk I) = zcb (zr X 121 0 [.ref 160, .null] [] (zk I)) (fun v m1 => zr X 146 30 [.ref 160, .int v1] (v.toList ++ []) m1) :=
  (zr_aload_n t146_26 rfl).trans <|
    zr_callv t146_27 rfl rfl rfl rfl
theorem k146_30 {X : Nat × (Nat → Int32)} {I : Nat → Nat → Int32} {v1 : Int32}  : zr X 146 30 [.ref 160, .int v1] [] (zk I) = zcb (zr X 145 0 [.ref 160, .int v1, .null, .null] [] (zk I)) (fun v m1 => zr X 146 35 [.ref 160, .int v1] (v.toList ++ []) m1) :=
  (zr_aload_n t146_30 rfl).trans <|
    (zr_iload_n t146_31 rfl).trans <|
    zr_callv t146_32 rfl rfl rfl rfl
theorem k146_35 {X : Nat × (Nat → Int32)} {I : Nat → Nat → Int32} {v1 : Int32} {s0 : Int32}  : zr X 146 35 [.ref 160, .int v1] [.int s0] (zk I) = some (some (.int s0), zk I) :=
  zr_iret t146_35 rfl
/-! X10_withHow FiveInksModel.withHow -/
theorem k147_0 {X : Nat × (Nat → Int32)} {I : Nat → Nat → Int32} {v1 : Int32}  : zr X 147 0 [.ref 160, .int v1, .null, .null] [] (zk I) = zr X 147 4 [.ref 160, .int v1, .int 0, .int 0] [] (zk I) :=
  (zr_iconst t147_0 zci_0).trans <|
    (zr_istore_n t147_1 rfl rfl).trans <|
    (zr_iconst t147_2 zci_0).trans <|
    zr_istore_n t147_3 rfl rfl
theorem k147_4 {X : Nat × (Nat → Int32)} {I : Nat → Nat → Int32} {v1 : Int32} {v2 : Int32} {v3 : Int32}  : zr X 147 4 [.ref 160, .int v1, .int v2, .int v3] [] (zk I) = if (I 161 66) ≤ v3 then zr X 147 39 [.ref 160, .int v1, .int v2, .int v3] [] (zk I) else zr X 147 15 [.ref 160, .int v1, .int v2, .int v3] [] (zk I) :=
  (zr_iload_n t147_4 rfl).trans <|
    (zr_aload_n t147_5 rfl).trans <|
    (zr_getR (u := 161) t147_6 (rfl)).trans <|
    (zr_bipush t147_9 zcb_66).trans <|
    (zr_iald (j := 66) t147_11 (N := 675) rfl (by decide) (by decide)).trans <|
    zr_ic_ge (tgt := 39) t147_12 rfl
theorem k147_15 {X : Nat × (Nat → Int32)} {I : Nat → Nat → Int32} {v1 : Int32} {v2 : Int32} {v3 : Int32}  : zr X 147 15 [.ref 160, .int v1, .int v2, .int v3] [] (zk I) = zcb (zr X 117 0 [.ref 160, .int v3, .int 5] [] (zk I)) (fun v m1 => zr X 147 22 [.ref 160, .int v1, .int v2, .int v3] (v.toList ++ [.int v2]) m1) :=
  (zr_iload_n t147_15 rfl).trans <|
    (zr_aload_n t147_16 rfl).trans <|
    (zr_iload_n t147_17 rfl).trans <|
    (zr_iconst t147_18 zci_5).trans <|
    zr_callv t147_19 rfl rfl rfl rfl
theorem k147_22 {X : Nat × (Nat → Int32)} {I : Nat → Nat → Int32} {v1 : Int32} {v2 : Int32} {v3 : Int32} {s0 : Int32} {s1 : Int32}  : zr X 147 22 [.ref 160, .int v1, .int v2, .int v3] [.int s1, .int s0] (zk I) = if ¬ s1 = v1 then zr X 147 30 [.ref 160, .int v1, .int v2, .int v3] [.int s0] (zk I) else zr X 147 26 [.ref 160, .int v1, .int v2, .int v3] [.int s0] (zk I) :=
  (zr_iload_n t147_22 rfl).trans <|
    zr_ic_ne (tgt := 30) t147_23 rfl
theorem k147_26 {X : Nat × (Nat → Int32)} {I : Nat → Nat → Int32} {v1 : Int32} {v2 : Int32} {v3 : Int32} {s0 : Int32}  : zr X 147 26 [.ref 160, .int v1, .int v2, .int v3] [.int s0] (zk I) = zr X 147 4 [.ref 160, .int v1, .int (s0 + 1), .int (v3 + 1)] [] (zk I) :=
  (zr_iconst t147_26 zci_1).trans <|
    (zr_goto (tgt := 31) t147_27 rfl).trans <|
    (zr_iadd t147_31).trans <|
    (zr_istore_n t147_32 rfl rfl).trans <|
    (zr_iinc t147_33 rfl rfl (congrArg (fun z => v3 + z) zci_1) rfl).trans <|
    zr_goto (tgt := 4) t147_36 rfl
theorem k147_30 {X : Nat × (Nat → Int32)} {I : Nat → Nat → Int32} {v1 : Int32} {v2 : Int32} {v3 : Int32} {s0 : Int32}  : zr X 147 30 [.ref 160, .int v1, .int v2, .int v3] [.int s0] (zk I) = zr X 147 4 [.ref 160, .int v1, .int (s0 + 0), .int (v3 + 1)] [] (zk I) :=
  (zr_iconst t147_30 zci_0).trans <|
    (zr_iadd t147_31).trans <|
    (zr_istore_n t147_32 rfl rfl).trans <|
    (zr_iinc t147_33 rfl rfl (congrArg (fun z => v3 + z) zci_1) rfl).trans <|
    zr_goto (tgt := 4) t147_36 rfl
theorem k147_39 {X : Nat × (Nat → Int32)} {I : Nat → Nat → Int32} {v1 : Int32} {v2 : Int32} {v3 : Int32}  : zr X 147 39 [.ref 160, .int v1, .int v2, .int v3] [] (zk I) = some (some (.int v2), zk I) :=
  (zr_iload_n t147_39 rfl).trans <|
    zr_iret t147_40 rfl
/-! X10_refuse FiveInksModel.refuse -/
theorem k148_0 {X : Nat × (Nat → Int32)} {I : Nat → Nat → Int32} {v1 : Int32}  : zr X 148 0 [.ref 160, .int v1] [] (zk I) = zcb (zr X 119 0 [.ref 160, .int v1] [] (zk (zs1 I 160 0 0))) (fun v m1 => zr X 148 10 [.ref 160, .int v1] (v.toList ++ []) m1) :=
  (zr_aload_n t148_0 rfl).trans <|
    (zr_iconst t148_1 zci_0).trans <|
    (zr_putI t148_2 (rfl) (Or.inl rfl)).trans <|
    (zr_aload_n t148_5 rfl).trans <|
    (zr_iload_n t148_6 rfl).trans <|
    zr_callv t148_7 rfl rfl rfl rfl
theorem k148_10 {X : Nat × (Nat → Int32)} {I : Nat → Nat → Int32} {v1 : Int32} {s0 : Int32}  : zr X 148 10 [.ref 160, .int v1] [.int s0] (zk I) = if ¬ s0 = 0 then zr X 148 15 [.ref 160, .int v1] [] (zk I) else zr X 148 13 [.ref 160, .int v1] [] (zk I) :=
  zr_if_ne (tgt := 15) t148_10 rfl
theorem k148_13 {X : Nat × (Nat → Int32)} {I : Nat → Nat → Int32} {v1 : Int32}  : zr X 148 13 [.ref 160, .int v1] [] (zk I) = some (some (.int (-1)), zk I) :=
  (zr_iconst t148_13 zci_m1).trans <|
    zr_iret t148_14 rfl
theorem k148_15 {X : Nat × (Nat → Int32)} {I : Nat → Nat → Int32} {v1 : Int32}  : zr X 148 15 [.ref 160, .int v1] [] (zk I) = zcb (zr X 117 0 [.ref 160, .int v1, .int 5] [] (zk I)) (fun v m1 => zr X 148 21 [.ref 160, .int v1] (v.toList ++ []) m1) :=
  (zr_aload_n t148_15 rfl).trans <|
    (zr_iload_n t148_16 rfl).trans <|
    (zr_iconst t148_17 zci_5).trans <|
    zr_callv t148_18 rfl rfl rfl rfl
theorem k148_21 {X : Nat × (Nat → Int32)} {I : Nat → Nat → Int32} {v1 : Int32} {s0 : Int32}  : zr X 148 21 [.ref 160, .int v1] [.int s0] (zk I) = if s0 = 0 then zr X 148 27 [.ref 160, .int v1] [] (zk I) else zr X 148 24 [.ref 160, .int v1] [] (zk I) :=
  zr_if_eq (tgt := 27) t148_21 rfl
theorem k148_24 {X : Nat × (Nat → Int32)} {I : Nat → Nat → Int32} {v1 : Int32}  : zr X 148 24 [.ref 160, .int v1] [] (zk I) = some (some (.int (-5)), zk I) :=
  (zr_bipush t148_24 zcb_m5).trans <|
    zr_iret t148_26 rfl
theorem k148_27 {X : Nat × (Nat → Int32)} {I : Nat → Nat → Int32} {v1 : Int32}  : zr X 148 27 [.ref 160, .int v1] [] (zk I) = zcb (zr X 121 0 [.ref 160, .null] [] (zk I)) (fun v m1 => zr X 148 31 [.ref 160, .int v1] (v.toList ++ []) m1) :=
  (zr_aload_n t148_27 rfl).trans <|
    zr_callv t148_28 rfl rfl rfl rfl
theorem k148_31 {X : Nat × (Nat → Int32)} {I : Nat → Nat → Int32} {v1 : Int32}  : zr X 148 31 [.ref 160, .int v1] [] (zk I) = zcb (zr X 118 0 [.ref 160, .int v1, .int 5, .int 2] [] (zk I)) (fun v m1 => zr X 148 38 [.ref 160, .int v1] (v.toList ++ []) m1) :=
  (zr_aload_n t148_31 rfl).trans <|
    (zr_iload_n t148_32 rfl).trans <|
    (zr_iconst t148_33 zci_5).trans <|
    (zr_iconst t148_34 zci_2).trans <|
    zr_callv t148_35 rfl rfl rfl rfl
theorem k148_38 {X : Nat × (Nat → Int32)} {I : Nat → Nat → Int32} {v1 : Int32}  : zr X 148 38 [.ref 160, .int v1] [] (zk I) = zcb (zr X 147 0 [.ref 160, .int 0, .null, .null] [] (zk I)) (fun v m1 => zr X 148 43 [.ref 160, .int v1] (v.toList ++ []) m1) :=
  (zr_aload_n t148_38 rfl).trans <|
    (zr_iconst t148_39 zci_0).trans <|
    zr_callv t148_40 rfl rfl rfl rfl
theorem k148_43 {X : Nat × (Nat → Int32)} {I : Nat → Nat → Int32} {v1 : Int32} {s0 : Int32}  : zr X 148 43 [.ref 160, .int v1] [.int s0] (zk I) = some (some (.int s0), zk I) :=
  zr_iret t148_43 rfl
/-! X10_drops FiveInksModel.drops -/
theorem k149_0 {X : Nat × (Nat → Int32)} {I : Nat → Nat → Int32} {v1 : Int32}  : zr X 149 0 [.ref 160, .int v1, .null] [] (zk I) = zr X 149 16 [.ref 160, .int v1, .int (12 * v1)] [] (zk (zs1 I 161 66 ((I 161 66) - 1))) :=
  (zr_aload_n t149_0 rfl).trans <|
    (zr_getR (u := 161) t149_1 (rfl)).trans <|
    (zr_bipush t149_4 zcb_66).trans <|
    (zr_dup2 t149_6 ⟨rfl, rfl⟩).trans <|
    (zr_iald (j := 66) t149_7 (N := 675) rfl (by decide) (by decide)).trans <|
    (zr_iconst t149_8 zci_1).trans <|
    (zr_isub t149_9).trans <|
    (zr_iast (j := 66) t149_10 (N := 675) rfl (by decide) (by decide)).trans <|
    (zr_bipush t149_11 zcb_12).trans <|
    (zr_iload_n t149_13 rfl).trans <|
    (zr_imul t149_14).trans <|
    zr_istore_n t149_15 rfl rfl
theorem k149_16 {X : Nat × (Nat → Int32)} {I : Nat → Nat → Int32} {v1 : Int32} {v2 : Int32}  : zr X 149 16 [.ref 160, .int v1, .int v2] [] (zk I) = if (12 * (I 161 66)) ≤ v2 then zr X 149 57 [.ref 160, .int v1, .int v2] [] (zk I) else zr X 149 30 [.ref 160, .int v1, .int v2] [] (zk I) :=
  (zr_iload_n t149_16 rfl).trans <|
    (zr_bipush t149_17 zcb_12).trans <|
    (zr_aload_n t149_19 rfl).trans <|
    (zr_getR (u := 161) t149_20 (rfl)).trans <|
    (zr_bipush t149_23 zcb_66).trans <|
    (zr_iald (j := 66) t149_25 (N := 675) rfl (by decide) (by decide)).trans <|
    (zr_imul t149_26).trans <|
    zr_ic_ge (tgt := 57) t149_27 rfl
theorem k149_30 {X : Nat × (Nat → Int32)} {I : Nat → Nat → Int32} {v1 : Int32} {v2 : Int32} (q1 : zin ((67 + v2) + 12) 675 = true) (q2 : zin (67 + v2) 675 = true) : zr X 149 30 [.ref 160, .int v1, .int v2] [] (zk I) = zr X 149 16 [.ref 160, .int v1, .int (v2 + 1)] [] (zk (zs1 I 161 (zx (67 + v2)) (I 161 (zx ((67 + v2) + 12))))) :=
  (zr_aload_n t149_30 rfl).trans <|
    (zr_getR (u := 161) t149_31 (rfl)).trans <|
    (zr_bipush t149_34 zcb_67).trans <|
    (zr_iload_n t149_36 rfl).trans <|
    (zr_iadd t149_37).trans <|
    (zr_aload_n t149_38 rfl).trans <|
    (zr_getR (u := 161) t149_39 (rfl)).trans <|
    (zr_bipush t149_42 zcb_67).trans <|
    (zr_iload_n t149_44 rfl).trans <|
    (zr_iadd t149_45).trans <|
    (zr_bipush t149_46 zcb_12).trans <|
    (zr_iadd t149_48).trans <|
    (zr_iald (j := zx ((67 + v2) + 12)) t149_49 (N := 675) rfl rfl q1).trans <|
    (zr_iast (j := zx (67 + v2)) t149_50 (N := 675) rfl rfl q2).trans <|
    (zr_iinc t149_51 rfl rfl (congrArg (fun z => v2 + z) zci_1) rfl).trans <|
    zr_goto (tgt := 16) t149_54 rfl
theorem k149_57 {X : Nat × (Nat → Int32)} {I : Nat → Nat → Int32} {v1 : Int32} {v2 : Int32}  : zr X 149 57 [.ref 160, .int v1, .int v2] [] (zk I) = zcb (zr X 139 0 [.ref 160, .int (I 161 66), .null] [] (zk I)) (fun v m1 => zr X 149 68 [.ref 160, .int v1, .int v2] (v.toList ++ []) m1) :=
  (zr_aload_n t149_57 rfl).trans <|
    (zr_aload_n t149_58 rfl).trans <|
    (zr_getR (u := 161) t149_59 (rfl)).trans <|
    (zr_bipush t149_62 zcb_66).trans <|
    (zr_iald (j := 66) t149_64 (N := 675) rfl (by decide) (by decide)).trans <|
    zr_callv t149_65 rfl rfl rfl rfl
theorem k149_68 {X : Nat × (Nat → Int32)} {I : Nat → Nat → Int32} {v1 : Int32} {v2 : Int32}  : zr X 149 68 [.ref 160, .int v1, .int v2] [] (zk I) = some (none, zk I) :=
  zr_vret t149_68 rfl
/-! X10_wash FiveInksModel.wash -/
theorem k150_0 {X : Nat × (Nat → Int32)} {I : Nat → Nat → Int32} {v1 : Int32}  : zr X 150 0 [.ref 160, .int v1] [] (zk I) = zcb (zr X 119 0 [.ref 160, .int v1] [] (zk (zs1 I 160 0 0))) (fun v m1 => zr X 150 10 [.ref 160, .int v1] (v.toList ++ []) m1) :=
  (zr_aload_n t150_0 rfl).trans <|
    (zr_iconst t150_1 zci_0).trans <|
    (zr_putI t150_2 (rfl) (Or.inl rfl)).trans <|
    (zr_aload_n t150_5 rfl).trans <|
    (zr_iload_n t150_6 rfl).trans <|
    zr_callv t150_7 rfl rfl rfl rfl
theorem k150_10 {X : Nat × (Nat → Int32)} {I : Nat → Nat → Int32} {v1 : Int32} {s0 : Int32}  : zr X 150 10 [.ref 160, .int v1] [.int s0] (zk I) = if ¬ s0 = 0 then zr X 150 15 [.ref 160, .int v1] [] (zk I) else zr X 150 13 [.ref 160, .int v1] [] (zk I) :=
  zr_if_ne (tgt := 15) t150_10 rfl
theorem k150_13 {X : Nat × (Nat → Int32)} {I : Nat → Nat → Int32} {v1 : Int32}  : zr X 150 13 [.ref 160, .int v1] [] (zk I) = some (some (.int (-1)), zk I) :=
  (zr_iconst t150_13 zci_m1).trans <|
    zr_iret t150_14 rfl
theorem k150_15 {X : Nat × (Nat → Int32)} {I : Nat → Nat → Int32} {v1 : Int32}  : zr X 150 15 [.ref 160, .int v1] [] (zk I) = zcb (zr X 117 0 [.ref 160, .int v1, .int 5] [] (zk I)) (fun v m1 => zr X 150 21 [.ref 160, .int v1] (v.toList ++ []) m1) :=
  (zr_aload_n t150_15 rfl).trans <|
    (zr_iload_n t150_16 rfl).trans <|
    (zr_iconst t150_17 zci_5).trans <|
    zr_callv t150_18 rfl rfl rfl rfl
theorem k150_21 {X : Nat × (Nat → Int32)} {I : Nat → Nat → Int32} {v1 : Int32} {s0 : Int32}  : zr X 150 21 [.ref 160, .int v1] [.int s0] (zk I) = if ¬ s0 = 1 then zr X 150 43 [.ref 160, .int v1] [] (zk I) else zr X 150 25 [.ref 160, .int v1] [] (zk I) :=
  (zr_iconst t150_21 zci_1).trans <|
    zr_ic_ne (tgt := 43) t150_22 rfl
theorem k150_25 {X : Nat × (Nat → Int32)} {I : Nat → Nat → Int32} {v1 : Int32}  : zr X 150 25 [.ref 160, .int v1] [] (zk I) = zcb (zr X 128 0 [.ref 160, .null, .null] [] (zk I)) (fun v m1 => zr X 150 29 [.ref 160, .int v1] (v.toList ++ []) m1) :=
  (zr_aload_n t150_25 rfl).trans <|
    zr_callv t150_26 rfl rfl rfl rfl
theorem k150_29 {X : Nat × (Nat → Int32)} {I : Nat → Nat → Int32} {v1 : Int32} {s0 : Int32}  : zr X 150 29 [.ref 160, .int v1] [.int s0] (zk I) = zcb (zr X 127 0 [.ref 160, .int v1] [] (zk I)) (fun v m1 => zr X 150 34 [.ref 160, .int v1] (v.toList ++ [.int s0]) m1) :=
  (zr_aload_n t150_29 rfl).trans <|
    (zr_iload_n t150_30 rfl).trans <|
    zr_callv t150_31 rfl rfl rfl rfl
theorem k150_34 {X : Nat × (Nat → Int32)} {I : Nat → Nat → Int32} {v1 : Int32} {s0 : Int32} {s1 : Int32}  : zr X 150 34 [.ref 160, .int v1] [.int s1, .int s0] (zk I) = if (s0 - s1) ≤ 60 then zr X 150 43 [.ref 160, .int v1] [] (zk I) else zr X 150 40 [.ref 160, .int v1] [] (zk I) :=
  (zr_isub t150_34).trans <|
    (zr_bipush t150_35 zcb_60).trans <|
    zr_ic_le (tgt := 43) t150_37 rfl
theorem k150_40 {X : Nat × (Nat → Int32)} {I : Nat → Nat → Int32} {v1 : Int32}  : zr X 150 40 [.ref 160, .int v1] [] (zk I) = some (some (.int (-5)), zk I) :=
  (zr_bipush t150_40 zcb_m5).trans <|
    zr_iret t150_42 rfl
theorem k150_43 {X : Nat × (Nat → Int32)} {I : Nat → Nat → Int32} {v1 : Int32}  : zr X 150 43 [.ref 160, .int v1] [] (zk I) = zcb (zr X 121 0 [.ref 160, .null] [] (zk I)) (fun v m1 => zr X 150 47 [.ref 160, .int v1] (v.toList ++ []) m1) :=
  (zr_aload_n t150_43 rfl).trans <|
    zr_callv t150_44 rfl rfl rfl rfl
theorem k150_47 {X : Nat × (Nat → Int32)} {I : Nat → Nat → Int32} {v1 : Int32}  : zr X 150 47 [.ref 160, .int v1] [] (zk I) = zcb (zr X 149 0 [.ref 160, .int v1, .null] [] (zk I)) (fun v m1 => zr X 150 52 [.ref 160, .int v1] (v.toList ++ []) m1) :=
  (zr_aload_n t150_47 rfl).trans <|
    (zr_iload_n t150_48 rfl).trans <|
    zr_callv t150_49 rfl rfl rfl rfl
theorem k150_52 {X : Nat × (Nat → Int32)} {I : Nat → Nat → Int32} {v1 : Int32}  : zr X 150 52 [.ref 160, .int v1] [] (zk I) = some (some (.int (I 161 66)), zk I) :=
  (zr_aload_n t150_52 rfl).trans <|
    (zr_getR (u := 161) t150_53 (rfl)).trans <|
    (zr_bipush t150_56 zcb_66).trans <|
    (zr_iald (j := 66) t150_58 (N := 675) rfl (by decide) (by decide)).trans <|
    zr_iret t150_59 rfl
/-! X10_nextOpen FiveInksModel.nextOpen -/
theorem k151_0 {X : Nat × (Nat → Int32)} {I : Nat → Nat → Int32}   : zr X 151 0 [.ref 160, .null, .null, .null] [] (zk I) = zr X 151 5 [.ref 160, .int (-6), .int 0, .null] [] (zk I) :=
  (zr_bipush t151_0 zcb_m6).trans <|
    (zr_istore_n t151_2 rfl rfl).trans <|
    (zr_iconst t151_3 zci_0).trans <|
    zr_istore_n t151_4 rfl rfl
theorem k151_5 {X : Nat × (Nat → Int32)} {I : Nat → Nat → Int32} {v1 : Int32} {v2 : Int32} {v3 : Value}  : zr X 151 5 [.ref 160, .int v1, .int v2, v3] [] (zk I) = if (I 161 66) ≤ v2 then zr X 151 84 [.ref 160, .int v1, .int v2, v3] [] (zk I) else zr X 151 16 [.ref 160, .int v1, .int v2, v3] [] (zk I) :=
  (zr_iload_n t151_5 rfl).trans <|
    (zr_aload_n t151_6 rfl).trans <|
    (zr_getR (u := 161) t151_7 (rfl)).trans <|
    (zr_bipush t151_10 zcb_66).trans <|
    (zr_iald (j := 66) t151_12 (N := 675) rfl (by decide) (by decide)).trans <|
    zr_ic_ge (tgt := 84) t151_13 rfl
theorem k151_16 {X : Nat × (Nat → Int32)} {I : Nat → Nat → Int32} {v1 : Int32} {v2 : Int32} {v3 : Value}  : zr X 151 16 [.ref 160, .int v1, .int v2, v3] [] (zk I) = zcb (zr X 117 0 [.ref 160, .int v2, .int 5] [] (zk I)) (fun v m1 => zr X 151 22 [.ref 160, .int v1, .int v2, v3] (v.toList ++ []) m1) :=
  (zr_aload_n t151_16 rfl).trans <|
    (zr_iload_n t151_17 rfl).trans <|
    (zr_iconst t151_18 zci_5).trans <|
    zr_callv t151_19 rfl rfl rfl rfl
theorem k151_22 {X : Nat × (Nat → Int32)} {I : Nat → Nat → Int32} {v1 : Int32} {v2 : Int32} {v3 : Value} {s0 : Int32}  : zr X 151 22 [.ref 160, .int v1, .int v2, v3] [.int s0] (zk I) = if ¬ s0 = 0 then zr X 151 66 [.ref 160, .int v1, .int v2, v3] [] (zk I) else zr X 151 25 [.ref 160, .int v1, .int v2, v3] [] (zk I) :=
  zr_if_ne (tgt := 66) t151_22 rfl
theorem k151_25 {X : Nat × (Nat → Int32)} {I : Nat → Nat → Int32} {v1 : Int32} {v2 : Int32} {v3 : Value}  : zr X 151 25 [.ref 160, .int v1, .int v2, v3] [] (zk I) = if v1 = (-6) then zr X 151 62 [.ref 160, .int v1, .int v2, v3] [] (zk I) else zr X 151 31 [.ref 160, .int v1, .int v2, v3] [] (zk I) :=
  (zr_iload_n t151_25 rfl).trans <|
    (zr_bipush t151_26 zcb_m6).trans <|
    zr_ic_eq (tgt := 62) t151_28 rfl
theorem k151_31 {X : Nat × (Nat → Int32)} {I : Nat → Nat → Int32} {v1 : Int32} {v2 : Int32} {v3 : Value}  : zr X 151 31 [.ref 160, .int v1, .int v2, v3] [] (zk I) = zcb (zr X 117 0 [.ref 160, .int v2, .int 0] [] (zk I)) (fun v m1 => zr X 151 43 [.ref 160, .int v1, .int v2, v3] (v.toList ++ [.int 61, .ref 161]) m1) :=
  (zr_aload_n t151_31 rfl).trans <|
    (zr_getR (u := 161) t151_32 (rfl)).trans <|
    (zr_bipush t151_35 zcb_61).trans <|
    (zr_aload_n t151_37 rfl).trans <|
    (zr_iload_n t151_38 rfl).trans <|
    (zr_iconst t151_39 zci_0).trans <|
    zr_callv t151_40 rfl rfl rfl rfl
theorem k151_43 {X : Nat × (Nat → Int32)} {I : Nat → Nat → Int32} {v1 : Int32} {v2 : Int32} {v3 : Value} {s1 : Int32} {s2 : Int32} (q1 : zin (s1 + s2) 675 = true) : zr X 151 43 [.ref 160, .int v1, .int v2, v3] [.int s2, .int s1, .ref 161] (zk I) = zcb (zr X 117 0 [.ref 160, .int v1, .int 0] [] (zk I)) (fun v m1 => zr X 151 57 [.ref 160, .int v1, .int v2, v3] (v.toList ++ [.int 61, .ref 161, .int (I 161 (zx (s1 + s2)))]) m1) :=
  (zr_iadd t151_43).trans <|
    (zr_iald (j := zx (s1 + s2)) t151_44 (N := 675) rfl rfl q1).trans <|
    (zr_aload_n t151_45 rfl).trans <|
    (zr_getR (u := 161) t151_46 (rfl)).trans <|
    (zr_bipush t151_49 zcb_61).trans <|
    (zr_aload_n t151_51 rfl).trans <|
    (zr_iload_n t151_52 rfl).trans <|
    (zr_iconst t151_53 zci_0).trans <|
    zr_callv t151_54 rfl rfl rfl rfl
theorem k151_57 {X : Nat × (Nat → Int32)} {I : Nat → Nat → Int32} {v1 : Int32} {v2 : Int32} {v3 : Value} {s0 : Int32} {s2 : Int32} {s3 : Int32} (q1 : zin (s2 + s3) 675 = true) : zr X 151 57 [.ref 160, .int v1, .int v2, v3] [.int s3, .int s2, .ref 161, .int s0] (zk I) = if s0 ≤ (I 161 (zx (s2 + s3))) then zr X 151 66 [.ref 160, .int v1, .int v2, v3] [] (zk I) else zr X 151 62 [.ref 160, .int v1, .int v2, v3] [] (zk I) :=
  (zr_iadd t151_57).trans <|
    (zr_iald (j := zx (s2 + s3)) t151_58 (N := 675) rfl rfl q1).trans <|
    zr_ic_le (tgt := 66) t151_59 rfl
theorem k151_62 {X : Nat × (Nat → Int32)} {I : Nat → Nat → Int32} {v1 : Int32} {v2 : Int32} {v3 : Value}  : zr X 151 62 [.ref 160, .int v1, .int v2, v3] [] (zk I) = if 1 = 0 then zr X 151 76 [.ref 160, .int v1, .int v2, .int 1] [] (zk I) else zr X 151 72 [.ref 160, .int v1, .int v2, .int 1] [] (zk I) :=
  (zr_iconst t151_62 zci_1).trans <|
    (zr_goto (tgt := 67) t151_63 rfl).trans <|
    (zr_istore_n t151_67 rfl rfl).trans <|
    (zr_iload_n t151_68 rfl).trans <|
    zr_if_eq (tgt := 76) t151_69 rfl
theorem k151_66 {X : Nat × (Nat → Int32)} {I : Nat → Nat → Int32} {v1 : Int32} {v2 : Int32} {v3 : Value}  : zr X 151 66 [.ref 160, .int v1, .int v2, v3] [] (zk I) = if 0 = 0 then zr X 151 76 [.ref 160, .int v1, .int v2, .int 0] [] (zk I) else zr X 151 72 [.ref 160, .int v1, .int v2, .int 0] [] (zk I) :=
  (zr_iconst t151_66 zci_0).trans <|
    (zr_istore_n t151_67 rfl rfl).trans <|
    (zr_iload_n t151_68 rfl).trans <|
    zr_if_eq (tgt := 76) t151_69 rfl
theorem k151_72 {X : Nat × (Nat → Int32)} {I : Nat → Nat → Int32} {v1 : Int32} {v2 : Int32} {v3 : Int32}  : zr X 151 72 [.ref 160, .int v1, .int v2, .int v3] [] (zk I) = zr X 151 5 [.ref 160, .int v2, .int (v2 + 1), .int v3] [] (zk I) :=
  (zr_iload_n t151_72 rfl).trans <|
    (zr_goto (tgt := 77) t151_73 rfl).trans <|
    (zr_istore_n t151_77 rfl rfl).trans <|
    (zr_iinc t151_78 rfl rfl (congrArg (fun z => v2 + z) zci_1) rfl).trans <|
    zr_goto (tgt := 5) t151_81 rfl
theorem k151_76 {X : Nat × (Nat → Int32)} {I : Nat → Nat → Int32} {v1 : Int32} {v2 : Int32} {v3 : Int32}  : zr X 151 76 [.ref 160, .int v1, .int v2, .int v3] [] (zk I) = zr X 151 5 [.ref 160, .int v1, .int (v2 + 1), .int v3] [] (zk I) :=
  (zr_iload_n t151_76 rfl).trans <|
    (zr_istore_n t151_77 rfl rfl).trans <|
    (zr_iinc t151_78 rfl rfl (congrArg (fun z => v2 + z) zci_1) rfl).trans <|
    zr_goto (tgt := 5) t151_81 rfl
theorem k151_84 {X : Nat × (Nat → Int32)} {I : Nat → Nat → Int32} {v1 : Int32} {v2 : Int32} {v3 : Value}  : zr X 151 84 [.ref 160, .int v1, .int v2, v3] [] (zk I) = some (some (.int v1), zk I) :=
  (zr_iload_n t151_84 rfl).trans <|
    zr_iret t151_85 rfl
/-! X10_judges FiveInksModel.judges -/
theorem k152_0 {X : Nat × (Nat → Int32)} {I : Nat → Nat → Int32}   : zr X 152 0 [.ref 160, .null, .null] [] (zk I) = zcb (zr X 151 0 [.ref 160, .null, .null, .null] [] (zk I)) (fun v m1 => zr X 152 6 [.ref 160, .int 0, .null] (v.toList ++ []) m1) :=
  (zr_iconst t152_0 zci_0).trans <|
    (zr_istore_n t152_1 rfl rfl).trans <|
    (zr_aload_n t152_2 rfl).trans <|
    zr_callv t152_3 rfl rfl rfl rfl
theorem k152_6 {X : Nat × (Nat → Int32)} {I : Nat → Nat → Int32} {v1 : Int32} {s0 : Int32}  : zr X 152 6 [.ref 160, .int v1, .null] [.int s0] (zk I) = zr X 152 7 [.ref 160, .int v1, .int s0] [] (zk I) :=
  zr_istore_n t152_6 rfl rfl
theorem k152_7 {X : Nat × (Nat → Int32)} {I : Nat → Nat → Int32} {v1 : Int32} {v2 : Int32}  : zr X 152 7 [.ref 160, .int v1, .int v2] [] (zk I) = if v2 = (-6) then zr X 152 48 [.ref 160, .int v1, .int v2] [] (zk I) else zr X 152 13 [.ref 160, .int v1, .int v2] [] (zk I) :=
  (zr_iload_n t152_7 rfl).trans <|
    (zr_bipush t152_8 zcb_m6).trans <|
    zr_ic_eq (tgt := 48) t152_10 rfl
theorem k152_13 {X : Nat × (Nat → Int32)} {I : Nat → Nat → Int32} {v1 : Int32} {v2 : Int32}  : zr X 152 13 [.ref 160, .int v1, .int v2] [] (zk I) = zcb (zr X 144 0 [.ref 160, .int v2] [] (zk I)) (fun v m1 => zr X 152 18 [.ref 160, .int v1, .int v2] (v.toList ++ []) m1) :=
  (zr_aload_n t152_13 rfl).trans <|
    (zr_iload_n t152_14 rfl).trans <|
    zr_callv t152_15 rfl rfl rfl rfl
theorem k152_18 {X : Nat × (Nat → Int32)} {I : Nat → Nat → Int32} {v1 : Int32} {v2 : Int32} {s0 : Int32}  : zr X 152 18 [.ref 160, .int v1, .int v2] [.int s0] (zk I) = if s0 = 0 then zr X 152 33 [.ref 160, .int v1, .int v2] [] (zk I) else zr X 152 21 [.ref 160, .int v1, .int v2] [] (zk I) :=
  zr_if_eq (tgt := 33) t152_18 rfl
theorem k152_21 {X : Nat × (Nat → Int32)} {I : Nat → Nat → Int32} {v1 : Int32} {v2 : Int32}  : zr X 152 21 [.ref 160, .int v1, .int v2] [] (zk I) = zcb (zr X 145 0 [.ref 160, .int v2, .null, .null] [] (zk I)) (fun v m1 => zr X 152 26 [.ref 160, .int v1, .int v2] (v.toList ++ []) m1) :=
  (zr_aload_n t152_21 rfl).trans <|
    (zr_iload_n t152_22 rfl).trans <|
    zr_callv t152_23 rfl rfl rfl rfl
theorem k152_26 {X : Nat × (Nat → Int32)} {I : Nat → Nat → Int32} {v1 : Int32} {v2 : Int32} {s0 : Int32}  : zr X 152 26 [.ref 160, .int v1, .int v2] [.int s0] (zk I) = zcb (zr X 151 0 [.ref 160, .null, .null, .null] [] (zk I)) (fun v m1 => zr X 152 44 [.ref 160, .int (v1 + 1), .int v2] (v.toList ++ []) m1) :=
  (zr_pop t152_26 rfl).trans <|
    (zr_iinc t152_27 rfl rfl (congrArg (fun z => v1 + z) zci_1) rfl).trans <|
    (zr_goto (tgt := 40) t152_30 rfl).trans <|
    (zr_aload_n t152_40 rfl).trans <|
    zr_callv t152_41 rfl rfl rfl rfl
theorem k152_33 {X : Nat × (Nat → Int32)} {I : Nat → Nat → Int32} {v1 : Int32} {v2 : Int32}  : zr X 152 33 [.ref 160, .int v1, .int v2] [] (zk I) = zcb (zr X 118 0 [.ref 160, .int v2, .int 5, .int 2] [] (zk I)) (fun v m1 => zr X 152 40 [.ref 160, .int v1, .int v2] (v.toList ++ []) m1) :=
  (zr_aload_n t152_33 rfl).trans <|
    (zr_iload_n t152_34 rfl).trans <|
    (zr_iconst t152_35 zci_5).trans <|
    (zr_iconst t152_36 zci_2).trans <|
    zr_callv t152_37 rfl rfl rfl rfl
theorem k152_40 {X : Nat × (Nat → Int32)} {I : Nat → Nat → Int32} {v1 : Int32} {v2 : Int32}  : zr X 152 40 [.ref 160, .int v1, .int v2] [] (zk I) = zcb (zr X 151 0 [.ref 160, .null, .null, .null] [] (zk I)) (fun v m1 => zr X 152 44 [.ref 160, .int v1, .int v2] (v.toList ++ []) m1) :=
  (zr_aload_n t152_40 rfl).trans <|
    zr_callv t152_41 rfl rfl rfl rfl
theorem k152_44 {X : Nat × (Nat → Int32)} {I : Nat → Nat → Int32} {v1 : Int32} {v2 : Int32} {s0 : Int32}  : zr X 152 44 [.ref 160, .int v1, .int v2] [.int s0] (zk I) = zr X 152 7 [.ref 160, .int v1, .int s0] [] (zk I) :=
  (zr_istore_n t152_44 rfl rfl).trans <|
    zr_goto (tgt := 7) t152_45 rfl
theorem k152_48 {X : Nat × (Nat → Int32)} {I : Nat → Nat → Int32} {v1 : Int32} {v2 : Int32}  : zr X 152 48 [.ref 160, .int v1, .int v2] [] (zk I) = some (some (.int v1), zk I) :=
  (zr_iload_n t152_48 rfl).trans <|
    zr_iret t152_49 rfl
/-! X10_judge FiveInksModel.judge -/
theorem k153_0 {X : Nat × (Nat → Int32)} {I : Nat → Nat → Int32}   : zr X 153 0 [.ref 160] [] (zk I) = zcb (zr X 121 0 [.ref 160, .null] [] (zk (zs1 I 160 0 0))) (fun v m1 => zr X 153 9 [.ref 160] (v.toList ++ []) m1) :=
  (zr_aload_n t153_0 rfl).trans <|
    (zr_iconst t153_1 zci_0).trans <|
    (zr_putI t153_2 (rfl) (Or.inl rfl)).trans <|
    (zr_aload_n t153_5 rfl).trans <|
    zr_callv t153_6 rfl rfl rfl rfl
theorem k153_9 {X : Nat × (Nat → Int32)} {I : Nat → Nat → Int32}   : zr X 153 9 [.ref 160] [] (zk I) = zcb (zr X 152 0 [.ref 160, .null, .null] [] (zk I)) (fun v m1 => zr X 153 13 [.ref 160] (v.toList ++ []) m1) :=
  (zr_aload_n t153_9 rfl).trans <|
    zr_callv t153_10 rfl rfl rfl rfl
theorem k153_13 {X : Nat × (Nat → Int32)} {I : Nat → Nat → Int32} {s0 : Int32}  : zr X 153 13 [.ref 160] [.int s0] (zk I) = some (some (.int s0), zk I) :=
  zr_iret t153_13 rfl
/-! X10_carried FiveInksModel.carried -/
theorem k154_0 {X : Nat × (Nat → Int32)} {I : Nat → Nat → Int32} {v1 : Int32} {v2 : Int32}  : zr X 154 0 [.ref 160, .int v1, .int v2, .null, .null, .null] [] (zk I) = zr X 154 5 [.ref 160, .int v1, .int v2, .int 0, .int 0, .null] [] (zk I) :=
  (zr_iconst t154_0 zci_0).trans <|
    (zr_istore_n t154_1 rfl rfl).trans <|
    (zr_iconst t154_2 zci_0).trans <|
    zr_istore t154_3 rfl rfl
theorem k154_5 {X : Nat × (Nat → Int32)} {I : Nat → Nat → Int32} {v1 : Int32} {v2 : Int32} {v3 : Int32} {v4 : Int32}  : zr X 154 5 [.ref 160, .int v1, .int v2, .int v3, .int v4, .null] [] (zk I) = if v1 ≤ v4 then zr X 154 34 [.ref 160, .int v1, .int v2, .int v3, .int v4, .null] [] (zk I) else zr X 154 11 [.ref 160, .int v1, .int v2, .int v3, .int v4, .null] [] (zk I) :=
  (zr_iload t154_5 rfl).trans <|
    (zr_iload_n t154_7 rfl).trans <|
    zr_ic_ge (tgt := 34) t154_8 rfl
theorem k154_11 {X : Nat × (Nat → Int32)} {I : Nat → Nat → Int32} {v1 : Int32} {v2 : Int32} {v3 : Int32} {v4 : Int32}  : zr X 154 11 [.ref 160, .int v1, .int v2, .int v3, .int v4, .null] [] (zk I) = zcb (zr X 131 0 [.ref 160, .int v4, .null, .null] [] (zk I)) (fun v m1 => zr X 154 18 [.ref 160, .int v1, .int v2, .int v3, .int v4, .null] (v.toList ++ [.int v3]) m1) :=
  (zr_iload_n t154_11 rfl).trans <|
    (zr_aload_n t154_12 rfl).trans <|
    (zr_iload t154_13 rfl).trans <|
    zr_callv t154_15 rfl rfl rfl rfl
theorem k154_18 {X : Nat × (Nat → Int32)} {I : Nat → Nat → Int32} {v1 : Int32} {v2 : Int32} {v3 : Int32} {v4 : Int32} {s0 : Int32} {s1 : Int32}  : zr X 154 18 [.ref 160, .int v1, .int v2, .int v3, .int v4, .null] [.int s1, .int s0] (zk I) = if s1 = 0 then zr X 154 25 [.ref 160, .int v1, .int v2, .int v3, .int v4, .null] [.int s0] (zk I) else zr X 154 21 [.ref 160, .int v1, .int v2, .int v3, .int v4, .null] [.int s0] (zk I) :=
  zr_if_eq (tgt := 25) t154_18 rfl
theorem k154_21 {X : Nat × (Nat → Int32)} {I : Nat → Nat → Int32} {v1 : Int32} {v2 : Int32} {v3 : Int32} {v4 : Int32} {s0 : Int32}  : zr X 154 21 [.ref 160, .int v1, .int v2, .int v3, .int v4, .null] [.int s0] (zk I) = zr X 154 5 [.ref 160, .int v1, .int v2, .int (s0 + 0), .int (v4 + 1), .null] [] (zk I) :=
  (zr_iconst t154_21 zci_0).trans <|
    (zr_goto (tgt := 26) t154_22 rfl).trans <|
    (zr_iadd t154_26).trans <|
    (zr_istore_n t154_27 rfl rfl).trans <|
    (zr_iinc t154_28 rfl rfl (congrArg (fun z => v4 + z) zci_1) rfl).trans <|
    zr_goto (tgt := 5) t154_31 rfl
theorem k154_25 {X : Nat × (Nat → Int32)} {I : Nat → Nat → Int32} {v1 : Int32} {v2 : Int32} {v3 : Int32} {v4 : Int32} {s0 : Int32}  : zr X 154 25 [.ref 160, .int v1, .int v2, .int v3, .int v4, .null] [.int s0] (zk I) = zr X 154 5 [.ref 160, .int v1, .int v2, .int (s0 + 1), .int (v4 + 1), .null] [] (zk I) :=
  (zr_iconst t154_25 zci_1).trans <|
    (zr_iadd t154_26).trans <|
    (zr_istore_n t154_27 rfl rfl).trans <|
    (zr_iinc t154_28 rfl rfl (congrArg (fun z => v4 + z) zci_1) rfl).trans <|
    zr_goto (tgt := 5) t154_31 rfl
theorem k154_34 {X : Nat × (Nat → Int32)} {I : Nat → Nat → Int32} {v1 : Int32} {v2 : Int32} {v3 : Int32} {v4 : Int32}  : zr X 154 34 [.ref 160, .int v1, .int v2, .int v3, .int v4, .null] [] (zk I) = zr X 154 37 [.ref 160, .int v1, .int v2, .int v3, .int 0, .null] [] (zk I) :=
  (zr_iconst t154_34 zci_0).trans <|
    zr_istore t154_35 rfl rfl
theorem k154_37 {X : Nat × (Nat → Int32)} {I : Nat → Nat → Int32} {v1 : Int32} {v2 : Int32} {v3 : Int32} {v4 : Int32} {v5 : Value}  : zr X 154 37 [.ref 160, .int v1, .int v2, .int v3, .int v4, v5] [] (zk I) = if (I 161 66) ≤ v4 then zr X 154 147 [.ref 160, .int v1, .int v2, .int v3, .int v4, v5] [] (zk I) else zr X 154 49 [.ref 160, .int v1, .int v2, .int v3, .int v4, v5] [] (zk I) :=
  (zr_iload t154_37 rfl).trans <|
    (zr_aload_n t154_39 rfl).trans <|
    (zr_getR (u := 161) t154_40 (rfl)).trans <|
    (zr_bipush t154_43 zcb_66).trans <|
    (zr_iald (j := 66) t154_45 (N := 675) rfl (by decide) (by decide)).trans <|
    zr_ic_ge (tgt := 147) t154_46 rfl
theorem k154_49 {X : Nat × (Nat → Int32)} {I : Nat → Nat → Int32} {v1 : Int32} {v2 : Int32} {v3 : Int32} {v4 : Int32} {v5 : Value}  : zr X 154 49 [.ref 160, .int v1, .int v2, .int v3, .int v4, v5] [] (zk I) = zcb (zr X 117 0 [.ref 160, .int v4, .int 1] [] (zk I)) (fun v m1 => zr X 154 56 [.ref 160, .int v1, .int v2, .int v3, .int v4, v5] (v.toList ++ []) m1) :=
  (zr_aload_n t154_49 rfl).trans <|
    (zr_iload t154_50 rfl).trans <|
    (zr_iconst t154_52 zci_1).trans <|
    zr_callv t154_53 rfl rfl rfl rfl
theorem k154_56 {X : Nat × (Nat → Int32)} {I : Nat → Nat → Int32} {v1 : Int32} {v2 : Int32} {v3 : Int32} {v4 : Int32} {v5 : Value} {s0 : Int32}  : zr X 154 56 [.ref 160, .int v1, .int v2, .int v3, .int v4, v5] [.int s0] (zk I) = if ¬ s0 = 1 then zr X 154 94 [.ref 160, .int v1, .int v2, .int v3, .int v4, v5] [] (zk I) else zr X 154 60 [.ref 160, .int v1, .int v2, .int v3, .int v4, v5] [] (zk I) :=
  (zr_iconst t154_56 zci_1).trans <|
    zr_ic_ne (tgt := 94) t154_57 rfl
theorem k154_60 {X : Nat × (Nat → Int32)} {I : Nat → Nat → Int32} {v1 : Int32} {v2 : Int32} {v3 : Int32} {v4 : Int32} {v5 : Value}  : zr X 154 60 [.ref 160, .int v1, .int v2, .int v3, .int v4, v5] [] (zk I) = zcb (zr X 117 0 [.ref 160, .int v4, .int 2] [] (zk I)) (fun v m1 => zr X 154 67 [.ref 160, .int v1, .int v2, .int v3, .int v4, v5] (v.toList ++ []) m1) :=
  (zr_aload_n t154_60 rfl).trans <|
    (zr_iload t154_61 rfl).trans <|
    (zr_iconst t154_63 zci_2).trans <|
    zr_callv t154_64 rfl rfl rfl rfl
theorem k154_67 {X : Nat × (Nat → Int32)} {I : Nat → Nat → Int32} {v1 : Int32} {v2 : Int32} {v3 : Int32} {v4 : Int32} {v5 : Value} {s0 : Int32}  : zr X 154 67 [.ref 160, .int v1, .int v2, .int v3, .int v4, v5] [.int s0] (zk I) = if s0 < v1 then zr X 154 86 [.ref 160, .int v1, .int v2, .int v3, .int v4, v5] [] (zk I) else zr X 154 71 [.ref 160, .int v1, .int v2, .int v3, .int v4, v5] [] (zk I) :=
  (zr_iload_n t154_67 rfl).trans <|
    zr_ic_lt (tgt := 86) t154_68 rfl
theorem k154_71 {X : Nat × (Nat → Int32)} {I : Nat → Nat → Int32} {v1 : Int32} {v2 : Int32} {v3 : Int32} {v4 : Int32} {v5 : Value}  : zr X 154 71 [.ref 160, .int v1, .int v2, .int v3, .int v4, v5] [] (zk I) = if v2 = 0 then zr X 154 90 [.ref 160, .int v1, .int v2, .int v3, .int v4, v5] [] (zk I) else zr X 154 75 [.ref 160, .int v1, .int v2, .int v3, .int v4, v5] [] (zk I) :=
  (zr_iload_n t154_71 rfl).trans <|
    zr_if_eq (tgt := 90) t154_72 rfl
theorem k154_75 {X : Nat × (Nat → Int32)} {I : Nat → Nat → Int32} {v1 : Int32} {v2 : Int32} {v3 : Int32} {v4 : Int32} {v5 : Value}  : zr X 154 75 [.ref 160, .int v1, .int v2, .int v3, .int v4, v5] [] (zk I) = zcb (zr X 117 0 [.ref 160, .int v4, .int 2] [] (zk I)) (fun v m1 => zr X 154 82 [.ref 160, .int v1, .int v2, .int v3, .int v4, v5] (v.toList ++ []) m1) :=
  (zr_aload_n t154_75 rfl).trans <|
    (zr_iload t154_76 rfl).trans <|
    (zr_iconst t154_78 zci_2).trans <|
    zr_callv t154_79 rfl rfl rfl rfl
theorem k154_82 {X : Nat × (Nat → Int32)} {I : Nat → Nat → Int32} {v1 : Int32} {v2 : Int32} {v3 : Int32} {v4 : Int32} {v5 : Value} {s0 : Int32}  : zr X 154 82 [.ref 160, .int v1, .int v2, .int v3, .int v4, v5] [.int s0] (zk I) = if ¬ s0 = v1 then zr X 154 90 [.ref 160, .int v1, .int v2, .int v3, .int v4, v5] [] (zk I) else zr X 154 86 [.ref 160, .int v1, .int v2, .int v3, .int v4, v5] [] (zk I) :=
  (zr_iload_n t154_82 rfl).trans <|
    zr_ic_ne (tgt := 90) t154_83 rfl
theorem k154_86 {X : Nat × (Nat → Int32)} {I : Nat → Nat → Int32} {v1 : Int32} {v2 : Int32} {v3 : Int32} {v4 : Int32} {v5 : Value} (q1 : zin v4 20 = true) : zr X 154 86 [.ref 160, .int v1, .int v2, .int v3, .int v4, v5] [] (zk I) = if (I 167 (zx v4)) = 0 then zr X 154 138 [.ref 160, .int v1, .int v2, .int v3, .int v4, .int 1] [.int v3] (zk I) else zr X 154 123 [.ref 160, .int v1, .int v2, .int v3, .int v4, .int 1] [.int v3] (zk I) :=
  (zr_iconst t154_86 zci_1).trans <|
    (zr_goto (tgt := 110) t154_87 rfl).trans <|
    (zr_istore t154_110 rfl rfl).trans <|
    (zr_iload_n t154_112 rfl).trans <|
    (zr_aload_n t154_113 rfl).trans <|
    (zr_getR (u := 167) t154_114 (rfl)).trans <|
    (zr_iload t154_117 rfl).trans <|
    (zr_bald (j := zx v4) t154_119 (N := 20) rfl rfl q1).trans <|
    zr_if_eq (tgt := 138) t154_120 rfl
theorem k154_90 {X : Nat × (Nat → Int32)} {I : Nat → Nat → Int32} {v1 : Int32} {v2 : Int32} {v3 : Int32} {v4 : Int32} {v5 : Value} (q1 : zin v4 20 = true) : zr X 154 90 [.ref 160, .int v1, .int v2, .int v3, .int v4, v5] [] (zk I) = if (I 167 (zx v4)) = 0 then zr X 154 138 [.ref 160, .int v1, .int v2, .int v3, .int v4, .int 0] [.int v3] (zk I) else zr X 154 123 [.ref 160, .int v1, .int v2, .int v3, .int v4, .int 0] [.int v3] (zk I) :=
  (zr_iconst t154_90 zci_0).trans <|
    (zr_goto (tgt := 110) t154_91 rfl).trans <|
    (zr_istore t154_110 rfl rfl).trans <|
    (zr_iload_n t154_112 rfl).trans <|
    (zr_aload_n t154_113 rfl).trans <|
    (zr_getR (u := 167) t154_114 (rfl)).trans <|
    (zr_iload t154_117 rfl).trans <|
    (zr_bald (j := zx v4) t154_119 (N := 20) rfl rfl q1).trans <|
    zr_if_eq (tgt := 138) t154_120 rfl
theorem k154_94 {X : Nat × (Nat → Int32)} {I : Nat → Nat → Int32} {v1 : Int32} {v2 : Int32} {v3 : Int32} {v4 : Int32} {v5 : Value}  : zr X 154 94 [.ref 160, .int v1, .int v2, .int v3, .int v4, v5] [] (zk I) = zcb (zr X 117 0 [.ref 160, .int v4, .int 3] [] (zk I)) (fun v m1 => zr X 154 101 [.ref 160, .int v1, .int v2, .int v3, .int v4, v5] (v.toList ++ []) m1) :=
  (zr_aload_n t154_94 rfl).trans <|
    (zr_iload t154_95 rfl).trans <|
    (zr_iconst t154_97 zci_3).trans <|
    zr_callv t154_98 rfl rfl rfl rfl
theorem k154_101 {X : Nat × (Nat → Int32)} {I : Nat → Nat → Int32} {v1 : Int32} {v2 : Int32} {v3 : Int32} {v4 : Int32} {v5 : Value} {s0 : Int32}  : zr X 154 101 [.ref 160, .int v1, .int v2, .int v3, .int v4, v5] [.int s0] (zk I) = if v1 < s0 then zr X 154 109 [.ref 160, .int v1, .int v2, .int v3, .int v4, v5] [] (zk I) else zr X 154 105 [.ref 160, .int v1, .int v2, .int v3, .int v4, v5] [] (zk I) :=
  (zr_iload_n t154_101 rfl).trans <|
    zr_ic_gt (tgt := 109) t154_102 rfl
theorem k154_105 {X : Nat × (Nat → Int32)} {I : Nat → Nat → Int32} {v1 : Int32} {v2 : Int32} {v3 : Int32} {v4 : Int32} {v5 : Value} (q1 : zin v4 20 = true) : zr X 154 105 [.ref 160, .int v1, .int v2, .int v3, .int v4, v5] [] (zk I) = if (I 167 (zx v4)) = 0 then zr X 154 138 [.ref 160, .int v1, .int v2, .int v3, .int v4, .int 1] [.int v3] (zk I) else zr X 154 123 [.ref 160, .int v1, .int v2, .int v3, .int v4, .int 1] [.int v3] (zk I) :=
  (zr_iconst t154_105 zci_1).trans <|
    (zr_goto (tgt := 110) t154_106 rfl).trans <|
    (zr_istore t154_110 rfl rfl).trans <|
    (zr_iload_n t154_112 rfl).trans <|
    (zr_aload_n t154_113 rfl).trans <|
    (zr_getR (u := 167) t154_114 (rfl)).trans <|
    (zr_iload t154_117 rfl).trans <|
    (zr_bald (j := zx v4) t154_119 (N := 20) rfl rfl q1).trans <|
    zr_if_eq (tgt := 138) t154_120 rfl
theorem k154_109 {X : Nat × (Nat → Int32)} {I : Nat → Nat → Int32} {v1 : Int32} {v2 : Int32} {v3 : Int32} {v4 : Int32} {v5 : Value} (q1 : zin v4 20 = true) : zr X 154 109 [.ref 160, .int v1, .int v2, .int v3, .int v4, v5] [] (zk I) = if (I 167 (zx v4)) = 0 then zr X 154 138 [.ref 160, .int v1, .int v2, .int v3, .int v4, .int 0] [.int v3] (zk I) else zr X 154 123 [.ref 160, .int v1, .int v2, .int v3, .int v4, .int 0] [.int v3] (zk I) :=
  (zr_iconst t154_109 zci_0).trans <|
    (zr_istore t154_110 rfl rfl).trans <|
    (zr_iload_n t154_112 rfl).trans <|
    (zr_aload_n t154_113 rfl).trans <|
    (zr_getR (u := 167) t154_114 (rfl)).trans <|
    (zr_iload t154_117 rfl).trans <|
    (zr_bald (j := zx v4) t154_119 (N := 20) rfl rfl q1).trans <|
    zr_if_eq (tgt := 138) t154_120 rfl
theorem k154_123 {X : Nat × (Nat → Int32)} {I : Nat → Nat → Int32} {v1 : Int32} {v2 : Int32} {v3 : Int32} {v4 : Int32} {v5 : Int32} {s0 : Int32}  : zr X 154 123 [.ref 160, .int v1, .int v2, .int v3, .int v4, .int v5] [.int s0] (zk I) = if v5 = 0 then zr X 154 138 [.ref 160, .int v1, .int v2, .int v3, .int v4, .int v5] [.int s0] (zk I) else zr X 154 128 [.ref 160, .int v1, .int v2, .int v3, .int v4, .int v5] [.int s0] (zk I) :=
  (zr_iload t154_123 rfl).trans <|
    zr_if_eq (tgt := 138) t154_125 rfl
theorem k154_128 {X : Nat × (Nat → Int32)} {I : Nat → Nat → Int32} {v1 : Int32} {v2 : Int32} {v3 : Int32} {v4 : Int32} {v5 : Int32} {s0 : Int32}  : zr X 154 128 [.ref 160, .int v1, .int v2, .int v3, .int v4, .int v5] [.int s0] (zk I) = zcb (zr X 117 0 [.ref 160, .int v4, .int 4] [] (zk I)) (fun v m1 => zr X 154 135 [.ref 160, .int v1, .int v2, .int v3, .int v4, .int v5] (v.toList ++ [.int s0]) m1) :=
  (zr_aload_n t154_128 rfl).trans <|
    (zr_iload t154_129 rfl).trans <|
    (zr_iconst t154_131 zci_4).trans <|
    zr_callv t154_132 rfl rfl rfl rfl
theorem k154_135 {X : Nat × (Nat → Int32)} {I : Nat → Nat → Int32} {v1 : Int32} {v2 : Int32} {v3 : Int32} {v4 : Int32} {v5 : Int32} {s0 : Int32} {s1 : Int32}  : zr X 154 135 [.ref 160, .int v1, .int v2, .int v3, .int v4, .int v5] [.int s1, .int s0] (zk I) = zr X 154 37 [.ref 160, .int v1, .int v2, .int (s0 + s1), .int (v4 + 1), .int v5] [] (zk I) :=
  (zr_goto (tgt := 139) t154_135 rfl).trans <|
    (zr_iadd t154_139).trans <|
    (zr_istore_n t154_140 rfl rfl).trans <|
    (zr_iinc t154_141 rfl rfl (congrArg (fun z => v4 + z) zci_1) rfl).trans <|
    zr_goto (tgt := 37) t154_144 rfl
theorem k154_138 {X : Nat × (Nat → Int32)} {I : Nat → Nat → Int32} {v1 : Int32} {v2 : Int32} {v3 : Int32} {v4 : Int32} {v5 : Int32} {s0 : Int32}  : zr X 154 138 [.ref 160, .int v1, .int v2, .int v3, .int v4, .int v5] [.int s0] (zk I) = zr X 154 37 [.ref 160, .int v1, .int v2, .int (s0 + 0), .int (v4 + 1), .int v5] [] (zk I) :=
  (zr_iconst t154_138 zci_0).trans <|
    (zr_iadd t154_139).trans <|
    (zr_istore_n t154_140 rfl rfl).trans <|
    (zr_iinc t154_141 rfl rfl (congrArg (fun z => v4 + z) zci_1) rfl).trans <|
    zr_goto (tgt := 37) t154_144 rfl
theorem k154_147 {X : Nat × (Nat → Int32)} {I : Nat → Nat → Int32} {v1 : Int32} {v2 : Int32} {v3 : Int32} {v4 : Int32} {v5 : Value}  : zr X 154 147 [.ref 160, .int v1, .int v2, .int v3, .int v4, v5] [] (zk I) = some (some (.int v3), zk I) :=
  (zr_iload_n t154_147 rfl).trans <|
    zr_iret t154_148 rfl
/-! X10_carriesOver FiveInksModel.carriesOver -/
theorem k155_0 {X : Nat × (Nat → Int32)} {I : Nat → Nat → Int32}   : zr X 155 0 [.ref 160, .null, .null, .null] [] (zk I) = zr X 155 2 [.ref 160, .int 0, .null, .null] [] (zk I) :=
  (zr_iconst t155_0 zci_0).trans <|
    zr_istore_n t155_1 rfl rfl
theorem k155_2 {X : Nat × (Nat → Int32)} {I : Nat → Nat → Int32} {v1 : Int32}  : zr X 155 2 [.ref 160, .int v1, .null, .null] [] (zk I) = if (I 161 66) ≤ v1 then zr X 155 48 [.ref 160, .int v1, .null, .null] [] (zk I) else zr X 155 13 [.ref 160, .int v1, .null, .null] [] (zk I) :=
  (zr_iload_n t155_2 rfl).trans <|
    (zr_aload_n t155_3 rfl).trans <|
    (zr_getR (u := 161) t155_4 (rfl)).trans <|
    (zr_bipush t155_7 zcb_66).trans <|
    (zr_iald (j := 66) t155_9 (N := 675) rfl (by decide) (by decide)).trans <|
    zr_ic_ge (tgt := 48) t155_10 rfl
theorem k155_13 {X : Nat × (Nat → Int32)} {I : Nat → Nat → Int32} {v1 : Int32}  : zr X 155 13 [.ref 160, .int v1, .null, .null] [] (zk I) = zcb (zr X 117 0 [.ref 160, .int v1, .int 5] [] (zk I)) (fun v m1 => zr X 155 24 [.ref 160, .int v1, .null, .null] (v.toList ++ [.int v1, .ref 169]) m1) :=
  (zr_aload_n t155_13 rfl).trans <|
    (zr_getR (u := 169) t155_14 (rfl)).trans <|
    (zr_iload_n t155_17 rfl).trans <|
    (zr_aload_n t155_18 rfl).trans <|
    (zr_iload_n t155_19 rfl).trans <|
    (zr_iconst t155_20 zci_5).trans <|
    zr_callv t155_21 rfl rfl rfl rfl
theorem k155_24 {X : Nat × (Nat → Int32)} {I : Nat → Nat → Int32} {v1 : Int32} {s1 : Int32} {s2 : Int32}  : zr X 155 24 [.ref 160, .int v1, .null, .null] [.int s2, .int s1, .ref 169] (zk I) = if ¬ s2 = 0 then zr X 155 36 [.ref 160, .int v1, .null, .null] [.int s1, .ref 169] (zk I) else zr X 155 27 [.ref 160, .int v1, .null, .null] [.int s1, .ref 169] (zk I) :=
  zr_if_ne (tgt := 36) t155_24 rfl
theorem k155_27 {X : Nat × (Nat → Int32)} {I : Nat → Nat → Int32} {v1 : Int32} {s1 : Int32}  : zr X 155 27 [.ref 160, .int v1, .null, .null] [.int s1, .ref 169] (zk I) = zcb (zr X 126 0 [.ref 160, .int v1, .int 1, .null, .null] [] (zk I)) (fun v m1 => zr X 155 33 [.ref 160, .int v1, .null, .null] (v.toList ++ [.int s1, .ref 169]) m1) :=
  (zr_aload_n t155_27 rfl).trans <|
    (zr_iload_n t155_28 rfl).trans <|
    (zr_iconst t155_29 zci_1).trans <|
    zr_callv t155_30 rfl rfl rfl rfl
theorem k155_33 {X : Nat × (Nat → Int32)} {I : Nat → Nat → Int32} {v1 : Int32} {s1 : Int32} {s2 : Int32}  : zr X 155 33 [.ref 160, .int v1, .null, .null] [.int s2, .int s1, .ref 169] (zk I) = if s2 ≤ 0 then zr X 155 40 [.ref 160, .int v1, .null, .null] [.int s1, .ref 169] (zk I) else zr X 155 36 [.ref 160, .int v1, .null, .null] [.int s1, .ref 169] (zk I) :=
  zr_if_le (tgt := 40) t155_33 rfl
theorem k155_36 {X : Nat × (Nat → Int32)} {I : Nat → Nat → Int32} {v1 : Int32} {s1 : Int32} (q1 : zin s1 20 = true) : zr X 155 36 [.ref 160, .int v1, .null, .null] [.int s1, .ref 169] (zk I) = zr X 155 2 [.ref 160, .int (v1 + 1), .null, .null] [] (zk (zs1 I 169 (zx s1) 1)) :=
  (zr_iconst t155_36 zci_1).trans <|
    (zr_goto (tgt := 41) t155_37 rfl).trans <|
    (zr_bast (j := zx s1) t155_41 (N := 20) rfl rfl q1 (Or.inr rfl)).trans <|
    (zr_iinc t155_42 rfl rfl (congrArg (fun z => v1 + z) zci_1) rfl).trans <|
    zr_goto (tgt := 2) t155_45 rfl
theorem k155_40 {X : Nat × (Nat → Int32)} {I : Nat → Nat → Int32} {v1 : Int32} {s1 : Int32} (q1 : zin s1 20 = true) : zr X 155 40 [.ref 160, .int v1, .null, .null] [.int s1, .ref 169] (zk I) = zr X 155 2 [.ref 160, .int (v1 + 1), .null, .null] [] (zk (zs1 I 169 (zx s1) 0)) :=
  (zr_iconst t155_40 zci_0).trans <|
    (zr_bast (j := zx s1) t155_41 (N := 20) rfl rfl q1 (Or.inl rfl)).trans <|
    (zr_iinc t155_42 rfl rfl (congrArg (fun z => v1 + z) zci_1) rfl).trans <|
    zr_goto (tgt := 2) t155_45 rfl
theorem k155_48 {X : Nat × (Nat → Int32)} {I : Nat → Nat → Int32} {v1 : Int32}  : zr X 155 48 [.ref 160, .int v1, .null, .null] [] (zk I) = zr X 155 50 [.ref 160, .int 0, .null, .null] [] (zk I) :=
  (zr_iconst t155_48 zci_0).trans <|
    zr_istore_n t155_49 rfl rfl
theorem k155_50 {X : Nat × (Nat → Int32)} {I : Nat → Nat → Int32} {v1 : Int32} {v2 : Value}  : zr X 155 50 [.ref 160, .int v1, v2, .null] [] (zk I) = if (I 161 66) ≤ v1 then zr X 155 126 [.ref 160, .int v1, v2, .null] [] (zk I) else zr X 155 61 [.ref 160, .int v1, v2, .null] [] (zk I) :=
  (zr_iload_n t155_50 rfl).trans <|
    (zr_aload_n t155_51 rfl).trans <|
    (zr_getR (u := 161) t155_52 (rfl)).trans <|
    (zr_bipush t155_55 zcb_66).trans <|
    (zr_iald (j := 66) t155_57 (N := 675) rfl (by decide) (by decide)).trans <|
    zr_ic_ge (tgt := 126) t155_58 rfl
theorem k155_61 {X : Nat × (Nat → Int32)} {I : Nat → Nat → Int32} {v1 : Int32} {v2 : Value} (q1 : zin v1 20 = true) : zr X 155 61 [.ref 160, .int v1, v2, .null] [] (zk I) = if ¬ (I 169 (zx v1)) = 0 then zr X 155 120 [.ref 160, .int v1, v2, .null] [] (zk I) else zr X 155 70 [.ref 160, .int v1, v2, .null] [] (zk I) :=
  (zr_aload_n t155_61 rfl).trans <|
    (zr_getR (u := 169) t155_62 (rfl)).trans <|
    (zr_iload_n t155_65 rfl).trans <|
    (zr_bald (j := zx v1) t155_66 (N := 20) rfl rfl q1).trans <|
    zr_if_ne (tgt := 120) t155_67 rfl
theorem k155_70 {X : Nat × (Nat → Int32)} {I : Nat → Nat → Int32} {v1 : Int32} {v2 : Value}  : zr X 155 70 [.ref 160, .int v1, v2, .null] [] (zk I) = zcb (zr X 117 0 [.ref 160, .int v1, .int 3] [] (zk I)) (fun v m1 => zr X 155 77 [.ref 160, .int v1, v2, .null] (v.toList ++ [.ref 160]) m1) :=
  (zr_aload_n t155_70 rfl).trans <|
    (zr_aload_n t155_71 rfl).trans <|
    (zr_iload_n t155_72 rfl).trans <|
    (zr_iconst t155_73 zci_3).trans <|
    zr_callv t155_74 rfl rfl rfl rfl
theorem k155_77 {X : Nat × (Nat → Int32)} {I : Nat → Nat → Int32} {v1 : Int32} {v2 : Value} {s1 : Int32}  : zr X 155 77 [.ref 160, .int v1, v2, .null] [.int s1, .ref 160] (zk I) = zcb (zr X 154 0 [.ref 160, .int s1, .int 0, .null, .null, .null] [] (zk I)) (fun v m1 => zr X 155 81 [.ref 160, .int v1, v2, .null] (v.toList ++ []) m1) :=
  (zr_iconst t155_77 zci_0).trans <|
    zr_callv t155_78 rfl rfl rfl rfl
theorem k155_81 {X : Nat × (Nat → Int32)} {I : Nat → Nat → Int32} {v1 : Int32} {v2 : Value} {s0 : Int32}  : zr X 155 81 [.ref 160, .int v1, v2, .null] [.int s0] (zk I) = zcb (zr X 117 0 [.ref 160, .int v1, .int 1] [] (zk I)) (fun v m1 => zr X 155 91 [.ref 160, .int v1, .int s0, .null] (v.toList ++ [.int 2, .int v1, .ref 160]) m1) :=
  (zr_istore_n t155_81 rfl rfl).trans <|
    (zr_aload_n t155_82 rfl).trans <|
    (zr_iload_n t155_83 rfl).trans <|
    (zr_iconst t155_84 zci_2).trans <|
    (zr_aload_n t155_85 rfl).trans <|
    (zr_iload_n t155_86 rfl).trans <|
    (zr_iconst t155_87 zci_1).trans <|
    zr_callv t155_88 rfl rfl rfl rfl
theorem k155_91 {X : Nat × (Nat → Int32)} {I : Nat → Nat → Int32} {v1 : Int32} {v2 : Int32} {s1 : Int32} {s2 : Int32} {s3 : Int32}  : zr X 155 91 [.ref 160, .int v1, .int v2, .null] [.int s3, .int s2, .int s1, .ref 160] (zk I) = if ¬ s3 = 1 then zr X 155 99 [.ref 160, .int v1, .int v2, .null] [.int s2, .int s1, .ref 160] (zk I) else zr X 155 95 [.ref 160, .int v1, .int v2, .null] [.int s2, .int s1, .ref 160] (zk I) :=
  (zr_iconst t155_91 zci_1).trans <|
    zr_ic_ne (tgt := 99) t155_92 rfl
theorem k155_95 {X : Nat × (Nat → Int32)} {I : Nat → Nat → Int32} {v1 : Int32} {v2 : Int32} {s1 : Int32} {s2 : Int32}  : zr X 155 95 [.ref 160, .int v1, .int v2, .null] [.int s2, .int s1, .ref 160] (zk I) = zcb (zr X 118 0 [.ref 160, .int s1, .int s2, .int v2] [] (zk I)) (fun v m1 => zr X 155 113 [.ref 160, .int v1, .int v2, .null] (v.toList ++ []) m1) :=
  (zr_iload_n t155_95 rfl).trans <|
    (zr_goto (tgt := 110) t155_96 rfl).trans <|
    zr_callv t155_110 rfl rfl rfl rfl
theorem k155_99 {X : Nat × (Nat → Int32)} {I : Nat → Nat → Int32} {v1 : Int32} {v2 : Int32} {s1 : Int32} {s2 : Int32}  : zr X 155 99 [.ref 160, .int v1, .int v2, .null] [.int s2, .int s1, .ref 160] (zk I) = zcb (zr X 117 0 [.ref 160, .int v1, .int 2] [] (zk I)) (fun v m1 => zr X 155 106 [.ref 160, .int v1, .int v2, .null] (v.toList ++ [.ref 160, .int s2, .int s1, .ref 160]) m1) :=
  (zr_aload_n t155_99 rfl).trans <|
    (zr_aload_n t155_100 rfl).trans <|
    (zr_iload_n t155_101 rfl).trans <|
    (zr_iconst t155_102 zci_2).trans <|
    zr_callv t155_103 rfl rfl rfl rfl
theorem k155_106 {X : Nat × (Nat → Int32)} {I : Nat → Nat → Int32} {v1 : Int32} {v2 : Int32} {s1 : Int32} {s2 : Int32} {s4 : Int32}  : zr X 155 106 [.ref 160, .int v1, .int v2, .null] [.int s4, .ref 160, .int s2, .int s1, .ref 160] (zk I) = zcb (zr X 154 0 [.ref 160, .int s4, .int 1, .null, .null, .null] [] (zk I)) (fun v m1 => zr X 155 110 [.ref 160, .int v1, .int v2, .null] (v.toList ++ [.int s2, .int s1, .ref 160]) m1) :=
  (zr_iconst t155_106 zci_1).trans <|
    zr_callv t155_107 rfl rfl rfl rfl
theorem k155_110 {X : Nat × (Nat → Int32)} {I : Nat → Nat → Int32} {v1 : Int32} {v2 : Int32} {s1 : Int32} {s2 : Int32} {s3 : Int32}  : zr X 155 110 [.ref 160, .int v1, .int v2, .null] [.int s3, .int s2, .int s1, .ref 160] (zk I) = zcb (zr X 118 0 [.ref 160, .int s1, .int s2, .int s3] [] (zk I)) (fun v m1 => zr X 155 113 [.ref 160, .int v1, .int v2, .null] (v.toList ++ []) m1) :=
  zr_callv t155_110 rfl rfl rfl rfl
theorem k155_113 {X : Nat × (Nat → Int32)} {I : Nat → Nat → Int32} {v1 : Int32} {v2 : Int32}  : zr X 155 113 [.ref 160, .int v1, .int v2, .null] [] (zk I) = zcb (zr X 118 0 [.ref 160, .int v1, .int 3, .int v2] [] (zk I)) (fun v m1 => zr X 155 120 [.ref 160, .int v1, .int v2, .null] (v.toList ++ []) m1) :=
  (zr_aload_n t155_113 rfl).trans <|
    (zr_iload_n t155_114 rfl).trans <|
    (zr_iconst t155_115 zci_3).trans <|
    (zr_iload_n t155_116 rfl).trans <|
    zr_callv t155_117 rfl rfl rfl rfl
theorem k155_120 {X : Nat × (Nat → Int32)} {I : Nat → Nat → Int32} {v1 : Int32} {v2 : Value}  : zr X 155 120 [.ref 160, .int v1, v2, .null] [] (zk I) = zr X 155 50 [.ref 160, .int (v1 + 1), v2, .null] [] (zk I) :=
  (zr_iinc t155_120 rfl rfl (congrArg (fun z => v1 + z) zci_1) rfl).trans <|
    zr_goto (tgt := 50) t155_123 rfl
theorem k155_126 {X : Nat × (Nat → Int32)} {I : Nat → Nat → Int32} {v1 : Int32} {v2 : Value}  : zr X 155 126 [.ref 160, .int v1, v2, .null] [] (zk I) = zr X 155 128 [.ref 160, .int 0, v2, .null] [] (zk I) :=
  (zr_iconst t155_126 zci_0).trans <|
    zr_istore_n t155_127 rfl rfl
theorem k155_128 {X : Nat × (Nat → Int32)} {I : Nat → Nat → Int32} {v1 : Int32} {v2 : Value} {v3 : Value}  : zr X 155 128 [.ref 160, .int v1, v2, v3] [] (zk I) = if (I 161 66) ≤ v1 then zr X 155 247 [.ref 160, .int v1, v2, v3] [] (zk I) else zr X 155 139 [.ref 160, .int v1, v2, v3] [] (zk I) :=
  (zr_iload_n t155_128 rfl).trans <|
    (zr_aload_n t155_129 rfl).trans <|
    (zr_getR (u := 161) t155_130 (rfl)).trans <|
    (zr_bipush t155_133 zcb_66).trans <|
    (zr_iald (j := 66) t155_135 (N := 675) rfl (by decide) (by decide)).trans <|
    zr_ic_ge (tgt := 247) t155_136 rfl
theorem k155_139 {X : Nat × (Nat → Int32)} {I : Nat → Nat → Int32} {v1 : Int32} {v2 : Value} {v3 : Value}  : zr X 155 139 [.ref 160, .int v1, v2, v3] [] (zk I) = zr X 155 141 [.ref 160, .int v1, .int 0, v3] [] (zk I) :=
  (zr_iconst t155_139 zci_0).trans <|
    zr_istore_n t155_140 rfl rfl
theorem k155_141 {X : Nat × (Nat → Int32)} {I : Nat → Nat → Int32} {v1 : Int32} {v2 : Int32} {v3 : Value}  : zr X 155 141 [.ref 160, .int v1, .int v2, v3] [] (zk I) = if v1 ≤ v2 then zr X 155 241 [.ref 160, .int v1, .int v2, v3] [] (zk I) else zr X 155 146 [.ref 160, .int v1, .int v2, v3] [] (zk I) :=
  (zr_iload_n t155_141 rfl).trans <|
    (zr_iload_n t155_142 rfl).trans <|
    zr_ic_ge (tgt := 241) t155_143 rfl
theorem k155_146 {X : Nat × (Nat → Int32)} {I : Nat → Nat → Int32} {v1 : Int32} {v2 : Int32} {v3 : Value} (q1 : zin v1 20 = true) : zr X 155 146 [.ref 160, .int v1, .int v2, v3] [] (zk I) = if ¬ (I 169 (zx v1)) = 0 then zr X 155 241 [.ref 160, .int v1, .int v2, v3] [] (zk I) else zr X 155 155 [.ref 160, .int v1, .int v2, v3] [] (zk I) :=
  (zr_aload_n t155_146 rfl).trans <|
    (zr_getR (u := 169) t155_147 (rfl)).trans <|
    (zr_iload_n t155_150 rfl).trans <|
    (zr_bald (j := zx v1) t155_151 (N := 20) rfl rfl q1).trans <|
    zr_if_ne (tgt := 241) t155_152 rfl
theorem k155_155 {X : Nat × (Nat → Int32)} {I : Nat → Nat → Int32} {v1 : Int32} {v2 : Int32} {v3 : Value} (q1 : zin v2 20 = true) : zr X 155 155 [.ref 160, .int v1, .int v2, v3] [] (zk I) = if ¬ (I 169 (zx v2)) = 0 then zr X 155 203 [.ref 160, .int v1, .int v2, v3] [] (zk I) else zr X 155 164 [.ref 160, .int v1, .int v2, v3] [] (zk I) :=
  (zr_aload_n t155_155 rfl).trans <|
    (zr_getR (u := 169) t155_156 (rfl)).trans <|
    (zr_iload_n t155_159 rfl).trans <|
    (zr_bald (j := zx v2) t155_160 (N := 20) rfl rfl q1).trans <|
    zr_if_ne (tgt := 203) t155_161 rfl
theorem k155_164 {X : Nat × (Nat → Int32)} {I : Nat → Nat → Int32} {v1 : Int32} {v2 : Int32} {v3 : Value}  : zr X 155 164 [.ref 160, .int v1, .int v2, v3] [] (zk I) = zcb (zr X 117 0 [.ref 160, .int v1, .int 1] [] (zk I)) (fun v m1 => zr X 155 170 [.ref 160, .int v1, .int v2, v3] (v.toList ++ []) m1) :=
  (zr_aload_n t155_164 rfl).trans <|
    (zr_iload_n t155_165 rfl).trans <|
    (zr_iconst t155_166 zci_1).trans <|
    zr_callv t155_167 rfl rfl rfl rfl
theorem k155_170 {X : Nat × (Nat → Int32)} {I : Nat → Nat → Int32} {v1 : Int32} {v2 : Int32} {v3 : Value} {s0 : Int32}  : zr X 155 170 [.ref 160, .int v1, .int v2, v3] [.int s0] (zk I) = if ¬ s0 = 1 then zr X 155 203 [.ref 160, .int v1, .int v2, v3] [] (zk I) else zr X 155 174 [.ref 160, .int v1, .int v2, v3] [] (zk I) :=
  (zr_iconst t155_170 zci_1).trans <|
    zr_ic_ne (tgt := 203) t155_171 rfl
theorem k155_174 {X : Nat × (Nat → Int32)} {I : Nat → Nat → Int32} {v1 : Int32} {v2 : Int32} {v3 : Value}  : zr X 155 174 [.ref 160, .int v1, .int v2, v3] [] (zk I) = zcb (zr X 117 0 [.ref 160, .int v2, .int 1] [] (zk I)) (fun v m1 => zr X 155 180 [.ref 160, .int v1, .int v2, v3] (v.toList ++ []) m1) :=
  (zr_aload_n t155_174 rfl).trans <|
    (zr_iload_n t155_175 rfl).trans <|
    (zr_iconst t155_176 zci_1).trans <|
    zr_callv t155_177 rfl rfl rfl rfl
theorem k155_180 {X : Nat × (Nat → Int32)} {I : Nat → Nat → Int32} {v1 : Int32} {v2 : Int32} {v3 : Value} {s0 : Int32}  : zr X 155 180 [.ref 160, .int v1, .int v2, v3] [.int s0] (zk I) = if ¬ s0 = 1 then zr X 155 203 [.ref 160, .int v1, .int v2, v3] [] (zk I) else zr X 155 184 [.ref 160, .int v1, .int v2, v3] [] (zk I) :=
  (zr_iconst t155_180 zci_1).trans <|
    zr_ic_ne (tgt := 203) t155_181 rfl
theorem k155_184 {X : Nat × (Nat → Int32)} {I : Nat → Nat → Int32} {v1 : Int32} {v2 : Int32} {v3 : Value}  : zr X 155 184 [.ref 160, .int v1, .int v2, v3] [] (zk I) = zcb (zr X 117 0 [.ref 160, .int v1, .int 0] [] (zk I)) (fun v m1 => zr X 155 190 [.ref 160, .int v1, .int v2, v3] (v.toList ++ []) m1) :=
  (zr_aload_n t155_184 rfl).trans <|
    (zr_iload_n t155_185 rfl).trans <|
    (zr_iconst t155_186 zci_0).trans <|
    zr_callv t155_187 rfl rfl rfl rfl
theorem k155_190 {X : Nat × (Nat → Int32)} {I : Nat → Nat → Int32} {v1 : Int32} {v2 : Int32} {v3 : Value} {s0 : Int32}  : zr X 155 190 [.ref 160, .int v1, .int v2, v3] [.int s0] (zk I) = zcb (zr X 117 0 [.ref 160, .int v2, .int 0] [] (zk I)) (fun v m1 => zr X 155 196 [.ref 160, .int v1, .int v2, v3] (v.toList ++ [.int s0]) m1) :=
  (zr_aload_n t155_190 rfl).trans <|
    (zr_iload_n t155_191 rfl).trans <|
    (zr_iconst t155_192 zci_0).trans <|
    zr_callv t155_193 rfl rfl rfl rfl
theorem k155_196 {X : Nat × (Nat → Int32)} {I : Nat → Nat → Int32} {v1 : Int32} {v2 : Int32} {v3 : Value} {s0 : Int32} {s1 : Int32}  : zr X 155 196 [.ref 160, .int v1, .int v2, v3] [.int s1, .int s0] (zk I) = if ¬ s0 = s1 then zr X 155 203 [.ref 160, .int v1, .int v2, v3] [] (zk I) else zr X 155 199 [.ref 160, .int v1, .int v2, v3] [] (zk I) :=
  zr_ic_ne (tgt := 203) t155_196 rfl
theorem k155_199 {X : Nat × (Nat → Int32)} {I : Nat → Nat → Int32} {v1 : Int32} {v2 : Int32} {v3 : Value}  : zr X 155 199 [.ref 160, .int v1, .int v2, v3] [] (zk I) = if 1 = 0 then zr X 155 233 [.ref 160, .int v1, .int v2, .int 1] [.int v1, .ref 169] (zk I) else zr X 155 214 [.ref 160, .int v1, .int v2, .int 1] [.int v1, .ref 169] (zk I) :=
  (zr_iconst t155_199 zci_1).trans <|
    (zr_goto (tgt := 204) t155_200 rfl).trans <|
    (zr_istore_n t155_204 rfl rfl).trans <|
    (zr_aload_n t155_205 rfl).trans <|
    (zr_getR (u := 169) t155_206 (rfl)).trans <|
    (zr_iload_n t155_209 rfl).trans <|
    (zr_iload_n t155_210 rfl).trans <|
    zr_if_eq (tgt := 233) t155_211 rfl
theorem k155_203 {X : Nat × (Nat → Int32)} {I : Nat → Nat → Int32} {v1 : Int32} {v2 : Int32} {v3 : Value}  : zr X 155 203 [.ref 160, .int v1, .int v2, v3] [] (zk I) = if 0 = 0 then zr X 155 233 [.ref 160, .int v1, .int v2, .int 0] [.int v1, .ref 169] (zk I) else zr X 155 214 [.ref 160, .int v1, .int v2, .int 0] [.int v1, .ref 169] (zk I) :=
  (zr_iconst t155_203 zci_0).trans <|
    (zr_istore_n t155_204 rfl rfl).trans <|
    (zr_aload_n t155_205 rfl).trans <|
    (zr_getR (u := 169) t155_206 (rfl)).trans <|
    (zr_iload_n t155_209 rfl).trans <|
    (zr_iload_n t155_210 rfl).trans <|
    zr_if_eq (tgt := 233) t155_211 rfl
theorem k155_214 {X : Nat × (Nat → Int32)} {I : Nat → Nat → Int32} {v1 : Int32} {v2 : Int32} {v3 : Int32} {s1 : Int32}  : zr X 155 214 [.ref 160, .int v1, .int v2, .int v3] [.int s1, .ref 169] (zk I) = zcb (zr X 117 0 [.ref 160, .int v1, .int 2] [] (zk I)) (fun v m1 => zr X 155 220 [.ref 160, .int v1, .int v2, .int v3] (v.toList ++ [.int s1, .ref 169]) m1) :=
  (zr_aload_n t155_214 rfl).trans <|
    (zr_iload_n t155_215 rfl).trans <|
    (zr_iconst t155_216 zci_2).trans <|
    zr_callv t155_217 rfl rfl rfl rfl
theorem k155_220 {X : Nat × (Nat → Int32)} {I : Nat → Nat → Int32} {v1 : Int32} {v2 : Int32} {v3 : Int32} {s1 : Int32} {s2 : Int32}  : zr X 155 220 [.ref 160, .int v1, .int v2, .int v3] [.int s2, .int s1, .ref 169] (zk I) = zcb (zr X 117 0 [.ref 160, .int v2, .int 2] [] (zk I)) (fun v m1 => zr X 155 226 [.ref 160, .int v1, .int v2, .int v3] (v.toList ++ [.int s2, .int s1, .ref 169]) m1) :=
  (zr_aload_n t155_220 rfl).trans <|
    (zr_iload_n t155_221 rfl).trans <|
    (zr_iconst t155_222 zci_2).trans <|
    zr_callv t155_223 rfl rfl rfl rfl
theorem k155_226 {X : Nat × (Nat → Int32)} {I : Nat → Nat → Int32} {v1 : Int32} {v2 : Int32} {v3 : Int32} {s1 : Int32} {s2 : Int32} {s3 : Int32}  : zr X 155 226 [.ref 160, .int v1, .int v2, .int v3] [.int s3, .int s2, .int s1, .ref 169] (zk I) = if ¬ s2 = s3 then zr X 155 233 [.ref 160, .int v1, .int v2, .int v3] [.int s1, .ref 169] (zk I) else zr X 155 229 [.ref 160, .int v1, .int v2, .int v3] [.int s1, .ref 169] (zk I) :=
  zr_ic_ne (tgt := 233) t155_226 rfl
theorem k155_229 {X : Nat × (Nat → Int32)} {I : Nat → Nat → Int32} {v1 : Int32} {v2 : Int32} {v3 : Int32} {s1 : Int32} (q1 : zin s1 20 = true) : zr X 155 229 [.ref 160, .int v1, .int v2, .int v3] [.int s1, .ref 169] (zk I) = zr X 155 141 [.ref 160, .int v1, .int (v2 + 1), .int v3] [] (zk (zs1 I 169 (zx s1) 1)) :=
  (zr_iconst t155_229 zci_1).trans <|
    (zr_goto (tgt := 234) t155_230 rfl).trans <|
    (zr_bast (j := zx s1) t155_234 (N := 20) rfl rfl q1 (Or.inr rfl)).trans <|
    (zr_iinc t155_235 rfl rfl (congrArg (fun z => v2 + z) zci_1) rfl).trans <|
    zr_goto (tgt := 141) t155_238 rfl
theorem k155_233 {X : Nat × (Nat → Int32)} {I : Nat → Nat → Int32} {v1 : Int32} {v2 : Int32} {v3 : Int32} {s1 : Int32} (q1 : zin s1 20 = true) : zr X 155 233 [.ref 160, .int v1, .int v2, .int v3] [.int s1, .ref 169] (zk I) = zr X 155 141 [.ref 160, .int v1, .int (v2 + 1), .int v3] [] (zk (zs1 I 169 (zx s1) 0)) :=
  (zr_iconst t155_233 zci_0).trans <|
    (zr_bast (j := zx s1) t155_234 (N := 20) rfl rfl q1 (Or.inl rfl)).trans <|
    (zr_iinc t155_235 rfl rfl (congrArg (fun z => v2 + z) zci_1) rfl).trans <|
    zr_goto (tgt := 141) t155_238 rfl
theorem k155_241 {X : Nat × (Nat → Int32)} {I : Nat → Nat → Int32} {v1 : Int32} {v2 : Int32} {v3 : Value}  : zr X 155 241 [.ref 160, .int v1, .int v2, v3] [] (zk I) = zr X 155 128 [.ref 160, .int (v1 + 1), .int v2, v3] [] (zk I) :=
  (zr_iinc t155_241 rfl rfl (congrArg (fun z => v1 + z) zci_1) rfl).trans <|
    zr_goto (tgt := 128) t155_244 rfl
theorem k155_247 {X : Nat × (Nat → Int32)} {I : Nat → Nat → Int32} {v1 : Int32} {v2 : Value} {v3 : Value}  : zr X 155 247 [.ref 160, .int v1, v2, v3] [] (zk I) = some (none, zk I) :=
  zr_vret t155_247 rfl
/-! X10_ship FiveInksModel.ship -/
theorem k156_0 {X : Nat × (Nat → Int32)} {I : Nat → Nat → Int32}   : zr X 156 0 [.ref 160, .null] [] (zk I) = zcb (zr X 121 0 [.ref 160, .null] [] (zk (zs1 I 160 0 0))) (fun v m1 => zr X 156 9 [.ref 160, .null] (v.toList ++ []) m1) :=
  (zr_aload_n t156_0 rfl).trans <|
    (zr_iconst t156_1 zci_0).trans <|
    (zr_putI t156_2 (rfl) (Or.inl rfl)).trans <|
    (zr_aload_n t156_5 rfl).trans <|
    zr_callv t156_6 rfl rfl rfl rfl
theorem k156_9 {X : Nat × (Nat → Int32)} {I : Nat → Nat → Int32}   : zr X 156 9 [.ref 160, .null] [] (zk I) = zcb (zr X 133 0 [.ref 160, .null] [] (zk I)) (fun v m1 => zr X 156 13 [.ref 160, .null] (v.toList ++ []) m1) :=
  (zr_aload_n t156_9 rfl).trans <|
    zr_callv t156_10 rfl rfl rfl rfl
theorem k156_13 {X : Nat × (Nat → Int32)} {I : Nat → Nat → Int32}   : zr X 156 13 [.ref 160, .null] [] (zk I) = zcb (zr X 155 0 [.ref 160, .null, .null, .null] [] (zk I)) (fun v m1 => zr X 156 17 [.ref 160, .null] (v.toList ++ []) m1) :=
  (zr_aload_n t156_13 rfl).trans <|
    zr_callv t156_14 rfl rfl rfl rfl
theorem k156_17 {X : Nat × (Nat → Int32)} {I : Nat → Nat → Int32}   : zr X 156 17 [.ref 160, .null] [] (zk I) = zr X 156 27 [.ref 160, .int ((I 161 66) - 1)] [] (zk I) :=
  (zr_aload_n t156_17 rfl).trans <|
    (zr_getR (u := 161) t156_18 (rfl)).trans <|
    (zr_bipush t156_21 zcb_66).trans <|
    (zr_iald (j := 66) t156_23 (N := 675) rfl (by decide) (by decide)).trans <|
    (zr_iconst t156_24 zci_1).trans <|
    (zr_isub t156_25).trans <|
    zr_istore_n t156_26 rfl rfl
theorem k156_27 {X : Nat × (Nat → Int32)} {I : Nat → Nat → Int32} {v1 : Int32}  : zr X 156 27 [.ref 160, .int v1] [] (zk I) = if v1 < 0 then zr X 156 51 [.ref 160, .int v1] [] (zk I) else zr X 156 31 [.ref 160, .int v1] [] (zk I) :=
  (zr_iload_n t156_27 rfl).trans <|
    zr_if_lt (tgt := 51) t156_28 rfl
theorem k156_31 {X : Nat × (Nat → Int32)} {I : Nat → Nat → Int32} {v1 : Int32} (q1 : zin v1 20 = true) : zr X 156 31 [.ref 160, .int v1] [] (zk I) = if (I 169 (zx v1)) = 0 then zr X 156 45 [.ref 160, .int v1] [] (zk I) else zr X 156 40 [.ref 160, .int v1] [] (zk I) :=
  (zr_aload_n t156_31 rfl).trans <|
    (zr_getR (u := 169) t156_32 (rfl)).trans <|
    (zr_iload_n t156_35 rfl).trans <|
    (zr_bald (j := zx v1) t156_36 (N := 20) rfl rfl q1).trans <|
    zr_if_eq (tgt := 45) t156_37 rfl
theorem k156_40 {X : Nat × (Nat → Int32)} {I : Nat → Nat → Int32} {v1 : Int32}  : zr X 156 40 [.ref 160, .int v1] [] (zk I) = zcb (zr X 149 0 [.ref 160, .int v1, .null] [] (zk I)) (fun v m1 => zr X 156 45 [.ref 160, .int v1] (v.toList ++ []) m1) :=
  (zr_aload_n t156_40 rfl).trans <|
    (zr_iload_n t156_41 rfl).trans <|
    zr_callv t156_42 rfl rfl rfl rfl
theorem k156_45 {X : Nat × (Nat → Int32)} {I : Nat → Nat → Int32} {v1 : Int32}  : zr X 156 45 [.ref 160, .int v1] [] (zk I) = zr X 156 27 [.ref 160, .int (v1 + (-1))] [] (zk I) :=
  (zr_iinc t156_45 rfl rfl (congrArg (fun z => v1 + z) zci_m1) rfl).trans <|
    zr_goto (tgt := 27) t156_48 rfl
theorem k156_51 {X : Nat × (Nat → Int32)} {I : Nat → Nat → Int32} {v1 : Int32}  : zr X 156 51 [.ref 160, .int v1] [] (zk I) = zr X 156 55 [.ref 160, .int 365] [] (zk I) :=
  (zr_sipush t156_51 zcs_365).trans <|
    zr_istore_n t156_54 rfl rfl
theorem k156_55 {X : Nat × (Nat → Int32)} {I : Nat → Nat → Int32} {v1 : Int32}  : zr X 156 55 [.ref 160, .int v1] [] (zk I) = if v1 < 61 then zr X 156 90 [.ref 160, .int v1] [] (zk I) else zr X 156 61 [.ref 160, .int v1] [] (zk I) :=
  (zr_iload_n t156_55 rfl).trans <|
    (zr_bipush t156_56 zcb_61).trans <|
    zr_ic_lt (tgt := 90) t156_58 rfl
theorem k156_61 {X : Nat × (Nat → Int32)} {I : Nat → Nat → Int32} {v1 : Int32} (q1 : zin ((309 + v1) - 61) 675 = true) (q2 : zin (309 + v1) 675 = true) : zr X 156 61 [.ref 160, .int v1] [] (zk I) = zr X 156 55 [.ref 160, .int (v1 + (-1))] [] (zk (zs1 I 161 (zx (309 + v1)) (I 161 (zx ((309 + v1) - 61))))) :=
  (zr_aload_n t156_61 rfl).trans <|
    (zr_getR (u := 161) t156_62 (rfl)).trans <|
    (zr_sipush t156_65 zcs_309).trans <|
    (zr_iload_n t156_68 rfl).trans <|
    (zr_iadd t156_69).trans <|
    (zr_aload_n t156_70 rfl).trans <|
    (zr_getR (u := 161) t156_71 (rfl)).trans <|
    (zr_sipush t156_74 zcs_309).trans <|
    (zr_iload_n t156_77 rfl).trans <|
    (zr_iadd t156_78).trans <|
    (zr_bipush t156_79 zcb_61).trans <|
    (zr_isub t156_81).trans <|
    (zr_iald (j := zx ((309 + v1) - 61)) t156_82 (N := 675) rfl rfl q1).trans <|
    (zr_iast (j := zx (309 + v1)) t156_83 (N := 675) rfl rfl q2).trans <|
    (zr_iinc t156_84 rfl rfl (congrArg (fun z => v1 + z) zci_m1) rfl).trans <|
    zr_goto (tgt := 55) t156_87 rfl
theorem k156_90 {X : Nat × (Nat → Int32)} {I : Nat → Nat → Int32} {v1 : Int32}  : zr X 156 90 [.ref 160, .int v1] [] (zk I) = zr X 156 114 [.ref 160, .int 0] [] (zk (zs1 (zs1 I 161 0 (I 160 11)) 161 309 (I 160 11))) :=
  (zr_aload_n t156_90 rfl).trans <|
    (zr_getR (u := 161) t156_91 (rfl)).trans <|
    (zr_iconst t156_94 zci_0).trans <|
    (zr_aload_n t156_95 rfl).trans <|
    (zr_getI t156_96 (rfl)).trans <|
    (zr_iast (j := 0) t156_99 (N := 675) rfl (by decide) (by decide)).trans <|
    (zr_aload_n t156_100 rfl).trans <|
    (zr_getR (u := 161) t156_101 (rfl)).trans <|
    (zr_sipush t156_104 zcs_309).trans <|
    (zr_aload_n t156_107 rfl).trans <|
    (zr_getI t156_108 (rfl)).trans <|
    (zr_iast (j := 309) t156_111 (N := 675) rfl (by decide) (by decide)).trans <|
    (zr_iconst t156_112 zci_0).trans <|
    zr_istore_n t156_113 rfl rfl
theorem k156_114 {X : Nat × (Nat → Int32)} {I : Nat → Nat → Int32} {v1 : Int32}  : zr X 156 114 [.ref 160, .int v1] [] (zk I) = if 60 ≤ v1 then zr X 156 170 [.ref 160, .int v1] [] (zk I) else zr X 156 120 [.ref 160, .int v1] [] (zk I) :=
  (zr_iload_n t156_114 rfl).trans <|
    (zr_bipush t156_115 zcb_60).trans <|
    zr_ic_ge (tgt := 170) t156_117 rfl
theorem k156_120 {X : Nat × (Nat → Int32)} {I : Nat → Nat → Int32} {v1 : Int32}  : zr X 156 120 [.ref 160, .int v1] [] (zk I) = if (I 160 11) ≤ v1 then zr X 156 144 [.ref 160, .int v1] [.int (1 + v1), .ref 161] (zk I) else zr X 156 135 [.ref 160, .int v1] [.int (1 + v1), .ref 161] (zk I) :=
  (zr_aload_n t156_120 rfl).trans <|
    (zr_getR (u := 161) t156_121 (rfl)).trans <|
    (zr_iconst t156_124 zci_1).trans <|
    (zr_iload_n t156_125 rfl).trans <|
    (zr_iadd t156_126).trans <|
    (zr_iload_n t156_127 rfl).trans <|
    (zr_aload_n t156_128 rfl).trans <|
    (zr_getI t156_129 (rfl)).trans <|
    zr_ic_ge (tgt := 144) t156_132 rfl
theorem k156_135 {X : Nat × (Nat → Int32)} {I : Nat → Nat → Int32} {v1 : Int32} {s1 : Int32} (q1 : zin v1 180 = true) (q2 : zin s1 675 = true) (q3 : zin (1 + v1) 675 = true) (q4 : zin (310 + v1) 675 = true) : zr X 156 135 [.ref 160, .int v1] [.int s1, .ref 161] (zk I) = zr X 156 114 [.ref 160, .int (v1 + 1)] [] (zk (zs1 (zs1 I 161 (zx s1) (I 168 (zx v1))) 161 (zx (310 + v1)) ((zs1 I 161 (zx s1) (I 168 (zx v1))) 161 (zx (1 + v1))))) :=
  (zr_aload_n t156_135 rfl).trans <|
    (zr_getR (u := 168) t156_136 (rfl)).trans <|
    (zr_iload_n t156_139 rfl).trans <|
    (zr_iald (j := zx v1) t156_140 (N := 180) rfl rfl q1).trans <|
    (zr_goto (tgt := 145) t156_141 rfl).trans <|
    (zr_iast (j := zx s1) t156_145 (N := 675) rfl rfl q2).trans <|
    (zr_aload_n t156_146 rfl).trans <|
    (zr_getR (u := 161) t156_147 (rfl)).trans <|
    (zr_sipush t156_150 zcs_310).trans <|
    (zr_iload_n t156_153 rfl).trans <|
    (zr_iadd t156_154).trans <|
    (zr_aload_n t156_155 rfl).trans <|
    (zr_getR (u := 161) t156_156 (rfl)).trans <|
    (zr_iconst t156_159 zci_1).trans <|
    (zr_iload_n t156_160 rfl).trans <|
    (zr_iadd t156_161).trans <|
    (zr_iald (j := zx (1 + v1)) t156_162 (N := 675) rfl rfl q3).trans <|
    (zr_iast (j := zx (310 + v1)) t156_163 (N := 675) rfl rfl q4).trans <|
    (zr_iinc t156_164 rfl rfl (congrArg (fun z => v1 + z) zci_1) rfl).trans <|
    zr_goto (tgt := 114) t156_167 rfl
theorem k156_144 {X : Nat × (Nat → Int32)} {I : Nat → Nat → Int32} {v1 : Int32} {s1 : Int32} (q1 : zin s1 675 = true) (q2 : zin (1 + v1) 675 = true) (q3 : zin (310 + v1) 675 = true) : zr X 156 144 [.ref 160, .int v1] [.int s1, .ref 161] (zk I) = zr X 156 114 [.ref 160, .int (v1 + 1)] [] (zk (zs1 (zs1 I 161 (zx s1) 0) 161 (zx (310 + v1)) ((zs1 I 161 (zx s1) 0) 161 (zx (1 + v1))))) :=
  (zr_iconst t156_144 zci_0).trans <|
    (zr_iast (j := zx s1) t156_145 (N := 675) rfl rfl q1).trans <|
    (zr_aload_n t156_146 rfl).trans <|
    (zr_getR (u := 161) t156_147 (rfl)).trans <|
    (zr_sipush t156_150 zcs_310).trans <|
    (zr_iload_n t156_153 rfl).trans <|
    (zr_iadd t156_154).trans <|
    (zr_aload_n t156_155 rfl).trans <|
    (zr_getR (u := 161) t156_156 (rfl)).trans <|
    (zr_iconst t156_159 zci_1).trans <|
    (zr_iload_n t156_160 rfl).trans <|
    (zr_iadd t156_161).trans <|
    (zr_iald (j := zx (1 + v1)) t156_162 (N := 675) rfl rfl q2).trans <|
    (zr_iast (j := zx (310 + v1)) t156_163 (N := 675) rfl rfl q3).trans <|
    (zr_iinc t156_164 rfl rfl (congrArg (fun z => v1 + z) zci_1) rfl).trans <|
    zr_goto (tgt := 114) t156_167 rfl
theorem k156_170 {X : Nat × (Nat → Int32)} {I : Nat → Nat → Int32} {v1 : Int32}  : zr X 156 170 [.ref 160, .int v1] [] (zk I) = if 6 ≤ (I 161 308) then zr X 156 196 [.ref 160, .int v1] [.int (I 161 308), .int 308, .ref 161] (zk I) else zr X 156 192 [.ref 160, .int v1] [.int (I 161 308), .int 308, .ref 161] (zk I) :=
  (zr_aload_n t156_170 rfl).trans <|
    (zr_getR (u := 161) t156_171 (rfl)).trans <|
    (zr_sipush t156_174 zcs_308).trans <|
    (zr_dup2 t156_177 ⟨rfl, rfl⟩).trans <|
    (zr_iald (j := 308) t156_178 (N := 675) rfl (by decide) (by decide)).trans <|
    (zr_aload_n t156_179 rfl).trans <|
    (zr_getR (u := 161) t156_180 (rfl)).trans <|
    (zr_sipush t156_183 zcs_308).trans <|
    (zr_iald (j := 308) t156_186 (N := 675) rfl (by decide) (by decide)).trans <|
    (zr_bipush t156_187 zcb_6).trans <|
    zr_ic_ge (tgt := 196) t156_189 rfl
theorem k156_192 {X : Nat × (Nat → Int32)} {I : Nat → Nat → Int32} {v1 : Int32} {s1 : Int32} {s2 : Int32} (q1 : zin s1 675 = true) : zr X 156 192 [.ref 160, .int v1] [.int s2, .int s1, .ref 161] (zk I) = some (some (.int (((zs1 (zs1 I 161 (zx s1) (s2 + 1)) 161 307 (((zs1 I 161 (zx s1) (s2 + 1)) 161 307) + 1)) 161 307) - 1)), zk (zs1 (zs1 I 161 (zx s1) (s2 + 1)) 161 307 (((zs1 I 161 (zx s1) (s2 + 1)) 161 307) + 1))) :=
  (zr_iconst t156_192 zci_1).trans <|
    (zr_goto (tgt := 197) t156_193 rfl).trans <|
    (zr_iadd t156_197).trans <|
    (zr_iast (j := zx s1) t156_198 (N := 675) rfl rfl q1).trans <|
    (zr_aload_n t156_199 rfl).trans <|
    (zr_getR (u := 161) t156_200 (rfl)).trans <|
    (zr_sipush t156_203 zcs_307).trans <|
    (zr_dup2 t156_206 ⟨rfl, rfl⟩).trans <|
    (zr_iald (j := 307) t156_207 (N := 675) rfl (by decide) (by decide)).trans <|
    (zr_iconst t156_208 zci_1).trans <|
    (zr_iadd t156_209).trans <|
    (zr_iast (j := 307) t156_210 (N := 675) rfl (by decide) (by decide)).trans <|
    (zr_aload_n t156_211 rfl).trans <|
    (zr_getR (u := 161) t156_212 (rfl)).trans <|
    (zr_sipush t156_215 zcs_307).trans <|
    (zr_iald (j := 307) t156_218 (N := 675) rfl (by decide) (by decide)).trans <|
    (zr_iconst t156_219 zci_1).trans <|
    (zr_isub t156_220).trans <|
    zr_iret t156_221 rfl
theorem k156_196 {X : Nat × (Nat → Int32)} {I : Nat → Nat → Int32} {v1 : Int32} {s1 : Int32} {s2 : Int32} (q1 : zin s1 675 = true) : zr X 156 196 [.ref 160, .int v1] [.int s2, .int s1, .ref 161] (zk I) = some (some (.int (((zs1 (zs1 I 161 (zx s1) (s2 + 0)) 161 307 (((zs1 I 161 (zx s1) (s2 + 0)) 161 307) + 1)) 161 307) - 1)), zk (zs1 (zs1 I 161 (zx s1) (s2 + 0)) 161 307 (((zs1 I 161 (zx s1) (s2 + 0)) 161 307) + 1))) :=
  (zr_iconst t156_196 zci_0).trans <|
    (zr_iadd t156_197).trans <|
    (zr_iast (j := zx s1) t156_198 (N := 675) rfl rfl q1).trans <|
    (zr_aload_n t156_199 rfl).trans <|
    (zr_getR (u := 161) t156_200 (rfl)).trans <|
    (zr_sipush t156_203 zcs_307).trans <|
    (zr_dup2 t156_206 ⟨rfl, rfl⟩).trans <|
    (zr_iald (j := 307) t156_207 (N := 675) rfl (by decide) (by decide)).trans <|
    (zr_iconst t156_208 zci_1).trans <|
    (zr_iadd t156_209).trans <|
    (zr_iast (j := 307) t156_210 (N := 675) rfl (by decide) (by decide)).trans <|
    (zr_aload_n t156_211 rfl).trans <|
    (zr_getR (u := 161) t156_212 (rfl)).trans <|
    (zr_sipush t156_215 zcs_307).trans <|
    (zr_iald (j := 307) t156_218 (N := 675) rfl (by decide) (by decide)).trans <|
    (zr_iconst t156_219 zci_1).trans <|
    (zr_isub t156_220).trans <|
    zr_iret t156_221 rfl
/-! X10_letter FiveInksModel.letter -/
theorem k157_0 {X : Nat × (Nat → Int32)} {I : Nat → Nat → Int32} {v1 : Int32} {v2 : Int32}  : zr X 157 0 [.ref 160, .int v1, .int v2] [] (zk I) = if ¬ v1 = 0 then zr X 157 38 [.ref 160, .int v1, .int v2] [] (zk (zs1 I 160 0 0)) else zr X 157 9 [.ref 160, .int v1, .int v2] [] (zk (zs1 I 160 0 0)) :=
  (zr_aload_n t157_0 rfl).trans <|
    (zr_iconst t157_1 zci_0).trans <|
    (zr_putI t157_2 (rfl) (Or.inl rfl)).trans <|
    (zr_iload_n t157_5 rfl).trans <|
    zr_if_ne (tgt := 38) t157_6 rfl
theorem k157_9 {X : Nat × (Nat → Int32)} {I : Nat → Nat → Int32} {v1 : Int32} {v2 : Int32}  : zr X 157 9 [.ref 160, .int v1, .int v2] [] (zk I) = zcb (zr X 116 0 [.int v2, .int 0, .int ((I 161 0) - 1)] [] (zk I)) (fun v m1 => zr X 157 22 [.ref 160, .int v1, .int v2] (v.toList ++ []) m1) :=
  (zr_iload_n t157_9 rfl).trans <|
    (zr_iconst t157_10 zci_0).trans <|
    (zr_aload_n t157_11 rfl).trans <|
    (zr_getR (u := 161) t157_12 (rfl)).trans <|
    (zr_iconst t157_15 zci_0).trans <|
    (zr_iald (j := 0) t157_16 (N := 675) rfl (by decide) (by decide)).trans <|
    (zr_iconst t157_17 zci_1).trans <|
    (zr_isub t157_18).trans <|
    zr_calls t157_19 rfl rfl rfl rfl rfl
theorem k157_22 {X : Nat × (Nat → Int32)} {I : Nat → Nat → Int32} {v1 : Int32} {v2 : Int32} {s0 : Int32}  : zr X 157 22 [.ref 160, .int v1, .int v2] [.int s0] (zk I) = if s0 = 0 then zr X 157 36 [.ref 160, .int v1, .int v2] [] (zk I) else zr X 157 25 [.ref 160, .int v1, .int v2] [] (zk I) :=
  zr_if_eq (tgt := 36) t157_22 rfl
theorem k157_25 {X : Nat × (Nat → Int32)} {I : Nat → Nat → Int32} {v1 : Int32} {v2 : Int32} (q1 : zin (1 + v2) 675 = true) : zr X 157 25 [.ref 160, .int v1, .int v2] [] (zk I) = some (some (.int (I 161 (zx (1 + v2)))), zk I) :=
  (zr_aload_n t157_25 rfl).trans <|
    (zr_getR (u := 161) t157_26 (rfl)).trans <|
    (zr_iconst t157_29 zci_1).trans <|
    (zr_iload_n t157_30 rfl).trans <|
    (zr_iadd t157_31).trans <|
    (zr_iald (j := zx (1 + v2)) t157_32 (N := 675) rfl rfl q1).trans <|
    (zr_goto (tgt := 37) t157_33 rfl).trans <|
    zr_iret t157_37 rfl
theorem k157_36 {X : Nat × (Nat → Int32)} {I : Nat → Nat → Int32} {v1 : Int32} {v2 : Int32}  : zr X 157 36 [.ref 160, .int v1, .int v2] [] (zk I) = some (some (.int (-1)), zk I) :=
  (zr_iconst t157_36 zci_m1).trans <|
    zr_iret t157_37 rfl
theorem k157_38 {X : Nat × (Nat → Int32)} {I : Nat → Nat → Int32} {v1 : Int32} {v2 : Int32}  : zr X 157 38 [.ref 160, .int v1, .int v2] [] (zk I) = if v1 = 1 then zr X 157 46 [.ref 160, .int v1, .int v2] [] (zk I) else zr X 157 43 [.ref 160, .int v1, .int v2] [] (zk I) :=
  (zr_iload_n t157_38 rfl).trans <|
    (zr_iconst t157_39 zci_1).trans <|
    zr_ic_eq (tgt := 46) t157_40 rfl
theorem k157_43 {X : Nat × (Nat → Int32)} {I : Nat → Nat → Int32} {v1 : Int32} {v2 : Int32}  : zr X 157 43 [.ref 160, .int v1, .int v2] [] (zk I) = some (some (.int (-2)), zk I) :=
  (zr_bipush t157_43 zcb_m2).trans <|
    zr_iret t157_45 rfl
theorem k157_46 {X : Nat × (Nat → Int32)} {I : Nat → Nat → Int32} {v1 : Int32} {v2 : Int32}  : zr X 157 46 [.ref 160, .int v1, .int v2] [] (zk I) = zcb (zr X 133 0 [.ref 160, .null] [] (zk I)) (fun v m1 => zr X 157 50 [.ref 160, .int v1, .int v2] (v.toList ++ []) m1) :=
  (zr_aload_n t157_46 rfl).trans <|
    zr_callv t157_47 rfl rfl rfl rfl
theorem k157_50 {X : Nat × (Nat → Int32)} {I : Nat → Nat → Int32} {v1 : Int32} {v2 : Int32}  : zr X 157 50 [.ref 160, .int v1, .int v2] [] (zk I) = zcb (zr X 116 0 [.int v2, .int 0, .int ((I 160 11) - 1)] [] (zk I)) (fun v m1 => zr X 157 61 [.ref 160, .int v1, .int v2] (v.toList ++ []) m1) :=
  (zr_iload_n t157_50 rfl).trans <|
    (zr_iconst t157_51 zci_0).trans <|
    (zr_aload_n t157_52 rfl).trans <|
    (zr_getI t157_53 (rfl)).trans <|
    (zr_iconst t157_56 zci_1).trans <|
    (zr_isub t157_57).trans <|
    zr_calls t157_58 rfl rfl rfl rfl rfl
theorem k157_61 {X : Nat × (Nat → Int32)} {I : Nat → Nat → Int32} {v1 : Int32} {v2 : Int32} {s0 : Int32}  : zr X 157 61 [.ref 160, .int v1, .int v2] [.int s0] (zk I) = if s0 = 0 then zr X 157 73 [.ref 160, .int v1, .int v2] [] (zk I) else zr X 157 64 [.ref 160, .int v1, .int v2] [] (zk I) :=
  zr_if_eq (tgt := 73) t157_61 rfl
theorem k157_64 {X : Nat × (Nat → Int32)} {I : Nat → Nat → Int32} {v1 : Int32} {v2 : Int32} (q1 : zin v2 180 = true) : zr X 157 64 [.ref 160, .int v1, .int v2] [] (zk I) = some (some (.int (I 168 (zx v2))), zk I) :=
  (zr_aload_n t157_64 rfl).trans <|
    (zr_getR (u := 168) t157_65 (rfl)).trans <|
    (zr_iload_n t157_68 rfl).trans <|
    (zr_iald (j := zx v2) t157_69 (N := 180) rfl rfl q1).trans <|
    (zr_goto (tgt := 74) t157_70 rfl).trans <|
    zr_iret t157_74 rfl
theorem k157_73 {X : Nat × (Nat → Int32)} {I : Nat → Nat → Int32} {v1 : Int32} {v2 : Int32}  : zr X 157 73 [.ref 160, .int v1, .int v2] [] (zk I) = some (some (.int (-1)), zk I) :=
  (zr_iconst t157_73 zci_m1).trans <|
    zr_iret t157_74 rfl
/-! X10_seen FiveInksModel.seen -/
theorem k158_0 {X : Nat × (Nat → Int32)} {I : Nat → Nat → Int32} {v1 : Int32} {v2 : Int32}  : zr X 158 0 [.ref 160, .int v1, .int v2] [] (zk I) = zcb (zr X 120 0 [.int v1] [] (zk (zs1 I 160 0 0))) (fun v m1 => zr X 158 9 [.ref 160, .int v1, .int v2] (v.toList ++ []) m1) :=
  (zr_aload_n t158_0 rfl).trans <|
    (zr_iconst t158_1 zci_0).trans <|
    (zr_putI t158_2 (rfl) (Or.inl rfl)).trans <|
    (zr_iload_n t158_5 rfl).trans <|
    zr_calls t158_6 rfl rfl rfl rfl rfl
theorem k158_9 {X : Nat × (Nat → Int32)} {I : Nat → Nat → Int32} {v1 : Int32} {v2 : Int32} {s0 : Int32}  : zr X 158 9 [.ref 160, .int v1, .int v2] [.int s0] (zk I) = if ¬ s0 = 0 then zr X 158 14 [.ref 160, .int v1, .int v2] [] (zk I) else zr X 158 12 [.ref 160, .int v1, .int v2] [] (zk I) :=
  zr_if_ne (tgt := 14) t158_9 rfl
theorem k158_12 {X : Nat × (Nat → Int32)} {I : Nat → Nat → Int32} {v1 : Int32} {v2 : Int32}  : zr X 158 12 [.ref 160, .int v1, .int v2] [] (zk I) = some (some (.int (-1)), zk I) :=
  (zr_iconst t158_12 zci_m1).trans <|
    zr_iret t158_13 rfl
theorem k158_14 {X : Nat × (Nat → Int32)} {I : Nat → Nat → Int32} {v1 : Int32} {v2 : Int32}  : zr X 158 14 [.ref 160, .int v1, .int v2] [] (zk I) = zcb (zr X 135 0 [.ref 160, .int v1, .null] [] (zk I)) (fun v m1 => zr X 158 19 [.ref 160, .int v1, .int v2] (v.toList ++ []) m1) :=
  (zr_aload_n t158_14 rfl).trans <|
    (zr_iload_n t158_15 rfl).trans <|
    zr_callv t158_16 rfl rfl rfl rfl
theorem k158_19 {X : Nat × (Nat → Int32)} {I : Nat → Nat → Int32} {v1 : Int32} {v2 : Int32}  : zr X 158 19 [.ref 160, .int v1, .int v2] [] (zk I) = zcb (zr X 116 0 [.int v2, .int 0, .int ((I 160 11) - 1)] [] (zk I)) (fun v m1 => zr X 158 30 [.ref 160, .int v1, .int v2] (v.toList ++ []) m1) :=
  (zr_iload_n t158_19 rfl).trans <|
    (zr_iconst t158_20 zci_0).trans <|
    (zr_aload_n t158_21 rfl).trans <|
    (zr_getI t158_22 (rfl)).trans <|
    (zr_iconst t158_25 zci_1).trans <|
    (zr_isub t158_26).trans <|
    zr_calls t158_27 rfl rfl rfl rfl rfl
theorem k158_30 {X : Nat × (Nat → Int32)} {I : Nat → Nat → Int32} {v1 : Int32} {v2 : Int32} {s0 : Int32}  : zr X 158 30 [.ref 160, .int v1, .int v2] [.int s0] (zk I) = if s0 = 0 then zr X 158 42 [.ref 160, .int v1, .int v2] [] (zk I) else zr X 158 33 [.ref 160, .int v1, .int v2] [] (zk I) :=
  zr_if_eq (tgt := 42) t158_30 rfl
theorem k158_33 {X : Nat × (Nat → Int32)} {I : Nat → Nat → Int32} {v1 : Int32} {v2 : Int32} (q1 : zin v2 180 = true) : zr X 158 33 [.ref 160, .int v1, .int v2] [] (zk I) = some (some (.int (I 168 (zx v2))), zk I) :=
  (zr_aload_n t158_33 rfl).trans <|
    (zr_getR (u := 168) t158_34 (rfl)).trans <|
    (zr_iload_n t158_37 rfl).trans <|
    (zr_iald (j := zx v2) t158_38 (N := 180) rfl rfl q1).trans <|
    (zr_goto (tgt := 43) t158_39 rfl).trans <|
    zr_iret t158_43 rfl
theorem k158_42 {X : Nat × (Nat → Int32)} {I : Nat → Nat → Int32} {v1 : Int32} {v2 : Int32}  : zr X 158 42 [.ref 160, .int v1, .int v2] [] (zk I) = some (some (.int (-1)), zk I) :=
  (zr_iconst t158_42 zci_m1).trans <|
    zr_iret t158_43 rfl
/-! X10_quarrelsOf FiveInksModel.quarrelsOf -/
theorem k159_0 {X : Nat × (Nat → Int32)} {I : Nat → Nat → Int32} {v1 : Int32}  : zr X 159 0 [.ref 160, .int v1, .null, .null] [] (zk I) = zr X 159 4 [.ref 160, .int v1, .int 0, .int 0] [] (zk I) :=
  (zr_iconst t159_0 zci_0).trans <|
    (zr_istore_n t159_1 rfl rfl).trans <|
    (zr_iconst t159_2 zci_0).trans <|
    zr_istore_n t159_3 rfl rfl
theorem k159_4 {X : Nat × (Nat → Int32)} {I : Nat → Nat → Int32} {v1 : Int32} {v2 : Int32} {v3 : Int32}  : zr X 159 4 [.ref 160, .int v1, .int v2, .int v3] [] (zk I) = if (I 161 66) ≤ v3 then zr X 159 38 [.ref 160, .int v1, .int v2, .int v3] [] (zk I) else zr X 159 15 [.ref 160, .int v1, .int v2, .int v3] [] (zk I) :=
  (zr_iload_n t159_4 rfl).trans <|
    (zr_aload_n t159_5 rfl).trans <|
    (zr_getR (u := 161) t159_6 (rfl)).trans <|
    (zr_bipush t159_9 zcb_66).trans <|
    (zr_iald (j := 66) t159_11 (N := 675) rfl (by decide) (by decide)).trans <|
    zr_ic_ge (tgt := 38) t159_12 rfl
theorem k159_15 {X : Nat × (Nat → Int32)} {I : Nat → Nat → Int32} {v1 : Int32} {v2 : Int32} {v3 : Int32}  : zr X 159 15 [.ref 160, .int v1, .int v2, .int v3] [] (zk I) = zcb (zr X 125 0 [.ref 160, .int v1, .int v3] [] (zk I)) (fun v m1 => zr X 159 22 [.ref 160, .int v1, .int v2, .int v3] (v.toList ++ [.int v2]) m1) :=
  (zr_iload_n t159_15 rfl).trans <|
    (zr_aload_n t159_16 rfl).trans <|
    (zr_iload_n t159_17 rfl).trans <|
    (zr_iload_n t159_18 rfl).trans <|
    zr_callv t159_19 rfl rfl rfl rfl
theorem k159_22 {X : Nat × (Nat → Int32)} {I : Nat → Nat → Int32} {v1 : Int32} {v2 : Int32} {v3 : Int32} {s0 : Int32} {s1 : Int32}  : zr X 159 22 [.ref 160, .int v1, .int v2, .int v3] [.int s1, .int s0] (zk I) = if s1 = 0 then zr X 159 29 [.ref 160, .int v1, .int v2, .int v3] [.int s0] (zk I) else zr X 159 25 [.ref 160, .int v1, .int v2, .int v3] [.int s0] (zk I) :=
  zr_if_eq (tgt := 29) t159_22 rfl
theorem k159_25 {X : Nat × (Nat → Int32)} {I : Nat → Nat → Int32} {v1 : Int32} {v2 : Int32} {v3 : Int32} {s0 : Int32}  : zr X 159 25 [.ref 160, .int v1, .int v2, .int v3] [.int s0] (zk I) = zr X 159 4 [.ref 160, .int v1, .int (s0 + 1), .int (v3 + 1)] [] (zk I) :=
  (zr_iconst t159_25 zci_1).trans <|
    (zr_goto (tgt := 30) t159_26 rfl).trans <|
    (zr_iadd t159_30).trans <|
    (zr_istore_n t159_31 rfl rfl).trans <|
    (zr_iinc t159_32 rfl rfl (congrArg (fun z => v3 + z) zci_1) rfl).trans <|
    zr_goto (tgt := 4) t159_35 rfl
theorem k159_29 {X : Nat × (Nat → Int32)} {I : Nat → Nat → Int32} {v1 : Int32} {v2 : Int32} {v3 : Int32} {s0 : Int32}  : zr X 159 29 [.ref 160, .int v1, .int v2, .int v3] [.int s0] (zk I) = zr X 159 4 [.ref 160, .int v1, .int (s0 + 0), .int (v3 + 1)] [] (zk I) :=
  (zr_iconst t159_29 zci_0).trans <|
    (zr_iadd t159_30).trans <|
    (zr_istore_n t159_31 rfl rfl).trans <|
    (zr_iinc t159_32 rfl rfl (congrArg (fun z => v3 + z) zci_1) rfl).trans <|
    zr_goto (tgt := 4) t159_35 rfl
theorem k159_38 {X : Nat × (Nat → Int32)} {I : Nat → Nat → Int32} {v1 : Int32} {v2 : Int32} {v3 : Int32}  : zr X 159 38 [.ref 160, .int v1, .int v2, .int v3] [] (zk I) = some (some (.int v2), zk I) :=
  (zr_iload_n t159_38 rfl).trans <|
    zr_iret t159_39 rfl
/-! X10_of FiveInksModel.of -/
theorem k160_0 {X : Nat × (Nat → Int32)} {I : Nat → Nat → Int32} {v1 : Int32} {v2 : Int32}  : zr X 160 0 [.ref 160, .int v1, .int v2] [] (zk I) = zcb (zr X 119 0 [.ref 160, .int v1] [] (zk (zs1 I 160 0 0))) (fun v m1 => zr X 160 10 [.ref 160, .int v1, .int v2] (v.toList ++ []) m1) :=
  (zr_aload_n t160_0 rfl).trans <|
    (zr_iconst t160_1 zci_0).trans <|
    (zr_putI t160_2 (rfl) (Or.inl rfl)).trans <|
    (zr_aload_n t160_5 rfl).trans <|
    (zr_iload_n t160_6 rfl).trans <|
    zr_callv t160_7 rfl rfl rfl rfl
theorem k160_10 {X : Nat × (Nat → Int32)} {I : Nat → Nat → Int32} {v1 : Int32} {v2 : Int32} {s0 : Int32}  : zr X 160 10 [.ref 160, .int v1, .int v2] [.int s0] (zk I) = if ¬ s0 = 0 then zr X 160 15 [.ref 160, .int v1, .int v2] [] (zk I) else zr X 160 13 [.ref 160, .int v1, .int v2] [] (zk I) :=
  zr_if_ne (tgt := 15) t160_10 rfl
theorem k160_13 {X : Nat × (Nat → Int32)} {I : Nat → Nat → Int32} {v1 : Int32} {v2 : Int32}  : zr X 160 13 [.ref 160, .int v1, .int v2] [] (zk I) = some (some (.int (-1)), zk I) :=
  (zr_iconst t160_13 zci_m1).trans <|
    zr_iret t160_14 rfl
theorem k160_15_c6 {X : Nat × (Nat → Int32)} {I : Nat → Nat → Int32} {v1 : Int32} {v2 : Int32}  (qc : v2 = 6) : zr X 160 15 [.ref 160, .int v1, .int v2] [] (zk I) = zr X 160 44 [.ref 160, .int v1, .int v2] [] (zk I) :=
  (zr_iload_n t160_15 rfl).trans <|
    zr_look (tgt := 44) t160_16 (by decide) (by rw [qc]; decide)
theorem k160_15_c7 {X : Nat × (Nat → Int32)} {I : Nat → Nat → Int32} {v1 : Int32} {v2 : Int32}  (qc : v2 = 7) : zr X 160 15 [.ref 160, .int v1, .int v2] [] (zk I) = zr X 160 50 [.ref 160, .int v1, .int v2] [] (zk I) :=
  (zr_iload_n t160_15 rfl).trans <|
    zr_look (tgt := 50) t160_16 (by decide) (by rw [qc]; decide)
theorem k160_15_d {X : Nat × (Nat → Int32)} {I : Nat → Nat → Int32} {v1 : Int32} {v2 : Int32}  (qd6 : ¬ v2 = 6) (qd7 : ¬ v2 = 7) : zr X 160 15 [.ref 160, .int v1, .int v2] [] (zk I) = zr X 160 59 [.ref 160, .int v1, .int v2] [] (zk I) :=
  (zr_iload_n t160_15 rfl).trans <|
    zr_look (tgt := 59) t160_16 (by decide) (by rw [show Op.lookupswitch.offset #[(6, 28), (7, 34)].toList 43 v2.toInt = 43 from ((lv_osw (k := 6) (a := 6) qd6 rfl).trans (lv_osw (k := 7) (a := 7) qd7 rfl))]; rfl)
theorem k160_44 {X : Nat × (Nat → Int32)} {I : Nat → Nat → Int32} {v1 : Int32} {v2 : Int32}  : zr X 160 44 [.ref 160, .int v1, .int v2] [] (zk I) = zcb (zr X 159 0 [.ref 160, .int v1, .null, .null] [] (zk I)) (fun v m1 => zr X 160 49 [.ref 160, .int v1, .int v2] (v.toList ++ []) m1) :=
  (zr_aload_n t160_44 rfl).trans <|
    (zr_iload_n t160_45 rfl).trans <|
    zr_callv t160_46 rfl rfl rfl rfl
theorem k160_49 {X : Nat × (Nat → Int32)} {I : Nat → Nat → Int32} {v1 : Int32} {v2 : Int32} {s0 : Int32}  : zr X 160 49 [.ref 160, .int v1, .int v2] [.int s0] (zk I) = some (some (.int s0), zk I) :=
  zr_iret t160_49 rfl
theorem k160_50 {X : Nat × (Nat → Int32)} {I : Nat → Nat → Int32} {v1 : Int32} {v2 : Int32}  : zr X 160 50 [.ref 160, .int v1, .int v2] [] (zk I) = zcb (zr X 127 0 [.ref 160, .int v1] [] (zk I)) (fun v m1 => zr X 160 55 [.ref 160, .int v1, .int v2] (v.toList ++ []) m1) :=
  (zr_aload_n t160_50 rfl).trans <|
    (zr_iload_n t160_51 rfl).trans <|
    zr_callv t160_52 rfl rfl rfl rfl
theorem k160_55 {X : Nat × (Nat → Int32)} {I : Nat → Nat → Int32} {v1 : Int32} {v2 : Int32} {s0 : Int32}  : zr X 160 55 [.ref 160, .int v1, .int v2] [.int s0] (zk I) = some (some (.int (s0 + 100)), zk I) :=
  (zr_bipush t160_55 zcb_100).trans <|
    (zr_iadd t160_57).trans <|
    zr_iret t160_58 rfl
theorem k160_59 {X : Nat × (Nat → Int32)} {I : Nat → Nat → Int32} {v1 : Int32} {v2 : Int32}  : zr X 160 59 [.ref 160, .int v1, .int v2] [] (zk I) = zcb (zr X 116 0 [.int v2, .int 0, .int 5] [] (zk I)) (fun v m1 => zr X 160 65 [.ref 160, .int v1, .int v2] (v.toList ++ []) m1) :=
  (zr_iload_n t160_59 rfl).trans <|
    (zr_iconst t160_60 zci_0).trans <|
    (zr_iconst t160_61 zci_5).trans <|
    zr_calls t160_62 rfl rfl rfl rfl rfl
theorem k160_65 {X : Nat × (Nat → Int32)} {I : Nat → Nat → Int32} {v1 : Int32} {v2 : Int32} {s0 : Int32}  : zr X 160 65 [.ref 160, .int v1, .int v2] [.int s0] (zk I) = if s0 = 0 then zr X 160 77 [.ref 160, .int v1, .int v2] [] (zk I) else zr X 160 68 [.ref 160, .int v1, .int v2] [] (zk I) :=
  zr_if_eq (tgt := 77) t160_65 rfl
theorem k160_68 {X : Nat × (Nat → Int32)} {I : Nat → Nat → Int32} {v1 : Int32} {v2 : Int32}  : zr X 160 68 [.ref 160, .int v1, .int v2] [] (zk I) = zcb (zr X 117 0 [.ref 160, .int v1, .int v2] [] (zk I)) (fun v m1 => zr X 160 74 [.ref 160, .int v1, .int v2] (v.toList ++ []) m1) :=
  (zr_aload_n t160_68 rfl).trans <|
    (zr_iload_n t160_69 rfl).trans <|
    (zr_iload_n t160_70 rfl).trans <|
    zr_callv t160_71 rfl rfl rfl rfl
theorem k160_74 {X : Nat × (Nat → Int32)} {I : Nat → Nat → Int32} {v1 : Int32} {v2 : Int32} {s0 : Int32}  : zr X 160 74 [.ref 160, .int v1, .int v2] [.int s0] (zk I) = some (some (.int s0), zk I) :=
  (zr_goto (tgt := 79) t160_74 rfl).trans <|
    zr_iret t160_79 rfl
theorem k160_77 {X : Nat × (Nat → Int32)} {I : Nat → Nat → Int32} {v1 : Int32} {v2 : Int32}  : zr X 160 77 [.ref 160, .int v1, .int v2] [] (zk I) = some (some (.int (-2)), zk I) :=
  (zr_bipush t160_77 zcb_m2).trans <|
    zr_iret t160_79 rfl
/-! X10_clash FiveInksModel.clash -/
theorem k161_0 {X : Nat × (Nat → Int32)} {I : Nat → Nat → Int32} {v1 : Int32} {v2 : Int32}  : zr X 161 0 [.ref 160, .int v1, .int v2] [] (zk I) = zcb (zr X 119 0 [.ref 160, .int v1] [] (zk (zs1 I 160 0 0))) (fun v m1 => zr X 161 10 [.ref 160, .int v1, .int v2] (v.toList ++ []) m1) :=
  (zr_aload_n t161_0 rfl).trans <|
    (zr_iconst t161_1 zci_0).trans <|
    (zr_putI t161_2 (rfl) (Or.inl rfl)).trans <|
    (zr_aload_n t161_5 rfl).trans <|
    (zr_iload_n t161_6 rfl).trans <|
    zr_callv t161_7 rfl rfl rfl rfl
theorem k161_10 {X : Nat × (Nat → Int32)} {I : Nat → Nat → Int32} {v1 : Int32} {v2 : Int32} {s0 : Int32}  : zr X 161 10 [.ref 160, .int v1, .int v2] [.int s0] (zk I) = if s0 = 0 then zr X 161 21 [.ref 160, .int v1, .int v2] [] (zk I) else zr X 161 13 [.ref 160, .int v1, .int v2] [] (zk I) :=
  zr_if_eq (tgt := 21) t161_10 rfl
theorem k161_13 {X : Nat × (Nat → Int32)} {I : Nat → Nat → Int32} {v1 : Int32} {v2 : Int32}  : zr X 161 13 [.ref 160, .int v1, .int v2] [] (zk I) = zcb (zr X 119 0 [.ref 160, .int v2] [] (zk I)) (fun v m1 => zr X 161 18 [.ref 160, .int v1, .int v2] (v.toList ++ []) m1) :=
  (zr_aload_n t161_13 rfl).trans <|
    (zr_iload_n t161_14 rfl).trans <|
    zr_callv t161_15 rfl rfl rfl rfl
theorem k161_18 {X : Nat × (Nat → Int32)} {I : Nat → Nat → Int32} {v1 : Int32} {v2 : Int32} {s0 : Int32}  : zr X 161 18 [.ref 160, .int v1, .int v2] [.int s0] (zk I) = if ¬ s0 = 0 then zr X 161 23 [.ref 160, .int v1, .int v2] [] (zk I) else zr X 161 21 [.ref 160, .int v1, .int v2] [] (zk I) :=
  zr_if_ne (tgt := 23) t161_18 rfl
theorem k161_21 {X : Nat × (Nat → Int32)} {I : Nat → Nat → Int32} {v1 : Int32} {v2 : Int32}  : zr X 161 21 [.ref 160, .int v1, .int v2] [] (zk I) = some (some (.int (-1)), zk I) :=
  (zr_iconst t161_21 zci_m1).trans <|
    zr_iret t161_22 rfl
theorem k161_23 {X : Nat × (Nat → Int32)} {I : Nat → Nat → Int32} {v1 : Int32} {v2 : Int32}  : zr X 161 23 [.ref 160, .int v1, .int v2] [] (zk I) = if ¬ v1 = v2 then zr X 161 31 [.ref 160, .int v1, .int v2] [] (zk I) else zr X 161 28 [.ref 160, .int v1, .int v2] [] (zk I) :=
  (zr_iload_n t161_23 rfl).trans <|
    (zr_iload_n t161_24 rfl).trans <|
    zr_ic_ne (tgt := 31) t161_25 rfl
theorem k161_28 {X : Nat × (Nat → Int32)} {I : Nat → Nat → Int32} {v1 : Int32} {v2 : Int32}  : zr X 161 28 [.ref 160, .int v1, .int v2] [] (zk I) = some (some (.int (-2)), zk I) :=
  (zr_bipush t161_28 zcb_m2).trans <|
    zr_iret t161_30 rfl
theorem k161_31 {X : Nat × (Nat → Int32)} {I : Nat → Nat → Int32} {v1 : Int32} {v2 : Int32}  : zr X 161 31 [.ref 160, .int v1, .int v2] [] (zk I) = zcb (zr X 125 0 [.ref 160, .int v1, .int v2] [] (zk I)) (fun v m1 => zr X 161 37 [.ref 160, .int v1, .int v2] (v.toList ++ []) m1) :=
  (zr_aload_n t161_31 rfl).trans <|
    (zr_iload_n t161_32 rfl).trans <|
    (zr_iload_n t161_33 rfl).trans <|
    zr_callv t161_34 rfl rfl rfl rfl
theorem k161_37 {X : Nat × (Nat → Int32)} {I : Nat → Nat → Int32} {v1 : Int32} {v2 : Int32} {s0 : Int32}  : zr X 161 37 [.ref 160, .int v1, .int v2] [.int s0] (zk I) = if s0 = 0 then zr X 161 44 [.ref 160, .int v1, .int v2] [] (zk I) else zr X 161 40 [.ref 160, .int v1, .int v2] [] (zk I) :=
  zr_if_eq (tgt := 44) t161_37 rfl
theorem k161_40 {X : Nat × (Nat → Int32)} {I : Nat → Nat → Int32} {v1 : Int32} {v2 : Int32}  : zr X 161 40 [.ref 160, .int v1, .int v2] [] (zk I) = some (some (.int 2), zk I) :=
  (zr_iconst t161_40 zci_2).trans <|
    (zr_goto (tgt := 58) t161_41 rfl).trans <|
    zr_iret t161_58 rfl
theorem k161_44 {X : Nat × (Nat → Int32)} {I : Nat → Nat → Int32} {v1 : Int32} {v2 : Int32}  : zr X 161 44 [.ref 160, .int v1, .int v2] [] (zk I) = zcb (zr X 124 0 [.ref 160, .int v1, .int v2, .null, .null, .null, .null] [] (zk I)) (fun v m1 => zr X 161 50 [.ref 160, .int v1, .int v2] (v.toList ++ []) m1) :=
  (zr_aload_n t161_44 rfl).trans <|
    (zr_iload_n t161_45 rfl).trans <|
    (zr_iload_n t161_46 rfl).trans <|
    zr_callv t161_47 rfl rfl rfl rfl
theorem k161_50 {X : Nat × (Nat → Int32)} {I : Nat → Nat → Int32} {v1 : Int32} {v2 : Int32} {s0 : Int32}  : zr X 161 50 [.ref 160, .int v1, .int v2] [.int s0] (zk I) = if s0 = 0 then zr X 161 57 [.ref 160, .int v1, .int v2] [] (zk I) else zr X 161 53 [.ref 160, .int v1, .int v2] [] (zk I) :=
  zr_if_eq (tgt := 57) t161_50 rfl
theorem k161_53 {X : Nat × (Nat → Int32)} {I : Nat → Nat → Int32} {v1 : Int32} {v2 : Int32}  : zr X 161 53 [.ref 160, .int v1, .int v2] [] (zk I) = some (some (.int 1), zk I) :=
  (zr_iconst t161_53 zci_1).trans <|
    (zr_goto (tgt := 58) t161_54 rfl).trans <|
    zr_iret t161_58 rfl
theorem k161_57 {X : Nat × (Nat → Int32)} {I : Nat → Nat → Int32} {v1 : Int32} {v2 : Int32}  : zr X 161 57 [.ref 160, .int v1, .int v2] [] (zk I) = some (some (.int 0), zk I) :=
  (zr_iconst t161_57 zci_0).trans <|
    zr_iret t161_58 rfl
/-! X10_overMarks FiveInksModel.overMarks -/
theorem k162_0 {X : Nat × (Nat → Int32)} {I : Nat → Nat → Int32} {v1 : Int32} {v2 : Int32}  : zr X 162 0 [.ref 160, .int v1, .int v2, .null, .null, .null] [] (zk I) = zr X 162 5 [.ref 160, .int v1, .int v2, .int 0, .int 0, .null] [] (zk I) :=
  (zr_iconst t162_0 zci_0).trans <|
    (zr_istore_n t162_1 rfl rfl).trans <|
    (zr_iconst t162_2 zci_0).trans <|
    zr_istore t162_3 rfl rfl
theorem k162_5 {X : Nat × (Nat → Int32)} {I : Nat → Nat → Int32} {v1 : Int32} {v2 : Int32} {v3 : Int32} {v4 : Int32} {v5 : Value}  : zr X 162 5 [.ref 160, .int v1, .int v2, .int v3, .int v4, v5] [] (zk I) = if (I 161 66) ≤ v4 then zr X 162 86 [.ref 160, .int v1, .int v2, .int v3, .int v4, v5] [] (zk I) else zr X 162 17 [.ref 160, .int v1, .int v2, .int v3, .int v4, v5] [] (zk I) :=
  (zr_iload t162_5 rfl).trans <|
    (zr_aload_n t162_7 rfl).trans <|
    (zr_getR (u := 161) t162_8 (rfl)).trans <|
    (zr_bipush t162_11 zcb_66).trans <|
    (zr_iald (j := 66) t162_13 (N := 675) rfl (by decide) (by decide)).trans <|
    zr_ic_ge (tgt := 86) t162_14 rfl
theorem k162_17 {X : Nat × (Nat → Int32)} {I : Nat → Nat → Int32} {v1 : Int32} {v2 : Int32} {v3 : Int32} {v4 : Int32} {v5 : Value}  : zr X 162 17 [.ref 160, .int v1, .int v2, .int v3, .int v4, v5] [] (zk I) = if ¬ v2 = 1 then zr X 162 26 [.ref 160, .int v1, .int v2, .int v3, .int v4, v5] [] (zk I) else zr X 162 22 [.ref 160, .int v1, .int v2, .int v3, .int v4, v5] [] (zk I) :=
  (zr_iload_n t162_17 rfl).trans <|
    (zr_iconst t162_18 zci_1).trans <|
    zr_ic_ne (tgt := 26) t162_19 rfl
theorem k162_22 {X : Nat × (Nat → Int32)} {I : Nat → Nat → Int32} {v1 : Int32} {v2 : Int32} {v3 : Int32} {v4 : Int32} {v5 : Value}  : zr X 162 22 [.ref 160, .int v1, .int v2, .int v3, .int v4, v5] [] (zk I) = zcb (zr X 117 0 [.ref 160, .int v4, .int 0] [] (zk I)) (fun v m1 => zr X 162 68 [.ref 160, .int v1, .int v2, .int v3, .int v4, .int 1] (v.toList ++ [.int v3]) m1) :=
  (zr_iconst t162_22 zci_1).trans <|
    (zr_goto (tgt := 58) t162_23 rfl).trans <|
    (zr_istore t162_58 rfl rfl).trans <|
    (zr_iload_n t162_60 rfl).trans <|
    (zr_aload_n t162_61 rfl).trans <|
    (zr_iload t162_62 rfl).trans <|
    (zr_iconst t162_64 zci_0).trans <|
    zr_callv t162_65 rfl rfl rfl rfl
theorem k162_26 {X : Nat × (Nat → Int32)} {I : Nat → Nat → Int32} {v1 : Int32} {v2 : Int32} {v3 : Int32} {v4 : Int32} {v5 : Value}  : zr X 162 26 [.ref 160, .int v1, .int v2, .int v3, .int v4, v5] [] (zk I) = if ¬ v2 = 5 then zr X 162 40 [.ref 160, .int v1, .int v2, .int v3, .int v4, v5] [] (zk I) else zr X 162 31 [.ref 160, .int v1, .int v2, .int v3, .int v4, v5] [] (zk I) :=
  (zr_iload_n t162_26 rfl).trans <|
    (zr_iconst t162_27 zci_5).trans <|
    zr_ic_ne (tgt := 40) t162_28 rfl
theorem k162_31 {X : Nat × (Nat → Int32)} {I : Nat → Nat → Int32} {v1 : Int32} {v2 : Int32} {v3 : Int32} {v4 : Int32} {v5 : Value}  : zr X 162 31 [.ref 160, .int v1, .int v2, .int v3, .int v4, v5] [] (zk I) = zcb (zr X 159 0 [.ref 160, .int v4, .null, .null] [] (zk I)) (fun v m1 => zr X 162 37 [.ref 160, .int v1, .int v2, .int v3, .int v4, v5] (v.toList ++ []) m1) :=
  (zr_aload_n t162_31 rfl).trans <|
    (zr_iload t162_32 rfl).trans <|
    zr_callv t162_34 rfl rfl rfl rfl
theorem k162_37 {X : Nat × (Nat → Int32)} {I : Nat → Nat → Int32} {v1 : Int32} {v2 : Int32} {v3 : Int32} {v4 : Int32} {v5 : Value} {s0 : Int32}  : zr X 162 37 [.ref 160, .int v1, .int v2, .int v3, .int v4, v5] [.int s0] (zk I) = zcb (zr X 117 0 [.ref 160, .int v4, .int 0] [] (zk I)) (fun v m1 => zr X 162 68 [.ref 160, .int v1, .int v2, .int v3, .int v4, .int s0] (v.toList ++ [.int v3]) m1) :=
  (zr_goto (tgt := 58) t162_37 rfl).trans <|
    (zr_istore t162_58 rfl rfl).trans <|
    (zr_iload_n t162_60 rfl).trans <|
    (zr_aload_n t162_61 rfl).trans <|
    (zr_iload t162_62 rfl).trans <|
    (zr_iconst t162_64 zci_0).trans <|
    zr_callv t162_65 rfl rfl rfl rfl
theorem k162_40 {X : Nat × (Nat → Int32)} {I : Nat → Nat → Int32} {v1 : Int32} {v2 : Int32} {v3 : Int32} {v4 : Int32} {v5 : Value}  : zr X 162 40 [.ref 160, .int v1, .int v2, .int v3, .int v4, v5] [] (zk I) = zcb (zr X 117 0 [.ref 160, .int v4, .int 5] [] (zk I)) (fun v m1 => zr X 162 47 [.ref 160, .int v1, .int v2, .int v3, .int v4, v5] (v.toList ++ []) m1) :=
  (zr_aload_n t162_40 rfl).trans <|
    (zr_iload t162_41 rfl).trans <|
    (zr_iconst t162_43 zci_5).trans <|
    zr_callv t162_44 rfl rfl rfl rfl
theorem k162_47 {X : Nat × (Nat → Int32)} {I : Nat → Nat → Int32} {v1 : Int32} {v2 : Int32} {v3 : Int32} {v4 : Int32} {v5 : Value} {s0 : Int32}  : zr X 162 47 [.ref 160, .int v1, .int v2, .int v3, .int v4, v5] [.int s0] (zk I) = if ¬ s0 = (v2 - 2) then zr X 162 57 [.ref 160, .int v1, .int v2, .int v3, .int v4, v5] [] (zk I) else zr X 162 53 [.ref 160, .int v1, .int v2, .int v3, .int v4, v5] [] (zk I) :=
  (zr_iload_n t162_47 rfl).trans <|
    (zr_iconst t162_48 zci_2).trans <|
    (zr_isub t162_49).trans <|
    zr_ic_ne (tgt := 57) t162_50 rfl
theorem k162_53 {X : Nat × (Nat → Int32)} {I : Nat → Nat → Int32} {v1 : Int32} {v2 : Int32} {v3 : Int32} {v4 : Int32} {v5 : Value}  : zr X 162 53 [.ref 160, .int v1, .int v2, .int v3, .int v4, v5] [] (zk I) = zcb (zr X 117 0 [.ref 160, .int v4, .int 0] [] (zk I)) (fun v m1 => zr X 162 68 [.ref 160, .int v1, .int v2, .int v3, .int v4, .int 1] (v.toList ++ [.int v3]) m1) :=
  (zr_iconst t162_53 zci_1).trans <|
    (zr_goto (tgt := 58) t162_54 rfl).trans <|
    (zr_istore t162_58 rfl rfl).trans <|
    (zr_iload_n t162_60 rfl).trans <|
    (zr_aload_n t162_61 rfl).trans <|
    (zr_iload t162_62 rfl).trans <|
    (zr_iconst t162_64 zci_0).trans <|
    zr_callv t162_65 rfl rfl rfl rfl
theorem k162_57 {X : Nat × (Nat → Int32)} {I : Nat → Nat → Int32} {v1 : Int32} {v2 : Int32} {v3 : Int32} {v4 : Int32} {v5 : Value}  : zr X 162 57 [.ref 160, .int v1, .int v2, .int v3, .int v4, v5] [] (zk I) = zcb (zr X 117 0 [.ref 160, .int v4, .int 0] [] (zk I)) (fun v m1 => zr X 162 68 [.ref 160, .int v1, .int v2, .int v3, .int v4, .int 0] (v.toList ++ [.int v3]) m1) :=
  (zr_iconst t162_57 zci_0).trans <|
    (zr_istore t162_58 rfl rfl).trans <|
    (zr_iload_n t162_60 rfl).trans <|
    (zr_aload_n t162_61 rfl).trans <|
    (zr_iload t162_62 rfl).trans <|
    (zr_iconst t162_64 zci_0).trans <|
    zr_callv t162_65 rfl rfl rfl rfl
theorem k162_68 {X : Nat × (Nat → Int32)} {I : Nat → Nat → Int32} {v1 : Int32} {v2 : Int32} {v3 : Int32} {v4 : Int32} {v5 : Int32} {s0 : Int32} {s1 : Int32}  : zr X 162 68 [.ref 160, .int v1, .int v2, .int v3, .int v4, .int v5] [.int s1, .int s0] (zk I) = if ¬ s1 = v1 then zr X 162 77 [.ref 160, .int v1, .int v2, .int v3, .int v4, .int v5] [.int s0] (zk I) else zr X 162 72 [.ref 160, .int v1, .int v2, .int v3, .int v4, .int v5] [.int s0] (zk I) :=
  (zr_iload_n t162_68 rfl).trans <|
    zr_ic_ne (tgt := 77) t162_69 rfl
theorem k162_72 {X : Nat × (Nat → Int32)} {I : Nat → Nat → Int32} {v1 : Int32} {v2 : Int32} {v3 : Int32} {v4 : Int32} {v5 : Int32} {s0 : Int32}  : zr X 162 72 [.ref 160, .int v1, .int v2, .int v3, .int v4, .int v5] [.int s0] (zk I) = zr X 162 5 [.ref 160, .int v1, .int v2, .int (s0 + v5), .int (v4 + 1), .int v5] [] (zk I) :=
  (zr_iload t162_72 rfl).trans <|
    (zr_goto (tgt := 78) t162_74 rfl).trans <|
    (zr_iadd t162_78).trans <|
    (zr_istore_n t162_79 rfl rfl).trans <|
    (zr_iinc t162_80 rfl rfl (congrArg (fun z => v4 + z) zci_1) rfl).trans <|
    zr_goto (tgt := 5) t162_83 rfl
theorem k162_77 {X : Nat × (Nat → Int32)} {I : Nat → Nat → Int32} {v1 : Int32} {v2 : Int32} {v3 : Int32} {v4 : Int32} {v5 : Int32} {s0 : Int32}  : zr X 162 77 [.ref 160, .int v1, .int v2, .int v3, .int v4, .int v5] [.int s0] (zk I) = zr X 162 5 [.ref 160, .int v1, .int v2, .int (s0 + 0), .int (v4 + 1), .int v5] [] (zk I) :=
  (zr_iconst t162_77 zci_0).trans <|
    (zr_iadd t162_78).trans <|
    (zr_istore_n t162_79 rfl rfl).trans <|
    (zr_iinc t162_80 rfl rfl (congrArg (fun z => v4 + z) zci_1) rfl).trans <|
    zr_goto (tgt := 5) t162_83 rfl
theorem k162_86 {X : Nat × (Nat → Int32)} {I : Nat → Nat → Int32} {v1 : Int32} {v2 : Int32} {v3 : Int32} {v4 : Int32} {v5 : Value}  : zr X 162 86 [.ref 160, .int v1, .int v2, .int v3, .int v4, v5] [] (zk I) = some (some (.int v3), zk I) :=
  (zr_iload_n t162_86 rfl).trans <|
    zr_iret t162_87 rfl
/-! X10_editor FiveInksModel.editor -/
theorem k163_0 {X : Nat × (Nat → Int32)} {I : Nat → Nat → Int32} {v1 : Int32} {v2 : Int32}  : zr X 163 0 [.ref 160, .int v1, .int v2] [] (zk I) = zcb (zr X 120 0 [.int v1] [] (zk (zs1 I 160 0 0))) (fun v m1 => zr X 163 9 [.ref 160, .int v1, .int v2] (v.toList ++ []) m1) :=
  (zr_aload_n t163_0 rfl).trans <|
    (zr_iconst t163_1 zci_0).trans <|
    (zr_putI t163_2 (rfl) (Or.inl rfl)).trans <|
    (zr_iload_n t163_5 rfl).trans <|
    zr_calls t163_6 rfl rfl rfl rfl rfl
theorem k163_9 {X : Nat × (Nat → Int32)} {I : Nat → Nat → Int32} {v1 : Int32} {v2 : Int32} {s0 : Int32}  : zr X 163 9 [.ref 160, .int v1, .int v2] [.int s0] (zk I) = if ¬ s0 = 0 then zr X 163 14 [.ref 160, .int v1, .int v2] [] (zk I) else zr X 163 12 [.ref 160, .int v1, .int v2] [] (zk I) :=
  zr_if_ne (tgt := 14) t163_9 rfl
theorem k163_12 {X : Nat × (Nat → Int32)} {I : Nat → Nat → Int32} {v1 : Int32} {v2 : Int32}  : zr X 163 12 [.ref 160, .int v1, .int v2] [] (zk I) = some (some (.int (-1)), zk I) :=
  (zr_iconst t163_12 zci_m1).trans <|
    zr_iret t163_13 rfl
theorem k163_14 {X : Nat × (Nat → Int32)} {I : Nat → Nat → Int32} {v1 : Int32} {v2 : Int32}  : zr X 163 14 [.ref 160, .int v1, .int v2] [] (zk I) = zcb (zr X 116 0 [.int v2, .int 0, .int 6] [] (zk I)) (fun v m1 => zr X 163 21 [.ref 160, .int v1, .int v2] (v.toList ++ []) m1) :=
  (zr_iload_n t163_14 rfl).trans <|
    (zr_iconst t163_15 zci_0).trans <|
    (zr_bipush t163_16 zcb_6).trans <|
    zr_calls t163_18 rfl rfl rfl rfl rfl
theorem k163_21 {X : Nat × (Nat → Int32)} {I : Nat → Nat → Int32} {v1 : Int32} {v2 : Int32} {s0 : Int32}  : zr X 163 21 [.ref 160, .int v1, .int v2] [.int s0] (zk I) = if ¬ s0 = 0 then zr X 163 27 [.ref 160, .int v1, .int v2] [] (zk I) else zr X 163 24 [.ref 160, .int v1, .int v2] [] (zk I) :=
  zr_if_ne (tgt := 27) t163_21 rfl
theorem k163_24 {X : Nat × (Nat → Int32)} {I : Nat → Nat → Int32} {v1 : Int32} {v2 : Int32}  : zr X 163 24 [.ref 160, .int v1, .int v2] [] (zk I) = some (some (.int (-2)), zk I) :=
  (zr_bipush t163_24 zcb_m2).trans <|
    zr_iret t163_26 rfl
theorem k163_27 {X : Nat × (Nat → Int32)} {I : Nat → Nat → Int32} {v1 : Int32} {v2 : Int32}  : zr X 163 27 [.ref 160, .int v1, .int v2] [] (zk I) = if ¬ v2 = 6 then zr X 163 43 [.ref 160, .int v1, .int v2] [] (zk I) else zr X 163 33 [.ref 160, .int v1, .int v2] [] (zk I) :=
  (zr_iload_n t163_27 rfl).trans <|
    (zr_bipush t163_28 zcb_6).trans <|
    zr_ic_ne (tgt := 43) t163_30 rfl
theorem k163_33 {X : Nat × (Nat → Int32)} {I : Nat → Nat → Int32} {v1 : Int32} {v2 : Int32}  : zr X 163 33 [.ref 160, .int v1, .int v2] [] (zk I) = zcb (zr X 135 0 [.ref 160, .int v1, .null] [] (zk I)) (fun v m1 => zr X 163 38 [.ref 160, .int v1, .int v2] (v.toList ++ []) m1) :=
  (zr_aload_n t163_33 rfl).trans <|
    (zr_iload_n t163_34 rfl).trans <|
    zr_callv t163_35 rfl rfl rfl rfl
theorem k163_38 {X : Nat × (Nat → Int32)} {I : Nat → Nat → Int32} {v1 : Int32} {v2 : Int32}  : zr X 163 38 [.ref 160, .int v1, .int v2] [] (zk I) = some (some (.int (I 160 11)), zk I) :=
  (zr_aload_n t163_38 rfl).trans <|
    (zr_getI t163_39 (rfl)).trans <|
    zr_iret t163_42 rfl
theorem k163_43 {X : Nat × (Nat → Int32)} {I : Nat → Nat → Int32} {v1 : Int32} {v2 : Int32}  : zr X 163 43 [.ref 160, .int v1, .int v2] [] (zk I) = if ¬ v2 = 0 then zr X 163 59 [.ref 160, .int v1, .int v2] [] (zk I) else zr X 163 47 [.ref 160, .int v1, .int v2] [] (zk I) :=
  (zr_iload_n t163_43 rfl).trans <|
    zr_if_ne (tgt := 59) t163_44 rfl
theorem k163_47 {X : Nat × (Nat → Int32)} {I : Nat → Nat → Int32} {v1 : Int32} {v2 : Int32} (q1 : zin (61 + v1) 675 = true) : zr X 163 47 [.ref 160, .int v1, .int v2] [] (zk I) = some (some (.int (I 161 (zx (61 + v1)))), zk I) :=
  (zr_aload_n t163_47 rfl).trans <|
    (zr_getR (u := 161) t163_48 (rfl)).trans <|
    (zr_bipush t163_51 zcb_61).trans <|
    (zr_iload_n t163_53 rfl).trans <|
    (zr_iadd t163_54).trans <|
    (zr_iald (j := zx (61 + v1)) t163_55 (N := 675) rfl rfl q1).trans <|
    (zr_goto (tgt := 65) t163_56 rfl).trans <|
    zr_iret t163_65 rfl
theorem k163_59 {X : Nat × (Nat → Int32)} {I : Nat → Nat → Int32} {v1 : Int32} {v2 : Int32}  : zr X 163 59 [.ref 160, .int v1, .int v2] [] (zk I) = zcb (zr X 162 0 [.ref 160, .int v1, .int v2, .null, .null, .null] [] (zk I)) (fun v m1 => zr X 163 65 [.ref 160, .int v1, .int v2] (v.toList ++ []) m1) :=
  (zr_aload_n t163_59 rfl).trans <|
    (zr_iload_n t163_60 rfl).trans <|
    (zr_iload_n t163_61 rfl).trans <|
    zr_callv t163_62 rfl rfl rfl rfl
theorem k163_65 {X : Nat × (Nat → Int32)} {I : Nat → Nat → Int32} {v1 : Int32} {v2 : Int32} {s0 : Int32}  : zr X 163 65 [.ref 160, .int v1, .int v2] [.int s0] (zk I) = some (some (.int s0), zk I) :=
  zr_iret t163_65 rfl
/-! X10_allQuarrels FiveInksModel.allQuarrels -/
theorem k164_0 {X : Nat × (Nat → Int32)} {I : Nat → Nat → Int32}   : zr X 164 0 [.ref 160, .null, .null] [] (zk I) = zr X 164 4 [.ref 160, .int 0, .int 0] [] (zk I) :=
  (zr_iconst t164_0 zci_0).trans <|
    (zr_istore_n t164_1 rfl rfl).trans <|
    (zr_iconst t164_2 zci_0).trans <|
    zr_istore_n t164_3 rfl rfl
theorem k164_4 {X : Nat × (Nat → Int32)} {I : Nat → Nat → Int32} {v1 : Int32} {v2 : Int32}  : zr X 164 4 [.ref 160, .int v1, .int v2] [] (zk I) = if (I 161 66) ≤ v2 then zr X 164 29 [.ref 160, .int v1, .int v2] [] (zk I) else zr X 164 15 [.ref 160, .int v1, .int v2] [] (zk I) :=
  (zr_iload_n t164_4 rfl).trans <|
    (zr_aload_n t164_5 rfl).trans <|
    (zr_getR (u := 161) t164_6 (rfl)).trans <|
    (zr_bipush t164_9 zcb_66).trans <|
    (zr_iald (j := 66) t164_11 (N := 675) rfl (by decide) (by decide)).trans <|
    zr_ic_ge (tgt := 29) t164_12 rfl
theorem k164_15 {X : Nat × (Nat → Int32)} {I : Nat → Nat → Int32} {v1 : Int32} {v2 : Int32}  : zr X 164 15 [.ref 160, .int v1, .int v2] [] (zk I) = zcb (zr X 159 0 [.ref 160, .int v2, .null, .null] [] (zk I)) (fun v m1 => zr X 164 21 [.ref 160, .int v1, .int v2] (v.toList ++ [.int v1]) m1) :=
  (zr_iload_n t164_15 rfl).trans <|
    (zr_aload_n t164_16 rfl).trans <|
    (zr_iload_n t164_17 rfl).trans <|
    zr_callv t164_18 rfl rfl rfl rfl
theorem k164_21 {X : Nat × (Nat → Int32)} {I : Nat → Nat → Int32} {v1 : Int32} {v2 : Int32} {s0 : Int32} {s1 : Int32}  : zr X 164 21 [.ref 160, .int v1, .int v2] [.int s1, .int s0] (zk I) = zr X 164 4 [.ref 160, .int (s0 + s1), .int (v2 + 1)] [] (zk I) :=
  (zr_iadd t164_21).trans <|
    (zr_istore_n t164_22 rfl rfl).trans <|
    (zr_iinc t164_23 rfl rfl (congrArg (fun z => v2 + z) zci_1) rfl).trans <|
    zr_goto (tgt := 4) t164_26 rfl
theorem k164_29 {X : Nat × (Nat → Int32)} {I : Nat → Nat → Int32} {v1 : Int32} {v2 : Int32}  : zr X 164 29 [.ref 160, .int v1, .int v2] [] (zk I) = some (some (.int (v1 / 2)), zk I) :=
  (zr_iload_n t164_29 rfl).trans <|
    (zr_iconst t164_30 zci_2).trans <|
    (zr_idiv t164_31 (by decide)).trans <|
    zr_iret t164_32 rfl
/-! X10_count FiveInksModel.count -/
theorem k165_0_c0 {X : Nat × (Nat → Int32)} {I : Nat → Nat → Int32} {v1 : Int32}  (qc : v1 = 0) : zr X 165 0 [.ref 160, .int v1] [] (zk I) = zr X 165 60 [.ref 160, .int v1] [] (zk (zs1 I 160 0 0)) :=
  (zr_aload_n t165_0 rfl).trans <|
    (zr_iconst t165_1 zci_0).trans <|
    (zr_putI t165_2 (rfl) (Or.inl rfl)).trans <|
    (zr_iload_n t165_5 rfl).trans <|
    zr_tabI (off := 54) (tgt := 60) t165_6 (by rw [qc]; decide) (by rw [qc]; decide) rfl
theorem k165_0_c1 {X : Nat × (Nat → Int32)} {I : Nat → Nat → Int32} {v1 : Int32}  (qc : v1 = 1) : zr X 165 0 [.ref 160, .int v1] [] (zk I) = zr X 165 67 [.ref 160, .int v1] [] (zk (zs1 I 160 0 0)) :=
  (zr_aload_n t165_0 rfl).trans <|
    (zr_iconst t165_1 zci_0).trans <|
    (zr_putI t165_2 (rfl) (Or.inl rfl)).trans <|
    (zr_iload_n t165_5 rfl).trans <|
    zr_tabI (off := 61) (tgt := 67) t165_6 (by rw [qc]; decide) (by rw [qc]; decide) rfl
theorem k165_0_c2 {X : Nat × (Nat → Int32)} {I : Nat → Nat → Int32} {v1 : Int32}  (qc : v1 = 2) : zr X 165 0 [.ref 160, .int v1] [] (zk I) = zr X 165 72 [.ref 160, .int v1] [] (zk (zs1 I 160 0 0)) :=
  (zr_aload_n t165_0 rfl).trans <|
    (zr_iconst t165_1 zci_0).trans <|
    (zr_putI t165_2 (rfl) (Or.inl rfl)).trans <|
    (zr_iload_n t165_5 rfl).trans <|
    zr_tabI (off := 66) (tgt := 72) t165_6 (by rw [qc]; decide) (by rw [qc]; decide) rfl
theorem k165_0_c3 {X : Nat × (Nat → Int32)} {I : Nat → Nat → Int32} {v1 : Int32}  (qc : v1 = 3) : zr X 165 0 [.ref 160, .int v1] [] (zk I) = zr X 165 80 [.ref 160, .int v1] [] (zk (zs1 I 160 0 0)) :=
  (zr_aload_n t165_0 rfl).trans <|
    (zr_iconst t165_1 zci_0).trans <|
    (zr_putI t165_2 (rfl) (Or.inl rfl)).trans <|
    (zr_iload_n t165_5 rfl).trans <|
    zr_tabI (off := 74) (tgt := 80) t165_6 (by rw [qc]; decide) (by rw [qc]; decide) rfl
theorem k165_0_c4 {X : Nat × (Nat → Int32)} {I : Nat → Nat → Int32} {v1 : Int32}  (qc : v1 = 4) : zr X 165 0 [.ref 160, .int v1] [] (zk I) = zr X 165 80 [.ref 160, .int v1] [] (zk (zs1 I 160 0 0)) :=
  (zr_aload_n t165_0 rfl).trans <|
    (zr_iconst t165_1 zci_0).trans <|
    (zr_putI t165_2 (rfl) (Or.inl rfl)).trans <|
    (zr_iload_n t165_5 rfl).trans <|
    zr_tabI (off := 74) (tgt := 80) t165_6 (by rw [qc]; decide) (by rw [qc]; decide) rfl
theorem k165_0_c5 {X : Nat × (Nat → Int32)} {I : Nat → Nat → Int32} {v1 : Int32}  (qc : v1 = 5) : zr X 165 0 [.ref 160, .int v1] [] (zk I) = zr X 165 88 [.ref 160, .int v1] [] (zk (zs1 I 160 0 0)) :=
  (zr_aload_n t165_0 rfl).trans <|
    (zr_iconst t165_1 zci_0).trans <|
    (zr_putI t165_2 (rfl) (Or.inl rfl)).trans <|
    (zr_iload_n t165_5 rfl).trans <|
    zr_tabI (off := 82) (tgt := 88) t165_6 (by rw [qc]; decide) (by rw [qc]; decide) rfl
theorem k165_0_c6 {X : Nat × (Nat → Int32)} {I : Nat → Nat → Int32} {v1 : Int32}  (qc : v1 = 6) : zr X 165 0 [.ref 160, .int v1] [] (zk I) = zr X 165 93 [.ref 160, .int v1] [] (zk (zs1 I 160 0 0)) :=
  (zr_aload_n t165_0 rfl).trans <|
    (zr_iconst t165_1 zci_0).trans <|
    (zr_putI t165_2 (rfl) (Or.inl rfl)).trans <|
    (zr_iload_n t165_5 rfl).trans <|
    zr_tabI (off := 87) (tgt := 93) t165_6 (by rw [qc]; decide) (by rw [qc]; decide) rfl
theorem k165_0_c7 {X : Nat × (Nat → Int32)} {I : Nat → Nat → Int32} {v1 : Int32}  (qc : v1 = 7) : zr X 165 0 [.ref 160, .int v1] [] (zk I) = zr X 165 93 [.ref 160, .int v1] [] (zk (zs1 I 160 0 0)) :=
  (zr_aload_n t165_0 rfl).trans <|
    (zr_iconst t165_1 zci_0).trans <|
    (zr_putI t165_2 (rfl) (Or.inl rfl)).trans <|
    (zr_iload_n t165_5 rfl).trans <|
    zr_tabI (off := 87) (tgt := 93) t165_6 (by rw [qc]; decide) (by rw [qc]; decide) rfl
theorem k165_0_c8 {X : Nat × (Nat → Int32)} {I : Nat → Nat → Int32} {v1 : Int32}  (qc : v1 = 8) : zr X 165 0 [.ref 160, .int v1] [] (zk I) = zr X 165 107 [.ref 160, .int v1] [] (zk (zs1 I 160 0 0)) :=
  (zr_aload_n t165_0 rfl).trans <|
    (zr_iconst t165_1 zci_0).trans <|
    (zr_putI t165_2 (rfl) (Or.inl rfl)).trans <|
    (zr_iload_n t165_5 rfl).trans <|
    zr_tabI (off := 101) (tgt := 107) t165_6 (by rw [qc]; decide) (by rw [qc]; decide) rfl
theorem k165_0_c9 {X : Nat × (Nat → Int32)} {I : Nat → Nat → Int32} {v1 : Int32}  (qc : v1 = 9) : zr X 165 0 [.ref 160, .int v1] [] (zk I) = zr X 165 112 [.ref 160, .int v1] [] (zk (zs1 I 160 0 0)) :=
  (zr_aload_n t165_0 rfl).trans <|
    (zr_iconst t165_1 zci_0).trans <|
    (zr_putI t165_2 (rfl) (Or.inl rfl)).trans <|
    (zr_iload_n t165_5 rfl).trans <|
    zr_tabI (off := 106) (tgt := 112) t165_6 (by rw [qc]; decide) (by rw [qc]; decide) rfl
theorem k165_0_d {X : Nat × (Nat → Int32)} {I : Nat → Nat → Int32} {v1 : Int32}  (qd : v1.toInt < 0 ∨ 9 < v1.toInt) : zr X 165 0 [.ref 160, .int v1] [] (zk I) = zr X 165 117 [.ref 160, .int v1] [] (zk (zs1 I 160 0 0)) :=
  (zr_aload_n t165_0 rfl).trans <|
    (zr_iconst t165_1 zci_0).trans <|
    (zr_putI t165_2 (rfl) (Or.inl rfl)).trans <|
    (zr_iload_n t165_5 rfl).trans <|
    zr_tabO (tgt := 117) t165_6 qd rfl
theorem k165_60 {X : Nat × (Nat → Int32)} {I : Nat → Nat → Int32} {v1 : Int32}  : zr X 165 60 [.ref 160, .int v1] [] (zk I) = some (some (.int (I 161 0)), zk I) :=
  (zr_aload_n t165_60 rfl).trans <|
    (zr_getR (u := 161) t165_61 (rfl)).trans <|
    (zr_iconst t165_64 zci_0).trans <|
    (zr_iald (j := 0) t165_65 (N := 675) rfl (by decide) (by decide)).trans <|
    zr_iret t165_66 rfl
theorem k165_67 {X : Nat × (Nat → Int32)} {I : Nat → Nat → Int32} {v1 : Int32}  : zr X 165 67 [.ref 160, .int v1] [] (zk I) = zcb (zr X 128 0 [.ref 160, .null, .null] [] (zk I)) (fun v m1 => zr X 165 71 [.ref 160, .int v1] (v.toList ++ []) m1) :=
  (zr_aload_n t165_67 rfl).trans <|
    zr_callv t165_68 rfl rfl rfl rfl
theorem k165_71 {X : Nat × (Nat → Int32)} {I : Nat → Nat → Int32} {v1 : Int32} {s0 : Int32}  : zr X 165 71 [.ref 160, .int v1] [.int s0] (zk I) = some (some (.int s0), zk I) :=
  zr_iret t165_71 rfl
theorem k165_72 {X : Nat × (Nat → Int32)} {I : Nat → Nat → Int32} {v1 : Int32}  : zr X 165 72 [.ref 160, .int v1] [] (zk I) = some (some (.int (I 161 66)), zk I) :=
  (zr_aload_n t165_72 rfl).trans <|
    (zr_getR (u := 161) t165_73 (rfl)).trans <|
    (zr_bipush t165_76 zcb_66).trans <|
    (zr_iald (j := 66) t165_78 (N := 675) rfl (by decide) (by decide)).trans <|
    zr_iret t165_79 rfl
theorem k165_80 {X : Nat × (Nat → Int32)} {I : Nat → Nat → Int32} {v1 : Int32}  : zr X 165 80 [.ref 160, .int v1] [] (zk I) = zcb (zr X 147 0 [.ref 160, .int (v1 - 3), .null, .null] [] (zk I)) (fun v m1 => zr X 165 87 [.ref 160, .int v1] (v.toList ++ []) m1) :=
  (zr_aload_n t165_80 rfl).trans <|
    (zr_iload_n t165_81 rfl).trans <|
    (zr_iconst t165_82 zci_3).trans <|
    (zr_isub t165_83).trans <|
    zr_callv t165_84 rfl rfl rfl rfl
theorem k165_87 {X : Nat × (Nat → Int32)} {I : Nat → Nat → Int32} {v1 : Int32} {s0 : Int32}  : zr X 165 87 [.ref 160, .int v1] [.int s0] (zk I) = some (some (.int s0), zk I) :=
  zr_iret t165_87 rfl
theorem k165_88 {X : Nat × (Nat → Int32)} {I : Nat → Nat → Int32} {v1 : Int32}  : zr X 165 88 [.ref 160, .int v1] [] (zk I) = zcb (zr X 164 0 [.ref 160, .null, .null] [] (zk I)) (fun v m1 => zr X 165 92 [.ref 160, .int v1] (v.toList ++ []) m1) :=
  (zr_aload_n t165_88 rfl).trans <|
    zr_callv t165_89 rfl rfl rfl rfl
theorem k165_92 {X : Nat × (Nat → Int32)} {I : Nat → Nat → Int32} {v1 : Int32} {s0 : Int32}  : zr X 165 92 [.ref 160, .int v1] [.int s0] (zk I) = some (some (.int s0), zk I) :=
  zr_iret t165_92 rfl
theorem k165_93 {X : Nat × (Nat → Int32)} {I : Nat → Nat → Int32} {v1 : Int32} (q1 : zin ((307 + v1) - 6) 675 = true) : zr X 165 93 [.ref 160, .int v1] [] (zk I) = some (some (.int (I 161 (zx ((307 + v1) - 6)))), zk I) :=
  (zr_aload_n t165_93 rfl).trans <|
    (zr_getR (u := 161) t165_94 (rfl)).trans <|
    (zr_sipush t165_97 zcs_307).trans <|
    (zr_iload_n t165_100 rfl).trans <|
    (zr_iadd t165_101).trans <|
    (zr_bipush t165_102 zcb_6).trans <|
    (zr_isub t165_104).trans <|
    (zr_iald (j := zx ((307 + v1) - 6)) t165_105 (N := 675) rfl rfl q1).trans <|
    zr_iret t165_106 rfl
theorem k165_107 {X : Nat × (Nat → Int32)} {I : Nat → Nat → Int32} {v1 : Int32}  : zr X 165 107 [.ref 160, .int v1] [] (zk I) = some (some (.int (I 160 8)), zk I) :=
  (zr_aload_n t165_107 rfl).trans <|
    (zr_getI t165_108 (rfl)).trans <|
    zr_iret t165_111 rfl
theorem k165_112 {X : Nat × (Nat → Int32)} {I : Nat → Nat → Int32} {v1 : Int32}  : zr X 165 112 [.ref 160, .int v1] [] (zk I) = some (some (.int (I 160 4)), zk I) :=
  (zr_aload_n t165_112 rfl).trans <|
    (zr_getI t165_113 (rfl)).trans <|
    zr_iret t165_116 rfl
theorem k165_117 {X : Nat × (Nat → Int32)} {I : Nat → Nat → Int32} {v1 : Int32}  : zr X 165 117 [.ref 160, .int v1] [] (zk I) = some (some (.int (-2)), zk I) :=
  (zr_bipush t165_117 zcb_m2).trans <|
    zr_iret t165_119 rfl
/-! X10_isVersion FiveInksModel.isVersion -/
theorem k166_0 {X : Nat × (Nat → Int32)} {I : Nat → Nat → Int32} {v1 : Int32}  : zr X 166 0 [.ref 160, .int v1] [] (zk I) = zcb (zr X 116 0 [.int v1, .int 0, .int ((I 161 308) - 1)] [] (zk I)) (fun v m1 => zr X 166 15 [.ref 160, .int v1] (v.toList ++ []) m1) :=
  (zr_iload_n t166_0 rfl).trans <|
    (zr_iconst t166_1 zci_0).trans <|
    (zr_aload_n t166_2 rfl).trans <|
    (zr_getR (u := 161) t166_3 (rfl)).trans <|
    (zr_sipush t166_6 zcs_308).trans <|
    (zr_iald (j := 308) t166_9 (N := 675) rfl (by decide) (by decide)).trans <|
    (zr_iconst t166_10 zci_1).trans <|
    (zr_isub t166_11).trans <|
    zr_calls t166_12 rfl rfl rfl rfl rfl
theorem k166_15 {X : Nat × (Nat → Int32)} {I : Nat → Nat → Int32} {v1 : Int32} {s0 : Int32} (q1 : s0 = 0 ∨ s0 = 1) : zr X 166 15 [.ref 160, .int v1] [.int s0] (zk I) = some (some (.int s0), zk I) :=
  zr_zret t166_15 rfl q1
/-! X10_version FiveInksModel.version -/
theorem k167_0 {X : Nat × (Nat → Int32)} {I : Nat → Nat → Int32} {v1 : Int32} {v2 : Int32}  : zr X 167 0 [.ref 160, .int v1, .int v2, .null] [] (zk I) = zcb (zr X 166 0 [.ref 160, .int v1] [] (zk (zs1 I 160 0 0))) (fun v m1 => zr X 167 10 [.ref 160, .int v1, .int v2, .null] (v.toList ++ []) m1) :=
  (zr_aload_n t167_0 rfl).trans <|
    (zr_iconst t167_1 zci_0).trans <|
    (zr_putI t167_2 (rfl) (Or.inl rfl)).trans <|
    (zr_aload_n t167_5 rfl).trans <|
    (zr_iload_n t167_6 rfl).trans <|
    zr_callv t167_7 rfl rfl rfl rfl
theorem k167_10 {X : Nat × (Nat → Int32)} {I : Nat → Nat → Int32} {v1 : Int32} {v2 : Int32} {s0 : Int32}  : zr X 167 10 [.ref 160, .int v1, .int v2, .null] [.int s0] (zk I) = if ¬ s0 = 0 then zr X 167 15 [.ref 160, .int v1, .int v2, .null] [] (zk I) else zr X 167 13 [.ref 160, .int v1, .int v2, .null] [] (zk I) :=
  zr_if_ne (tgt := 15) t167_10 rfl
theorem k167_13 {X : Nat × (Nat → Int32)} {I : Nat → Nat → Int32} {v1 : Int32} {v2 : Int32}  : zr X 167 13 [.ref 160, .int v1, .int v2, .null] [] (zk I) = some (some (.int (-1)), zk I) :=
  (zr_iconst t167_13 zci_m1).trans <|
    zr_iret t167_14 rfl
theorem k167_15 {X : Nat × (Nat → Int32)} {I : Nat → Nat → Int32} {v1 : Int32} {v2 : Int32}  : zr X 167 15 [.ref 160, .int v1, .int v2, .null] [] (zk I) = if ¬ v2 = (-6) then zr X 167 39 [.ref 160, .int v1, .int v2, .int (309 + (61 * v1))] [] (zk I) else zr X 167 30 [.ref 160, .int v1, .int v2, .int (309 + (61 * v1))] [] (zk I) :=
  (zr_sipush t167_15 zcs_309).trans <|
    (zr_bipush t167_18 zcb_61).trans <|
    (zr_iload_n t167_20 rfl).trans <|
    (zr_imul t167_21).trans <|
    (zr_iadd t167_22).trans <|
    (zr_istore_n t167_23 rfl rfl).trans <|
    (zr_iload_n t167_24 rfl).trans <|
    (zr_bipush t167_25 zcb_m6).trans <|
    zr_ic_ne (tgt := 39) t167_27 rfl
theorem k167_30 {X : Nat × (Nat → Int32)} {I : Nat → Nat → Int32} {v1 : Int32} {v2 : Int32} {v3 : Int32} (q1 : zin v3 675 = true) : zr X 167 30 [.ref 160, .int v1, .int v2, .int v3] [] (zk I) = some (some (.int (I 161 (zx v3))), zk I) :=
  (zr_aload_n t167_30 rfl).trans <|
    (zr_getR (u := 161) t167_31 (rfl)).trans <|
    (zr_iload_n t167_34 rfl).trans <|
    (zr_iald (j := zx v3) t167_35 (N := 675) rfl rfl q1).trans <|
    (zr_goto (tgt := 69) t167_36 rfl).trans <|
    zr_iret t167_69 rfl
theorem k167_39 {X : Nat × (Nat → Int32)} {I : Nat → Nat → Int32} {v1 : Int32} {v2 : Int32} {v3 : Int32} (q1 : zin v3 675 = true) : zr X 167 39 [.ref 160, .int v1, .int v2, .int v3] [] (zk I) = zcb (zr X 116 0 [.int v2, .int 0, .int ((I 161 (zx v3)) - 1)] [] (zk I)) (fun v m1 => zr X 167 52 [.ref 160, .int v1, .int v2, .int v3] (v.toList ++ []) m1) :=
  (zr_iload_n t167_39 rfl).trans <|
    (zr_iconst t167_40 zci_0).trans <|
    (zr_aload_n t167_41 rfl).trans <|
    (zr_getR (u := 161) t167_42 (rfl)).trans <|
    (zr_iload_n t167_45 rfl).trans <|
    (zr_iald (j := zx v3) t167_46 (N := 675) rfl rfl q1).trans <|
    (zr_iconst t167_47 zci_1).trans <|
    (zr_isub t167_48).trans <|
    zr_calls t167_49 rfl rfl rfl rfl rfl
theorem k167_52 {X : Nat × (Nat → Int32)} {I : Nat → Nat → Int32} {v1 : Int32} {v2 : Int32} {v3 : Int32} {s0 : Int32}  : zr X 167 52 [.ref 160, .int v1, .int v2, .int v3] [.int s0] (zk I) = if s0 = 0 then zr X 167 68 [.ref 160, .int v1, .int v2, .int v3] [] (zk I) else zr X 167 55 [.ref 160, .int v1, .int v2, .int v3] [] (zk I) :=
  zr_if_eq (tgt := 68) t167_52 rfl
theorem k167_55 {X : Nat × (Nat → Int32)} {I : Nat → Nat → Int32} {v1 : Int32} {v2 : Int32} {v3 : Int32} (q1 : zin ((v3 + 1) + v2) 675 = true) : zr X 167 55 [.ref 160, .int v1, .int v2, .int v3] [] (zk I) = some (some (.int (I 161 (zx ((v3 + 1) + v2)))), zk I) :=
  (zr_aload_n t167_55 rfl).trans <|
    (zr_getR (u := 161) t167_56 (rfl)).trans <|
    (zr_iload_n t167_59 rfl).trans <|
    (zr_iconst t167_60 zci_1).trans <|
    (zr_iadd t167_61).trans <|
    (zr_iload_n t167_62 rfl).trans <|
    (zr_iadd t167_63).trans <|
    (zr_iald (j := zx ((v3 + 1) + v2)) t167_64 (N := 675) rfl rfl q1).trans <|
    (zr_goto (tgt := 69) t167_65 rfl).trans <|
    zr_iret t167_69 rfl
theorem k167_68 {X : Nat × (Nat → Int32)} {I : Nat → Nat → Int32} {v1 : Int32} {v2 : Int32} {v3 : Int32}  : zr X 167 68 [.ref 160, .int v1, .int v2, .int v3] [] (zk I) = some (some (.int (-1)), zk I) :=
  (zr_iconst t167_68 zci_m1).trans <|
    zr_iret t167_69 rfl
/-! X10_distance FiveInksModel.distance -/
theorem k168_0 {X : Nat × (Nat → Int32)} {I : Nat → Nat → Int32} {v1 : Int32} {v2 : Int32}  : zr X 168 0 [.ref 160, .int v1, .int v2, .null, .null, .null, .null] [] (zk I) = zr X 168 2 [.ref 160, .int v1, .int v2, .int 0, .null, .null, .null] [] (zk I) :=
  (zr_iconst t168_0 zci_0).trans <|
    zr_istore_n t168_1 rfl rfl
theorem k168_2 {X : Nat × (Nat → Int32)} {I : Nat → Nat → Int32} {v1 : Int32} {v2 : Int32} {v3 : Int32} (q1 : zin v2 675 = true) : zr X 168 2 [.ref 160, .int v1, .int v2, .int v3, .null, .null, .null] [] (zk I) = if (I 161 (zx v2)) < v3 then zr X 168 25 [.ref 160, .int v1, .int v2, .int v3, .null, .null, .null] [] (zk I) else zr X 168 12 [.ref 160, .int v1, .int v2, .int v3, .null, .null, .null] [] (zk I) :=
  (zr_iload_n t168_2 rfl).trans <|
    (zr_aload_n t168_3 rfl).trans <|
    (zr_getR (u := 161) t168_4 (rfl)).trans <|
    (zr_iload_n t168_7 rfl).trans <|
    (zr_iald (j := zx v2) t168_8 (N := 675) rfl rfl q1).trans <|
    zr_ic_gt (tgt := 25) t168_9 rfl
theorem k168_12 {X : Nat × (Nat → Int32)} {I : Nat → Nat → Int32} {v1 : Int32} {v2 : Int32} {v3 : Int32} (q1 : zin v3 61 = true) : zr X 168 12 [.ref 160, .int v1, .int v2, .int v3, .null, .null, .null] [] (zk I) = zr X 168 2 [.ref 160, .int v1, .int v2, .int (v3 + 1), .null, .null, .null] [] (zk (zs1 I 170 (zx v3) v3)) :=
  (zr_aload_n t168_12 rfl).trans <|
    (zr_getR (u := 170) t168_13 (rfl)).trans <|
    (zr_iload_n t168_16 rfl).trans <|
    (zr_iload_n t168_17 rfl).trans <|
    (zr_iast (j := zx v3) t168_18 (N := 61) rfl rfl q1).trans <|
    (zr_iinc t168_19 rfl rfl (congrArg (fun z => v3 + z) zci_1) rfl).trans <|
    zr_goto (tgt := 2) t168_22 rfl
theorem k168_25 {X : Nat × (Nat → Int32)} {I : Nat → Nat → Int32} {v1 : Int32} {v2 : Int32} {v3 : Int32}  : zr X 168 25 [.ref 160, .int v1, .int v2, .int v3, .null, .null, .null] [] (zk I) = zr X 168 27 [.ref 160, .int v1, .int v2, .int 1, .null, .null, .null] [] (zk I) :=
  (zr_iconst t168_25 zci_1).trans <|
    zr_istore_n t168_26 rfl rfl
theorem k168_27 {X : Nat × (Nat → Int32)} {I : Nat → Nat → Int32} {v1 : Int32} {v2 : Int32} {v3 : Int32} {v4 : Value} {v5 : Value} {v6 : Value} (q1 : zin v1 675 = true) : zr X 168 27 [.ref 160, .int v1, .int v2, .int v3, v4, v5, v6] [] (zk I) = if (I 161 (zx v1)) < v3 then zr X 168 206 [.ref 160, .int v1, .int v2, .int v3, v4, v5, v6] [] (zk I) else zr X 168 37 [.ref 160, .int v1, .int v2, .int v3, v4, v5, v6] [] (zk I) :=
  (zr_iload_n t168_27 rfl).trans <|
    (zr_aload_n t168_28 rfl).trans <|
    (zr_getR (u := 161) t168_29 (rfl)).trans <|
    (zr_iload_n t168_32 rfl).trans <|
    (zr_iald (j := zx v1) t168_33 (N := 675) rfl rfl q1).trans <|
    zr_ic_gt (tgt := 206) t168_34 rfl
theorem k168_37 {X : Nat × (Nat → Int32)} {I : Nat → Nat → Int32} {v1 : Int32} {v2 : Int32} {v3 : Int32} {v4 : Value} {v5 : Value} {v6 : Value}  : zr X 168 37 [.ref 160, .int v1, .int v2, .int v3, v4, v5, v6] [] (zk I) = zr X 168 47 [.ref 160, .int v1, .int v2, .int v3, .int 1, v5, v6] [] (zk (zs1 I 171 0 v3)) :=
  (zr_aload_n t168_37 rfl).trans <|
    (zr_getR (u := 171) t168_38 (rfl)).trans <|
    (zr_iconst t168_41 zci_0).trans <|
    (zr_iload_n t168_42 rfl).trans <|
    (zr_iast (j := 0) t168_43 (N := 61) rfl (by decide) (by decide)).trans <|
    (zr_iconst t168_44 zci_1).trans <|
    zr_istore t168_45 rfl rfl
theorem k168_47 {X : Nat × (Nat → Int32)} {I : Nat → Nat → Int32} {v1 : Int32} {v2 : Int32} {v3 : Int32} {v4 : Int32} {v5 : Value} {v6 : Value} (q1 : zin v2 675 = true) : zr X 168 47 [.ref 160, .int v1, .int v2, .int v3, .int v4, v5, v6] [] (zk I) = if (I 161 (zx v2)) < v4 then zr X 168 166 [.ref 160, .int v1, .int v2, .int v3, .int v4, v5, v6] [] (zk I) else zr X 168 58 [.ref 160, .int v1, .int v2, .int v3, .int v4, v5, v6] [] (zk I) :=
  (zr_iload t168_47 rfl).trans <|
    (zr_aload_n t168_49 rfl).trans <|
    (zr_getR (u := 161) t168_50 (rfl)).trans <|
    (zr_iload_n t168_53 rfl).trans <|
    (zr_iald (j := zx v2) t168_54 (N := 675) rfl rfl q1).trans <|
    zr_ic_gt (tgt := 166) t168_55 rfl
theorem k168_58 {X : Nat × (Nat → Int32)} {I : Nat → Nat → Int32} {v1 : Int32} {v2 : Int32} {v3 : Int32} {v4 : Int32} {v5 : Value} {v6 : Value} (q1 : zin (v4 - 1) 61 = true) (q2 : zin (v1 + v3) 675 = true) (q3 : zin (v2 + v4) 675 = true) : zr X 168 58 [.ref 160, .int v1, .int v2, .int v3, .int v4, v5, v6] [] (zk I) = if ¬ (I 161 (zx (v1 + v3))) = (I 161 (zx (v2 + v4))) then zr X 168 91 [.ref 160, .int v1, .int v2, .int v3, .int v4, v5, v6] [.int (I 170 (zx (v4 - 1)))] (zk I) else zr X 168 87 [.ref 160, .int v1, .int v2, .int v3, .int v4, v5, v6] [.int (I 170 (zx (v4 - 1)))] (zk I) :=
  (zr_aload_n t168_58 rfl).trans <|
    (zr_getR (u := 170) t168_59 (rfl)).trans <|
    (zr_iload t168_62 rfl).trans <|
    (zr_iconst t168_64 zci_1).trans <|
    (zr_isub t168_65).trans <|
    (zr_iald (j := zx (v4 - 1)) t168_66 (N := 61) rfl rfl q1).trans <|
    (zr_aload_n t168_67 rfl).trans <|
    (zr_getR (u := 161) t168_68 (rfl)).trans <|
    (zr_iload_n t168_71 rfl).trans <|
    (zr_iload_n t168_72 rfl).trans <|
    (zr_iadd t168_73).trans <|
    (zr_iald (j := zx (v1 + v3)) t168_74 (N := 675) rfl rfl q2).trans <|
    (zr_aload_n t168_75 rfl).trans <|
    (zr_getR (u := 161) t168_76 (rfl)).trans <|
    (zr_iload_n t168_79 rfl).trans <|
    (zr_iload t168_80 rfl).trans <|
    (zr_iadd t168_82).trans <|
    (zr_iald (j := zx (v2 + v4)) t168_83 (N := 675) rfl rfl q3).trans <|
    zr_ic_ne (tgt := 91) t168_84 rfl
theorem k168_87 {X : Nat × (Nat → Int32)} {I : Nat → Nat → Int32} {v1 : Int32} {v2 : Int32} {v3 : Int32} {v4 : Int32} {v5 : Value} {v6 : Value} {s0 : Int32} (q1 : zin v4 61 = true) (q2 : zin (v4 - 1) 61 = true) : zr X 168 87 [.ref 160, .int v1, .int v2, .int v3, .int v4, v5, v6] [.int s0] (zk I) = if (I 171 (zx (v4 - 1))) ≤ (I 170 (zx v4)) then zr X 168 126 [.ref 160, .int v1, .int v2, .int v3, .int v4, .int (s0 + 0), v6] [] (zk I) else zr X 168 114 [.ref 160, .int v1, .int v2, .int v3, .int v4, .int (s0 + 0), v6] [] (zk I) :=
  (zr_iconst t168_87 zci_0).trans <|
    (zr_goto (tgt := 92) t168_88 rfl).trans <|
    (zr_iadd t168_92).trans <|
    (zr_istore t168_93 rfl rfl).trans <|
    (zr_aload_n t168_95 rfl).trans <|
    (zr_getR (u := 170) t168_96 (rfl)).trans <|
    (zr_iload t168_99 rfl).trans <|
    (zr_iald (j := zx v4) t168_101 (N := 61) rfl rfl q1).trans <|
    (zr_aload_n t168_102 rfl).trans <|
    (zr_getR (u := 171) t168_103 (rfl)).trans <|
    (zr_iload t168_106 rfl).trans <|
    (zr_iconst t168_108 zci_1).trans <|
    (zr_isub t168_109).trans <|
    (zr_iald (j := zx (v4 - 1)) t168_110 (N := 61) rfl rfl q2).trans <|
    zr_ic_ge (tgt := 126) t168_111 rfl
theorem k168_91 {X : Nat × (Nat → Int32)} {I : Nat → Nat → Int32} {v1 : Int32} {v2 : Int32} {v3 : Int32} {v4 : Int32} {v5 : Value} {v6 : Value} {s0 : Int32} (q1 : zin v4 61 = true) (q2 : zin (v4 - 1) 61 = true) : zr X 168 91 [.ref 160, .int v1, .int v2, .int v3, .int v4, v5, v6] [.int s0] (zk I) = if (I 171 (zx (v4 - 1))) ≤ (I 170 (zx v4)) then zr X 168 126 [.ref 160, .int v1, .int v2, .int v3, .int v4, .int (s0 + 1), v6] [] (zk I) else zr X 168 114 [.ref 160, .int v1, .int v2, .int v3, .int v4, .int (s0 + 1), v6] [] (zk I) :=
  (zr_iconst t168_91 zci_1).trans <|
    (zr_iadd t168_92).trans <|
    (zr_istore t168_93 rfl rfl).trans <|
    (zr_aload_n t168_95 rfl).trans <|
    (zr_getR (u := 170) t168_96 (rfl)).trans <|
    (zr_iload t168_99 rfl).trans <|
    (zr_iald (j := zx v4) t168_101 (N := 61) rfl rfl q1).trans <|
    (zr_aload_n t168_102 rfl).trans <|
    (zr_getR (u := 171) t168_103 (rfl)).trans <|
    (zr_iload t168_106 rfl).trans <|
    (zr_iconst t168_108 zci_1).trans <|
    (zr_isub t168_109).trans <|
    (zr_iald (j := zx (v4 - 1)) t168_110 (N := 61) rfl rfl q2).trans <|
    zr_ic_ge (tgt := 126) t168_111 rfl
theorem k168_114 {X : Nat × (Nat → Int32)} {I : Nat → Nat → Int32} {v1 : Int32} {v2 : Int32} {v3 : Int32} {v4 : Int32} {v5 : Int32} {v6 : Value} (q1 : zin v4 61 = true) : zr X 168 114 [.ref 160, .int v1, .int v2, .int v3, .int v4, .int v5, v6] [] (zk I) = if ((I 170 (zx v4)) + 1) ≤ v5 then zr X 168 157 [.ref 160, .int v1, .int v2, .int v3, .int v4, .int v5, .int ((I 170 (zx v4)) + 1)] [.int v4, .ref 171] (zk I) else zr X 168 152 [.ref 160, .int v1, .int v2, .int v3, .int v4, .int v5, .int ((I 170 (zx v4)) + 1)] [.int v4, .ref 171] (zk I) :=
  (zr_aload_n t168_114 rfl).trans <|
    (zr_getR (u := 170) t168_115 (rfl)).trans <|
    (zr_iload t168_118 rfl).trans <|
    (zr_iald (j := zx v4) t168_120 (N := 61) rfl rfl q1).trans <|
    (zr_iconst t168_121 zci_1).trans <|
    (zr_iadd t168_122).trans <|
    (zr_goto (tgt := 137) t168_123 rfl).trans <|
    (zr_istore t168_137 rfl rfl).trans <|
    (zr_aload_n t168_139 rfl).trans <|
    (zr_getR (u := 171) t168_140 (rfl)).trans <|
    (zr_iload t168_143 rfl).trans <|
    (zr_iload t168_145 rfl).trans <|
    (zr_iload t168_147 rfl).trans <|
    zr_ic_ge (tgt := 157) t168_149 rfl
theorem k168_126 {X : Nat × (Nat → Int32)} {I : Nat → Nat → Int32} {v1 : Int32} {v2 : Int32} {v3 : Int32} {v4 : Int32} {v5 : Int32} {v6 : Value} (q1 : zin (v4 - 1) 61 = true) : zr X 168 126 [.ref 160, .int v1, .int v2, .int v3, .int v4, .int v5, v6] [] (zk I) = if ((I 171 (zx (v4 - 1))) + 1) ≤ v5 then zr X 168 157 [.ref 160, .int v1, .int v2, .int v3, .int v4, .int v5, .int ((I 171 (zx (v4 - 1))) + 1)] [.int v4, .ref 171] (zk I) else zr X 168 152 [.ref 160, .int v1, .int v2, .int v3, .int v4, .int v5, .int ((I 171 (zx (v4 - 1))) + 1)] [.int v4, .ref 171] (zk I) :=
  (zr_aload_n t168_126 rfl).trans <|
    (zr_getR (u := 171) t168_127 (rfl)).trans <|
    (zr_iload t168_130 rfl).trans <|
    (zr_iconst t168_132 zci_1).trans <|
    (zr_isub t168_133).trans <|
    (zr_iald (j := zx (v4 - 1)) t168_134 (N := 61) rfl rfl q1).trans <|
    (zr_iconst t168_135 zci_1).trans <|
    (zr_iadd t168_136).trans <|
    (zr_istore t168_137 rfl rfl).trans <|
    (zr_aload_n t168_139 rfl).trans <|
    (zr_getR (u := 171) t168_140 (rfl)).trans <|
    (zr_iload t168_143 rfl).trans <|
    (zr_iload t168_145 rfl).trans <|
    (zr_iload t168_147 rfl).trans <|
    zr_ic_ge (tgt := 157) t168_149 rfl
theorem k168_152 {X : Nat × (Nat → Int32)} {I : Nat → Nat → Int32} {v1 : Int32} {v2 : Int32} {v3 : Int32} {v4 : Int32} {v5 : Int32} {v6 : Int32} {s1 : Int32} (q1 : zin s1 61 = true) : zr X 168 152 [.ref 160, .int v1, .int v2, .int v3, .int v4, .int v5, .int v6] [.int s1, .ref 171] (zk I) = zr X 168 47 [.ref 160, .int v1, .int v2, .int v3, .int (v4 + 1), .int v5, .int v6] [] (zk (zs1 I 171 (zx s1) v5)) :=
  (zr_iload t168_152 rfl).trans <|
    (zr_goto (tgt := 159) t168_154 rfl).trans <|
    (zr_iast (j := zx s1) t168_159 (N := 61) rfl rfl q1).trans <|
    (zr_iinc t168_160 rfl rfl (congrArg (fun z => v4 + z) zci_1) rfl).trans <|
    zr_goto (tgt := 47) t168_163 rfl
theorem k168_157 {X : Nat × (Nat → Int32)} {I : Nat → Nat → Int32} {v1 : Int32} {v2 : Int32} {v3 : Int32} {v4 : Int32} {v5 : Int32} {v6 : Int32} {s1 : Int32} (q1 : zin s1 61 = true) : zr X 168 157 [.ref 160, .int v1, .int v2, .int v3, .int v4, .int v5, .int v6] [.int s1, .ref 171] (zk I) = zr X 168 47 [.ref 160, .int v1, .int v2, .int v3, .int (v4 + 1), .int v5, .int v6] [] (zk (zs1 I 171 (zx s1) v6)) :=
  (zr_iload t168_157 rfl).trans <|
    (zr_iast (j := zx s1) t168_159 (N := 61) rfl rfl q1).trans <|
    (zr_iinc t168_160 rfl rfl (congrArg (fun z => v4 + z) zci_1) rfl).trans <|
    zr_goto (tgt := 47) t168_163 rfl
theorem k168_166 {X : Nat × (Nat → Int32)} {I : Nat → Nat → Int32} {v1 : Int32} {v2 : Int32} {v3 : Int32} {v4 : Int32} {v5 : Value} {v6 : Value}  : zr X 168 166 [.ref 160, .int v1, .int v2, .int v3, .int v4, v5, v6] [] (zk I) = zr X 168 169 [.ref 160, .int v1, .int v2, .int v3, .int 0, v5, v6] [] (zk I) :=
  (zr_iconst t168_166 zci_0).trans <|
    zr_istore t168_167 rfl rfl
theorem k168_169 {X : Nat × (Nat → Int32)} {I : Nat → Nat → Int32} {v1 : Int32} {v2 : Int32} {v3 : Int32} {v4 : Int32} {v5 : Value} {v6 : Value} (q1 : zin v2 675 = true) : zr X 168 169 [.ref 160, .int v1, .int v2, .int v3, .int v4, v5, v6] [] (zk I) = if (I 161 (zx v2)) < v4 then zr X 168 200 [.ref 160, .int v1, .int v2, .int v3, .int v4, v5, v6] [] (zk I) else zr X 168 180 [.ref 160, .int v1, .int v2, .int v3, .int v4, v5, v6] [] (zk I) :=
  (zr_iload t168_169 rfl).trans <|
    (zr_aload_n t168_171 rfl).trans <|
    (zr_getR (u := 161) t168_172 (rfl)).trans <|
    (zr_iload_n t168_175 rfl).trans <|
    (zr_iald (j := zx v2) t168_176 (N := 675) rfl rfl q1).trans <|
    zr_ic_gt (tgt := 200) t168_177 rfl
theorem k168_180 {X : Nat × (Nat → Int32)} {I : Nat → Nat → Int32} {v1 : Int32} {v2 : Int32} {v3 : Int32} {v4 : Int32} {v5 : Value} {v6 : Value} (q1 : zin v4 61 = true) : zr X 168 180 [.ref 160, .int v1, .int v2, .int v3, .int v4, v5, v6] [] (zk I) = zr X 168 169 [.ref 160, .int v1, .int v2, .int v3, .int (v4 + 1), v5, v6] [] (zk (zs1 I 170 (zx v4) (I 171 (zx v4)))) :=
  (zr_aload_n t168_180 rfl).trans <|
    (zr_getR (u := 170) t168_181 (rfl)).trans <|
    (zr_iload t168_184 rfl).trans <|
    (zr_aload_n t168_186 rfl).trans <|
    (zr_getR (u := 171) t168_187 (rfl)).trans <|
    (zr_iload t168_190 rfl).trans <|
    (zr_iald (j := zx v4) t168_192 (N := 61) rfl rfl q1).trans <|
    (zr_iast (j := zx v4) t168_193 (N := 61) rfl rfl q1).trans <|
    (zr_iinc t168_194 rfl rfl (congrArg (fun z => v4 + z) zci_1) rfl).trans <|
    zr_goto (tgt := 169) t168_197 rfl
theorem k168_200 {X : Nat × (Nat → Int32)} {I : Nat → Nat → Int32} {v1 : Int32} {v2 : Int32} {v3 : Int32} {v4 : Int32} {v5 : Value} {v6 : Value}  : zr X 168 200 [.ref 160, .int v1, .int v2, .int v3, .int v4, v5, v6] [] (zk I) = zr X 168 27 [.ref 160, .int v1, .int v2, .int (v3 + 1), .int v4, v5, v6] [] (zk I) :=
  (zr_iinc t168_200 rfl rfl (congrArg (fun z => v3 + z) zci_1) rfl).trans <|
    zr_goto (tgt := 27) t168_203 rfl
theorem k168_206 {X : Nat × (Nat → Int32)} {I : Nat → Nat → Int32} {v1 : Int32} {v2 : Int32} {v3 : Int32} {v4 : Value} {v5 : Value} {v6 : Value} (q1 : zin v2 675 = true) (q2 : zin (I 161 (zx v2)) 61 = true) : zr X 168 206 [.ref 160, .int v1, .int v2, .int v3, v4, v5, v6] [] (zk I) = some (some (.int (I 170 (zx (I 161 (zx v2))))), zk I) :=
  (zr_aload_n t168_206 rfl).trans <|
    (zr_getR (u := 170) t168_207 (rfl)).trans <|
    (zr_aload_n t168_210 rfl).trans <|
    (zr_getR (u := 161) t168_211 (rfl)).trans <|
    (zr_iload_n t168_214 rfl).trans <|
    (zr_iald (j := zx v2) t168_215 (N := 675) rfl rfl q1).trans <|
    (zr_iald (j := zx (I 161 (zx v2))) t168_216 (N := 61) rfl rfl q2).trans <|
    zr_iret t168_217 rfl
/-! X10_apart FiveInksModel.apart -/
theorem k169_0 {X : Nat × (Nat → Int32)} {I : Nat → Nat → Int32} {v1 : Int32} {v2 : Int32}  : zr X 169 0 [.ref 160, .int v1, .int v2] [] (zk I) = zcb (zr X 166 0 [.ref 160, .int v1] [] (zk (zs1 I 160 0 0))) (fun v m1 => zr X 169 10 [.ref 160, .int v1, .int v2] (v.toList ++ []) m1) :=
  (zr_aload_n t169_0 rfl).trans <|
    (zr_iconst t169_1 zci_0).trans <|
    (zr_putI t169_2 (rfl) (Or.inl rfl)).trans <|
    (zr_aload_n t169_5 rfl).trans <|
    (zr_iload_n t169_6 rfl).trans <|
    zr_callv t169_7 rfl rfl rfl rfl
theorem k169_10 {X : Nat × (Nat → Int32)} {I : Nat → Nat → Int32} {v1 : Int32} {v2 : Int32} {s0 : Int32}  : zr X 169 10 [.ref 160, .int v1, .int v2] [.int s0] (zk I) = if s0 = 0 then zr X 169 44 [.ref 160, .int v1, .int v2] [] (zk I) else zr X 169 13 [.ref 160, .int v1, .int v2] [] (zk I) :=
  zr_if_eq (tgt := 44) t169_10 rfl
theorem k169_13 {X : Nat × (Nat → Int32)} {I : Nat → Nat → Int32} {v1 : Int32} {v2 : Int32}  : zr X 169 13 [.ref 160, .int v1, .int v2] [] (zk I) = zcb (zr X 166 0 [.ref 160, .int v2] [] (zk I)) (fun v m1 => zr X 169 18 [.ref 160, .int v1, .int v2] (v.toList ++ []) m1) :=
  (zr_aload_n t169_13 rfl).trans <|
    (zr_iload_n t169_14 rfl).trans <|
    zr_callv t169_15 rfl rfl rfl rfl
theorem k169_18 {X : Nat × (Nat → Int32)} {I : Nat → Nat → Int32} {v1 : Int32} {v2 : Int32} {s0 : Int32}  : zr X 169 18 [.ref 160, .int v1, .int v2] [.int s0] (zk I) = if s0 = 0 then zr X 169 44 [.ref 160, .int v1, .int v2] [] (zk I) else zr X 169 21 [.ref 160, .int v1, .int v2] [] (zk I) :=
  zr_if_eq (tgt := 44) t169_18 rfl
theorem k169_21 {X : Nat × (Nat → Int32)} {I : Nat → Nat → Int32} {v1 : Int32} {v2 : Int32}  : zr X 169 21 [.ref 160, .int v1, .int v2] [] (zk I) = zcb (zr X 168 0 [.ref 160, .int (309 + (61 * v1)), .int (309 + (61 * v2)), .null, .null, .null, .null] [] (zk I)) (fun v m1 => zr X 169 41 [.ref 160, .int v1, .int v2] (v.toList ++ []) m1) :=
  (zr_aload_n t169_21 rfl).trans <|
    (zr_sipush t169_22 zcs_309).trans <|
    (zr_bipush t169_25 zcb_61).trans <|
    (zr_iload_n t169_27 rfl).trans <|
    (zr_imul t169_28).trans <|
    (zr_iadd t169_29).trans <|
    (zr_sipush t169_30 zcs_309).trans <|
    (zr_bipush t169_33 zcb_61).trans <|
    (zr_iload_n t169_35 rfl).trans <|
    (zr_imul t169_36).trans <|
    (zr_iadd t169_37).trans <|
    zr_callv t169_38 rfl rfl rfl rfl
theorem k169_41 {X : Nat × (Nat → Int32)} {I : Nat → Nat → Int32} {v1 : Int32} {v2 : Int32} {s0 : Int32}  : zr X 169 41 [.ref 160, .int v1, .int v2] [.int s0] (zk I) = some (some (.int s0), zk I) :=
  (zr_goto (tgt := 45) t169_41 rfl).trans <|
    zr_iret t169_45 rfl
theorem k169_44 {X : Nat × (Nat → Int32)} {I : Nat → Nat → Int32} {v1 : Int32} {v2 : Int32}  : zr X 169 44 [.ref 160, .int v1, .int v2] [] (zk I) = some (some (.int (-1)), zk I) :=
  (zr_iconst t169_44 zci_m1).trans <|
    zr_iret t169_45 rfl
/-! X10_ifAccepted FiveInksModel.ifAccepted -/
theorem k170_0 {X : Nat × (Nat → Int32)} {I : Nat → Nat → Int32} {v1 : Int32} {v2 : Int32}  : zr X 170 0 [.ref 160, .int v1, .int v2] [] (zk I) = zcb (zr X 119 0 [.ref 160, .int v1] [] (zk (zs1 I 160 0 0))) (fun v m1 => zr X 170 10 [.ref 160, .int v1, .int v2] (v.toList ++ []) m1) :=
  (zr_aload_n t170_0 rfl).trans <|
    (zr_iconst t170_1 zci_0).trans <|
    (zr_putI t170_2 (rfl) (Or.inl rfl)).trans <|
    (zr_aload_n t170_5 rfl).trans <|
    (zr_iload_n t170_6 rfl).trans <|
    zr_callv t170_7 rfl rfl rfl rfl
theorem k170_10 {X : Nat × (Nat → Int32)} {I : Nat → Nat → Int32} {v1 : Int32} {v2 : Int32} {s0 : Int32}  : zr X 170 10 [.ref 160, .int v1, .int v2] [.int s0] (zk I) = if ¬ s0 = 0 then zr X 170 15 [.ref 160, .int v1, .int v2] [] (zk I) else zr X 170 13 [.ref 160, .int v1, .int v2] [] (zk I) :=
  zr_if_ne (tgt := 15) t170_10 rfl
theorem k170_13 {X : Nat × (Nat → Int32)} {I : Nat → Nat → Int32} {v1 : Int32} {v2 : Int32}  : zr X 170 13 [.ref 160, .int v1, .int v2] [] (zk I) = some (some (.int (-1)), zk I) :=
  (zr_iconst t170_13 zci_m1).trans <|
    zr_iret t170_14 rfl
theorem k170_15 {X : Nat × (Nat → Int32)} {I : Nat → Nat → Int32} {v1 : Int32} {v2 : Int32}  : zr X 170 15 [.ref 160, .int v1, .int v2] [] (zk I) = zcb (zr X 116 0 [.int v2, .int 0, .int 1] [] (zk I)) (fun v m1 => zr X 170 21 [.ref 160, .int v1, .int v2] (v.toList ++ []) m1) :=
  (zr_iload_n t170_15 rfl).trans <|
    (zr_iconst t170_16 zci_0).trans <|
    (zr_iconst t170_17 zci_1).trans <|
    zr_calls t170_18 rfl rfl rfl rfl rfl
theorem k170_21 {X : Nat × (Nat → Int32)} {I : Nat → Nat → Int32} {v1 : Int32} {v2 : Int32} {s0 : Int32}  : zr X 170 21 [.ref 160, .int v1, .int v2] [.int s0] (zk I) = if ¬ s0 = 0 then zr X 170 27 [.ref 160, .int v1, .int v2] [] (zk I) else zr X 170 24 [.ref 160, .int v1, .int v2] [] (zk I) :=
  zr_if_ne (tgt := 27) t170_21 rfl
theorem k170_24 {X : Nat × (Nat → Int32)} {I : Nat → Nat → Int32} {v1 : Int32} {v2 : Int32}  : zr X 170 24 [.ref 160, .int v1, .int v2] [] (zk I) = some (some (.int (-2)), zk I) :=
  (zr_bipush t170_24 zcb_m2).trans <|
    zr_iret t170_26 rfl
theorem k170_27 {X : Nat × (Nat → Int32)} {I : Nat → Nat → Int32} {v1 : Int32} {v2 : Int32}  : zr X 170 27 [.ref 160, .int v1, .int v2] [] (zk I) = zcb (zr X 117 0 [.ref 160, .int v1, .int 5] [] (zk I)) (fun v m1 => zr X 170 33 [.ref 160, .int v1, .int v2] (v.toList ++ []) m1) :=
  (zr_aload_n t170_27 rfl).trans <|
    (zr_iload_n t170_28 rfl).trans <|
    (zr_iconst t170_29 zci_5).trans <|
    zr_callv t170_30 rfl rfl rfl rfl
theorem k170_33 {X : Nat × (Nat → Int32)} {I : Nat → Nat → Int32} {v1 : Int32} {v2 : Int32} {s0 : Int32}  : zr X 170 33 [.ref 160, .int v1, .int v2] [.int s0] (zk I) = if ¬ s0 = 0 then zr X 170 45 [.ref 160, .int v1, .int v2] [] (zk I) else zr X 170 36 [.ref 160, .int v1, .int v2] [] (zk I) :=
  zr_if_ne (tgt := 45) t170_33 rfl
theorem k170_36 {X : Nat × (Nat → Int32)} {I : Nat → Nat → Int32} {v1 : Int32} {v2 : Int32}  : zr X 170 36 [.ref 160, .int v1, .int v2] [] (zk I) = zcb (zr X 126 0 [.ref 160, .int v1, .int 1, .null, .null] [] (zk I)) (fun v m1 => zr X 170 42 [.ref 160, .int v1, .int v2] (v.toList ++ []) m1) :=
  (zr_aload_n t170_36 rfl).trans <|
    (zr_iload_n t170_37 rfl).trans <|
    (zr_iconst t170_38 zci_1).trans <|
    zr_callv t170_39 rfl rfl rfl rfl
theorem k170_42 {X : Nat × (Nat → Int32)} {I : Nat → Nat → Int32} {v1 : Int32} {v2 : Int32} {s0 : Int32}  : zr X 170 42 [.ref 160, .int v1, .int v2] [.int s0] (zk I) = if s0 ≤ 0 then zr X 170 48 [.ref 160, .int v1, .int v2] [] (zk I) else zr X 170 45 [.ref 160, .int v1, .int v2] [] (zk I) :=
  zr_if_le (tgt := 48) t170_42 rfl
theorem k170_45 {X : Nat × (Nat → Int32)} {I : Nat → Nat → Int32} {v1 : Int32} {v2 : Int32}  : zr X 170 45 [.ref 160, .int v1, .int v2] [] (zk I) = some (some (.int (-5)), zk I) :=
  (zr_bipush t170_45 zcb_m5).trans <|
    zr_iret t170_47 rfl
theorem k170_48 {X : Nat × (Nat → Int32)} {I : Nat → Nat → Int32} {v1 : Int32} {v2 : Int32}  : zr X 170 48 [.ref 160, .int v1, .int v2] [] (zk I) = if ¬ v2 = 0 then zr X 170 61 [.ref 160, .int v1, .int v2] [] (zk I) else zr X 170 52 [.ref 160, .int v1, .int v2] [] (zk I) :=
  (zr_iload_n t170_48 rfl).trans <|
    zr_if_ne (tgt := 61) t170_49 rfl
theorem k170_52 {X : Nat × (Nat → Int32)} {I : Nat → Nat → Int32} {v1 : Int32} {v2 : Int32}  : zr X 170 52 [.ref 160, .int v1, .int v2] [] (zk I) = zcb (zr X 126 0 [.ref 160, .int v1, .int 0, .null, .null] [] (zk I)) (fun v m1 => zr X 170 58 [.ref 160, .int v1, .int v2] (v.toList ++ []) m1) :=
  (zr_aload_n t170_52 rfl).trans <|
    (zr_iload_n t170_53 rfl).trans <|
    (zr_iconst t170_54 zci_0).trans <|
    zr_callv t170_55 rfl rfl rfl rfl
theorem k170_58 {X : Nat × (Nat → Int32)} {I : Nat → Nat → Int32} {v1 : Int32} {v2 : Int32} {s0 : Int32}  : zr X 170 58 [.ref 160, .int v1, .int v2] [.int s0] (zk I) = some (some (.int s0), zk I) :=
  (zr_goto (tgt := 71) t170_58 rfl).trans <|
    zr_iret t170_71 rfl
theorem k170_61 {X : Nat × (Nat → Int32)} {I : Nat → Nat → Int32} {v1 : Int32} {v2 : Int32}  : zr X 170 61 [.ref 160, .int v1, .int v2] [] (zk I) = zcb (zr X 128 0 [.ref 160, .null, .null] [] (zk I)) (fun v m1 => zr X 170 65 [.ref 160, .int v1, .int v2] (v.toList ++ []) m1) :=
  (zr_aload_n t170_61 rfl).trans <|
    zr_callv t170_62 rfl rfl rfl rfl
theorem k170_65 {X : Nat × (Nat → Int32)} {I : Nat → Nat → Int32} {v1 : Int32} {v2 : Int32} {s0 : Int32}  : zr X 170 65 [.ref 160, .int v1, .int v2] [.int s0] (zk I) = zcb (zr X 127 0 [.ref 160, .int v1] [] (zk I)) (fun v m1 => zr X 170 70 [.ref 160, .int v1, .int v2] (v.toList ++ [.int s0]) m1) :=
  (zr_aload_n t170_65 rfl).trans <|
    (zr_iload_n t170_66 rfl).trans <|
    zr_callv t170_67 rfl rfl rfl rfl
theorem k170_70 {X : Nat × (Nat → Int32)} {I : Nat → Nat → Int32} {v1 : Int32} {v2 : Int32} {s0 : Int32} {s1 : Int32}  : zr X 170 70 [.ref 160, .int v1, .int v2] [.int s1, .int s0] (zk I) = some (some (.int (s0 + s1)), zk I) :=
  (zr_iadd t170_70).trans <|
    zr_iret t170_71 rfl
/-! X10_ifJudged FiveInksModel.ifJudged -/
theorem k171_0 {X : Nat × (Nat → Int32)} {I : Nat → Nat → Int32} {v1 : Int32}  : zr X 171 0 [.ref 160, .int v1, .null, .null] [] (zk I) = zcb (zr X 116 0 [.int v1, .int 0, .int 5] [] (zk (zs1 I 160 0 0))) (fun v m1 => zr X 171 11 [.ref 160, .int v1, .null, .null] (v.toList ++ []) m1) :=
  (zr_aload_n t171_0 rfl).trans <|
    (zr_iconst t171_1 zci_0).trans <|
    (zr_putI t171_2 (rfl) (Or.inl rfl)).trans <|
    (zr_iload_n t171_5 rfl).trans <|
    (zr_iconst t171_6 zci_0).trans <|
    (zr_iconst t171_7 zci_5).trans <|
    zr_calls t171_8 rfl rfl rfl rfl rfl
theorem k171_11 {X : Nat × (Nat → Int32)} {I : Nat → Nat → Int32} {v1 : Int32} {s0 : Int32}  : zr X 171 11 [.ref 160, .int v1, .null, .null] [.int s0] (zk I) = if ¬ s0 = 0 then zr X 171 17 [.ref 160, .int v1, .null, .null] [] (zk I) else zr X 171 14 [.ref 160, .int v1, .null, .null] [] (zk I) :=
  zr_if_ne (tgt := 17) t171_11 rfl
theorem k171_14 {X : Nat × (Nat → Int32)} {I : Nat → Nat → Int32} {v1 : Int32}  : zr X 171 14 [.ref 160, .int v1, .null, .null] [] (zk I) = some (some (.int (-2)), zk I) :=
  (zr_bipush t171_14 zcb_m2).trans <|
    zr_iret t171_16 rfl
theorem k171_17 {X : Nat × (Nat → Int32)} {I : Nat → Nat → Int32} {v1 : Int32}  : zr X 171 17 [.ref 160, .int v1, .null, .null] [] (zk I) = zcb (zr X 122 0 [.ref 160, .null] [] (zk I)) (fun v m1 => zr X 171 21 [.ref 160, .int v1, .null, .null] (v.toList ++ []) m1) :=
  (zr_aload_n t171_17 rfl).trans <|
    zr_callv t171_18 rfl rfl rfl rfl
theorem k171_21 {X : Nat × (Nat → Int32)} {I : Nat → Nat → Int32} {v1 : Int32}  : zr X 171 21 [.ref 160, .int v1, .null, .null] [] (zk I) = if 5 ≤ v1 then zr X 171 35 [.ref 160, .int v1, .null, .null] [] (zk I) else zr X 171 26 [.ref 160, .int v1, .null, .null] [] (zk I) :=
  (zr_iload_n t171_21 rfl).trans <|
    (zr_iconst t171_22 zci_5).trans <|
    zr_ic_ge (tgt := 35) t171_23 rfl
theorem k171_26 {X : Nat × (Nat → Int32)} {I : Nat → Nat → Int32} {v1 : Int32}  : zr X 171 26 [.ref 160, .int v1, .null, .null] [] (zk I) = zcb (zr X 162 0 [.ref 160, .int v1, .int 4, .null, .null, .null] [] (zk I)) (fun v m1 => zr X 171 32 [.ref 160, .int v1, .null, .null] (v.toList ++ []) m1) :=
  (zr_aload_n t171_26 rfl).trans <|
    (zr_iload_n t171_27 rfl).trans <|
    (zr_iconst t171_28 zci_4).trans <|
    zr_callv t171_29 rfl rfl rfl rfl
theorem k171_32 {X : Nat × (Nat → Int32)} {I : Nat → Nat → Int32} {v1 : Int32} {s0 : Int32}  : zr X 171 32 [.ref 160, .int v1, .null, .null] [.int s0] (zk I) = zcb (zr X 152 0 [.ref 160, .null, .null] [] (zk I)) (fun v m1 => zr X 171 41 [.ref 160, .int v1, .int s0, .null] (v.toList ++ []) m1) :=
  (zr_goto (tgt := 36) t171_32 rfl).trans <|
    (zr_istore_n t171_36 rfl rfl).trans <|
    (zr_aload_n t171_37 rfl).trans <|
    zr_callv t171_38 rfl rfl rfl rfl
theorem k171_35 {X : Nat × (Nat → Int32)} {I : Nat → Nat → Int32} {v1 : Int32}  : zr X 171 35 [.ref 160, .int v1, .null, .null] [] (zk I) = zcb (zr X 152 0 [.ref 160, .null, .null] [] (zk I)) (fun v m1 => zr X 171 41 [.ref 160, .int v1, .int 0, .null] (v.toList ++ []) m1) :=
  (zr_iconst t171_35 zci_0).trans <|
    (zr_istore_n t171_36 rfl rfl).trans <|
    (zr_aload_n t171_37 rfl).trans <|
    zr_callv t171_38 rfl rfl rfl rfl
theorem k171_41 {X : Nat × (Nat → Int32)} {I : Nat → Nat → Int32} {v1 : Int32} {v2 : Int32} {s0 : Int32}  : zr X 171 41 [.ref 160, .int v1, .int v2, .null] [.int s0] (zk I) = if 5 ≤ v1 then zr X 171 58 [.ref 160, .int v1, .int v2, .null] [] (zk I) else zr X 171 47 [.ref 160, .int v1, .int v2, .null] [] (zk I) :=
  (zr_pop t171_41 rfl).trans <|
    (zr_iload_n t171_42 rfl).trans <|
    (zr_iconst t171_43 zci_5).trans <|
    zr_ic_ge (tgt := 58) t171_44 rfl
theorem k171_47 {X : Nat × (Nat → Int32)} {I : Nat → Nat → Int32} {v1 : Int32} {v2 : Int32}  : zr X 171 47 [.ref 160, .int v1, .int v2, .null] [] (zk I) = zcb (zr X 162 0 [.ref 160, .int v1, .int 4, .null, .null, .null] [] (zk I)) (fun v m1 => zr X 171 53 [.ref 160, .int v1, .int v2, .null] (v.toList ++ []) m1) :=
  (zr_aload_n t171_47 rfl).trans <|
    (zr_iload_n t171_48 rfl).trans <|
    (zr_iconst t171_49 zci_4).trans <|
    zr_callv t171_50 rfl rfl rfl rfl
theorem k171_53 {X : Nat × (Nat → Int32)} {I : Nat → Nat → Int32} {v1 : Int32} {v2 : Int32} {s0 : Int32}  : zr X 171 53 [.ref 160, .int v1, .int v2, .null] [.int s0] (zk I) = zcb (zr X 123 0 [.ref 160, .null] [] (zk I)) (fun v m1 => zr X 171 67 [.ref 160, .int v1, .int v2, .int (s0 - v2)] (v.toList ++ []) m1) :=
  (zr_iload_n t171_53 rfl).trans <|
    (zr_isub t171_54).trans <|
    (zr_goto (tgt := 62) t171_55 rfl).trans <|
    (zr_istore_n t171_62 rfl rfl).trans <|
    (zr_aload_n t171_63 rfl).trans <|
    zr_callv t171_64 rfl rfl rfl rfl
theorem k171_58 {X : Nat × (Nat → Int32)} {I : Nat → Nat → Int32} {v1 : Int32} {v2 : Int32}  : zr X 171 58 [.ref 160, .int v1, .int v2, .null] [] (zk I) = zcb (zr X 128 0 [.ref 160, .null, .null] [] (zk I)) (fun v m1 => zr X 171 62 [.ref 160, .int v1, .int v2, .null] (v.toList ++ []) m1) :=
  (zr_aload_n t171_58 rfl).trans <|
    zr_callv t171_59 rfl rfl rfl rfl
theorem k171_62 {X : Nat × (Nat → Int32)} {I : Nat → Nat → Int32} {v1 : Int32} {v2 : Int32} {s0 : Int32}  : zr X 171 62 [.ref 160, .int v1, .int v2, .null] [.int s0] (zk I) = zcb (zr X 123 0 [.ref 160, .null] [] (zk I)) (fun v m1 => zr X 171 67 [.ref 160, .int v1, .int v2, .int s0] (v.toList ++ []) m1) :=
  (zr_istore_n t171_62 rfl rfl).trans <|
    (zr_aload_n t171_63 rfl).trans <|
    zr_callv t171_64 rfl rfl rfl rfl
theorem k171_67 {X : Nat × (Nat → Int32)} {I : Nat → Nat → Int32} {v1 : Int32} {v2 : Int32} {v3 : Int32}  : zr X 171 67 [.ref 160, .int v1, .int v2, .int v3] [] (zk I) = some (some (.int v3), zk I) :=
  (zr_iload_n t171_67 rfl).trans <|
    zr_iret t171_68 rfl
