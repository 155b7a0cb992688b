theorem dX10_value_20 : decode cX10_value 20 = .ok (.ifCond .eq 14, 3) := by decide +kernel
theorem dX10_value_23 : decode cX10_value 23 = .ok (.iload_n 3, 1) := by decide +kernel
theorem dX10_value_24 : decode cX10_value 24 = .ok (.i2l, 1) := by decide +kernel
theorem dX10_value_25 : decode cX10_value 25 = .ok (.ldc2_w 122, 3) := by decide +kernel
theorem dX10_value_28 : decode cX10_value 28 = .ok (.invokestatic 101, 3) := by decide +kernel
theorem dX10_value_31 : decode cX10_value 31 = .ok (.ifCond .ne 7, 3) := by decide +kernel
theorem dX10_value_34 : decode cX10_value 34 = .ok (.ldc2_w 76, 3) := by decide +kernel
theorem dX10_value_37 : decode cX10_value 37 = .ok (.lreturn, 1) := by decide +kernel
theorem dX10_value_38 : decode cX10_value 38 = .ok (.aload 4, 2) := by decide +kernel
theorem dX10_value_40 : decode cX10_value 40 = .ok (.iload_n 2, 1) := by decide +kernel
theorem dX10_value_41 : decode cX10_value 41 = .ok (.i2l, 1) := by decide +kernel
theorem dX10_value_42 : decode cX10_value 42 = .ok (.iload_n 2, 1) := by decide +kernel
theorem dX10_value_43 : decode cX10_value 43 = .ok (.i2l, 1) := by decide +kernel
theorem dX10_value_44 : decode cX10_value 44 = .ok (.iload_n 3, 1) := by decide +kernel
theorem dX10_value_45 : decode cX10_value 45 = .ok (.i2l, 1) := by decide +kernel
theorem dX10_value_46 : decode cX10_value 46 = .ok (.iload_n 3, 1) := by decide +kernel
theorem dX10_value_47 : decode cX10_value 47 = .ok (.i2l, 1) := by decide +kernel
theorem dX10_value_48 : decode cX10_value 48 = .ok (.invokevirtual 124, 3) := by decide +kernel
theorem dX10_value_51 : decode cX10_value 51 = .ok (.ldc2_w 128, 3) := by decide +kernel
theorem dX10_value_54 : decode cX10_value 54 = .ok (.ldiv, 1) := by decide +kernel
theorem dX10_value_55 : decode cX10_value 55 = .ok (.lreturn, 1) := by decide +kernel
theorem dX10_same_0 : decode cX10_same 0 = .ok (.aload_n 0, 1) := by decide +kernel
theorem dX10_same_1 : decode cX10_same 1 = .ok (.iload_n 1, 1) := by decide +kernel
theorem dX10_same_2 : decode cX10_same 2 = .ok (.invokevirtual 95, 3) := by decide +kernel
theorem dX10_same_5 : decode cX10_same 5 = .ok (.astore_n 3, 1) := by decide +kernel
theorem dX10_same_6 : decode cX10_same 6 = .ok (.aload_n 0, 1) := by decide +kernel
theorem dX10_same_7 : decode cX10_same 7 = .ok (.iload_n 2, 1) := by decide +kernel
theorem dX10_same_8 : decode cX10_same 8 = .ok (.invokevirtual 95, 3) := by decide +kernel
theorem dX10_same_11 : decode cX10_same 11 = .ok (.astore 4, 2) := by decide +kernel
theorem dX10_same_13 : decode cX10_same 13 = .ok (.aload_n 3, 1) := by decide +kernel
theorem dX10_same_14 : decode cX10_same 14 = .ok (.ifnull 8, 3) := by decide +kernel
theorem dX10_same_17 : decode cX10_same 17 = .ok (.aload 4, 2) := by decide +kernel
theorem dX10_same_19 : decode cX10_same 19 = .ok (.ifnonnull 5, 3) := by decide +kernel
theorem dX10_same_22 : decode cX10_same 22 = .ok (.iconst (-1), 1) := by decide +kernel
theorem dX10_same_23 : decode cX10_same 23 = .ok (.ireturn, 1) := by decide +kernel
theorem dX10_same_24 : decode cX10_same 24 = .ok (.iconst 0, 1) := by decide +kernel
theorem dX10_same_25 : decode cX10_same 25 = .ok (.istore 5, 2) := by decide +kernel
theorem dX10_same_27 : decode cX10_same 27 = .ok (.iload 5, 2) := by decide +kernel
theorem dX10_same_29 : decode cX10_same 29 = .ok (.bipush 9, 2) := by decide +kernel
theorem dX10_same_31 : decode cX10_same 31 = .ok (.if_icmp .ge 30, 3) := by decide +kernel
theorem dX10_same_34 : decode cX10_same 34 = .ok (.aload_n 3, 1) := by decide +kernel
theorem dX10_same_35 : decode cX10_same 35 = .ok (.getfield 105, 3) := by decide +kernel
theorem dX10_same_38 : decode cX10_same 38 = .ok (.iload 5, 2) := by decide +kernel
theorem dX10_same_40 : decode cX10_same 40 = .ok (.laload, 1) := by decide +kernel
theorem dX10_same_41 : decode cX10_same 41 = .ok (.aload 4, 2) := by decide +kernel
theorem dX10_same_43 : decode cX10_same 43 = .ok (.getfield 105, 3) := by decide +kernel
theorem dX10_same_46 : decode cX10_same 46 = .ok (.iload 5, 2) := by decide +kernel
theorem dX10_same_48 : decode cX10_same 48 = .ok (.laload, 1) := by decide +kernel
theorem dX10_same_49 : decode cX10_same 49 = .ok (.lcmp, 1) := by decide +kernel
theorem dX10_same_50 : decode cX10_same 50 = .ok (.ifCond .eq 5, 3) := by decide +kernel
theorem dX10_same_53 : decode cX10_same 53 = .ok (.iconst 0, 1) := by decide +kernel
theorem dX10_same_54 : decode cX10_same 54 = .ok (.ireturn, 1) := by decide +kernel
theorem dX10_same_55 : decode cX10_same 55 = .ok (.iinc 5 1, 3) := by decide +kernel
theorem dX10_same_58 : decode cX10_same 58 = .ok (.goto (-31), 3) := by decide +kernel
theorem dX10_same_61 : decode cX10_same 61 = .ok (.iconst 1, 1) := by decide +kernel
theorem dX10_same_62 : decode cX10_same 62 = .ok (.ireturn, 1) := by decide +kernel
theorem dX10_box_0 : decode cX10_box 0 = .ok (.iload_n 1, 1) := by decide +kernel
theorem dX10_box_1 : decode cX10_box 1 = .ok (.iload_n 2, 1) := by decide +kernel
theorem dX10_box_2 : decode cX10_box 2 = .ok (.invokestatic 130, 3) := by decide +kernel
theorem dX10_box_5 : decode cX10_box 5 = .ok (.ifCond .eq 12, 3) := by decide +kernel
theorem dX10_box_8 : decode cX10_box 8 = .ok (.iload_n 3, 1) := by decide +kernel
theorem dX10_box_9 : decode cX10_box 9 = .ok (.iload 4, 2) := by decide +kernel
theorem dX10_box_11 : decode cX10_box 11 = .ok (.invokestatic 130, 3) := by decide +kernel
theorem dX10_box_14 : decode cX10_box 14 = .ok (.ifCond .ne 6, 3) := by decide +kernel
theorem dX10_box_17 : decode cX10_box 17 = .ok (.bipush (-2), 2) := by decide +kernel
theorem dX10_box_19 : decode cX10_box 19 = .ok (.ireturn, 1) := by decide +kernel
theorem dX10_box_20 : decode cX10_box 20 = .ok (.aload_n 0, 1) := by decide +kernel
theorem dX10_box_21 : decode cX10_box 21 = .ok (.getfield 134, 3) := by decide +kernel
theorem dX10_box_24 : decode cX10_box 24 = .ok (.bipush 30, 2) := by decide +kernel
theorem dX10_box_26 : decode cX10_box 26 = .ok (.if_icmp .lt 6, 3) := by decide +kernel
theorem dX10_box_29 : decode cX10_box 29 = .ok (.bipush (-4), 2) := by decide +kernel
theorem dX10_box_31 : decode cX10_box 31 = .ok (.ireturn, 1) := by decide +kernel
theorem dX10_box_32 : decode cX10_box 32 = .ok (.iconst 4, 1) := by decide +kernel
theorem dX10_box_33 : decode cX10_box 33 = .ok (.aload_n 0, 1) := by decide +kernel
theorem dX10_box_34 : decode cX10_box 34 = .ok (.getfield 134, 3) := by decide +kernel
theorem dX10_box_37 : decode cX10_box 37 = .ok (.imul, 1) := by decide +kernel
theorem dX10_box_38 : decode cX10_box 38 = .ok (.istore 5, 2) := by decide +kernel
theorem dX10_box_40 : decode cX10_box 40 = .ok (.aload_n 0, 1) := by decide +kernel
theorem dX10_box_41 : decode cX10_box 41 = .ok (.getfield 23, 3) := by decide +kernel
theorem dX10_box_44 : decode cX10_box 44 = .ok (.iload 5, 2) := by decide +kernel
theorem dX10_box_46 : decode cX10_box 46 = .ok (.iload_n 1, 1) := by decide +kernel
theorem dX10_box_47 : decode cX10_box 47 = .ok (.iastore, 1) := by decide +kernel
theorem dX10_box_48 : decode cX10_box 48 = .ok (.aload_n 0, 1) := by decide +kernel
theorem dX10_box_49 : decode cX10_box 49 = .ok (.getfield 23, 3) := by decide +kernel
theorem dX10_box_52 : decode cX10_box 52 = .ok (.iload 5, 2) := by decide +kernel
theorem dX10_box_54 : decode cX10_box 54 = .ok (.iconst 1, 1) := by decide +kernel
theorem dX10_box_55 : decode cX10_box 55 = .ok (.iadd, 1) := by decide +kernel
theorem dX10_box_56 : decode cX10_box 56 = .ok (.iload_n 2, 1) := by decide +kernel
theorem dX10_box_57 : decode cX10_box 57 = .ok (.iastore, 1) := by decide +kernel
theorem dX10_box_58 : decode cX10_box 58 = .ok (.aload_n 0, 1) := by decide +kernel
theorem dX10_box_59 : decode cX10_box 59 = .ok (.getfield 23, 3) := by decide +kernel
theorem dX10_box_62 : decode cX10_box 62 = .ok (.iload 5, 2) := by decide +kernel
theorem dX10_box_64 : decode cX10_box 64 = .ok (.iconst 2, 1) := by decide +kernel
theorem dX10_box_65 : decode cX10_box 65 = .ok (.iadd, 1) := by decide +kernel
theorem dX10_box_66 : decode cX10_box 66 = .ok (.iload_n 3, 1) := by decide +kernel
theorem dX10_box_67 : decode cX10_box 67 = .ok (.iastore, 1) := by decide +kernel
theorem dX10_box_68 : decode cX10_box 68 = .ok (.aload_n 0, 1) := by decide +kernel
theorem dX10_box_69 : decode cX10_box 69 = .ok (.getfield 23, 3) := by decide +kernel
theorem dX10_box_72 : decode cX10_box 72 = .ok (.iload 5, 2) := by decide +kernel
theorem dX10_box_74 : decode cX10_box 74 = .ok (.iconst 3, 1) := by decide +kernel
theorem dX10_box_75 : decode cX10_box 75 = .ok (.iadd, 1) := by decide +kernel
theorem dX10_box_76 : decode cX10_box 76 = .ok (.iload 4, 2) := by decide +kernel
theorem dX10_box_78 : decode cX10_box 78 = .ok (.iastore, 1) := by decide +kernel
theorem dX10_box_79 : decode cX10_box 79 = .ok (.aload_n 0, 1) := by decide +kernel
theorem dX10_box_80 : decode cX10_box 80 = .ok (.dup, 1) := by decide +kernel
theorem dX10_box_81 : decode cX10_box 81 = .ok (.getfield 134, 3) := by decide +kernel
theorem dX10_box_84 : decode cX10_box 84 = .ok (.dup_x1, 1) := by decide +kernel
theorem dX10_box_85 : decode cX10_box 85 = .ok (.iconst 1, 1) := by decide +kernel
theorem dX10_box_86 : decode cX10_box 86 = .ok (.iadd, 1) := by decide +kernel
theorem dX10_box_87 : decode cX10_box 87 = .ok (.putfield 134, 3) := by decide +kernel
theorem dX10_box_90 : decode cX10_box 90 = .ok (.ireturn, 1) := by decide +kernel
theorem dX10_side_0 : decode cX10_side 0 = .ok (.aload_n 0, 1) := by decide +kernel
theorem dX10_side_1 : decode cX10_side 1 = .ok (.iload_n 1, 1) := by decide +kernel
theorem dX10_side_2 : decode cX10_side 2 = .ok (.invokevirtual 137, 3) := by decide +kernel
theorem dX10_side_5 : decode cX10_side 5 = .ok (.ifCond .ne 5, 3) := by decide +kernel
theorem dX10_side_8 : decode cX10_side 8 = .ok (.iconst (-1), 1) := by decide +kernel
theorem dX10_side_9 : decode cX10_side 9 = .ok (.ireturn, 1) := by decide +kernel
theorem dX10_side_10 : decode cX10_side 10 = .ok (.iload_n 2, 1) := by decide +kernel
theorem dX10_side_11 : decode cX10_side 11 = .ok (.ifCond .lt 8, 3) := by decide +kernel
theorem dX10_side_14 : decode cX10_side 14 = .ok (.iload_n 2, 1) := by decide +kernel
theorem dX10_side_15 : decode cX10_side 15 = .ok (.iconst 4, 1) := by decide +kernel
theorem dX10_side_16 : decode cX10_side 16 = .ok (.if_icmp .lt 8, 3) := by decide +kernel
theorem dX10_side_19 : decode cX10_side 19 = .ok (.bipush (-2), 2) := by decide +kernel
theorem dX10_side_21 : decode cX10_side 21 = .ok (.goto 13, 3) := by decide +kernel
theorem dX10_side_24 : decode cX10_side 24 = .ok (.aload_n 0, 1) := by decide +kernel
theorem dX10_side_25 : decode cX10_side 25 = .ok (.getfield 23, 3) := by decide +kernel
theorem dX10_side_28 : decode cX10_side 28 = .ok (.iconst 4, 1) := by decide +kernel
theorem dX10_side_29 : decode cX10_side 29 = .ok (.iload_n 1, 1) := by decide +kernel
theorem dX10_side_30 : decode cX10_side 30 = .ok (.imul, 1) := by decide +kernel
theorem dX10_side_31 : decode cX10_side 31 = .ok (.iload_n 2, 1) := by decide +kernel
theorem dX10_side_32 : decode cX10_side 32 = .ok (.iadd, 1) := by decide +kernel
theorem dX10_side_33 : decode cX10_side 33 = .ok (.iaload, 1) := by decide +kernel
theorem dX10_side_34 : decode cX10_side 34 = .ok (.ireturn, 1) := by decide +kernel
theorem dX10_corner_0 : decode cX10_corner 0 = .ok (.aload_n 0, 1) := by decide +kernel
theorem dX10_corner_1 : decode cX10_corner 1 = .ok (.iload_n 1, 1) := by decide +kernel
theorem dX10_corner_2 : decode cX10_corner 2 = .ok (.invokevirtual 95, 3) := by decide +kernel
theorem dX10_corner_5 : decode cX10_corner 5 = .ok (.astore 4, 2) := by decide +kernel
theorem dX10_corner_7 : decode cX10_corner 7 = .ok (.aload 4, 2) := by decide +kernel
theorem dX10_corner_9 : decode cX10_corner 9 = .ok (.ifnull 18, 3) := by decide +kernel
theorem dX10_corner_12 : decode cX10_corner 12 = .ok (.aload_n 0, 1) := by decide +kernel
theorem dX10_corner_13 : decode cX10_corner 13 = .ok (.iload_n 2, 1) := by decide +kernel
theorem dX10_corner_14 : decode cX10_corner 14 = .ok (.invokevirtual 137, 3) := by decide +kernel
theorem dX10_corner_17 : decode cX10_corner 17 = .ok (.ifCond .eq 10, 3) := by decide +kernel
theorem dX10_corner_20 : decode cX10_corner 20 = .ok (.iload_n 3, 1) := by decide +kernel
theorem dX10_corner_21 : decode cX10_corner 21 = .ok (.invokestatic 119, 3) := by decide +kernel
theorem dX10_corner_24 : decode cX10_corner 24 = .ok (.ifCond .ne 9, 3) := by decide +kernel
theorem dX10_corner_27 : decode cX10_corner 27 = .ok (.ldc2_w 76, 3) := by decide +kernel
theorem dX10_corner_30 : decode cX10_corner 30 = .ok (.goto 16, 3) := by decide +kernel
theorem dX10_corner_33 : decode cX10_corner 33 = .ok (.aload 4, 2) := by decide +kernel
theorem dX10_corner_35 : decode cX10_corner 35 = .ok (.aload_n 0, 1) := by decide +kernel
theorem dX10_corner_36 : decode cX10_corner 36 = .ok (.getfield 23, 3) := by decide +kernel
theorem dX10_corner_39 : decode cX10_corner 39 = .ok (.iconst 4, 1) := by decide +kernel
theorem dX10_corner_40 : decode cX10_corner 40 = .ok (.iload_n 2, 1) := by decide +kernel
theorem dX10_corner_41 : decode cX10_corner 41 = .ok (.imul, 1) := by decide +kernel
theorem dX10_corner_42 : decode cX10_corner 42 = .ok (.iload_n 3, 1) := by decide +kernel
theorem dX10_corner_43 : decode cX10_corner 43 = .ok (.invokevirtual 140, 3) := by decide +kernel
theorem dX10_corner_46 : decode cX10_corner 46 = .ok (.lreturn, 1) := by decide +kernel
theorem dX10_bound_0 : decode cX10_bound 0 = .ok (.aload_n 0, 1) := by decide +kernel
theorem dX10_bound_1 : decode cX10_bound 1 = .ok (.iload_n 1, 1) := by decide +kernel
theorem dX10_bound_2 : decode cX10_bound 2 = .ok (.invokevirtual 95, 3) := by decide +kernel
theorem dX10_bound_5 : decode cX10_bound 5 = .ok (.astore 4, 2) := by decide +kernel
theorem dX10_bound_7 : decode cX10_bound 7 = .ok (.aload 4, 2) := by decide +kernel
theorem dX10_bound_9 : decode cX10_bound 9 = .ok (.ifnull 18, 3) := by decide +kernel
theorem dX10_bound_12 : decode cX10_bound 12 = .ok (.aload_n 0, 1) := by decide +kernel
theorem dX10_bound_13 : decode cX10_bound 13 = .ok (.iload_n 2, 1) := by decide +kernel
theorem dX10_bound_14 : decode cX10_bound 14 = .ok (.invokevirtual 137, 3) := by decide +kernel
theorem dX10_bound_17 : decode cX10_bound 17 = .ok (.ifCond .eq 10, 3) := by decide +kernel
theorem dX10_bound_20 : decode cX10_bound 20 = .ok (.iload_n 3, 1) := by decide +kernel
theorem dX10_bound_21 : decode cX10_bound 21 = .ok (.invokestatic 116, 3) := by decide +kernel
theorem dX10_bound_24 : decode cX10_bound 24 = .ok (.ifCond .ne 7, 3) := by decide +kernel
theorem dX10_bound_27 : decode cX10_bound 27 = .ok (.ldc2_w 76, 3) := by decide +kernel
theorem dX10_bound_30 : decode cX10_bound 30 = .ok (.lreturn, 1) := by decide +kernel
theorem dX10_bound_31 : decode cX10_bound 31 = .ok (.aload 4, 2) := by decide +kernel
theorem dX10_bound_33 : decode cX10_bound 33 = .ok (.aload_n 0, 1) := by decide +kernel
theorem dX10_bound_34 : decode cX10_bound 34 = .ok (.getfield 23, 3) := by decide +kernel
theorem dX10_bound_37 : decode cX10_bound 37 = .ok (.iconst 4, 1) := by decide +kernel
theorem dX10_bound_38 : decode cX10_bound 38 = .ok (.iload_n 2, 1) := by decide +kernel
theorem dX10_bound_39 : decode cX10_bound 39 = .ok (.imul, 1) := by decide +kernel
theorem dX10_bound_40 : decode cX10_bound 40 = .ok (.aload_n 0, 1) := by decide +kernel
theorem dX10_bound_41 : decode cX10_bound 41 = .ok (.getfield 43, 3) := by decide +kernel
theorem dX10_bound_44 : decode cX10_bound 44 = .ok (.getfield 144, 3) := by decide +kernel
theorem dX10_bound_47 : decode cX10_bound 47 = .ok (.invokevirtual 147, 3) := by decide +kernel
theorem dX10_bound_50 : decode cX10_bound 50 = .ok (.iload_n 3, 1) := by decide +kernel
theorem dX10_bound_51 : decode cX10_bound 51 = .ok (.ifCond .ne 16, 3) := by decide +kernel
theorem dX10_bound_54 : decode cX10_bound 54 = .ok (.aload_n 0, 1) := by decide +kernel
theorem dX10_bound_55 : decode cX10_bound 55 = .ok (.getfield 43, 3) := by decide +kernel
theorem dX10_bound_58 : decode cX10_bound 58 = .ok (.getfield 144, 3) := by decide +kernel
theorem dX10_bound_61 : decode cX10_bound 61 = .ok (.invokestatic 151, 3) := by decide +kernel
theorem dX10_bound_64 : decode cX10_bound 64 = .ok (.goto 13, 3) := by decide +kernel
theorem dX10_bound_67 : decode cX10_bound 67 = .ok (.aload_n 0, 1) := by decide +kernel
theorem dX10_bound_68 : decode cX10_bound 68 = .ok (.getfield 43, 3) := by decide +kernel
theorem dX10_bound_71 : decode cX10_bound 71 = .ok (.getfield 144, 3) := by decide +kernel
theorem dX10_bound_74 : decode cX10_bound 74 = .ok (.invokestatic 155, 3) := by decide +kernel
theorem dX10_bound_77 : decode cX10_bound 77 = .ok (.lreturn, 1) := by decide +kernel
theorem dX10_cut_0 : decode cX10_cut 0 = .ok (.aload_n 0, 1) := by decide +kernel
theorem dX10_cut_1 : decode cX10_cut 1 = .ok (.iload_n 1, 1) := by decide +kernel
theorem dX10_cut_2 : decode cX10_cut 2 = .ok (.invokevirtual 137, 3) := by decide +kernel
theorem dX10_cut_5 : decode cX10_cut 5 = .ok (.ifCond .ne 5, 3) := by decide +kernel
theorem dX10_cut_8 : decode cX10_cut 8 = .ok (.iconst (-1), 1) := by decide +kernel
theorem dX10_cut_9 : decode cX10_cut 9 = .ok (.ireturn, 1) := by decide +kernel
theorem dX10_cut_10 : decode cX10_cut 10 = .ok (.iload_n 2, 1) := by decide +kernel
theorem dX10_cut_11 : decode cX10_cut 11 = .ok (.invokestatic 116, 3) := by decide +kernel
theorem dX10_cut_14 : decode cX10_cut 14 = .ok (.ifCond .ne 6, 3) := by decide +kernel
theorem dX10_cut_17 : decode cX10_cut 17 = .ok (.bipush (-2), 2) := by decide +kernel
theorem dX10_cut_19 : decode cX10_cut 19 = .ok (.ireturn, 1) := by decide +kernel
theorem dX10_cut_20 : decode cX10_cut 20 = .ok (.iconst 4, 1) := by decide +kernel
theorem dX10_cut_21 : decode cX10_cut 21 = .ok (.iload_n 1, 1) := by decide +kernel
theorem dX10_cut_22 : decode cX10_cut 22 = .ok (.imul, 1) := by decide +kernel
theorem dX10_cut_23 : decode cX10_cut 23 = .ok (.istore_n 3, 1) := by decide +kernel
theorem dX10_cut_24 : decode cX10_cut 24 = .ok (.aload_n 0, 1) := by decide +kernel
theorem dX10_cut_25 : decode cX10_cut 25 = .ok (.getfield 23, 3) := by decide +kernel
theorem dX10_cut_28 : decode cX10_cut 28 = .ok (.iload_n 3, 1) := by decide +kernel
theorem dX10_cut_29 : decode cX10_cut 29 = .ok (.iload_n 2, 1) := by decide +kernel
theorem dX10_cut_30 : decode cX10_cut 30 = .ok (.invokestatic 158, 3) := by decide +kernel
theorem dX10_cut_33 : decode cX10_cut 33 = .ok (.invokestatic 162, 3) := by decide +kernel
theorem dX10_cut_36 : decode cX10_cut 36 = .ok (.ifCond .eq 6, 3) := by decide +kernel
theorem dX10_cut_39 : decode cX10_cut 39 = .ok (.bipush (-3), 2) := by decide +kernel
theorem dX10_cut_41 : decode cX10_cut 41 = .ok (.ireturn, 1) := by decide +kernel
theorem dX10_cut_42 : decode cX10_cut 42 = .ok (.aload_n 0, 1) := by decide +kernel
theorem dX10_cut_43 : decode cX10_cut 43 = .ok (.getfield 134, 3) := by decide +kernel
theorem dX10_cut_46 : decode cX10_cut 46 = .ok (.iconst 2, 1) := by decide +kernel
theorem dX10_cut_47 : decode cX10_cut 47 = .ok (.iadd, 1) := by decide +kernel
theorem dX10_cut_48 : decode cX10_cut 48 = .ok (.bipush 30, 2) := by decide +kernel
theorem dX10_cut_50 : decode cX10_cut 50 = .ok (.if_icmp .le 6, 3) := by decide +kernel
theorem dX10_cut_53 : decode cX10_cut 53 = .ok (.bipush (-4), 2) := by decide +kernel
theorem dX10_cut_55 : decode cX10_cut 55 = .ok (.ireturn, 1) := by decide +kernel
theorem dX10_cut_56 : decode cX10_cut 56 = .ok (.aload_n 0, 1) := by decide +kernel
theorem dX10_cut_57 : decode cX10_cut 57 = .ok (.getfield 134, 3) := by decide +kernel
theorem dX10_cut_60 : decode cX10_cut 60 = .ok (.istore 4, 2) := by decide +kernel
theorem dX10_cut_62 : decode cX10_cut 62 = .ok (.aload_n 0, 1) := by decide +kernel
theorem dX10_cut_63 : decode cX10_cut 63 = .ok (.getfield 23, 3) := by decide +kernel
theorem dX10_cut_66 : decode cX10_cut 66 = .ok (.iload_n 3, 1) := by decide +kernel
theorem dX10_cut_67 : decode cX10_cut 67 = .ok (.iload_n 2, 1) := by decide +kernel
theorem dX10_cut_68 : decode cX10_cut 68 = .ok (.iconst 4, 1) := by decide +kernel
theorem dX10_cut_69 : decode cX10_cut 69 = .ok (.iload 4, 2) := by decide +kernel
theorem dX10_cut_71 : decode cX10_cut 71 = .ok (.imul, 1) := by decide +kernel
theorem dX10_cut_72 : decode cX10_cut 72 = .ok (.iconst 4, 1) := by decide +kernel
theorem dX10_cut_73 : decode cX10_cut 73 = .ok (.iload 4, 2) := by decide +kernel
theorem dX10_cut_75 : decode cX10_cut 75 = .ok (.imul, 1) := by decide +kernel
theorem dX10_cut_76 : decode cX10_cut 76 = .ok (.iconst 4, 1) := by decide +kernel
theorem dX10_cut_77 : decode cX10_cut 77 = .ok (.iadd, 1) := by decide +kernel
theorem dX10_cut_78 : decode cX10_cut 78 = .ok (.invokestatic 165, 3) := by decide +kernel
theorem dX10_cut_81 : decode cX10_cut 81 = .ok (.aload_n 0, 1) := by decide +kernel
theorem dX10_cut_82 : decode cX10_cut 82 = .ok (.dup, 1) := by decide +kernel
theorem dX10_cut_83 : decode cX10_cut 83 = .ok (.getfield 134, 3) := by decide +kernel
theorem dX10_cut_86 : decode cX10_cut 86 = .ok (.iconst 2, 1) := by decide +kernel
theorem dX10_cut_87 : decode cX10_cut 87 = .ok (.iadd, 1) := by decide +kernel
theorem dX10_cut_88 : decode cX10_cut 88 = .ok (.putfield 134, 3) := by decide +kernel
theorem dX10_cut_91 : decode cX10_cut 91 = .ok (.iload 4, 2) := by decide +kernel
theorem dX10_cut_93 : decode cX10_cut 93 = .ok (.ireturn, 1) := by decide +kernel
theorem dX10_parts_0 : decode cX10_parts 0 = .ok (.aload_n 0, 1) := by decide +kernel
theorem dX10_parts_1 : decode cX10_parts 1 = .ok (.iload_n 1, 1) := by decide +kernel
theorem dX10_parts_2 : decode cX10_parts 2 = .ok (.invokevirtual 95, 3) := by decide +kernel
theorem dX10_parts_5 : decode cX10_parts 5 = .ok (.astore_n 3, 1) := by decide +kernel
theorem dX10_parts_6 : decode cX10_parts 6 = .ok (.aload_n 3, 1) := by decide +kernel
theorem dX10_parts_7 : decode cX10_parts 7 = .ok (.ifnull 11, 3) := by decide +kernel
theorem dX10_parts_10 : decode cX10_parts 10 = .ok (.aload_n 0, 1) := by decide +kernel
theorem dX10_parts_11 : decode cX10_parts 11 = .ok (.iload_n 2, 1) := by decide +kernel
theorem dX10_parts_12 : decode cX10_parts 12 = .ok (.invokevirtual 137, 3) := by decide +kernel
theorem dX10_parts_15 : decode cX10_parts 15 = .ok (.ifCond .ne 5, 3) := by decide +kernel
theorem dX10_parts_18 : decode cX10_parts 18 = .ok (.iconst (-1), 1) := by decide +kernel
theorem dX10_parts_19 : decode cX10_parts 19 = .ok (.ireturn, 1) := by decide +kernel
theorem dX10_parts_20 : decode cX10_parts 20 = .ok (.aload_n 0, 1) := by decide +kernel
theorem dX10_parts_21 : decode cX10_parts 21 = .ok (.getfield 36, 3) := by decide +kernel
theorem dX10_parts_24 : decode cX10_parts 24 = .ok (.aload_n 3, 1) := by decide +kernel
theorem dX10_parts_25 : decode cX10_parts 25 = .ok (.aload_n 0, 1) := by decide +kernel
theorem dX10_parts_26 : decode cX10_parts 26 = .ok (.getfield 23, 3) := by decide +kernel
theorem dX10_parts_29 : decode cX10_parts 29 = .ok (.iconst 4, 1) := by decide +kernel
theorem dX10_parts_30 : decode cX10_parts 30 = .ok (.iload_n 2, 1) := by decide +kernel
theorem dX10_parts_31 : decode cX10_parts 31 = .ok (.imul, 1) := by decide +kernel
theorem dX10_parts_32 : decode cX10_parts 32 = .ok (.invokevirtual 169, 3) := by decide +kernel
theorem dX10_parts_35 : decode cX10_parts 35 = .ok (.aload_n 0, 1) := by decide +kernel
theorem dX10_parts_36 : decode cX10_parts 36 = .ok (.getfield 36, 3) := by decide +kernel
theorem dX10_parts_39 : decode cX10_parts 39 = .ok (.iload_n 1, 1) := by decide +kernel
theorem dX10_parts_40 : decode cX10_parts 40 = .ok (.putfield 173, 3) := by decide +kernel
theorem dX10_parts_43 : decode cX10_parts 43 = .ok (.aload_n 0, 1) := by decide +kernel
theorem dX10_parts_44 : decode cX10_parts 44 = .ok (.getfield 36, 3) := by decide +kernel
theorem dX10_parts_47 : decode cX10_parts 47 = .ok (.iload_n 2, 1) := by decide +kernel
theorem dX10_parts_48 : decode cX10_parts 48 = .ok (.putfield 176, 3) := by decide +kernel
theorem dX10_parts_51 : decode cX10_parts 51 = .ok (.iconst 1, 1) := by decide +kernel
theorem dX10_parts_52 : decode cX10_parts 52 = .ok (.ireturn, 1) := by decide +kernel
theorem dX10_cover_0 : decode cX10_cover 0 = .ok (.iload_n 1, 1) := by decide +kernel
theorem dX10_cover_1 : decode cX10_cover 1 = .ok (.ifCond .lt 10, 3) := by decide +kernel
theorem dX10_cover_4 : decode cX10_cover 4 = .ok (.iload_n 1, 1) := by decide +kernel
theorem dX10_cover_5 : decode cX10_cover 5 = .ok (.sipush 500, 3) := by decide +kernel
theorem dX10_cover_8 : decode cX10_cover 8 = .ok (.if_icmp .le 6, 3) := by decide +kernel
theorem dX10_cover_11 : decode cX10_cover 11 = .ok (.bipush (-2), 2) := by decide +kernel
theorem dX10_cover_13 : decode cX10_cover 13 = .ok (.ireturn, 1) := by decide +kernel
theorem dX10_cover_14 : decode cX10_cover 14 = .ok (.aload_n 0, 1) := by decide +kernel
theorem dX10_cover_15 : decode cX10_cover 15 = .ok (.getfield 36, 3) := by decide +kernel
theorem dX10_cover_18 : decode cX10_cover 18 = .ok (.getfield 179, 3) := by decide +kernel
theorem dX10_cover_21 : decode cX10_cover 21 = .ok (.ifnonnull 6, 3) := by decide +kernel
theorem dX10_cover_24 : decode cX10_cover 24 = .ok (.bipush (-3), 2) := by decide +kernel
theorem dX10_cover_26 : decode cX10_cover 26 = .ok (.ireturn, 1) := by decide +kernel
theorem dX10_cover_27 : decode cX10_cover 27 = .ok (.aload_n 0, 1) := by decide +kernel
theorem dX10_cover_28 : decode cX10_cover 28 = .ok (.getfield 36, 3) := by decide +kernel
theorem dX10_cover_31 : decode cX10_cover 31 = .ok (.iload_n 1, 1) := by decide +kernel
theorem dX10_cover_32 : decode cX10_cover 32 = .ok (.invokevirtual 183, 3) := by decide +kernel
theorem dX10_cover_35 : decode cX10_cover 35 = .ok (.istore_n 2, 1) := by decide +kernel
theorem dX10_cover_36 : decode cX10_cover 36 = .ok (.iload_n 2, 1) := by decide +kernel
theorem dX10_cover_37 : decode cX10_cover 37 = .ok (.ifCond .ne 18, 3) := by decide +kernel
theorem dX10_cover_40 : decode cX10_cover 40 = .ok (.aload_n 0, 1) := by decide +kernel
theorem dX10_cover_41 : decode cX10_cover 41 = .ok (.getfield 36, 3) := by decide +kernel
theorem dX10_cover_44 : decode cX10_cover 44 = .ok (.getfield 186, 3) := by decide +kernel
theorem dX10_cover_47 : decode cX10_cover 47 = .ok (.ifCond .eq 8, 3) := by decide +kernel
theorem dX10_cover_50 : decode cX10_cover 50 = .ok (.bipush (-4), 2) := by decide +kernel
theorem dX10_cover_52 : decode cX10_cover 52 = .ok (.goto 4, 3) := by decide +kernel
theorem dX10_cover_55 : decode cX10_cover 55 = .ok (.iload_n 2, 1) := by decide +kernel
theorem dX10_cover_56 : decode cX10_cover 56 = .ok (.ireturn, 1) := by decide +kernel
theorem dX10_open_0 : decode cX10_open 0 = .ok (.iload_n 1, 1) := by decide +kernel
theorem dX10_open_1 : decode cX10_open 1 = .ok (.ifCond .lt 8, 3) := by decide +kernel
theorem dX10_open_4 : decode cX10_open 4 = .ok (.iload_n 1, 1) := by decide +kernel
theorem dX10_open_5 : decode cX10_open 5 = .ok (.iconst 4, 1) := by decide +kernel
theorem dX10_open_6 : decode cX10_open 6 = .ok (.if_icmp .le 6, 3) := by decide +kernel
theorem dX10_open_9 : decode cX10_open 9 = .ok (.bipush (-2), 2) := by decide +kernel
theorem dX10_open_11 : decode cX10_open 11 = .ok (.ireturn, 1) := by decide +kernel
theorem dX10_open_12 : decode cX10_open 12 = .ok (.iload_n 1, 1) := by decide +kernel
theorem dX10_open_13 : decode cX10_open 13 = .ok (.ifCond .ne 13, 3) := by decide +kernel
theorem dX10_open_16 : decode cX10_open 16 = .ok (.aload_n 0, 1) := by decide +kernel
theorem dX10_open_17 : decode cX10_open 17 = .ok (.getfield 36, 3) := by decide +kernel
theorem dX10_open_20 : decode cX10_open 20 = .ok (.getfield 190, 3) := by decide +kernel
theorem dX10_open_23 : decode cX10_open 23 = .ok (.goto 13, 3) := by decide +kernel
theorem dX10_open_26 : decode cX10_open 26 = .ok (.aload_n 0, 1) := by decide +kernel
theorem dX10_open_27 : decode cX10_open 27 = .ok (.getfield 36, 3) := by decide +kernel
theorem dX10_open_30 : decode cX10_open 30 = .ok (.iload_n 1, 1) := by decide +kernel
theorem dX10_open_31 : decode cX10_open 31 = .ok (.iconst 1, 1) := by decide +kernel
theorem dX10_open_32 : decode cX10_open 32 = .ok (.isub, 1) := by decide +kernel
theorem dX10_open_33 : decode cX10_open 33 = .ok (.invokevirtual 193, 3) := by decide +kernel
theorem dX10_open_36 : decode cX10_open 36 = .ok (.ireturn, 1) := by decide +kernel
theorem dX10_partly_0 : decode cX10_partly 0 = .ok (.iload_n 1, 1) := by decide +kernel
theorem dX10_partly_1 : decode cX10_partly 1 = .ok (.ifCond .lt 14, 3) := by decide +kernel
theorem dX10_partly_4 : decode cX10_partly 4 = .ok (.iload_n 1, 1) := by decide +kernel
theorem dX10_partly_5 : decode cX10_partly 5 = .ok (.aload_n 0, 1) := by decide +kernel
theorem dX10_partly_6 : decode cX10_partly 6 = .ok (.getfield 36, 3) := by decide +kernel
theorem dX10_partly_9 : decode cX10_partly 9 = .ok (.getfield 190, 3) := by decide +kernel
theorem dX10_partly_12 : decode cX10_partly 12 = .ok (.if_icmp .lt 5, 3) := by decide +kernel
theorem dX10_partly_15 : decode cX10_partly 15 = .ok (.iconst (-1), 1) := by decide +kernel
theorem dX10_partly_16 : decode cX10_partly 16 = .ok (.ireturn, 1) := by decide +kernel
theorem dX10_partly_17 : decode cX10_partly 17 = .ok (.iload_n 2, 1) := by decide +kernel
theorem dX10_partly_18 : decode cX10_partly 18 = .ok (.ifCond .lt 8, 3) := by decide +kernel
theorem dX10_partly_21 : decode cX10_partly 21 = .ok (.iload_n 2, 1) := by decide +kernel
theorem dX10_partly_22 : decode cX10_partly 22 = .ok (.iconst 4, 1) := by decide +kernel
theorem dX10_partly_23 : decode cX10_partly 23 = .ok (.if_icmp .le 6, 3) := by decide +kernel
theorem dX10_partly_26 : decode cX10_partly 26 = .ok (.bipush (-2), 2) := by decide +kernel
theorem dX10_partly_28 : decode cX10_partly 28 = .ok (.ireturn, 1) := by decide +kernel
theorem dX10_partly_29 : decode cX10_partly 29 = .ok (.iload_n 2, 1) := by decide +kernel
theorem dX10_partly_30 : decode cX10_partly 30 = .ok (.iconst 4, 1) := by decide +kernel
theorem dX10_partly_31 : decode cX10_partly 31 = .ok (.if_icmp .ne 15, 3) := by decide +kernel
theorem dX10_partly_34 : decode cX10_partly 34 = .ok (.aload_n 0, 1) := by decide +kernel
theorem dX10_partly_35 : decode cX10_partly 35 = .ok (.getfield 36, 3) := by decide +kernel
theorem dX10_partly_38 : decode cX10_partly 38 = .ok (.getfield 196, 3) := by decide +kernel
theorem dX10_partly_41 : decode cX10_partly 41 = .ok (.iload_n 1, 1) := by decide +kernel
theorem dX10_partly_42 : decode cX10_partly 42 = .ok (.iaload, 1) := by decide +kernel
theorem dX10_partly_43 : decode cX10_partly 43 = .ok (.goto 16, 3) := by decide +kernel
theorem dX10_partly_46 : decode cX10_partly 46 = .ok (.aload_n 0, 1) := by decide +kernel
theorem dX10_partly_47 : decode cX10_partly 47 = .ok (.getfield 36, 3) := by decide +kernel
theorem dX10_partly_50 : decode cX10_partly 50 = .ok (.getfield 199, 3) := by decide +kernel
theorem dX10_partly_53 : decode cX10_partly 53 = .ok (.iconst 4, 1) := by decide +kernel
theorem dX10_partly_54 : decode cX10_partly 54 = .ok (.iload_n 1, 1) := by decide +kernel
theorem dX10_partly_55 : decode cX10_partly 55 = .ok (.imul, 1) := by decide +kernel
theorem dX10_partly_56 : decode cX10_partly 56 = .ok (.iload_n 2, 1) := by decide +kernel
theorem dX10_partly_57 : decode cX10_partly 57 = .ok (.iadd, 1) := by decide +kernel
theorem dX10_partly_58 : decode cX10_partly 58 = .ok (.iaload, 1) := by decide +kernel
theorem dX10_partly_59 : decode cX10_partly 59 = .ok (.ireturn, 1) := by decide +kernel
theorem dX10_where_0 : decode cX10_where 0 = .ok (.iload_n 1, 1) := by decide +kernel
theorem dX10_where_1 : decode cX10_where 1 = .ok (.invokestatic 116, 3) := by decide +kernel
theorem dX10_where_4 : decode cX10_where 4 = .ok (.ifCond .ne 6, 3) := by decide +kernel
theorem dX10_where_7 : decode cX10_where 7 = .ok (.bipush (-2), 2) := by decide +kernel
theorem dX10_where_9 : decode cX10_where 9 = .ok (.ireturn, 1) := by decide +kernel
theorem dX10_where_10 : decode cX10_where 10 = .ok (.aload_n 0, 1) := by decide +kernel
theorem dX10_where_11 : decode cX10_where 11 = .ok (.getfield 36, 3) := by decide +kernel
theorem dX10_where_14 : decode cX10_where 14 = .ok (.getfield 202, 3) := by decide +kernel
theorem dX10_where_17 : decode cX10_where 17 = .ok (.ifCond .ne 6, 3) := by decide +kernel
theorem dX10_where_20 : decode cX10_where 20 = .ok (.bipush (-9), 2) := by decide +kernel
theorem dX10_where_22 : decode cX10_where 22 = .ok (.ireturn, 1) := by decide +kernel
theorem dX10_where_23 : decode cX10_where 23 = .ok (.iload_n 1, 1) := by decide +kernel
theorem dX10_where_24 : decode cX10_where 24 = .ok (.ifCond .ne 13, 3) := by decide +kernel
theorem dX10_where_27 : decode cX10_where 27 = .ok (.aload_n 0, 1) := by decide +kernel
theorem dX10_where_28 : decode cX10_where 28 = .ok (.getfield 36, 3) := by decide +kernel
theorem dX10_where_31 : decode cX10_where 31 = .ok (.getfield 205, 3) := by decide +kernel
theorem dX10_where_34 : decode cX10_where 34 = .ok (.goto 10, 3) := by decide +kernel
theorem dX10_where_37 : decode cX10_where 37 = .ok (.aload_n 0, 1) := by decide +kernel
theorem dX10_where_38 : decode cX10_where 38 = .ok (.getfield 36, 3) := by decide +kernel
theorem dX10_where_41 : decode cX10_where 41 = .ok (.getfield 208, 3) := by decide +kernel
theorem dX10_where_44 : decode cX10_where 44 = .ok (.ireturn, 1) := by decide +kernel
theorem dX10_least_0 : decode cX10_least 0 = .ok (.aload_n 0, 1) := by decide +kernel
theorem dX10_least_1 : decode cX10_least 1 = .ok (.getfield 36, 3) := by decide +kernel
theorem dX10_least_4 : decode cX10_least 4 = .ok (.getfield 179, 3) := by decide +kernel
theorem dX10_least_7 : decode cX10_least 7 = .ok (.ifnonnull 9, 3) := by decide +kernel
theorem dX10_least_10 : decode cX10_least 10 = .ok (.ldc2_w 76, 3) := by decide +kernel
theorem dX10_least_13 : decode cX10_least 13 = .ok (.goto 10, 3) := by decide +kernel
theorem dX10_least_16 : decode cX10_least 16 = .ok (.aload_n 0, 1) := by decide +kernel
theorem dX10_least_17 : decode cX10_least 17 = .ok (.getfield 36, 3) := by decide +kernel
theorem dX10_least_20 : decode cX10_least 20 = .ok (.invokevirtual 211, 3) := by decide +kernel
theorem dX10_least_23 : decode cX10_least 23 = .ok (.lreturn, 1) := by decide +kernel
theorem dX10_form_0 : decode cX10_form 0 = .ok (.aload_n 0, 1) := by decide +kernel
theorem dX10_form_1 : decode cX10_form 1 = .ok (.iload_n 1, 1) := by decide +kernel
theorem dX10_form_2 : decode cX10_form 2 = .ok (.invokevirtual 95, 3) := by decide +kernel
theorem dX10_form_5 : decode cX10_form 5 = .ok (.astore 4, 2) := by decide +kernel
theorem dX10_form_7 : decode cX10_form 7 = .ok (.aload 4, 2) := by decide +kernel
theorem dX10_form_9 : decode cX10_form 9 = .ok (.ifnull 29, 3) := by decide +kernel
theorem dX10_form_12 : decode cX10_form 12 = .ok (.iload_n 2, 1) := by decide +kernel
theorem dX10_form_13 : decode cX10_form 13 = .ok (.ifCond .lt 25, 3) := by decide +kernel
theorem dX10_form_16 : decode cX10_form 16 = .ok (.iload_n 2, 1) := by decide +kernel
theorem dX10_form_17 : decode cX10_form 17 = .ok (.iconst 2, 1) := by decide +kernel
theorem dX10_form_18 : decode cX10_form 18 = .ok (.if_icmp .gt 20, 3) := by decide +kernel
theorem dX10_form_21 : decode cX10_form 21 = .ok (.iload_n 3, 1) := by decide +kernel
theorem dX10_form_22 : decode cX10_form 22 = .ok (.ifCond .lt 16, 3) := by decide +kernel
theorem dX10_form_25 : decode cX10_form 25 = .ok (.iload_n 3, 1) := by decide +kernel
theorem dX10_form_26 : decode cX10_form 26 = .ok (.iconst 2, 1) := by decide +kernel
theorem dX10_form_27 : decode cX10_form 27 = .ok (.if_icmp .gt 11, 3) := by decide +kernel
theorem dX10_form_30 : decode cX10_form 30 = .ok (.aload 4, 2) := by decide +kernel
theorem dX10_form_32 : decode cX10_form 32 = .ok (.invokevirtual 215, 3) := by decide +kernel
theorem dX10_form_35 : decode cX10_form 35 = .ok (.ifCond .ne 7, 3) := by decide +kernel
theorem dX10_form_38 : decode cX10_form 38 = .ok (.ldc2_w 76, 3) := by decide +kernel
theorem dX10_form_41 : decode cX10_form 41 = .ok (.lreturn, 1) := by decide +kernel
theorem dX10_form_42 : decode cX10_form 42 = .ok (.aload 4, 2) := by decide +kernel
theorem dX10_form_44 : decode cX10_form 44 = .ok (.iload_n 2, 1) := by decide +kernel
theorem dX10_form_45 : decode cX10_form 45 = .ok (.iload_n 3, 1) := by decide +kernel
theorem dX10_form_46 : decode cX10_form 46 = .ok (.invokevirtual 219, 3) := by decide +kernel
theorem dX10_form_49 : decode cX10_form 49 = .ok (.lreturn, 1) := by decide +kernel
theorem dX10_squares_0 : decode cX10_squares 0 = .ok (.aload_n 0, 1) := by decide +kernel
theorem dX10_squares_1 : decode cX10_squares 1 = .ok (.iload_n 1, 1) := by decide +kernel
theorem dX10_squares_2 : decode cX10_squares 2 = .ok (.invokevirtual 95, 3) := by decide +kernel
theorem dX10_squares_5 : decode cX10_squares 5 = .ok (.astore_n 2, 1) := by decide +kernel
theorem dX10_squares_6 : decode cX10_squares 6 = .ok (.aload_n 2, 1) := by decide +kernel
theorem dX10_squares_7 : decode cX10_squares 7 = .ok (.ifnonnull 5, 3) := by decide +kernel
theorem dX10_squares_10 : decode cX10_squares 10 = .ok (.iconst (-1), 1) := by decide +kernel
theorem dX10_squares_11 : decode cX10_squares 11 = .ok (.ireturn, 1) := by decide +kernel
theorem dX10_squares_12 : decode cX10_squares 12 = .ok (.aload_n 2, 1) := by decide +kernel
theorem dX10_squares_13 : decode cX10_squares 13 = .ok (.invokevirtual 215, 3) := by decide +kernel
theorem dX10_squares_16 : decode cX10_squares 16 = .ok (.ifCond .ne 6, 3) := by decide +kernel
theorem dX10_squares_19 : decode cX10_squares 19 = .ok (.bipush (-3), 2) := by decide +kernel
theorem dX10_squares_21 : decode cX10_squares 21 = .ok (.ireturn, 1) := by decide +kernel
theorem dX10_squares_22 : decode cX10_squares 22 = .ok (.aload_n 2, 1) := by decide +kernel
theorem dX10_squares_23 : decode cX10_squares 23 = .ok (.iconst 0, 1) := by decide +kernel
theorem dX10_squares_24 : decode cX10_squares 24 = .ok (.invokevirtual 223, 3) := by decide +kernel
theorem dX10_squares_27 : decode cX10_squares 27 = .ok (.astore_n 3, 1) := by decide +kernel
theorem dX10_squares_28 : decode cX10_squares 28 = .ok (.aload_n 3, 1) := by decide +kernel
theorem dX10_squares_29 : decode cX10_squares 29 = .ok (.ifnonnull 6, 3) := by decide +kernel
theorem dX10_squares_32 : decode cX10_squares 32 = .ok (.bipush (-9), 2) := by decide +kernel
theorem dX10_squares_34 : decode cX10_squares 34 = .ok (.ireturn, 1) := by decide +kernel
theorem dX10_squares_35 : decode cX10_squares 35 = .ok (.aload_n 0, 1) := by decide +kernel
theorem dX10_squares_36 : decode cX10_squares 36 = .ok (.new 227, 3) := by decide +kernel
theorem dX10_squares_39 : decode cX10_squares 39 = .ok (.dup, 1) := by decide +kernel
theorem dX10_squares_40 : decode cX10_squares 40 = .ok (.iconst 0, 1) := by decide +kernel
theorem dX10_squares_41 : decode cX10_squares 41 = .ok (.aload_n 2, 1) := by decide +kernel
theorem dX10_squares_42 : decode cX10_squares 42 = .ok (.iload_n 1, 1) := by decide +kernel
theorem dX10_squares_43 : decode cX10_squares 43 = .ok (.aload_n 3, 1) := by decide +kernel
theorem dX10_squares_44 : decode cX10_squares 44 = .ok (.invokespecial 229, 3) := by decide +kernel
theorem dX10_squares_47 : decode cX10_squares 47 = .ok (.invokevirtual 232, 3) := by decide +kernel
theorem dX10_squares_50 : decode cX10_squares 50 = .ok (.ireturn, 1) := by decide +kernel
theorem dX10_corners_0 : decode cX10_corners 0 = .ok (.aload_n 0, 1) := by decide +kernel
theorem dX10_corners_1 : decode cX10_corners 1 = .ok (.iload_n 1, 1) := by decide +kernel
theorem dX10_corners_2 : decode cX10_corners 2 = .ok (.invokevirtual 95, 3) := by decide +kernel
theorem dX10_corners_5 : decode cX10_corners 5 = .ok (.astore_n 3, 1) := by decide +kernel
theorem dX10_corners_6 : decode cX10_corners 6 = .ok (.aload_n 3, 1) := by decide +kernel
theorem dX10_corners_7 : decode cX10_corners 7 = .ok (.ifnull 11, 3) := by decide +kernel
theorem dX10_corners_10 : decode cX10_corners 10 = .ok (.aload_n 0, 1) := by decide +kernel
theorem dX10_corners_11 : decode cX10_corners 11 = .ok (.iload_n 2, 1) := by decide +kernel
theorem dX10_corners_12 : decode cX10_corners 12 = .ok (.invokevirtual 137, 3) := by decide +kernel
theorem dX10_corners_15 : decode cX10_corners 15 = .ok (.ifCond .ne 5, 3) := by decide +kernel
theorem dX10_corners_18 : decode cX10_corners 18 = .ok (.iconst (-1), 1) := by decide +kernel
theorem dX10_corners_19 : decode cX10_corners 19 = .ok (.ireturn, 1) := by decide +kernel
theorem dX10_corners_20 : decode cX10_corners 20 = .ok (.aload_n 3, 1) := by decide +kernel
theorem dX10_corners_21 : decode cX10_corners 21 = .ok (.aload_n 0, 1) := by decide +kernel
theorem dX10_corners_22 : decode cX10_corners 22 = .ok (.getfield 23, 3) := by decide +kernel
theorem dX10_corners_25 : decode cX10_corners 25 = .ok (.iconst 4, 1) := by decide +kernel
theorem dX10_corners_26 : decode cX10_corners 26 = .ok (.iload_n 2, 1) := by decide +kernel
theorem dX10_corners_27 : decode cX10_corners 27 = .ok (.imul, 1) := by decide +kernel
theorem dX10_corners_28 : decode cX10_corners 28 = .ok (.aload_n 0, 1) := by decide +kernel
theorem dX10_corners_29 : decode cX10_corners 29 = .ok (.getfield 43, 3) := by decide +kernel
theorem dX10_corners_32 : decode cX10_corners 32 = .ok (.getfield 144, 3) := by decide +kernel
theorem dX10_corners_35 : decode cX10_corners 35 = .ok (.invokevirtual 147, 3) := by decide +kernel
theorem dX10_corners_38 : decode cX10_corners 38 = .ok (.aload_n 0, 1) := by decide +kernel
theorem dX10_corners_39 : decode cX10_corners 39 = .ok (.getfield 43, 3) := by decide +kernel
theorem dX10_corners_42 : decode cX10_corners 42 = .ok (.getfield 144, 3) := by decide +kernel
theorem dX10_corners_45 : decode cX10_corners 45 = .ok (.invokestatic 151, 3) := by decide +kernel
theorem dX10_corners_48 : decode cX10_corners 48 = .ok (.lconst 0, 1) := by decide +kernel
theorem dX10_corners_49 : decode cX10_corners 49 = .ok (.lcmp, 1) := by decide +kernel
theorem dX10_corners_50 : decode cX10_corners 50 = .ok (.ifCond .ge 6, 3) := by decide +kernel
theorem dX10_corners_53 : decode cX10_corners 53 = .ok (.bipush (-9), 2) := by decide +kernel
theorem dX10_corners_55 : decode cX10_corners 55 = .ok (.ireturn, 1) := by decide +kernel
theorem dX10_corners_56 : decode cX10_corners 56 = .ok (.aload_n 0, 1) := by decide +kernel
theorem dX10_corners_57 : decode cX10_corners 57 = .ok (.getfield 43, 3) := by decide +kernel
theorem dX10_corners_60 : decode cX10_corners 60 = .ok (.getfield 144, 3) := by decide +kernel
theorem dX10_corners_63 : decode cX10_corners 63 = .ok (.bipush 9, 2) := by decide +kernel
theorem dX10_corners_65 : decode cX10_corners 65 = .ok (.invokestatic 236, 3) := by decide +kernel
theorem dX10_corners_68 : decode cX10_corners 68 = .ok (.astore 4, 2) := by decide +kernel
theorem dX10_corners_70 : decode cX10_corners 70 = .ok (.aload_n 0, 1) := by decide +kernel
theorem dX10_corners_71 : decode cX10_corners 71 = .ok (.new 242, 3) := by decide +kernel
theorem dX10_corners_74 : decode cX10_corners 74 = .ok (.dup, 1) := by decide +kernel
theorem dX10_corners_75 : decode cX10_corners 75 = .ok (.iconst 1, 1) := by decide +kernel
theorem dX10_corners_76 : decode cX10_corners 76 = .ok (.aload_n 3, 1) := by decide +kernel
theorem dX10_corners_77 : decode cX10_corners 77 = .ok (.iload_n 1, 1) := by decide +kernel
theorem dX10_corners_78 : decode cX10_corners 78 = .ok (.aload 4, 2) := by decide +kernel
theorem dX10_corners_80 : decode cX10_corners 80 = .ok (.iload_n 2, 1) := by decide +kernel
theorem dX10_corners_81 : decode cX10_corners 81 = .ok (.aload_n 0, 1) := by decide +kernel
theorem dX10_corners_82 : decode cX10_corners 82 = .ok (.iload_n 2, 1) := by decide +kernel
theorem dX10_corners_83 : decode cX10_corners 83 = .ok (.invokevirtual 244, 3) := by decide +kernel
theorem dX10_corners_86 : decode cX10_corners 86 = .ok (.invokespecial 248, 3) := by decide +kernel
theorem dX10_corners_89 : decode cX10_corners 89 = .ok (.invokevirtual 232, 3) := by decide +kernel
theorem dX10_corners_92 : decode cX10_corners 92 = .ok (.ireturn, 1) := by decide +kernel
theorem dX10_proved_0 : decode cX10_proved 0 = .ok (.aload_n 0, 1) := by decide +kernel
theorem dX10_proved_1 : decode cX10_proved 1 = .ok (.getfield 36, 3) := by decide +kernel
theorem dX10_proved_4 : decode cX10_proved 4 = .ok (.getfield 179, 3) := by decide +kernel
theorem dX10_proved_7 : decode cX10_proved 7 = .ok (.ifnull 21, 3) := by decide +kernel
theorem dX10_proved_10 : decode cX10_proved 10 = .ok (.aload_n 0, 1) := by decide +kernel
theorem dX10_proved_11 : decode cX10_proved 11 = .ok (.getfield 36, 3) := by decide +kernel
theorem dX10_proved_14 : decode cX10_proved 14 = .ok (.iconst 1, 1) := by decide +kernel
theorem dX10_proved_15 : decode cX10_proved 15 = .ok (.invokevirtual 193, 3) := by decide +kernel
theorem dX10_proved_18 : decode cX10_proved 18 = .ok (.aload_n 0, 1) := by decide +kernel
theorem dX10_proved_19 : decode cX10_proved 19 = .ok (.getfield 36, 3) := by decide +kernel
theorem dX10_proved_22 : decode cX10_proved 22 = .ok (.getfield 190, 3) := by decide +kernel
theorem dX10_proved_25 : decode cX10_proved 25 = .ok (.if_icmp .eq 6, 3) := by decide +kernel
theorem dX10_proved_28 : decode cX10_proved 28 = .ok (.bipush (-3), 2) := by decide +kernel
theorem dX10_proved_30 : decode cX10_proved 30 = .ok (.ireturn, 1) := by decide +kernel
theorem dX10_proved_31 : decode cX10_proved 31 = .ok (.iconst 4, 1) := by decide +kernel
theorem dX10_proved_32 : decode cX10_proved 32 = .ok (.aload_n 0, 1) := by decide +kernel
theorem dX10_proved_33 : decode cX10_proved 33 = .ok (.getfield 36, 3) := by decide +kernel
theorem dX10_proved_36 : decode cX10_proved 36 = .ok (.getfield 190, 3) := by decide +kernel
theorem dX10_proved_39 : decode cX10_proved 39 = .ok (.imul, 1) := by decide +kernel
theorem dX10_proved_40 : decode cX10_proved 40 = .ok (.newarray .long, 2) := by decide +kernel
theorem dX10_proved_42 : decode cX10_proved 42 = .ok (.astore_n 1, 1) := by decide +kernel
theorem dX10_proved_43 : decode cX10_proved 43 = .ok (.iconst 0, 1) := by decide +kernel
theorem dX10_proved_44 : decode cX10_proved 44 = .ok (.istore_n 2, 1) := by decide +kernel
theorem dX10_proved_45 : decode cX10_proved 45 = .ok (.iload_n 2, 1) := by decide +kernel
theorem dX10_proved_46 : decode cX10_proved 46 = .ok (.aload_n 1, 1) := by decide +kernel
theorem dX10_proved_47 : decode cX10_proved 47 = .ok (.arraylength, 1) := by decide +kernel
theorem dX10_proved_48 : decode cX10_proved 48 = .ok (.if_icmp .ge 22, 3) := by decide +kernel
theorem dX10_proved_51 : decode cX10_proved 51 = .ok (.aload_n 1, 1) := by decide +kernel
theorem dX10_proved_52 : decode cX10_proved 52 = .ok (.iload_n 2, 1) := by decide +kernel
theorem dX10_proved_53 : decode cX10_proved 53 = .ok (.aload_n 0, 1) := by decide +kernel
theorem dX10_proved_54 : decode cX10_proved 54 = .ok (.getfield 36, 3) := by decide +kernel
theorem dX10_proved_57 : decode cX10_proved 57 = .ok (.getfield 199, 3) := by decide +kernel
theorem dX10_proved_60 : decode cX10_proved 60 = .ok (.iload_n 2, 1) := by decide +kernel
theorem dX10_proved_61 : decode cX10_proved 61 = .ok (.iaload, 1) := by decide +kernel
theorem dX10_proved_62 : decode cX10_proved 62 = .ok (.i2l, 1) := by decide +kernel
theorem dX10_proved_63 : decode cX10_proved 63 = .ok (.lastore, 1) := by decide +kernel
theorem dX10_proved_64 : decode cX10_proved 64 = .ok (.iinc 2 1, 3) := by decide +kernel
theorem dX10_proved_67 : decode cX10_proved 67 = .ok (.goto (-22), 3) := by decide +kernel
theorem dX10_proved_70 : decode cX10_proved 70 = .ok (.aload_n 0, 1) := by decide +kernel
theorem dX10_proved_71 : decode cX10_proved 71 = .ok (.getfield 36, 3) := by decide +kernel
theorem dX10_proved_74 : decode cX10_proved 74 = .ok (.getfield 176, 3) := by decide +kernel
theorem dX10_proved_77 : decode cX10_proved 77 = .ok (.istore_n 2, 1) := by decide +kernel
theorem dX10_proved_78 : decode cX10_proved 78 = .ok (.aload_n 0, 1) := by decide +kernel
theorem dX10_proved_79 : decode cX10_proved 79 = .ok (.new 251, 3) := by decide +kernel
theorem dX10_proved_82 : decode cX10_proved 82 = .ok (.dup, 1) := by decide +kernel
theorem dX10_proved_83 : decode cX10_proved 83 = .ok (.aload_n 0, 1) := by decide +kernel
theorem dX10_proved_84 : decode cX10_proved 84 = .ok (.getfield 36, 3) := by decide +kernel
theorem dX10_proved_87 : decode cX10_proved 87 = .ok (.getfield 179, 3) := by decide +kernel
theorem dX10_proved_90 : decode cX10_proved 90 = .ok (.aload_n 0, 1) := by decide +kernel
theorem dX10_proved_91 : decode cX10_proved 91 = .ok (.getfield 36, 3) := by decide +kernel
theorem dX10_proved_94 : decode cX10_proved 94 = .ok (.getfield 173, 3) := by decide +kernel
theorem dX10_proved_97 : decode cX10_proved 97 = .ok (.aload_n 1, 1) := by decide +kernel
theorem dX10_proved_98 : decode cX10_proved 98 = .ok (.iload_n 2, 1) := by decide +kernel
theorem dX10_proved_99 : decode cX10_proved 99 = .ok (.aload_n 0, 1) := by decide +kernel
theorem dX10_proved_100 : decode cX10_proved 100 = .ok (.iload_n 2, 1) := by decide +kernel
theorem dX10_proved_101 : decode cX10_proved 101 = .ok (.invokevirtual 244, 3) := by decide +kernel
theorem dX10_proved_104 : decode cX10_proved 104 = .ok (.invokespecial 253, 3) := by decide +kernel
theorem dX10_proved_107 : decode cX10_proved 107 = .ok (.invokevirtual 232, 3) := by decide +kernel
theorem dX10_proved_110 : decode cX10_proved 110 = .ok (.ireturn, 1) := by decide +kernel
theorem dX10_span_0 : decode cX10_span 0 = .ok (.aload_n 0, 1) := by decide +kernel
theorem dX10_span_1 : decode cX10_span 1 = .ok (.iload_n 1, 1) := by decide +kernel
theorem dX10_span_2 : decode cX10_span 2 = .ok (.invokevirtual 95, 3) := by decide +kernel
theorem dX10_span_5 : decode cX10_span 5 = .ok (.astore 6, 2) := by decide +kernel
theorem dX10_span_7 : decode cX10_span 7 = .ok (.aload 6, 2) := by decide +kernel
theorem dX10_span_9 : decode cX10_span 9 = .ok (.ifnonnull 5, 3) := by decide +kernel
theorem dX10_span_12 : decode cX10_span 12 = .ok (.iconst (-1), 1) := by decide +kernel
theorem dX10_span_13 : decode cX10_span 13 = .ok (.ireturn, 1) := by decide +kernel
theorem dX10_span_14 : decode cX10_span 14 = .ok (.iload_n 2, 1) := by decide +kernel
theorem dX10_span_15 : decode cX10_span 15 = .ok (.invokestatic 256, 3) := by decide +kernel
theorem dX10_span_18 : decode cX10_span 18 = .ok (.ifCond .eq 20, 3) := by decide +kernel
theorem dX10_span_21 : decode cX10_span 21 = .ok (.iload_n 3, 1) := by decide +kernel
theorem dX10_span_22 : decode cX10_span 22 = .ok (.invokestatic 256, 3) := by decide +kernel
theorem dX10_span_25 : decode cX10_span 25 = .ok (.ifCond .eq 13, 3) := by decide +kernel
theorem dX10_span_28 : decode cX10_span 28 = .ok (.iload 4, 2) := by decide +kernel
theorem dX10_span_30 : decode cX10_span 30 = .ok (.iload 5, 2) := by decide +kernel
theorem dX10_span_32 : decode cX10_span 32 = .ok (.invokestatic 130, 3) := by decide +kernel
theorem dX10_span_35 : decode cX10_span 35 = .ok (.ifCond .ne 6, 3) := by decide +kernel
theorem dX10_span_38 : decode cX10_span 38 = .ok (.bipush (-2), 2) := by decide +kernel
theorem dX10_span_40 : decode cX10_span 40 = .ok (.ireturn, 1) := by decide +kernel
theorem dX10_span_41 : decode cX10_span 41 = .ok (.aload 6, 2) := by decide +kernel
theorem dX10_span_43 : decode cX10_span 43 = .ok (.invokevirtual 215, 3) := by decide +kernel
theorem dX10_span_46 : decode cX10_span 46 = .ok (.ifCond .eq 21, 3) := by decide +kernel
theorem dX10_span_49 : decode cX10_span 49 = .ok (.aload 6, 2) := by decide +kernel
theorem dX10_span_51 : decode cX10_span 51 = .ok (.iload_n 2, 1) := by decide +kernel
theorem dX10_span_52 : decode cX10_span 52 = .ok (.i2l, 1) := by decide +kernel
theorem dX10_span_53 : decode cX10_span 53 = .ok (.iload_n 3, 1) := by decide +kernel
theorem dX10_span_54 : decode cX10_span 54 = .ok (.i2l, 1) := by decide +kernel
theorem dX10_span_55 : decode cX10_span 55 = .ok (.iload 4, 2) := by decide +kernel
theorem dX10_span_57 : decode cX10_span 57 = .ok (.i2l, 1) := by decide +kernel
theorem dX10_span_58 : decode cX10_span 58 = .ok (.iload 5, 2) := by decide +kernel
theorem dX10_span_60 : decode cX10_span 60 = .ok (.i2l, 1) := by decide +kernel
theorem dX10_span_61 : decode cX10_span 61 = .ok (.invokevirtual 259, 3) := by decide +kernel
theorem dX10_span_64 : decode cX10_span 64 = .ok (.goto 4, 3) := by decide +kernel
theorem dX10_span_67 : decode cX10_span 67 = .ok (.aconst_null, 1) := by decide +kernel
theorem dX10_span_68 : decode cX10_span 68 = .ok (.astore 7, 2) := by decide +kernel
theorem dX10_span_70 : decode cX10_span 70 = .ok (.aload 7, 2) := by decide +kernel
theorem dX10_span_72 : decode cX10_span 72 = .ok (.ifnonnull 6, 3) := by decide +kernel
theorem dX10_span_75 : decode cX10_span 75 = .ok (.bipush (-3), 2) := by decide +kernel
theorem dX10_span_77 : decode cX10_span 77 = .ok (.ireturn, 1) := by decide +kernel
theorem dX10_span_78 : decode cX10_span 78 = .ok (.aload 7, 2) := by decide +kernel
theorem dX10_span_80 : decode cX10_span 80 = .ok (.iconst 4, 1) := by decide +kernel
theorem dX10_span_81 : decode cX10_span 81 = .ok (.invokevirtual 223, 3) := by decide +kernel
theorem dX10_span_84 : decode cX10_span 84 = .ok (.astore 8, 2) := by decide +kernel
theorem dX10_span_86 : decode cX10_span 86 = .ok (.aload 8, 2) := by decide +kernel
theorem dX10_span_88 : decode cX10_span 88 = .ok (.ifnonnull 6, 3) := by decide +kernel
theorem dX10_span_91 : decode cX10_span 91 = .ok (.bipush (-9), 2) := by decide +kernel
theorem dX10_span_93 : decode cX10_span 93 = .ok (.ireturn, 1) := by decide +kernel
theorem dX10_span_94 : decode cX10_span 94 = .ok (.aload 8, 2) := by decide +kernel
theorem dX10_span_96 : decode cX10_span 96 = .ok (.arraylength, 1) := by decide +kernel
theorem dX10_span_97 : decode cX10_span 97 = .ok (.iconst 4, 1) := by decide +kernel
theorem dX10_span_98 : decode cX10_span 98 = .ok (.isub, 1) := by decide +kernel
theorem dX10_span_99 : decode cX10_span 99 = .ok (.istore 9, 2) := by decide +kernel
theorem dX10_span_101 : decode cX10_span 101 = .ok (.aload 8, 2) := by decide +kernel
theorem dX10_span_103 : decode cX10_span 103 = .ok (.iload 9, 2) := by decide +kernel
theorem dX10_span_105 : decode cX10_span 105 = .ok (.iload_n 2, 1) := by decide +kernel
theorem dX10_span_106 : decode cX10_span 106 = .ok (.i2l, 1) := by decide +kernel
theorem dX10_span_107 : decode cX10_span 107 = .ok (.lastore, 1) := by decide +kernel
theorem dX10_span_108 : decode cX10_span 108 = .ok (.aload 8, 2) := by decide +kernel
theorem dX10_span_110 : decode cX10_span 110 = .ok (.iload 9, 2) := by decide +kernel
theorem dX10_span_112 : decode cX10_span 112 = .ok (.iconst 1, 1) := by decide +kernel
theorem dX10_span_113 : decode cX10_span 113 = .ok (.iadd, 1) := by decide +kernel
theorem dX10_span_114 : decode cX10_span 114 = .ok (.iload_n 3, 1) := by decide +kernel
theorem dX10_span_115 : decode cX10_span 115 = .ok (.i2l, 1) := by decide +kernel
theorem dX10_span_116 : decode cX10_span 116 = .ok (.lastore, 1) := by decide +kernel
theorem dX10_span_117 : decode cX10_span 117 = .ok (.aload 8, 2) := by decide +kernel
theorem dX10_span_119 : decode cX10_span 119 = .ok (.iload 9, 2) := by decide +kernel
theorem dX10_span_121 : decode cX10_span 121 = .ok (.iconst 2, 1) := by decide +kernel
theorem dX10_span_122 : decode cX10_span 122 = .ok (.iadd, 1) := by decide +kernel
theorem dX10_span_123 : decode cX10_span 123 = .ok (.iload 4, 2) := by decide +kernel
theorem dX10_span_125 : decode cX10_span 125 = .ok (.i2l, 1) := by decide +kernel
theorem dX10_span_126 : decode cX10_span 126 = .ok (.lastore, 1) := by decide +kernel
theorem dX10_span_127 : decode cX10_span 127 = .ok (.aload 8, 2) := by decide +kernel
theorem dX10_span_129 : decode cX10_span 129 = .ok (.iload 9, 2) := by decide +kernel
theorem dX10_span_131 : decode cX10_span 131 = .ok (.iconst 3, 1) := by decide +kernel
theorem dX10_span_132 : decode cX10_span 132 = .ok (.iadd, 1) := by decide +kernel
theorem dX10_span_133 : decode cX10_span 133 = .ok (.iload 5, 2) := by decide +kernel
theorem dX10_span_135 : decode cX10_span 135 = .ok (.i2l, 1) := by decide +kernel
theorem dX10_span_136 : decode cX10_span 136 = .ok (.lastore, 1) := by decide +kernel
theorem dX10_span_137 : decode cX10_span 137 = .ok (.aload_n 0, 1) := by decide +kernel
theorem dX10_span_138 : decode cX10_span 138 = .ok (.new 263, 3) := by decide +kernel
theorem dX10_span_141 : decode cX10_span 141 = .ok (.dup, 1) := by decide +kernel
theorem dX10_span_142 : decode cX10_span 142 = .ok (.aload 6, 2) := by decide +kernel
theorem dX10_span_144 : decode cX10_span 144 = .ok (.iload_n 1, 1) := by decide +kernel
theorem dX10_span_145 : decode cX10_span 145 = .ok (.aload 8, 2) := by decide +kernel
theorem dX10_span_147 : decode cX10_span 147 = .ok (.invokespecial 265, 3) := by decide +kernel
theorem dX10_span_150 : decode cX10_span 150 = .ok (.invokevirtual 232, 3) := by decide +kernel
theorem dX10_span_153 : decode cX10_span 153 = .ok (.ireturn, 1) := by decide +kernel
theorem dX10_proof_0 : decode cX10_proof 0 = .ok (.aload_n 0, 1) := by decide +kernel
theorem dX10_proof_1 : decode cX10_proof 1 = .ok (.iload_n 1, 1) := by decide +kernel
theorem dX10_proof_2 : decode cX10_proof 2 = .ok (.invokevirtual 268, 3) := by decide +kernel
theorem dX10_proof_5 : decode cX10_proof 5 = .ok (.astore_n 3, 1) := by decide +kernel
theorem dX10_proof_6 : decode cX10_proof 6 = .ok (.aload_n 3, 1) := by decide +kernel
theorem dX10_proof_7 : decode cX10_proof 7 = .ok (.ifnonnull 5, 3) := by decide +kernel
theorem dX10_proof_10 : decode cX10_proof 10 = .ok (.iconst (-1), 1) := by decide +kernel
theorem dX10_proof_11 : decode cX10_proof 11 = .ok (.ireturn, 1) := by decide +kernel
theorem dX10_proof_12 : decode cX10_proof 12 = .ok (.iload_n 2, 1) := by decide +kernel
theorem dX10_proof_13 : decode cX10_proof 13 = .ok (.tableswitch 61 0 4 #[35, 40, 45, 51, 56], 35) := by decide +kernel
theorem dX10_proof_48 : decode cX10_proof 48 = .ok (.aload_n 3, 1) := by decide +kernel
theorem dX10_proof_49 : decode cX10_proof 49 = .ok (.getfield 272, 3) := by decide +kernel
theorem dX10_proof_52 : decode cX10_proof 52 = .ok (.ireturn, 1) := by decide +kernel
theorem dX10_proof_53 : decode cX10_proof 53 = .ok (.aload_n 3, 1) := by decide +kernel
theorem dX10_proof_54 : decode cX10_proof 54 = .ok (.getfield 275, 3) := by decide +kernel
theorem dX10_proof_57 : decode cX10_proof 57 = .ok (.ireturn, 1) := by decide +kernel
theorem dX10_proof_58 : decode cX10_proof 58 = .ok (.aload_n 3, 1) := by decide +kernel
theorem dX10_proof_59 : decode cX10_proof 59 = .ok (.getfield 276, 3) := by decide +kernel
theorem dX10_proof_62 : decode cX10_proof 62 = .ok (.arraylength, 1) := by decide +kernel
theorem dX10_proof_63 : decode cX10_proof 63 = .ok (.ireturn, 1) := by decide +kernel
theorem dX10_proof_64 : decode cX10_proof 64 = .ok (.aload_n 3, 1) := by decide +kernel
theorem dX10_proof_65 : decode cX10_proof 65 = .ok (.invokevirtual 279, 3) := by decide +kernel
theorem dX10_proof_68 : decode cX10_proof 68 = .ok (.ireturn, 1) := by decide +kernel
theorem dX10_proof_69 : decode cX10_proof 69 = .ok (.aload_n 3, 1) := by decide +kernel
theorem dX10_proof_70 : decode cX10_proof 70 = .ok (.invokevirtual 283, 3) := by decide +kernel
theorem dX10_proof_73 : decode cX10_proof 73 = .ok (.ireturn, 1) := by decide +kernel
theorem dX10_proof_74 : decode cX10_proof 74 = .ok (.bipush (-2), 2) := by decide +kernel
theorem dX10_proof_76 : decode cX10_proof 76 = .ok (.ireturn, 1) := by decide +kernel
theorem dX10_number_0 : decode cX10_number 0 = .ok (.aload_n 0, 1) := by decide +kernel
theorem dX10_number_1 : decode cX10_number 1 = .ok (.iload_n 1, 1) := by decide +kernel
theorem dX10_number_2 : decode cX10_number 2 = .ok (.invokevirtual 268, 3) := by decide +kernel
theorem dX10_number_5 : decode cX10_number 5 = .ok (.astore_n 3, 1) := by decide +kernel
theorem dX10_number_6 : decode cX10_number 6 = .ok (.aload_n 3, 1) := by decide +kernel
theorem dX10_number_7 : decode cX10_number 7 = .ok (.ifnull 11, 3) := by decide +kernel
theorem dX10_number_10 : decode cX10_number 10 = .ok (.aload_n 3, 1) := by decide +kernel
theorem dX10_number_11 : decode cX10_number 11 = .ok (.iload_n 2, 1) := by decide +kernel
theorem dX10_number_12 : decode cX10_number 12 = .ok (.invokevirtual 285, 3) := by decide +kernel
theorem dX10_number_15 : decode cX10_number 15 = .ok (.ifCond .ne 9, 3) := by decide +kernel
theorem dX10_number_18 : decode cX10_number 18 = .ok (.ldc2_w 76, 3) := by decide +kernel
theorem dX10_number_21 : decode cX10_number 21 = .ok (.goto 9, 3) := by decide +kernel
theorem dX10_number_24 : decode cX10_number 24 = .ok (.aload_n 3, 1) := by decide +kernel
theorem dX10_number_25 : decode cX10_number 25 = .ok (.getfield 276, 3) := by decide +kernel
theorem dX10_number_28 : decode cX10_number 28 = .ok (.iload_n 2, 1) := by decide +kernel
theorem dX10_number_29 : decode cX10_number 29 = .ok (.laload, 1) := by decide +kernel
theorem dX10_number_30 : decode cX10_number 30 = .ok (.lreturn, 1) := by decide +kernel
theorem dX10_forge_0 : decode cX10_forge 0 = .ok (.aload_n 0, 1) := by decide +kernel
theorem dX10_forge_1 : decode cX10_forge 1 = .ok (.iload_n 1, 1) := by decide +kernel
theorem dX10_forge_2 : decode cX10_forge 2 = .ok (.invokevirtual 268, 3) := by decide +kernel
theorem dX10_forge_5 : decode cX10_forge 5 = .ok (.astore 5, 2) := by decide +kernel
theorem dX10_forge_7 : decode cX10_forge 7 = .ok (.aload 5, 2) := by decide +kernel
theorem dX10_forge_9 : decode cX10_forge 9 = .ok (.ifnull 12, 3) := by decide +kernel
theorem dX10_forge_12 : decode cX10_forge 12 = .ok (.aload 5, 2) := by decide +kernel
theorem dX10_forge_14 : decode cX10_forge 14 = .ok (.iload_n 2, 1) := by decide +kernel
theorem dX10_forge_15 : decode cX10_forge 15 = .ok (.invokevirtual 285, 3) := by decide +kernel
theorem dX10_forge_18 : decode cX10_forge 18 = .ok (.ifCond .ne 5, 3) := by decide +kernel
theorem dX10_forge_21 : decode cX10_forge 21 = .ok (.iconst (-1), 1) := by decide +kernel
theorem dX10_forge_22 : decode cX10_forge 22 = .ok (.ireturn, 1) := by decide +kernel
theorem dX10_forge_23 : decode cX10_forge 23 = .ok (.aload 5, 2) := by decide +kernel
theorem dX10_forge_25 : decode cX10_forge 25 = .ok (.getfield 272, 3) := by decide +kernel
theorem dX10_forge_28 : decode cX10_forge 28 = .ok (.iconst 1, 1) := by decide +kernel
theorem dX10_forge_29 : decode cX10_forge 29 = .ok (.if_icmp .eq 16, 3) := by decide +kernel
theorem dX10_forge_32 : decode cX10_forge 32 = .ok (.lload_n 3, 1) := by decide +kernel
theorem dX10_forge_33 : decode cX10_forge 33 = .ok (.ldc2_w 286, 3) := by decide +kernel
theorem dX10_forge_36 : decode cX10_forge 36 = .ok (.invokestatic 101, 3) := by decide +kernel
theorem dX10_forge_39 : decode cX10_forge 39 = .ok (.ifCond .ne 6, 3) := by decide +kernel
theorem dX10_forge_42 : decode cX10_forge 42 = .ok (.bipush (-2), 2) := by decide +kernel
theorem dX10_forge_44 : decode cX10_forge 44 = .ok (.ireturn, 1) := by decide +kernel
theorem dX10_forge_45 : decode cX10_forge 45 = .ok (.aload 5, 2) := by decide +kernel
theorem dX10_forge_47 : decode cX10_forge 47 = .ok (.getfield 276, 3) := by decide +kernel
theorem dX10_forge_50 : decode cX10_forge 50 = .ok (.iload_n 2, 1) := by decide +kernel
theorem dX10_forge_51 : decode cX10_forge 51 = .ok (.lload_n 3, 1) := by decide +kernel
theorem dX10_forge_52 : decode cX10_forge 52 = .ok (.lastore, 1) := by decide +kernel
theorem dX10_forge_53 : decode cX10_forge 53 = .ok (.iconst 1, 1) := by decide +kernel
theorem dX10_forge_54 : decode cX10_forge 54 = .ok (.ireturn, 1) := by decide +kernel
theorem dX10_check_0 : decode cX10_check 0 = .ok (.aload_n 0, 1) := by decide +kernel
theorem dX10_check_1 : decode cX10_check 1 = .ok (.iload_n 1, 1) := by decide +kernel
theorem dX10_check_2 : decode cX10_check 2 = .ok (.invokevirtual 268, 3) := by decide +kernel
theorem dX10_check_5 : decode cX10_check 5 = .ok (.astore_n 2, 1) := by decide +kernel
theorem dX10_check_6 : decode cX10_check 6 = .ok (.aload_n 2, 1) := by decide +kernel
theorem dX10_check_7 : decode cX10_check 7 = .ok (.ifnonnull 5, 3) := by decide +kernel
theorem dX10_check_10 : decode cX10_check 10 = .ok (.iconst (-1), 1) := by decide +kernel
theorem dX10_check_11 : decode cX10_check 11 = .ok (.ireturn, 1) := by decide +kernel
theorem dX10_check_12 : decode cX10_check 12 = .ok (.aload_n 2, 1) := by decide +kernel
theorem dX10_check_13 : decode cX10_check 13 = .ok (.aload_n 0, 1) := by decide +kernel
theorem dX10_check_14 : decode cX10_check 14 = .ok (.getfield 43, 3) := by decide +kernel
theorem dX10_check_17 : decode cX10_check 17 = .ok (.invokevirtual 288, 3) := by decide +kernel
theorem dX10_check_20 : decode cX10_check 20 = .ok (.istore_n 3, 1) := by decide +kernel
theorem dX10_check_21 : decode cX10_check 21 = .ok (.iload_n 3, 1) := by decide +kernel
theorem dX10_check_22 : decode cX10_check 22 = .ok (.ifCond .ge 7, 3) := by decide +kernel
theorem dX10_check_25 : decode cX10_check 25 = .ok (.iconst 1, 1) := by decide +kernel
theorem dX10_check_26 : decode cX10_check 26 = .ok (.goto 7, 3) := by decide +kernel
theorem dX10_check_29 : decode cX10_check 29 = .ok (.bipush (-20), 2) := by decide +kernel
theorem dX10_check_31 : decode cX10_check 31 = .ok (.iload_n 3, 1) := by decide +kernel
theorem dX10_check_32 : decode cX10_check 32 = .ok (.isub, 1) := by decide +kernel
theorem dX10_check_33 : decode cX10_check 33 = .ok (.ireturn, 1) := by decide +kernel
theorem dX10_as_0 : decode cX10_as 0 = .ok (.aload_n 0, 1) := by decide +kernel
theorem dX10_as_1 : decode cX10_as 1 = .ok (.iconst 0, 1) := by decide +kernel
theorem dX10_as_2 : decode cX10_as 2 = .ok (.putfield 47, 3) := by decide +kernel
theorem dX10_as_5 : decode cX10_as 5 = .ok (.aload_n 0, 1) := by decide +kernel
theorem dX10_as_6 : decode cX10_as 6 = .ok (.iload_n 1, 1) := by decide +kernel
theorem dX10_as_7 : decode cX10_as 7 = .ok (.invokevirtual 268, 3) := by decide +kernel
theorem dX10_as_10 : decode cX10_as 10 = .ok (.astore_n 3, 1) := by decide +kernel
theorem dX10_as_11 : decode cX10_as 11 = .ok (.aload_n 3, 1) := by decide +kernel
theorem dX10_as_12 : decode cX10_as 12 = .ok (.ifnonnull 5, 3) := by decide +kernel
theorem dX10_as_15 : decode cX10_as 15 = .ok (.iconst (-1), 1) := by decide +kernel
theorem dX10_as_16 : decode cX10_as 16 = .ok (.ireturn, 1) := by decide +kernel
theorem dX10_as_17 : decode cX10_as 17 = .ok (.iload_n 2, 1) := by decide +kernel
theorem dX10_as_18 : decode cX10_as 18 = .ok (.ifCond .lt 8, 3) := by decide +kernel
theorem dX10_as_21 : decode cX10_as 21 = .ok (.iload_n 2, 1) := by decide +kernel
theorem dX10_as_22 : decode cX10_as 22 = .ok (.iconst 4, 1) := by decide +kernel
theorem dX10_as_23 : decode cX10_as 23 = .ok (.if_icmp .le 6, 3) := by decide +kernel
theorem dX10_as_26 : decode cX10_as 26 = .ok (.bipush (-2), 2) := by decide +kernel
theorem dX10_as_28 : decode cX10_as 28 = .ok (.ireturn, 1) := by decide +kernel
theorem dX10_as_29 : decode cX10_as 29 = .ok (.aload_n 3, 1) := by decide +kernel
theorem dX10_as_30 : decode cX10_as 30 = .ok (.iload_n 2, 1) := by decide +kernel
theorem dX10_as_31 : decode cX10_as 31 = .ok (.invokestatic 292, 3) := by decide +kernel
theorem dX10_as_34 : decode cX10_as 34 = .ok (.ifCond .eq 7, 3) := by decide +kernel
theorem dX10_as_37 : decode cX10_as 37 = .ok (.iconst 1, 1) := by decide +kernel
theorem dX10_as_38 : decode cX10_as 38 = .ok (.goto 8, 3) := by decide +kernel
theorem dX10_as_41 : decode cX10_as 41 = .ok (.aload_n 0, 1) := by decide +kernel
theorem dX10_as_42 : decode cX10_as 42 = .ok (.iconst 2, 1) := by decide +kernel
theorem dX10_as_43 : decode cX10_as 43 = .ok (.invokevirtual 58, 3) := by decide +kernel
theorem dX10_as_46 : decode cX10_as 46 = .ok (.ireturn, 1) := by decide +kernel
theorem dX10_tell_0 : decode cX10_tell 0 = .ok (.aload_n 0, 1) := by decide +kernel
theorem dX10_tell_1 : decode cX10_tell 1 = .ok (.iload_n 1, 1) := by decide +kernel
theorem dX10_tell_2 : decode cX10_tell 2 = .ok (.invokevirtual 268, 3) := by decide +kernel
theorem dX10_tell_5 : decode cX10_tell 5 = .ok (.astore_n 2, 1) := by decide +kernel
theorem dX10_tell_6 : decode cX10_tell 6 = .ok (.aload_n 2, 1) := by decide +kernel
theorem dX10_tell_7 : decode cX10_tell 7 = .ok (.ifnonnull 7, 3) := by decide +kernel
theorem dX10_tell_10 : decode cX10_tell 10 = .ok (.iconst (-1), 1) := by decide +kernel
theorem dX10_tell_11 : decode cX10_tell 11 = .ok (.goto 11, 3) := by decide +kernel
theorem dX10_tell_14 : decode cX10_tell 14 = .ok (.aload_n 2, 1) := by decide +kernel
theorem dX10_tell_15 : decode cX10_tell 15 = .ok (.aload_n 0, 1) := by decide +kernel
theorem dX10_tell_16 : decode cX10_tell 16 = .ok (.getfield 43, 3) := by decide +kernel
theorem dX10_tell_19 : decode cX10_tell 19 = .ok (.invokevirtual 296, 3) := by decide +kernel
theorem dX10_tell_22 : decode cX10_tell 22 = .ok (.ireturn, 1) := by decide +kernel
theorem dX10_cost_0 : decode cX10_cost 0 = .ok (.aload_n 0, 1) := by decide +kernel
theorem dX10_cost_1 : decode cX10_cost 1 = .ok (.iload_n 1, 1) := by decide +kernel
theorem dX10_cost_2 : decode cX10_cost 2 = .ok (.invokevirtual 268, 3) := by decide +kernel
theorem dX10_cost_5 : decode cX10_cost 5 = .ok (.astore_n 2, 1) := by decide +kernel
theorem dX10_cost_6 : decode cX10_cost 6 = .ok (.aload_n 2, 1) := by decide +kernel
theorem dX10_cost_7 : decode cX10_cost 7 = .ok (.ifnonnull 7, 3) := by decide +kernel
theorem dX10_cost_10 : decode cX10_cost 10 = .ok (.iconst (-1), 1) := by decide +kernel
theorem dX10_cost_11 : decode cX10_cost 11 = .ok (.goto 11, 3) := by decide +kernel
theorem dX10_cost_14 : decode cX10_cost 14 = .ok (.aload_n 2, 1) := by decide +kernel
theorem dX10_cost_15 : decode cX10_cost 15 = .ok (.aload_n 0, 1) := by decide +kernel
theorem dX10_cost_16 : decode cX10_cost 16 = .ok (.getfield 43, 3) := by decide +kernel
theorem dX10_cost_19 : decode cX10_cost 19 = .ok (.invokevirtual 299, 3) := by decide +kernel
theorem dX10_cost_22 : decode cX10_cost 22 = .ok (.ireturn, 1) := by decide +kernel
theorem dX10_trace_0 : decode cX10_trace 0 = .ok (.aload_n 0, 1) := by decide +kernel
theorem dX10_trace_1 : decode cX10_trace 1 = .ok (.getfield 43, 3) := by decide +kernel
theorem dX10_trace_4 : decode cX10_trace 4 = .ok (.getfield 302, 3) := by decide +kernel
theorem dX10_trace_7 : decode cX10_trace 7 = .ok (.ireturn, 1) := by decide +kernel
theorem dX10_fault_0 : decode cX10_fault 0 = .ok (.aload_n 0, 1) := by decide +kernel
theorem dX10_fault_1 : decode cX10_fault 1 = .ok (.getfield 47, 3) := by decide +kernel
theorem dX10_fault_4 : decode cX10_fault 4 = .ok (.ireturn, 1) := by decide +kernel
theorem dX10_told_0 : decode cX10_told 0 = .ok (.iload_n 1, 1) := by decide +kernel
theorem dX10_told_1 : decode cX10_told 1 = .ok (.tableswitch 42 0 2 #[27, 32, 37], 27) := by decide +kernel
theorem dX10_told_28 : decode cX10_told 28 = .ok (.aload_n 0, 1) := by decide +kernel
theorem dX10_told_29 : decode cX10_told 29 = .ok (.getfield 305, 3) := by decide +kernel
theorem dX10_told_32 : decode cX10_told 32 = .ok (.ireturn, 1) := by decide +kernel
theorem dX10_told_33 : decode cX10_told 33 = .ok (.aload_n 0, 1) := by decide +kernel
theorem dX10_told_34 : decode cX10_told 34 = .ok (.getfield 134, 3) := by decide +kernel
theorem dX10_told_37 : decode cX10_told 37 = .ok (.ireturn, 1) := by decide +kernel
theorem dX10_told_38 : decode cX10_told 38 = .ok (.aload_n 0, 1) := by decide +kernel
theorem dX10_told_39 : decode cX10_told 39 = .ok (.getfield 308, 3) := by decide +kernel
theorem dX10_told_42 : decode cX10_told 42 = .ok (.ireturn, 1) := by decide +kernel
theorem dX10_told_43 : decode cX10_told 43 = .ok (.bipush (-2), 2) := by decide +kernel
theorem dX10_told_45 : decode cX10_told 45 = .ok (.ireturn, 1) := by decide +kernel
theorem dX10_faulted_0 : decode cX10_faulted 0 = .ok (.aload_n 0, 1) := by decide +kernel
theorem dX10_faulted_1 : decode cX10_faulted 1 = .ok (.iload_n 1, 1) := by decide +kernel
theorem dX10_faulted_2 : decode cX10_faulted 2 = .ok (.putfield 47, 3) := by decide +kernel
theorem dX10_faulted_5 : decode cX10_faulted 5 = .ok (.bipush (-10), 2) := by decide +kernel
theorem dX10_faulted_7 : decode cX10_faulted 7 = .ok (.iload_n 1, 1) := by decide +kernel
theorem dX10_faulted_8 : decode cX10_faulted 8 = .ok (.isub, 1) := by decide +kernel
theorem dX10_faulted_9 : decode cX10_faulted 9 = .ok (.ireturn, 1) := by decide +kernel
theorem dX10_lostBy_0 : decode cX10_lostBy 0 = .ok (.aload_n 0, 1) := by decide +kernel
theorem dX10_lostBy_1 : decode cX10_lostBy 1 = .ok (.iload_n 1, 1) := by decide +kernel
theorem dX10_lostBy_2 : decode cX10_lostBy 2 = .ok (.putfield 47, 3) := by decide +kernel
theorem dX10_lostBy_5 : decode cX10_lostBy 5 = .ok (.ldc2_w 76, 3) := by decide +kernel
theorem dX10_lostBy_8 : decode cX10_lostBy 8 = .ok (.lreturn, 1) := by decide +kernel
theorem dX10_isSheet_0 : decode cX10_isSheet 0 = .ok (.iload_n 0, 1) := by decide +kernel
theorem dX10_isSheet_1 : decode cX10_isSheet 1 = .ok (.ifCond .lt 12, 3) := by decide +kernel
theorem dX10_isSheet_4 : decode cX10_isSheet 4 = .ok (.iload_n 0, 1) := by decide +kernel
theorem dX10_isSheet_5 : decode cX10_isSheet 5 = .ok (.iconst 4, 1) := by decide +kernel
theorem dX10_isSheet_6 : decode cX10_isSheet 6 = .ok (.if_icmp .ge 7, 3) := by decide +kernel
theorem dX10_isSheet_9 : decode cX10_isSheet 9 = .ok (.iconst 1, 1) := by decide +kernel
theorem dX10_isSheet_10 : decode cX10_isSheet 10 = .ok (.goto 4, 3) := by decide +kernel
theorem dX10_isSheet_13 : decode cX10_isSheet 13 = .ok (.iconst 0, 1) := by decide +kernel
theorem dX10_isSheet_14 : decode cX10_isSheet 14 = .ok (.ireturn, 1) := by decide +kernel
theorem dX10_isLane_0 : decode cX10_isLane 0 = .ok (.iload_n 0, 1) := by decide +kernel
theorem dX10_isLane_1 : decode cX10_isLane 1 = .ok (.ifCond .lt 12, 3) := by decide +kernel
theorem dX10_isLane_4 : decode cX10_isLane 4 = .ok (.iload_n 0, 1) := by decide +kernel
theorem dX10_isLane_5 : decode cX10_isLane 5 = .ok (.iconst 3, 1) := by decide +kernel
theorem dX10_isLane_6 : decode cX10_isLane 6 = .ok (.if_icmp .ge 7, 3) := by decide +kernel
theorem dX10_isLane_9 : decode cX10_isLane 9 = .ok (.iconst 1, 1) := by decide +kernel
theorem dX10_isLane_10 : decode cX10_isLane 10 = .ok (.goto 4, 3) := by decide +kernel
theorem dX10_isLane_13 : decode cX10_isLane 13 = .ok (.iconst 0, 1) := by decide +kernel
theorem dX10_isLane_14 : decode cX10_isLane 14 = .ok (.ireturn, 1) := by decide +kernel
theorem dX10_isTerm_0 : decode cX10_isTerm 0 = .ok (.iload_n 0, 1) := by decide +kernel
theorem dX10_isTerm_1 : decode cX10_isTerm 1 = .ok (.ifCond .lt 13, 3) := by decide +kernel
theorem dX10_isTerm_4 : decode cX10_isTerm 4 = .ok (.iload_n 0, 1) := by decide +kernel
theorem dX10_isTerm_5 : decode cX10_isTerm 5 = .ok (.bipush 9, 2) := by decide +kernel
theorem dX10_isTerm_7 : decode cX10_isTerm 7 = .ok (.if_icmp .ge 7, 3) := by decide +kernel
theorem dX10_isTerm_10 : decode cX10_isTerm 10 = .ok (.iconst 1, 1) := by decide +kernel
theorem dX10_isTerm_11 : decode cX10_isTerm 11 = .ok (.goto 4, 3) := by decide +kernel
theorem dX10_isTerm_14 : decode cX10_isTerm 14 = .ok (.iconst 0, 1) := by decide +kernel
theorem dX10_isTerm_15 : decode cX10_isTerm 15 = .ok (.ireturn, 1) := by decide +kernel
theorem dX10_isWhich_0 : decode cX10_isWhich 0 = .ok (.iload_n 0, 1) := by decide +kernel
theorem dX10_isWhich_1 : decode cX10_isWhich 1 = .ok (.ifCond .eq 8, 3) := by decide +kernel
theorem dX10_isWhich_4 : decode cX10_isWhich 4 = .ok (.iload_n 0, 1) := by decide +kernel
theorem dX10_isWhich_5 : decode cX10_isWhich 5 = .ok (.iconst 1, 1) := by decide +kernel
theorem dX10_isWhich_6 : decode cX10_isWhich 6 = .ok (.if_icmp .ne 7, 3) := by decide +kernel
theorem dX10_isWhich_9 : decode cX10_isWhich 9 = .ok (.iconst 1, 1) := by decide +kernel
theorem dX10_isWhich_10 : decode cX10_isWhich 10 = .ok (.goto 4, 3) := by decide +kernel
theorem dX10_isWhich_13 : decode cX10_isWhich 13 = .ok (.iconst 0, 1) := by decide +kernel
theorem dX10_isWhich_14 : decode cX10_isWhich 14 = .ok (.ireturn, 1) := by decide +kernel
theorem dX10_isWithin_0 : decode cX10_isWithin 0 = .ok (.lload_n 0, 1) := by decide +kernel
theorem dX10_isWithin_1 : decode cX10_isWithin 1 = .ok (.lload_n 2, 1) := by decide +kernel
theorem dX10_isWithin_2 : decode cX10_isWithin 2 = .ok (.lneg, 1) := by decide +kernel
theorem dX10_isWithin_3 : decode cX10_isWithin 3 = .ok (.lcmp, 1) := by decide +kernel
theorem dX10_isWithin_4 : decode cX10_isWithin 4 = .ok (.ifCond .lt 13, 3) := by decide +kernel
theorem dX10_isWithin_7 : decode cX10_isWithin 7 = .ok (.lload_n 0, 1) := by decide +kernel
theorem dX10_isWithin_8 : decode cX10_isWithin 8 = .ok (.lload_n 2, 1) := by decide +kernel
theorem dX10_isWithin_9 : decode cX10_isWithin 9 = .ok (.lcmp, 1) := by decide +kernel
theorem dX10_isWithin_10 : decode cX10_isWithin 10 = .ok (.ifCond .gt 7, 3) := by decide +kernel
theorem dX10_isWithin_13 : decode cX10_isWithin 13 = .ok (.iconst 1, 1) := by decide +kernel
theorem dX10_isWithin_14 : decode cX10_isWithin 14 = .ok (.goto 4, 3) := by decide +kernel
theorem dX10_isWithin_17 : decode cX10_isWithin 17 = .ok (.iconst 0, 1) := by decide +kernel
theorem dX10_isWithin_18 : decode cX10_isWithin 18 = .ok (.ireturn, 1) := by decide +kernel
theorem dX10_isRange_0 : decode cX10_isRange 0 = .ok (.iload_n 0, 1) := by decide +kernel
theorem dX10_isRange_1 : decode cX10_isRange 1 = .ok (.i2l, 1) := by decide +kernel
theorem dX10_isRange_2 : decode cX10_isRange 2 = .ok (.ldc2_w 122, 3) := by decide +kernel
theorem dX10_isRange_5 : decode cX10_isRange 5 = .ok (.invokestatic 101, 3) := by decide +kernel
theorem dX10_isRange_8 : decode cX10_isRange 8 = .ok (.ifCond .eq 23, 3) := by decide +kernel
theorem dX10_isRange_11 : decode cX10_isRange 11 = .ok (.iload_n 1, 1) := by decide +kernel
theorem dX10_isRange_12 : decode cX10_isRange 12 = .ok (.i2l, 1) := by decide +kernel
theorem dX10_isRange_13 : decode cX10_isRange 13 = .ok (.ldc2_w 122, 3) := by decide +kernel
theorem dX10_isRange_16 : decode cX10_isRange 16 = .ok (.invokestatic 101, 3) := by decide +kernel
theorem dX10_isRange_19 : decode cX10_isRange 19 = .ok (.ifCond .eq 12, 3) := by decide +kernel
theorem dX10_isRange_22 : decode cX10_isRange 22 = .ok (.iload_n 0, 1) := by decide +kernel
theorem dX10_isRange_23 : decode cX10_isRange 23 = .ok (.iload_n 1, 1) := by decide +kernel
theorem dX10_isRange_24 : decode cX10_isRange 24 = .ok (.if_icmp .ge 7, 3) := by decide +kernel
theorem dX10_isRange_27 : decode cX10_isRange 27 = .ok (.iconst 1, 1) := by decide +kernel
theorem dX10_isRange_28 : decode cX10_isRange 28 = .ok (.goto 4, 3) := by decide +kernel
theorem dX10_isRange_31 : decode cX10_isRange 31 = .ok (.iconst 0, 1) := by decide +kernel
theorem dX10_isRange_32 : decode cX10_isRange 32 = .ok (.ireturn, 1) := by decide +kernel
theorem dX10_isWeight_0 : decode cX10_isWeight 0 = .ok (.iload_n 0, 1) := by decide +kernel
theorem dX10_isWeight_1 : decode cX10_isWeight 1 = .ok (.iconst 1, 1) := by decide +kernel
theorem dX10_isWeight_2 : decode cX10_isWeight 2 = .ok (.if_icmp .lt 14, 3) := by decide +kernel
theorem dX10_isWeight_5 : decode cX10_isWeight 5 = .ok (.iload_n 0, 1) := by decide +kernel
theorem dX10_isWeight_6 : decode cX10_isWeight 6 = .ok (.sipush 1000, 3) := by decide +kernel
theorem dX10_isWeight_9 : decode cX10_isWeight 9 = .ok (.if_icmp .gt 7, 3) := by decide +kernel
theorem dX10_isWeight_12 : decode cX10_isWeight 12 = .ok (.iconst 1, 1) := by decide +kernel
theorem dX10_isWeight_13 : decode cX10_isWeight 13 = .ok (.goto 4, 3) := by decide +kernel
theorem dX10_isWeight_16 : decode cX10_isWeight 16 = .ok (.iconst 0, 1) := by decide +kernel
theorem dX10_isWeight_17 : decode cX10_isWeight 17 = .ok (.ireturn, 1) := by decide +kernel
theorem dX10_isBox_0 : decode cX10_isBox 0 = .ok (.iload_n 1, 1) := by decide +kernel
theorem dX10_isBox_1 : decode cX10_isBox 1 = .ok (.ifCond .lt 15, 3) := by decide +kernel
theorem dX10_isBox_4 : decode cX10_isBox 4 = .ok (.iload_n 1, 1) := by decide +kernel
theorem dX10_isBox_5 : decode cX10_isBox 5 = .ok (.aload_n 0, 1) := by decide +kernel
theorem dX10_isBox_6 : decode cX10_isBox 6 = .ok (.getfield 134, 3) := by decide +kernel
theorem dX10_isBox_9 : decode cX10_isBox 9 = .ok (.if_icmp .ge 7, 3) := by decide +kernel
theorem dX10_isBox_12 : decode cX10_isBox 12 = .ok (.iconst 1, 1) := by decide +kernel
theorem dX10_isBox_13 : decode cX10_isBox 13 = .ok (.goto 4, 3) := by decide +kernel
theorem dX10_isBox_16 : decode cX10_isBox 16 = .ok (.iconst 0, 1) := by decide +kernel
theorem dX10_isBox_17 : decode cX10_isBox 17 = .ok (.ireturn, 1) := by decide +kernel
theorem dX10_polynomialOf_0 : decode cX10_polynomialOf 0 = .ok (.iload_n 1, 1) := by decide +kernel
theorem dX10_polynomialOf_1 : decode cX10_polynomialOf 1 = .ok (.ifCond .lt 20, 3) := by decide +kernel
theorem dX10_polynomialOf_4 : decode cX10_polynomialOf 4 = .ok (.iload_n 1, 1) := by decide +kernel
theorem dX10_polynomialOf_5 : decode cX10_polynomialOf 5 = .ok (.aload_n 0, 1) := by decide +kernel
theorem dX10_polynomialOf_6 : decode cX10_polynomialOf 6 = .ok (.getfield 305, 3) := by decide +kernel
theorem dX10_polynomialOf_9 : decode cX10_polynomialOf 9 = .ok (.if_icmp .ge 12, 3) := by decide +kernel
theorem dX10_polynomialOf_12 : decode cX10_polynomialOf 12 = .ok (.aload_n 0, 1) := by decide +kernel
theorem dX10_polynomialOf_13 : decode cX10_polynomialOf 13 = .ok (.getfield 19, 3) := by decide +kernel
theorem dX10_polynomialOf_16 : decode cX10_polynomialOf 16 = .ok (.iload_n 1, 1) := by decide +kernel
theorem dX10_polynomialOf_17 : decode cX10_polynomialOf 17 = .ok (.aaload, 1) := by decide +kernel
theorem dX10_polynomialOf_18 : decode cX10_polynomialOf 18 = .ok (.goto 4, 3) := by decide +kernel
theorem dX10_polynomialOf_21 : decode cX10_polynomialOf 21 = .ok (.aconst_null, 1) := by decide +kernel
theorem dX10_polynomialOf_22 : decode cX10_polynomialOf 22 = .ok (.areturn, 1) := by decide +kernel
theorem dX10_proofOf_0 : decode cX10_proofOf 0 = .ok (.iload_n 1, 1) := by decide +kernel
theorem dX10_proofOf_1 : decode cX10_proofOf 1 = .ok (.ifCond .lt 20, 3) := by decide +kernel
theorem dX10_proofOf_4 : decode cX10_proofOf 4 = .ok (.iload_n 1, 1) := by decide +kernel
theorem dX10_proofOf_5 : decode cX10_proofOf 5 = .ok (.aload_n 0, 1) := by decide +kernel
theorem dX10_proofOf_6 : decode cX10_proofOf 6 = .ok (.getfield 308, 3) := by decide +kernel
theorem dX10_proofOf_9 : decode cX10_proofOf 9 = .ok (.if_icmp .ge 12, 3) := by decide +kernel
theorem dX10_proofOf_12 : decode cX10_proofOf 12 = .ok (.aload_n 0, 1) := by decide +kernel
theorem dX10_proofOf_13 : decode cX10_proofOf 13 = .ok (.getfield 29, 3) := by decide +kernel
theorem dX10_proofOf_16 : decode cX10_proofOf 16 = .ok (.iload_n 1, 1) := by decide +kernel
theorem dX10_proofOf_17 : decode cX10_proofOf 17 = .ok (.aaload, 1) := by decide +kernel
theorem dX10_proofOf_18 : decode cX10_proofOf 18 = .ok (.goto 4, 3) := by decide +kernel
theorem dX10_proofOf_21 : decode cX10_proofOf 21 = .ok (.aconst_null, 1) := by decide +kernel
theorem dX10_proofOf_22 : decode cX10_proofOf 22 = .ok (.areturn, 1) := by decide +kernel
theorem dX10_sidesOf_0 : decode cX10_sidesOf 0 = .ok (.aload_n 0, 1) := by decide +kernel
theorem dX10_sidesOf_1 : decode cX10_sidesOf 1 = .ok (.getfield 23, 3) := by decide +kernel
theorem dX10_sidesOf_4 : decode cX10_sidesOf 4 = .ok (.iconst 4, 1) := by decide +kernel
theorem dX10_sidesOf_5 : decode cX10_sidesOf 5 = .ok (.iload_n 1, 1) := by decide +kernel
theorem dX10_sidesOf_6 : decode cX10_sidesOf 6 = .ok (.imul, 1) := by decide +kernel
theorem dX10_sidesOf_7 : decode cX10_sidesOf 7 = .ok (.iconst 4, 1) := by decide +kernel
theorem dX10_sidesOf_8 : decode cX10_sidesOf 8 = .ok (.iload_n 1, 1) := by decide +kernel
theorem dX10_sidesOf_9 : decode cX10_sidesOf 9 = .ok (.imul, 1) := by decide +kernel
theorem dX10_sidesOf_10 : decode cX10_sidesOf 10 = .ok (.iconst 4, 1) := by decide +kernel
theorem dX10_sidesOf_11 : decode cX10_sidesOf 11 = .ok (.iadd, 1) := by decide +kernel
theorem dX10_sidesOf_12 : decode cX10_sidesOf 12 = .ok (.invokestatic 311, 3) := by decide +kernel
theorem dX10_sidesOf_15 : decode cX10_sidesOf 15 = .ok (.areturn, 1) := by decide +kernel
theorem dX10_keepPolynomial_0 : decode cX10_keepPolynomial 0 = .ok (.aload_n 1, 1) := by decide +kernel
theorem dX10_keepPolynomial_1 : decode cX10_keepPolynomial 1 = .ok (.invokestatic 112, 3) := by decide +kernel
theorem dX10_keepPolynomial_4 : decode cX10_keepPolynomial 4 = .ok (.ifCond .ne 6, 3) := by decide +kernel
theorem dX10_keepPolynomial_7 : decode cX10_keepPolynomial 7 = .ok (.bipush (-2), 2) := by decide +kernel
theorem dX10_keepPolynomial_9 : decode cX10_keepPolynomial 9 = .ok (.ireturn, 1) := by decide +kernel
theorem dX10_keepPolynomial_10 : decode cX10_keepPolynomial 10 = .ok (.aload_n 0, 1) := by decide +kernel
theorem dX10_keepPolynomial_11 : decode cX10_keepPolynomial 11 = .ok (.getfield 305, 3) := by decide +kernel
theorem dX10_keepPolynomial_14 : decode cX10_keepPolynomial 14 = .ok (.bipush 30, 2) := by decide +kernel
theorem dX10_keepPolynomial_16 : decode cX10_keepPolynomial 16 = .ok (.if_icmp .lt 6, 3) := by decide +kernel
theorem dX10_keepPolynomial_19 : decode cX10_keepPolynomial 19 = .ok (.bipush (-4), 2) := by decide +kernel
theorem dX10_keepPolynomial_21 : decode cX10_keepPolynomial 21 = .ok (.ireturn, 1) := by decide +kernel
theorem dX10_keepPolynomial_22 : decode cX10_keepPolynomial 22 = .ok (.aload_n 0, 1) := by decide +kernel
theorem dX10_keepPolynomial_23 : decode cX10_keepPolynomial 23 = .ok (.getfield 19, 3) := by decide +kernel
theorem dX10_keepPolynomial_26 : decode cX10_keepPolynomial 26 = .ok (.aload_n 0, 1) := by decide +kernel
theorem dX10_keepPolynomial_27 : decode cX10_keepPolynomial 27 = .ok (.getfield 305, 3) := by decide +kernel
theorem dX10_keepPolynomial_30 : decode cX10_keepPolynomial 30 = .ok (.new 17, 3) := by decide +kernel
theorem dX10_keepPolynomial_33 : decode cX10_keepPolynomial 33 = .ok (.dup, 1) := by decide +kernel
theorem dX10_keepPolynomial_34 : decode cX10_keepPolynomial 34 = .ok (.aload_n 1, 1) := by decide +kernel
theorem dX10_keepPolynomial_35 : decode cX10_keepPolynomial 35 = .ok (.invokespecial 315, 3) := by decide +kernel
theorem dX10_keepPolynomial_38 : decode cX10_keepPolynomial 38 = .ok (.aastore, 1) := by decide +kernel
theorem dX10_keepPolynomial_39 : decode cX10_keepPolynomial 39 = .ok (.aload_n 0, 1) := by decide +kernel
theorem dX10_keepPolynomial_40 : decode cX10_keepPolynomial 40 = .ok (.dup, 1) := by decide +kernel
theorem dX10_keepPolynomial_41 : decode cX10_keepPolynomial 41 = .ok (.getfield 305, 3) := by decide +kernel
theorem dX10_keepPolynomial_44 : decode cX10_keepPolynomial 44 = .ok (.dup_x1, 1) := by decide +kernel
theorem dX10_keepPolynomial_45 : decode cX10_keepPolynomial 45 = .ok (.iconst 1, 1) := by decide +kernel
theorem dX10_keepPolynomial_46 : decode cX10_keepPolynomial 46 = .ok (.iadd, 1) := by decide +kernel
theorem dX10_keepPolynomial_47 : decode cX10_keepPolynomial 47 = .ok (.putfield 305, 3) := by decide +kernel
theorem dX10_keepPolynomial_50 : decode cX10_keepPolynomial 50 = .ok (.ireturn, 1) := by decide +kernel
theorem dX10_keepProof_0 : decode cX10_keepProof 0 = .ok (.aload_n 0, 1) := by decide +kernel
theorem dX10_keepProof_1 : decode cX10_keepProof 1 = .ok (.getfield 308, 3) := by decide +kernel
theorem dX10_keepProof_4 : decode cX10_keepProof 4 = .ok (.bipush 40, 2) := by decide +kernel
theorem dX10_keepProof_6 : decode cX10_keepProof 6 = .ok (.if_icmp .lt 6, 3) := by decide +kernel
theorem dX10_keepProof_9 : decode cX10_keepProof 9 = .ok (.bipush (-4), 2) := by decide +kernel
theorem dX10_keepProof_11 : decode cX10_keepProof 11 = .ok (.ireturn, 1) := by decide +kernel
theorem dX10_keepProof_12 : decode cX10_keepProof 12 = .ok (.aload_n 0, 1) := by decide +kernel
theorem dX10_keepProof_13 : decode cX10_keepProof 13 = .ok (.getfield 29, 3) := by decide +kernel
theorem dX10_keepProof_16 : decode cX10_keepProof 16 = .ok (.aload_n 0, 1) := by decide +kernel
theorem dX10_keepProof_17 : decode cX10_keepProof 17 = .ok (.getfield 308, 3) := by decide +kernel
theorem dX10_keepProof_20 : decode cX10_keepProof 20 = .ok (.aload_n 1, 1) := by decide +kernel
theorem dX10_keepProof_21 : decode cX10_keepProof 21 = .ok (.aastore, 1) := by decide +kernel
theorem dX10_keepProof_22 : decode cX10_keepProof 22 = .ok (.aload_n 0, 1) := by decide +kernel
theorem dX10_keepProof_23 : decode cX10_keepProof 23 = .ok (.dup, 1) := by decide +kernel
theorem dX10_keepProof_24 : decode cX10_keepProof 24 = .ok (.getfield 308, 3) := by decide +kernel
theorem dX10_keepProof_27 : decode cX10_keepProof 27 = .ok (.dup_x1, 1) := by decide +kernel
theorem dX10_keepProof_28 : decode cX10_keepProof 28 = .ok (.iconst 1, 1) := by decide +kernel
theorem dX10_keepProof_29 : decode cX10_keepProof 29 = .ok (.iadd, 1) := by decide +kernel
theorem dX10_keepProof_30 : decode cX10_keepProof 30 = .ok (.putfield 308, 3) := by decide +kernel
theorem dX10_keepProof_33 : decode cX10_keepProof 33 = .ok (.ireturn, 1) := by decide +kernel
theorem dX10_areCoefficients_0 : decode cX10_areCoefficients 0 = .ok (.iconst 0, 1) := by decide +kernel
theorem dX10_areCoefficients_1 : decode cX10_areCoefficients 1 = .ok (.istore_n 1, 1) := by decide +kernel
theorem dX10_areCoefficients_2 : decode cX10_areCoefficients 2 = .ok (.iload_n 1, 1) := by decide +kernel
theorem dX10_areCoefficients_3 : decode cX10_areCoefficients 3 = .ok (.aload_n 0, 1) := by decide +kernel
theorem dX10_areCoefficients_4 : decode cX10_areCoefficients 4 = .ok (.arraylength, 1) := by decide +kernel
theorem dX10_areCoefficients_5 : decode cX10_areCoefficients 5 = .ok (.if_icmp .ge 23, 3) := by decide +kernel
theorem dX10_areCoefficients_8 : decode cX10_areCoefficients 8 = .ok (.aload_n 0, 1) := by decide +kernel
theorem dX10_areCoefficients_9 : decode cX10_areCoefficients 9 = .ok (.iload_n 1, 1) := by decide +kernel
theorem dX10_areCoefficients_10 : decode cX10_areCoefficients 10 = .ok (.laload, 1) := by decide +kernel
theorem dX10_areCoefficients_11 : decode cX10_areCoefficients 11 = .ok (.ldc2_w 99, 3) := by decide +kernel
theorem dX10_areCoefficients_14 : decode cX10_areCoefficients 14 = .ok (.invokestatic 101, 3) := by decide +kernel
theorem dX10_areCoefficients_17 : decode cX10_areCoefficients 17 = .ok (.ifCond .ne 5, 3) := by decide +kernel
theorem dX10_areCoefficients_20 : decode cX10_areCoefficients 20 = .ok (.iconst 0, 1) := by decide +kernel
theorem dX10_areCoefficients_21 : decode cX10_areCoefficients 21 = .ok (.ireturn, 1) := by decide +kernel
theorem dX10_areCoefficients_22 : decode cX10_areCoefficients 22 = .ok (.iinc 1 1, 3) := by decide +kernel
theorem dX10_areCoefficients_25 : decode cX10_areCoefficients 25 = .ok (.goto (-23), 3) := by decide +kernel
theorem dX10_areCoefficients_28 : decode cX10_areCoefficients 28 = .ok (.iconst 1, 1) := by decide +kernel
theorem dX10_areCoefficients_29 : decode cX10_areCoefficients 29 = .ok (.ireturn, 1) := by decide +kernel
theorem dX10_isOfKind_0 : decode cX10_isOfKind 0 = .ok (.iload_n 1, 1) := by decide +kernel
theorem dX10_isOfKind_1 : decode cX10_isOfKind 1 = .ok (.tableswitch 51 0 3 #[31, 36, 41, 46], 31) := by decide +kernel
theorem dX10_isOfKind_32 : decode cX10_isOfKind 32 = .ok (.aload_n 0, 1) := by decide +kernel
theorem dX10_isOfKind_33 : decode cX10_isOfKind 33 = .ok (.instanceof 227, 3) := by decide +kernel
theorem dX10_isOfKind_36 : decode cX10_isOfKind 36 = .ok (.ireturn, 1) := by decide +kernel
theorem dX10_isOfKind_37 : decode cX10_isOfKind 37 = .ok (.aload_n 0, 1) := by decide +kernel
theorem dX10_isOfKind_38 : decode cX10_isOfKind 38 = .ok (.instanceof 242, 3) := by decide +kernel
theorem dX10_isOfKind_41 : decode cX10_isOfKind 41 = .ok (.ireturn, 1) := by decide +kernel
theorem dX10_isOfKind_42 : decode cX10_isOfKind 42 = .ok (.aload_n 0, 1) := by decide +kernel
theorem dX10_isOfKind_43 : decode cX10_isOfKind 43 = .ok (.instanceof 251, 3) := by decide +kernel
theorem dX10_isOfKind_46 : decode cX10_isOfKind 46 = .ok (.ireturn, 1) := by decide +kernel
theorem dX10_isOfKind_47 : decode cX10_isOfKind 47 = .ok (.aload_n 0, 1) := by decide +kernel
theorem dX10_isOfKind_48 : decode cX10_isOfKind 48 = .ok (.instanceof 263, 3) := by decide +kernel
theorem dX10_isOfKind_51 : decode cX10_isOfKind 51 = .ok (.ireturn, 1) := by decide +kernel
theorem dX10_isOfKind_52 : decode cX10_isOfKind 52 = .ok (.iconst 1, 1) := by decide +kernel
theorem dX10_isOfKind_53 : decode cX10_isOfKind 53 = .ok (.ireturn, 1) := by decide +kernel
theorem dX10_isOdd_0 : decode cX10_isOdd 0 = .ok (.iload_n 0, 1) := by decide +kernel
theorem dX10_isOdd_1 : decode cX10_isOdd 1 = .ok (.iconst 1, 1) := by decide +kernel
theorem dX10_isOdd_2 : decode cX10_isOdd 2 = .ok (.iand, 1) := by decide +kernel
theorem dX10_isOdd_3 : decode cX10_isOdd 3 = .ok (.ifCond .eq 7, 3) := by decide +kernel
theorem dX10_isOdd_6 : decode cX10_isOdd 6 = .ok (.iconst 1, 1) := by decide +kernel
theorem dX10_isOdd_7 : decode cX10_isOdd 7 = .ok (.goto 4, 3) := by decide +kernel
theorem dX10_isOdd_10 : decode cX10_isOdd 10 = .ok (.iconst 0, 1) := by decide +kernel
theorem dX10_isOdd_11 : decode cX10_isOdd 11 = .ok (.ireturn, 1) := by decide +kernel
theorem dX10_lengthOf_0 : decode cX10_lengthOf 0 = .ok (.aload_n 0, 1) := by decide +kernel
theorem dX10_lengthOf_1 : decode cX10_lengthOf 1 = .ok (.iload_n 1, 1) := by decide +kernel
theorem dX10_lengthOf_2 : decode cX10_lengthOf 2 = .ok (.iconst 2, 1) := by decide +kernel
theorem dX10_lengthOf_3 : decode cX10_lengthOf 3 = .ok (.iload_n 2, 1) := by decide +kernel
theorem dX10_lengthOf_4 : decode cX10_lengthOf 4 = .ok (.imul, 1) := by decide +kernel
theorem dX10_lengthOf_5 : decode cX10_lengthOf 5 = .ok (.iadd, 1) := by decide +kernel
theorem dX10_lengthOf_6 : decode cX10_lengthOf 6 = .ok (.iconst 1, 1) := by decide +kernel
theorem dX10_lengthOf_7 : decode cX10_lengthOf 7 = .ok (.iadd, 1) := by decide +kernel
theorem dX10_lengthOf_8 : decode cX10_lengthOf 8 = .ok (.iaload, 1) := by decide +kernel
theorem dX10_lengthOf_9 : decode cX10_lengthOf 9 = .ok (.aload_n 0, 1) := by decide +kernel
theorem dX10_lengthOf_10 : decode cX10_lengthOf 10 = .ok (.iload_n 1, 1) := by decide +kernel
theorem dX10_lengthOf_11 : decode cX10_lengthOf 11 = .ok (.iconst 2, 1) := by decide +kernel
theorem dX10_lengthOf_12 : decode cX10_lengthOf 12 = .ok (.iload_n 2, 1) := by decide +kernel
theorem dX10_lengthOf_13 : decode cX10_lengthOf 13 = .ok (.imul, 1) := by decide +kernel
theorem dX10_lengthOf_14 : decode cX10_lengthOf 14 = .ok (.iadd, 1) := by decide +kernel
theorem dX10_lengthOf_15 : decode cX10_lengthOf 15 = .ok (.iaload, 1) := by decide +kernel
theorem dX10_lengthOf_16 : decode cX10_lengthOf 16 = .ok (.isub, 1) := by decide +kernel
theorem dX10_lengthOf_17 : decode cX10_lengthOf 17 = .ok (.ireturn, 1) := by decide +kernel
theorem dX10_halve_0 : decode cX10_halve 0 = .ok (.aload_n 0, 1) := by decide +kernel
theorem dX10_halve_1 : decode cX10_halve 1 = .ok (.iload_n 1, 1) := by decide +kernel
theorem dX10_halve_2 : decode cX10_halve 2 = .ok (.iconst 2, 1) := by decide +kernel
theorem dX10_halve_3 : decode cX10_halve 3 = .ok (.iload_n 2, 1) := by decide +kernel
theorem dX10_halve_4 : decode cX10_halve 4 = .ok (.imul, 1) := by decide +kernel
theorem dX10_halve_5 : decode cX10_halve 5 = .ok (.iadd, 1) := by decide +kernel
theorem dX10_halve_6 : decode cX10_halve 6 = .ok (.iaload, 1) := by decide +kernel
theorem dX10_halve_7 : decode cX10_halve 7 = .ok (.aload_n 0, 1) := by decide +kernel
theorem dX10_halve_8 : decode cX10_halve 8 = .ok (.iload_n 1, 1) := by decide +kernel
theorem dX10_halve_9 : decode cX10_halve 9 = .ok (.iload_n 2, 1) := by decide +kernel
theorem dX10_halve_10 : decode cX10_halve 10 = .ok (.invokestatic 158, 3) := by decide +kernel
theorem dX10_halve_13 : decode cX10_halve 13 = .ok (.iconst 2, 1) := by decide +kernel
theorem dX10_halve_14 : decode cX10_halve 14 = .ok (.idiv, 1) := by decide +kernel
theorem dX10_halve_15 : decode cX10_halve 15 = .ok (.iadd, 1) := by decide +kernel
theorem dX10_halve_16 : decode cX10_halve 16 = .ok (.istore 5, 2) := by decide +kernel
theorem dX10_halve_18 : decode cX10_halve 18 = .ok (.aload_n 0, 1) := by decide +kernel
theorem dX10_halve_19 : decode cX10_halve 19 = .ok (.iload_n 1, 1) := by decide +kernel
theorem dX10_halve_20 : decode cX10_halve 20 = .ok (.aload_n 0, 1) := by decide +kernel
theorem dX10_halve_21 : decode cX10_halve 21 = .ok (.iload 4, 2) := by decide +kernel
theorem dX10_halve_23 : decode cX10_halve 23 = .ok (.iconst 4, 1) := by decide +kernel
theorem dX10_halve_24 : decode cX10_halve 24 = .ok (.invokestatic 85, 3) := by decide +kernel
theorem dX10_halve_27 : decode cX10_halve 27 = .ok (.aload_n 0, 1) := by decide +kernel
theorem dX10_halve_28 : decode cX10_halve 28 = .ok (.iload 4, 2) := by decide +kernel
theorem dX10_halve_30 : decode cX10_halve 30 = .ok (.iconst 2, 1) := by decide +kernel
theorem dX10_halve_31 : decode cX10_halve 31 = .ok (.iload_n 2, 1) := by decide +kernel
theorem dX10_halve_32 : decode cX10_halve 32 = .ok (.imul, 1) := by decide +kernel
theorem dX10_halve_33 : decode cX10_halve 33 = .ok (.iadd, 1) := by decide +kernel
theorem dX10_halve_34 : decode cX10_halve 34 = .ok (.iload 5, 2) := by decide +kernel
theorem dX10_halve_36 : decode cX10_halve 36 = .ok (.iastore, 1) := by decide +kernel
theorem dX10_halve_37 : decode cX10_halve 37 = .ok (.aload_n 0, 1) := by decide +kernel
theorem dX10_halve_38 : decode cX10_halve 38 = .ok (.iload_n 1, 1) := by decide +kernel
theorem dX10_halve_39 : decode cX10_halve 39 = .ok (.aload_n 0, 1) := by decide +kernel
theorem dX10_halve_40 : decode cX10_halve 40 = .ok (.iload_n 3, 1) := by decide +kernel
theorem dX10_halve_41 : decode cX10_halve 41 = .ok (.iconst 4, 1) := by decide +kernel
theorem dX10_halve_42 : decode cX10_halve 42 = .ok (.invokestatic 85, 3) := by decide +kernel
theorem dX10_halve_45 : decode cX10_halve 45 = .ok (.aload_n 0, 1) := by decide +kernel
theorem dX10_halve_46 : decode cX10_halve 46 = .ok (.iload_n 3, 1) := by decide +kernel
theorem dX10_halve_47 : decode cX10_halve 47 = .ok (.iconst 2, 1) := by decide +kernel
theorem dX10_halve_48 : decode cX10_halve 48 = .ok (.iload_n 2, 1) := by decide +kernel
theorem dX10_halve_49 : decode cX10_halve 49 = .ok (.imul, 1) := by decide +kernel
theorem dX10_halve_50 : decode cX10_halve 50 = .ok (.iadd, 1) := by decide +kernel
theorem dX10_halve_51 : decode cX10_halve 51 = .ok (.iconst 1, 1) := by decide +kernel
theorem dX10_halve_52 : decode cX10_halve 52 = .ok (.iadd, 1) := by decide +kernel
theorem dX10_halve_53 : decode cX10_halve 53 = .ok (.iload 5, 2) := by decide +kernel
theorem dX10_halve_55 : decode cX10_halve 55 = .ok (.iastore, 1) := by decide +kernel
theorem dX10_halve_56 : decode cX10_halve 56 = .ok (.return_, 1) := by decide +kernel
theorem dX10_leastOf_0 : decode cX10_leastOf 0 = .ok (.aload_n 0, 1) := by decide +kernel
theorem dX10_leastOf_1 : decode cX10_leastOf 1 = .ok (.iconst 0, 1) := by decide +kernel
theorem dX10_leastOf_2 : decode cX10_leastOf 2 = .ok (.laload, 1) := by decide +kernel
theorem dX10_leastOf_3 : decode cX10_leastOf 3 = .ok (.lstore_n 1, 1) := by decide +kernel
theorem dX10_leastOf_4 : decode cX10_leastOf 4 = .ok (.iconst 1, 1) := by decide +kernel
theorem dX10_leastOf_5 : decode cX10_leastOf 5 = .ok (.istore_n 3, 1) := by decide +kernel
theorem dX10_leastOf_6 : decode cX10_leastOf 6 = .ok (.iload_n 3, 1) := by decide +kernel
theorem dX10_leastOf_7 : decode cX10_leastOf 7 = .ok (.aload_n 0, 1) := by decide +kernel
theorem dX10_leastOf_8 : decode cX10_leastOf 8 = .ok (.arraylength, 1) := by decide +kernel
theorem dX10_leastOf_9 : decode cX10_leastOf 9 = .ok (.if_icmp .ge 17, 3) := by decide +kernel
theorem dX10_leastOf_12 : decode cX10_leastOf 12 = .ok (.lload_n 1, 1) := by decide +kernel
theorem dX10_leastOf_13 : decode cX10_leastOf 13 = .ok (.aload_n 0, 1) := by decide +kernel
theorem dX10_leastOf_14 : decode cX10_leastOf 14 = .ok (.iload_n 3, 1) := by decide +kernel
theorem dX10_leastOf_15 : decode cX10_leastOf 15 = .ok (.laload, 1) := by decide +kernel
theorem dX10_leastOf_16 : decode cX10_leastOf 16 = .ok (.invokestatic 318, 3) := by decide +kernel
theorem dX10_leastOf_19 : decode cX10_leastOf 19 = .ok (.lstore_n 1, 1) := by decide +kernel
theorem dX10_leastOf_20 : decode cX10_leastOf 20 = .ok (.iinc 3 1, 3) := by decide +kernel
theorem dX10_leastOf_23 : decode cX10_leastOf 23 = .ok (.goto (-17), 3) := by decide +kernel
theorem dX10_leastOf_26 : decode cX10_leastOf 26 = .ok (.lload_n 1, 1) := by decide +kernel
theorem dX10_leastOf_27 : decode cX10_leastOf 27 = .ok (.lreturn, 1) := by decide +kernel
theorem dX10_greatestOf_0 : decode cX10_greatestOf 0 = .ok (.aload_n 0, 1) := by decide +kernel
theorem dX10_greatestOf_1 : decode cX10_greatestOf 1 = .ok (.iconst 0, 1) := by decide +kernel
theorem dX10_greatestOf_2 : decode cX10_greatestOf 2 = .ok (.laload, 1) := by decide +kernel
theorem dX10_greatestOf_3 : decode cX10_greatestOf 3 = .ok (.lstore_n 1, 1) := by decide +kernel
theorem dX10_greatestOf_4 : decode cX10_greatestOf 4 = .ok (.iconst 1, 1) := by decide +kernel
theorem dX10_greatestOf_5 : decode cX10_greatestOf 5 = .ok (.istore_n 3, 1) := by decide +kernel
theorem dX10_greatestOf_6 : decode cX10_greatestOf 6 = .ok (.iload_n 3, 1) := by decide +kernel
theorem dX10_greatestOf_7 : decode cX10_greatestOf 7 = .ok (.aload_n 0, 1) := by decide +kernel
theorem dX10_greatestOf_8 : decode cX10_greatestOf 8 = .ok (.arraylength, 1) := by decide +kernel
theorem dX10_greatestOf_9 : decode cX10_greatestOf 9 = .ok (.if_icmp .ge 17, 3) := by decide +kernel
theorem dX10_greatestOf_12 : decode cX10_greatestOf 12 = .ok (.lload_n 1, 1) := by decide +kernel
theorem dX10_greatestOf_13 : decode cX10_greatestOf 13 = .ok (.aload_n 0, 1) := by decide +kernel
theorem dX10_greatestOf_14 : decode cX10_greatestOf 14 = .ok (.iload_n 3, 1) := by decide +kernel
theorem dX10_greatestOf_15 : decode cX10_greatestOf 15 = .ok (.laload, 1) := by decide +kernel
theorem dX10_greatestOf_16 : decode cX10_greatestOf 16 = .ok (.invokestatic 324, 3) := by decide +kernel
theorem dX10_greatestOf_19 : decode cX10_greatestOf 19 = .ok (.lstore_n 1, 1) := by decide +kernel
theorem dX10_greatestOf_20 : decode cX10_greatestOf 20 = .ok (.iinc 3 1, 3) := by decide +kernel
theorem dX10_greatestOf_23 : decode cX10_greatestOf 23 = .ok (.goto (-17), 3) := by decide +kernel
theorem dX10_greatestOf_26 : decode cX10_greatestOf 26 = .ok (.lload_n 1, 1) := by decide +kernel
theorem dX10_greatestOf_27 : decode cX10_greatestOf 27 = .ok (.lreturn, 1) := by decide +kernel
theorem dX11_init_0 : decode cX11_init 0 = .ok (.aload_n 0, 1) := by decide +kernel
theorem dX11_init_1 : decode cX11_init 1 = .ok (.invokespecial 1, 3) := by decide +kernel
theorem dX11_init_4 : decode cX11_init 4 = .ok (.aload_n 0, 1) := by decide +kernel
theorem dX11_init_5 : decode cX11_init 5 = .ok (.iconst 4, 1) := by decide +kernel
theorem dX11_init_6 : decode cX11_init 6 = .ok (.newarray .int, 2) := by decide +kernel
theorem dX11_init_8 : decode cX11_init 8 = .ok (.dup, 1) := by decide +kernel
theorem dX11_init_9 : decode cX11_init 9 = .ok (.iconst 0, 1) := by decide +kernel
theorem dX11_init_10 : decode cX11_init 10 = .ok (.bipush (-9), 2) := by decide +kernel
theorem dX11_init_12 : decode cX11_init 12 = .ok (.iastore, 1) := by decide +kernel
theorem dX11_init_13 : decode cX11_init 13 = .ok (.dup, 1) := by decide +kernel
theorem dX11_init_14 : decode cX11_init 14 = .ok (.iconst 1, 1) := by decide +kernel
theorem dX11_init_15 : decode cX11_init 15 = .ok (.bipush (-9), 2) := by decide +kernel
theorem dX11_init_17 : decode cX11_init 17 = .ok (.iastore, 1) := by decide +kernel
theorem dX11_init_18 : decode cX11_init 18 = .ok (.dup, 1) := by decide +kernel
theorem dX11_init_19 : decode cX11_init 19 = .ok (.iconst 2, 1) := by decide +kernel
theorem dX11_init_20 : decode cX11_init 20 = .ok (.bipush (-9), 2) := by decide +kernel
theorem dX11_init_22 : decode cX11_init 22 = .ok (.iastore, 1) := by decide +kernel
theorem dX11_init_23 : decode cX11_init 23 = .ok (.dup, 1) := by decide +kernel
theorem dX11_init_24 : decode cX11_init 24 = .ok (.iconst 3, 1) := by decide +kernel
theorem dX11_init_25 : decode cX11_init 25 = .ok (.bipush (-9), 2) := by decide +kernel
theorem dX11_init_27 : decode cX11_init 27 = .ok (.iastore, 1) := by decide +kernel
theorem dX11_init_28 : decode cX11_init 28 = .ok (.putfield 9, 3) := by decide +kernel
theorem dX11_init_31 : decode cX11_init 31 = .ok (.aload_n 0, 1) := by decide +kernel
theorem dX11_init_32 : decode cX11_init 32 = .ok (.iconst 4, 1) := by decide +kernel
theorem dX11_init_33 : decode cX11_init 33 = .ok (.newarray .int, 2) := by decide +kernel
theorem dX11_init_35 : decode cX11_init 35 = .ok (.putfield 13, 3) := by decide +kernel
theorem dX11_init_38 : decode cX11_init 38 = .ok (.aload_n 0, 1) := by decide +kernel
theorem dX11_init_39 : decode cX11_init 39 = .ok (.bipush 120, 2) := by decide +kernel
theorem dX11_init_41 : decode cX11_init 41 = .ok (.newarray .long, 2) := by decide +kernel
theorem dX11_init_43 : decode cX11_init 43 = .ok (.putfield 16, 3) := by decide +kernel
theorem dX11_init_46 : decode cX11_init 46 = .ok (.aload_n 0, 1) := by decide +kernel
theorem dX11_init_47 : decode cX11_init 47 = .ok (.sipush 270, 3) := by decide +kernel
theorem dX11_init_50 : decode cX11_init 50 = .ok (.newarray .long, 2) := by decide +kernel
theorem dX11_init_52 : decode cX11_init 52 = .ok (.putfield 20, 3) := by decide +kernel
theorem dX11_init_55 : decode cX11_init 55 = .ok (.aload_n 0, 1) := by decide +kernel
theorem dX11_init_56 : decode cX11_init 56 = .ok (.bipush 25, 2) := by decide +kernel
theorem dX11_init_58 : decode cX11_init 58 = .ok (.newarray .long, 2) := by decide +kernel
theorem dX11_init_60 : decode cX11_init 60 = .ok (.putfield 23, 3) := by decide +kernel
theorem dX11_init_63 : decode cX11_init 63 = .ok (.aload_n 0, 1) := by decide +kernel
theorem dX11_init_64 : decode cX11_init 64 = .ok (.bipush 120, 2) := by decide +kernel
theorem dX11_init_66 : decode cX11_init 66 = .ok (.newarray .int, 2) := by decide +kernel
theorem dX11_init_68 : decode cX11_init 68 = .ok (.putfield 26, 3) := by decide +kernel
theorem dX11_init_71 : decode cX11_init 71 = .ok (.aload_n 0, 1) := by decide +kernel
theorem dX11_init_72 : decode cX11_init 72 = .ok (.sipush 164, 3) := by decide +kernel
theorem dX11_init_75 : decode cX11_init 75 = .ok (.newarray .int, 2) := by decide +kernel
theorem dX11_init_77 : decode cX11_init 77 = .ok (.putfield 29, 3) := by decide +kernel
theorem dX11_init_80 : decode cX11_init 80 = .ok (.aload_n 0, 1) := by decide +kernel
theorem dX11_init_81 : decode cX11_init 81 = .ok (.bipush 41, 2) := by decide +kernel
theorem dX11_init_83 : decode cX11_init 83 = .ok (.newarray .int, 2) := by decide +kernel
theorem dX11_init_85 : decode cX11_init 85 = .ok (.putfield 32, 3) := by decide +kernel
theorem dX11_init_88 : decode cX11_init 88 = .ok (.aload_n 0, 1) := by decide +kernel
theorem dX11_init_89 : decode cX11_init 89 = .ok (.bipush 9, 2) := by decide +kernel
theorem dX11_init_91 : decode cX11_init 91 = .ok (.newarray .long, 2) := by decide +kernel
theorem dX11_init_93 : decode cX11_init 93 = .ok (.putfield 35, 3) := by decide +kernel
theorem dX11_init_96 : decode cX11_init 96 = .ok (.aload_n 0, 1) := by decide +kernel
theorem dX11_init_97 : decode cX11_init 97 = .ok (.bipush 20, 2) := by decide +kernel
theorem dX11_init_99 : decode cX11_init 99 = .ok (.newarray .long, 2) := by decide +kernel
theorem dX11_init_101 : decode cX11_init 101 = .ok (.putfield 38, 3) := by decide +kernel
theorem dX11_init_104 : decode cX11_init 104 = .ok (.aload_n 0, 1) := by decide +kernel
theorem dX11_init_105 : decode cX11_init 105 = .ok (.bipush 40, 2) := by decide +kernel
theorem dX11_init_107 : decode cX11_init 107 = .ok (.newarray .int, 2) := by decide +kernel
theorem dX11_init_109 : decode cX11_init 109 = .ok (.putfield 41, 3) := by decide +kernel
theorem dX11_init_112 : decode cX11_init 112 = .ok (.aload_n 0, 1) := by decide +kernel
theorem dX11_init_113 : decode cX11_init 113 = .ok (.bipush 40, 2) := by decide +kernel
theorem dX11_init_115 : decode cX11_init 115 = .ok (.newarray .int, 2) := by decide +kernel
theorem dX11_init_117 : decode cX11_init 117 = .ok (.putfield 44, 3) := by decide +kernel
theorem dX11_init_120 : decode cX11_init 120 = .ok (.aload_n 0, 1) := by decide +kernel
theorem dX11_init_121 : decode cX11_init 121 = .ok (.bipush 40, 2) := by decide +kernel
theorem dX11_init_123 : decode cX11_init 123 = .ok (.newarray .int, 2) := by decide +kernel
theorem dX11_init_125 : decode cX11_init 125 = .ok (.putfield 47, 3) := by decide +kernel
theorem dX11_init_128 : decode cX11_init 128 = .ok (.aload_n 0, 1) := by decide +kernel
theorem dX11_init_129 : decode cX11_init 129 = .ok (.bipush 40, 2) := by decide +kernel
theorem dX11_init_131 : decode cX11_init 131 = .ok (.newarray .int, 2) := by decide +kernel
theorem dX11_init_133 : decode cX11_init 133 = .ok (.putfield 50, 3) := by decide +kernel
theorem dX11_init_136 : decode cX11_init 136 = .ok (.aload_n 0, 1) := by decide +kernel
theorem dX11_init_137 : decode cX11_init 137 = .ok (.sipush 6400, 3) := by decide +kernel
theorem dX11_init_140 : decode cX11_init 140 = .ok (.newarray .long, 2) := by decide +kernel
theorem dX11_init_142 : decode cX11_init 142 = .ok (.putfield 53, 3) := by decide +kernel
theorem dX11_init_145 : decode cX11_init 145 = .ok (.aload_n 0, 1) := by decide +kernel
theorem dX11_init_146 : decode cX11_init 146 = .ok (.bipush 24, 2) := by decide +kernel
theorem dX11_init_148 : decode cX11_init 148 = .ok (.newarray .long, 2) := by decide +kernel
theorem dX11_init_150 : decode cX11_init 150 = .ok (.putfield 56, 3) := by decide +kernel
theorem dX11_init_153 : decode cX11_init 153 = .ok (.aload_n 0, 1) := by decide +kernel
theorem dX11_init_154 : decode cX11_init 154 = .ok (.bipush 24, 2) := by decide +kernel
theorem dX11_init_156 : decode cX11_init 156 = .ok (.newarray .long, 2) := by decide +kernel
theorem dX11_init_158 : decode cX11_init 158 = .ok (.putfield 59, 3) := by decide +kernel
theorem dX11_init_161 : decode cX11_init 161 = .ok (.aload_n 0, 1) := by decide +kernel
theorem dX11_init_162 : decode cX11_init 162 = .ok (.bipush 24, 2) := by decide +kernel
theorem dX11_init_164 : decode cX11_init 164 = .ok (.newarray .long, 2) := by decide +kernel
theorem dX11_init_166 : decode cX11_init 166 = .ok (.putfield 62, 3) := by decide +kernel
theorem dX11_init_169 : decode cX11_init 169 = .ok (.aload_n 0, 1) := by decide +kernel
theorem dX11_init_170 : decode cX11_init 170 = .ok (.bipush 24, 2) := by decide +kernel
theorem dX11_init_172 : decode cX11_init 172 = .ok (.newarray .long, 2) := by decide +kernel
theorem dX11_init_174 : decode cX11_init 174 = .ok (.putfield 65, 3) := by decide +kernel
theorem dX11_init_177 : decode cX11_init 177 = .ok (.aload_n 0, 1) := by decide +kernel
theorem dX11_init_178 : decode cX11_init 178 = .ok (.sipush 164, 3) := by decide +kernel
theorem dX11_init_181 : decode cX11_init 181 = .ok (.newarray .int, 2) := by decide +kernel
theorem dX11_init_183 : decode cX11_init 183 = .ok (.putfield 68, 3) := by decide +kernel
theorem dX11_init_186 : decode cX11_init 186 = .ok (.aload_n 0, 1) := by decide +kernel
theorem dX11_init_187 : decode cX11_init 187 = .ok (.bipush 41, 2) := by decide +kernel
theorem dX11_init_189 : decode cX11_init 189 = .ok (.newarray .int, 2) := by decide +kernel
theorem dX11_init_191 : decode cX11_init 191 = .ok (.putfield 71, 3) := by decide +kernel
theorem dX11_init_194 : decode cX11_init 194 = .ok (.return_, 1) := by decide +kernel
theorem dX11_fails_0 : decode cX11_fails 0 = .ok (.aload_n 0, 1) := by decide +kernel
theorem dX11_fails_1 : decode cX11_fails 1 = .ok (.iload_n 1, 1) := by decide +kernel
theorem dX11_fails_2 : decode cX11_fails 2 = .ok (.putfield 74, 3) := by decide +kernel
theorem dX11_fails_5 : decode cX11_fails 5 = .ok (.bipush (-10), 2) := by decide +kernel
theorem dX11_fails_7 : decode cX11_fails 7 = .ok (.iload_n 1, 1) := by decide +kernel
theorem dX11_fails_8 : decode cX11_fails 8 = .ok (.isub, 1) := by decide +kernel
theorem dX11_fails_9 : decode cX11_fails 9 = .ok (.ireturn, 1) := by decide +kernel
theorem dX11_lost_0 : decode cX11_lost 0 = .ok (.aload_n 0, 1) := by decide +kernel
theorem dX11_lost_1 : decode cX11_lost 1 = .ok (.iload_n 1, 1) := by decide +kernel
theorem dX11_lost_2 : decode cX11_lost 2 = .ok (.putfield 74, 3) := by decide +kernel
theorem dX11_lost_5 : decode cX11_lost 5 = .ok (.ldc2_w 78, 3) := by decide +kernel
theorem dX11_lost_8 : decode cX11_lost 8 = .ok (.lreturn, 1) := by decide +kernel
theorem dX11_within_0 : decode cX11_within 0 = .ok (.lload_n 0, 1) := by decide +kernel
theorem dX11_within_1 : decode cX11_within 1 = .ok (.lload_n 2, 1) := by decide +kernel
theorem dX11_within_2 : decode cX11_within 2 = .ok (.lcmp, 1) := by decide +kernel
theorem dX11_within_3 : decode cX11_within 3 = .ok (.ifCond .lt 14, 3) := by decide +kernel
theorem dX11_within_6 : decode cX11_within 6 = .ok (.lload_n 0, 1) := by decide +kernel
theorem dX11_within_7 : decode cX11_within 7 = .ok (.lload 4, 2) := by decide +kernel
theorem dX11_within_9 : decode cX11_within 9 = .ok (.lcmp, 1) := by decide +kernel
theorem dX11_within_10 : decode cX11_within 10 = .ok (.ifCond .gt 7, 3) := by decide +kernel
theorem dX11_within_13 : decode cX11_within 13 = .ok (.iconst 1, 1) := by decide +kernel
theorem dX11_within_14 : decode cX11_within 14 = .ok (.goto 4, 3) := by decide +kernel
theorem dX11_within_17 : decode cX11_within 17 = .ok (.iconst 0, 1) := by decide +kernel
theorem dX11_within_18 : decode cX11_within 18 = .ok (.ireturn, 1) := by decide +kernel
theorem dX11_sheet_0 : decode cX11_sheet 0 = .ok (.aload_n 0, 1) := by decide +kernel
theorem dX11_sheet_1 : decode cX11_sheet 1 = .ok (.iconst 0, 1) := by decide +kernel
theorem dX11_sheet_2 : decode cX11_sheet 2 = .ok (.putfield 74, 3) := by decide +kernel
theorem dX11_sheet_5 : decode cX11_sheet 5 = .ok (.iload_n 1, 1) := by decide +kernel
theorem dX11_sheet_6 : decode cX11_sheet 6 = .ok (.i2l, 1) := by decide +kernel
theorem dX11_sheet_7 : decode cX11_sheet 7 = .ok (.lconst 0, 1) := by decide +kernel
theorem dX11_sheet_8 : decode cX11_sheet 8 = .ok (.ldc2_w 80, 3) := by decide +kernel
theorem dX11_sheet_11 : decode cX11_sheet 11 = .ok (.invokestatic 82, 3) := by decide +kernel
theorem dX11_sheet_14 : decode cX11_sheet 14 = .ok (.ifCond .ne 5, 3) := by decide +kernel
theorem dX11_sheet_17 : decode cX11_sheet 17 = .ok (.iconst (-1), 1) := by decide +kernel
theorem dX11_sheet_18 : decode cX11_sheet 18 = .ok (.ireturn, 1) := by decide +kernel
theorem dX11_sheet_19 : decode cX11_sheet 19 = .ok (.iload_n 2, 1) := by decide +kernel
theorem dX11_sheet_20 : decode cX11_sheet 20 = .ok (.i2l, 1) := by decide +kernel
theorem dX11_sheet_21 : decode cX11_sheet 21 = .ok (.lconst 0, 1) := by decide +kernel
theorem dX11_sheet_22 : decode cX11_sheet 22 = .ok (.ldc2_w 86, 3) := by decide +kernel
theorem dX11_sheet_25 : decode cX11_sheet 25 = .ok (.invokestatic 82, 3) := by decide +kernel
theorem dX11_sheet_28 : decode cX11_sheet 28 = .ok (.ifCond .eq 9, 3) := by decide +kernel
theorem dX11_sheet_31 : decode cX11_sheet 31 = .ok (.iload_n 3, 1) := by decide +kernel
theorem dX11_sheet_32 : decode cX11_sheet 32 = .ok (.bipush 30, 2) := by decide +kernel
theorem dX11_sheet_34 : decode cX11_sheet 34 = .ok (.if_icmp .le 6, 3) := by decide +kernel
theorem dX11_sheet_37 : decode cX11_sheet 37 = .ok (.bipush (-2), 2) := by decide +kernel
theorem dX11_sheet_39 : decode cX11_sheet 39 = .ok (.ireturn, 1) := by decide +kernel
theorem dX11_sheet_40 : decode cX11_sheet 40 = .ok (.iload_n 3, 1) := by decide +kernel
theorem dX11_sheet_41 : decode cX11_sheet 41 = .ok (.ifCond .ge 9, 3) := by decide +kernel
theorem dX11_sheet_44 : decode cX11_sheet 44 = .ok (.aload_n 0, 1) := by decide +kernel
theorem dX11_sheet_45 : decode cX11_sheet 45 = .ok (.iconst 4, 1) := by decide +kernel
theorem dX11_sheet_46 : decode cX11_sheet 46 = .ok (.invokevirtual 88, 3) := by decide +kernel
theorem dX11_sheet_49 : decode cX11_sheet 49 = .ok (.ireturn, 1) := by decide +kernel
theorem dX11_sheet_50 : decode cX11_sheet 50 = .ok (.aload_n 0, 1) := by decide +kernel
theorem dX11_sheet_51 : decode cX11_sheet 51 = .ok (.getfield 9, 3) := by decide +kernel
theorem dX11_sheet_54 : decode cX11_sheet 54 = .ok (.iload_n 1, 1) := by decide +kernel
theorem dX11_sheet_55 : decode cX11_sheet 55 = .ok (.iload_n 2, 1) := by decide +kernel
theorem dX11_sheet_56 : decode cX11_sheet 56 = .ok (.iastore, 1) := by decide +kernel
theorem dX11_sheet_57 : decode cX11_sheet 57 = .ok (.aload_n 0, 1) := by decide +kernel
theorem dX11_sheet_58 : decode cX11_sheet 58 = .ok (.getfield 13, 3) := by decide +kernel
theorem dX11_sheet_61 : decode cX11_sheet 61 = .ok (.iload_n 1, 1) := by decide +kernel
theorem dX11_sheet_62 : decode cX11_sheet 62 = .ok (.iload_n 3, 1) := by decide +kernel
theorem dX11_sheet_63 : decode cX11_sheet 63 = .ok (.iastore, 1) := by decide +kernel
theorem dX11_sheet_64 : decode cX11_sheet 64 = .ok (.iconst 0, 1) := by decide +kernel
theorem dX11_sheet_65 : decode cX11_sheet 65 = .ok (.istore 4, 2) := by decide +kernel
theorem dX11_sheet_67 : decode cX11_sheet 67 = .ok (.iload 4, 2) := by decide +kernel
theorem dX11_sheet_69 : decode cX11_sheet 69 = .ok (.bipush 30, 2) := by decide +kernel
theorem dX11_sheet_71 : decode cX11_sheet 71 = .ok (.if_icmp .ge 22, 3) := by decide +kernel
theorem dX11_sheet_74 : decode cX11_sheet 74 = .ok (.aload_n 0, 1) := by decide +kernel
theorem dX11_sheet_75 : decode cX11_sheet 75 = .ok (.getfield 16, 3) := by decide +kernel
theorem dX11_sheet_78 : decode cX11_sheet 78 = .ok (.bipush 30, 2) := by decide +kernel
theorem dX11_sheet_80 : decode cX11_sheet 80 = .ok (.iload_n 1, 1) := by decide +kernel
theorem dX11_sheet_81 : decode cX11_sheet 81 = .ok (.imul, 1) := by decide +kernel
theorem dX11_sheet_82 : decode cX11_sheet 82 = .ok (.iload 4, 2) := by decide +kernel
theorem dX11_sheet_84 : decode cX11_sheet 84 = .ok (.iadd, 1) := by decide +kernel
theorem dX11_sheet_85 : decode cX11_sheet 85 = .ok (.lconst 0, 1) := by decide +kernel
theorem dX11_sheet_86 : decode cX11_sheet 86 = .ok (.lastore, 1) := by decide +kernel
theorem dX11_sheet_87 : decode cX11_sheet 87 = .ok (.iinc 4 1, 3) := by decide +kernel
theorem dX11_sheet_90 : decode cX11_sheet 90 = .ok (.goto (-23), 3) := by decide +kernel
theorem dX11_sheet_93 : decode cX11_sheet 93 = .ok (.iconst 1, 1) := by decide +kernel
theorem dX11_sheet_94 : decode cX11_sheet 94 = .ok (.ireturn, 1) := by decide +kernel
theorem dX11_lose_0 : decode cX11_lose 0 = .ok (.iload_n 1, 1) := by decide +kernel
theorem dX11_lose_1 : decode cX11_lose 1 = .ok (.i2l, 1) := by decide +kernel
theorem dX11_lose_2 : decode cX11_lose 2 = .ok (.lconst 0, 1) := by decide +kernel
theorem dX11_lose_3 : decode cX11_lose 3 = .ok (.ldc2_w 80, 3) := by decide +kernel
theorem dX11_lose_6 : decode cX11_lose 6 = .ok (.invokestatic 82, 3) := by decide +kernel
theorem dX11_lose_9 : decode cX11_lose 9 = .ok (.ifCond .ne 5, 3) := by decide +kernel
theorem dX11_lose_12 : decode cX11_lose 12 = .ok (.iconst (-1), 1) := by decide +kernel
theorem dX11_lose_13 : decode cX11_lose 13 = .ok (.ireturn, 1) := by decide +kernel
theorem dX11_lose_14 : decode cX11_lose 14 = .ok (.aload_n 0, 1) := by decide +kernel
theorem dX11_lose_15 : decode cX11_lose 15 = .ok (.getfield 9, 3) := by decide +kernel
theorem dX11_lose_18 : decode cX11_lose 18 = .ok (.iload_n 1, 1) := by decide +kernel
theorem dX11_lose_19 : decode cX11_lose 19 = .ok (.iaload, 1) := by decide +kernel
theorem dX11_lose_20 : decode cX11_lose 20 = .ok (.bipush (-9), 2) := by decide +kernel
theorem dX11_lose_22 : decode cX11_lose 22 = .ok (.if_icmp .ne 7, 3) := by decide +kernel
theorem dX11_lose_25 : decode cX11_lose 25 = .ok (.iconst 0, 1) := by decide +kernel
theorem dX11_lose_26 : decode cX11_lose 26 = .ok (.goto 4, 3) := by decide +kernel
theorem dX11_lose_29 : decode cX11_lose 29 = .ok (.iconst 1, 1) := by decide +kernel
theorem dX11_lose_30 : decode cX11_lose 30 = .ok (.istore_n 2, 1) := by decide +kernel
theorem dX11_lose_31 : decode cX11_lose 31 = .ok (.aload_n 0, 1) := by decide +kernel
theorem dX11_lose_32 : decode cX11_lose 32 = .ok (.getfield 9, 3) := by decide +kernel
theorem dX11_lose_35 : decode cX11_lose 35 = .ok (.iload_n 1, 1) := by decide +kernel
theorem dX11_lose_36 : decode cX11_lose 36 = .ok (.bipush (-9), 2) := by decide +kernel
theorem dX11_lose_38 : decode cX11_lose 38 = .ok (.iastore, 1) := by decide +kernel
theorem dX11_lose_39 : decode cX11_lose 39 = .ok (.iload_n 2, 1) := by decide +kernel
theorem dX11_lose_40 : decode cX11_lose 40 = .ok (.ireturn, 1) := by decide +kernel
theorem dX11_put_0 : decode cX11_put 0 = .ok (.aload_n 0, 1) := by decide +kernel
theorem dX11_put_1 : decode cX11_put 1 = .ok (.iconst 0, 1) := by decide +kernel
theorem dX11_put_2 : decode cX11_put 2 = .ok (.putfield 74, 3) := by decide +kernel
theorem dX11_put_5 : decode cX11_put 5 = .ok (.iload_n 1, 1) := by decide +kernel
theorem dX11_put_6 : decode cX11_put 6 = .ok (.i2l, 1) := by decide +kernel
theorem dX11_put_7 : decode cX11_put 7 = .ok (.lconst 0, 1) := by decide +kernel
theorem dX11_put_8 : decode cX11_put 8 = .ok (.ldc2_w 80, 3) := by decide +kernel
theorem dX11_put_11 : decode cX11_put 11 = .ok (.invokestatic 82, 3) := by decide +kernel
theorem dX11_put_14 : decode cX11_put 14 = .ok (.ifCond .ne 5, 3) := by decide +kernel
theorem dX11_put_17 : decode cX11_put 17 = .ok (.iconst (-1), 1) := by decide +kernel
theorem dX11_put_18 : decode cX11_put 18 = .ok (.ireturn, 1) := by decide +kernel
theorem dX11_put_19 : decode cX11_put 19 = .ok (.aload_n 0, 1) := by decide +kernel
theorem dX11_put_20 : decode cX11_put 20 = .ok (.getfield 9, 3) := by decide +kernel
theorem dX11_put_23 : decode cX11_put 23 = .ok (.iload_n 1, 1) := by decide +kernel
theorem dX11_put_24 : decode cX11_put 24 = .ok (.iaload, 1) := by decide +kernel
theorem dX11_put_25 : decode cX11_put 25 = .ok (.bipush (-9), 2) := by decide +kernel
theorem dX11_put_27 : decode cX11_put 27 = .ok (.if_icmp .ne 9, 3) := by decide +kernel
theorem dX11_put_30 : decode cX11_put 30 = .ok (.aload_n 0, 1) := by decide +kernel
theorem dX11_put_31 : decode cX11_put 31 = .ok (.iconst 1, 1) := by decide +kernel
theorem dX11_put_32 : decode cX11_put 32 = .ok (.invokevirtual 88, 3) := by decide +kernel
theorem dX11_put_35 : decode cX11_put 35 = .ok (.ireturn, 1) := by decide +kernel
theorem dX11_put_36 : decode cX11_put 36 = .ok (.iload_n 2, 1) := by decide +kernel
theorem dX11_put_37 : decode cX11_put 37 = .ok (.i2l, 1) := by decide +kernel
theorem dX11_put_38 : decode cX11_put 38 = .ok (.lconst 0, 1) := by decide +kernel
theorem dX11_put_39 : decode cX11_put 39 = .ok (.aload_n 0, 1) := by decide +kernel
theorem dX11_put_40 : decode cX11_put 40 = .ok (.getfield 13, 3) := by decide +kernel
theorem dX11_put_43 : decode cX11_put 43 = .ok (.iload_n 1, 1) := by decide +kernel
theorem dX11_put_44 : decode cX11_put 44 = .ok (.iaload, 1) := by decide +kernel
theorem dX11_put_45 : decode cX11_put 45 = .ok (.i2l, 1) := by decide +kernel
theorem dX11_put_46 : decode cX11_put 46 = .ok (.lconst 1, 1) := by decide +kernel
theorem dX11_put_47 : decode cX11_put 47 = .ok (.lsub, 1) := by decide +kernel
theorem dX11_put_48 : decode cX11_put 48 = .ok (.invokestatic 82, 3) := by decide +kernel
theorem dX11_put_51 : decode cX11_put 51 = .ok (.ifCond .ne 9, 3) := by decide +kernel
theorem dX11_put_54 : decode cX11_put 54 = .ok (.aload_n 0, 1) := by decide +kernel
theorem dX11_put_55 : decode cX11_put 55 = .ok (.iconst 3, 1) := by decide +kernel
theorem dX11_put_56 : decode cX11_put 56 = .ok (.invokevirtual 88, 3) := by decide +kernel
theorem dX11_put_59 : decode cX11_put 59 = .ok (.ireturn, 1) := by decide +kernel
theorem dX11_put_60 : decode cX11_put 60 = .ok (.aload_n 0, 1) := by decide +kernel
theorem dX11_put_61 : decode cX11_put 61 = .ok (.getfield 16, 3) := by decide +kernel
theorem dX11_put_64 : decode cX11_put 64 = .ok (.bipush 30, 2) := by decide +kernel
theorem dX11_put_66 : decode cX11_put 66 = .ok (.iload_n 1, 1) := by decide +kernel
theorem dX11_put_67 : decode cX11_put 67 = .ok (.imul, 1) := by decide +kernel
theorem dX11_put_68 : decode cX11_put 68 = .ok (.iload_n 2, 1) := by decide +kernel
theorem dX11_put_69 : decode cX11_put 69 = .ok (.iadd, 1) := by decide +kernel
theorem dX11_put_70 : decode cX11_put 70 = .ok (.aload_n 0, 1) := by decide +kernel
theorem dX11_put_71 : decode cX11_put 71 = .ok (.getfield 9, 3) := by decide +kernel
theorem dX11_put_74 : decode cX11_put 74 = .ok (.iload_n 1, 1) := by decide +kernel
theorem dX11_put_75 : decode cX11_put 75 = .ok (.iaload, 1) := by decide +kernel
theorem dX11_put_76 : decode cX11_put 76 = .ok (.ifCond .ne 10, 3) := by decide +kernel
theorem dX11_put_79 : decode cX11_put 79 = .ok (.lload_n 3, 1) := by decide +kernel
theorem dX11_put_80 : decode cX11_put 80 = .ok (.l2i, 1) := by decide +kernel
theorem dX11_put_81 : decode cX11_put 81 = .ok (.i2b, 1) := by decide +kernel
theorem dX11_put_82 : decode cX11_put 82 = .ok (.i2l, 1) := by decide +kernel
theorem dX11_put_83 : decode cX11_put 83 = .ok (.goto 20, 3) := by decide +kernel
theorem dX11_put_86 : decode cX11_put 86 = .ok (.aload_n 0, 1) := by decide +kernel
theorem dX11_put_87 : decode cX11_put 87 = .ok (.getfield 9, 3) := by decide +kernel
theorem dX11_put_90 : decode cX11_put 90 = .ok (.iload_n 1, 1) := by decide +kernel
theorem dX11_put_91 : decode cX11_put 91 = .ok (.iaload, 1) := by decide +kernel
theorem dX11_put_92 : decode cX11_put 92 = .ok (.iconst 1, 1) := by decide +kernel
theorem dX11_put_93 : decode cX11_put 93 = .ok (.if_icmp .ne 9, 3) := by decide +kernel
theorem dX11_put_96 : decode cX11_put 96 = .ok (.lload_n 3, 1) := by decide +kernel
theorem dX11_put_97 : decode cX11_put 97 = .ok (.l2i, 1) := by decide +kernel
theorem dX11_put_98 : decode cX11_put 98 = .ok (.i2l, 1) := by decide +kernel
theorem dX11_put_99 : decode cX11_put 99 = .ok (.goto 4, 3) := by decide +kernel
theorem dX11_put_102 : decode cX11_put 102 = .ok (.lload_n 3, 1) := by decide +kernel
theorem dX11_put_103 : decode cX11_put 103 = .ok (.lastore, 1) := by decide +kernel
theorem dX11_put_104 : decode cX11_put 104 = .ok (.iconst 1, 1) := by decide +kernel
theorem dX11_put_105 : decode cX11_put 105 = .ok (.ireturn, 1) := by decide +kernel
theorem dX11_at_0 : decode cX11_at 0 = .ok (.aload_n 0, 1) := by decide +kernel
theorem dX11_at_1 : decode cX11_at 1 = .ok (.iconst 0, 1) := by decide +kernel
theorem dX11_at_2 : decode cX11_at 2 = .ok (.putfield 74, 3) := by decide +kernel
theorem dX11_at_5 : decode cX11_at 5 = .ok (.iload_n 1, 1) := by decide +kernel
theorem dX11_at_6 : decode cX11_at 6 = .ok (.i2l, 1) := by decide +kernel
theorem dX11_at_7 : decode cX11_at 7 = .ok (.lconst 0, 1) := by decide +kernel
theorem dX11_at_8 : decode cX11_at 8 = .ok (.ldc2_w 80, 3) := by decide +kernel
theorem dX11_at_11 : decode cX11_at 11 = .ok (.invokestatic 82, 3) := by decide +kernel
theorem dX11_at_14 : decode cX11_at 14 = .ok (.ifCond .eq 15, 3) := by decide +kernel
theorem dX11_at_17 : decode cX11_at 17 = .ok (.iload_n 3, 1) := by decide +kernel
theorem dX11_at_18 : decode cX11_at 18 = .ok (.i2l, 1) := by decide +kernel
theorem dX11_at_19 : decode cX11_at 19 = .ok (.lconst 0, 1) := by decide +kernel
theorem dX11_at_20 : decode cX11_at 20 = .ok (.ldc2_w 86, 3) := by decide +kernel
theorem dX11_at_23 : decode cX11_at 23 = .ok (.invokestatic 82, 3) := by decide +kernel
theorem dX11_at_26 : decode cX11_at 26 = .ok (.ifCond .ne 7, 3) := by decide +kernel
theorem dX11_at_29 : decode cX11_at 29 = .ok (.ldc2_w 78, 3) := by decide +kernel
theorem dX11_at_32 : decode cX11_at 32 = .ok (.lreturn, 1) := by decide +kernel
theorem dX11_at_33 : decode cX11_at 33 = .ok (.aload_n 0, 1) := by decide +kernel
theorem dX11_at_34 : decode cX11_at 34 = .ok (.getfield 9, 3) := by decide +kernel
theorem dX11_at_37 : decode cX11_at 37 = .ok (.iload_n 1, 1) := by decide +kernel
theorem dX11_at_38 : decode cX11_at 38 = .ok (.iaload, 1) := by decide +kernel
theorem dX11_at_39 : decode cX11_at 39 = .ok (.bipush (-9), 2) := by decide +kernel
theorem dX11_at_41 : decode cX11_at 41 = .ok (.if_icmp .eq 19, 3) := by decide +kernel
theorem dX11_at_44 : decode cX11_at 44 = .ok (.aload_n 0, 1) := by decide +kernel
theorem dX11_at_45 : decode cX11_at 45 = .ok (.getfield 9, 3) := by decide +kernel
theorem dX11_at_48 : decode cX11_at 48 = .ok (.iload_n 1, 1) := by decide +kernel
theorem dX11_at_49 : decode cX11_at 49 = .ok (.iaload, 1) := by decide +kernel
theorem dX11_at_50 : decode cX11_at 50 = .ok (.iload_n 3, 1) := by decide +kernel
theorem dX11_at_51 : decode cX11_at 51 = .ok (.if_icmp .eq 9, 3) := by decide +kernel
theorem dX11_at_54 : decode cX11_at 54 = .ok (.aload_n 0, 1) := by decide +kernel
theorem dX11_at_55 : decode cX11_at 55 = .ok (.iconst 2, 1) := by decide +kernel
theorem dX11_at_56 : decode cX11_at 56 = .ok (.invokevirtual 92, 3) := by decide +kernel
theorem dX11_at_59 : decode cX11_at 59 = .ok (.lreturn, 1) := by decide +kernel
theorem dX11_at_60 : decode cX11_at 60 = .ok (.aload_n 0, 1) := by decide +kernel
theorem dX11_at_61 : decode cX11_at 61 = .ok (.getfield 9, 3) := by decide +kernel
theorem dX11_at_64 : decode cX11_at 64 = .ok (.iload_n 1, 1) := by decide +kernel
theorem dX11_at_65 : decode cX11_at 65 = .ok (.iaload, 1) := by decide +kernel
theorem dX11_at_66 : decode cX11_at 66 = .ok (.bipush (-9), 2) := by decide +kernel
theorem dX11_at_68 : decode cX11_at 68 = .ok (.if_icmp .ne 9, 3) := by decide +kernel
theorem dX11_at_71 : decode cX11_at 71 = .ok (.aload_n 0, 1) := by decide +kernel
theorem dX11_at_72 : decode cX11_at 72 = .ok (.iconst 1, 1) := by decide +kernel
theorem dX11_at_73 : decode cX11_at 73 = .ok (.invokevirtual 92, 3) := by decide +kernel
theorem dX11_at_76 : decode cX11_at 76 = .ok (.lreturn, 1) := by decide +kernel
theorem dX11_at_77 : decode cX11_at 77 = .ok (.iload_n 2, 1) := by decide +kernel
theorem dX11_at_78 : decode cX11_at 78 = .ok (.i2l, 1) := by decide +kernel
theorem dX11_at_79 : decode cX11_at 79 = .ok (.lconst 0, 1) := by decide +kernel
theorem dX11_at_80 : decode cX11_at 80 = .ok (.aload_n 0, 1) := by decide +kernel
theorem dX11_at_81 : decode cX11_at 81 = .ok (.getfield 13, 3) := by decide +kernel
theorem dX11_at_84 : decode cX11_at 84 = .ok (.iload_n 1, 1) := by decide +kernel
theorem dX11_at_85 : decode cX11_at 85 = .ok (.iaload, 1) := by decide +kernel
theorem dX11_at_86 : decode cX11_at 86 = .ok (.i2l, 1) := by decide +kernel
theorem dX11_at_87 : decode cX11_at 87 = .ok (.lconst 1, 1) := by decide +kernel
theorem dX11_at_88 : decode cX11_at 88 = .ok (.lsub, 1) := by decide +kernel
theorem dX11_at_89 : decode cX11_at 89 = .ok (.invokestatic 82, 3) := by decide +kernel
theorem dX11_at_92 : decode cX11_at 92 = .ok (.ifCond .ne 9, 3) := by decide +kernel
theorem dX11_at_95 : decode cX11_at 95 = .ok (.aload_n 0, 1) := by decide +kernel
theorem dX11_at_96 : decode cX11_at 96 = .ok (.iconst 3, 1) := by decide +kernel
theorem dX11_at_97 : decode cX11_at 97 = .ok (.invokevirtual 92, 3) := by decide +kernel
theorem dX11_at_100 : decode cX11_at 100 = .ok (.lreturn, 1) := by decide +kernel
theorem dX11_at_101 : decode cX11_at 101 = .ok (.aload_n 0, 1) := by decide +kernel
theorem dX11_at_102 : decode cX11_at 102 = .ok (.getfield 16, 3) := by decide +kernel
theorem dX11_at_105 : decode cX11_at 105 = .ok (.bipush 30, 2) := by decide +kernel
theorem dX11_at_107 : decode cX11_at 107 = .ok (.iload_n 1, 1) := by decide +kernel
theorem dX11_at_108 : decode cX11_at 108 = .ok (.imul, 1) := by decide +kernel
theorem dX11_at_109 : decode cX11_at 109 = .ok (.iload_n 2, 1) := by decide +kernel
theorem dX11_at_110 : decode cX11_at 110 = .ok (.iadd, 1) := by decide +kernel
theorem dX11_at_111 : decode cX11_at 111 = .ok (.laload, 1) := by decide +kernel
theorem dX11_at_112 : decode cX11_at 112 = .ok (.lreturn, 1) := by decide +kernel
theorem dX11_isPoly_0 : decode cX11_isPoly 0 = .ok (.iload_n 1, 1) := by decide +kernel
theorem dX11_isPoly_1 : decode cX11_isPoly 1 = .ok (.ifCond .lt 15, 3) := by decide +kernel
theorem dX11_isPoly_4 : decode cX11_isPoly 4 = .ok (.iload_n 1, 1) := by decide +kernel
theorem dX11_isPoly_5 : decode cX11_isPoly 5 = .ok (.aload_n 0, 1) := by decide +kernel
theorem dX11_isPoly_6 : decode cX11_isPoly 6 = .ok (.getfield 96, 3) := by decide +kernel
theorem dX11_isPoly_9 : decode cX11_isPoly 9 = .ok (.if_icmp .ge 7, 3) := by decide +kernel
theorem dX11_isPoly_12 : decode cX11_isPoly 12 = .ok (.iconst 1, 1) := by decide +kernel
theorem dX11_isPoly_13 : decode cX11_isPoly 13 = .ok (.goto 4, 3) := by decide +kernel
theorem dX11_isPoly_16 : decode cX11_isPoly 16 = .ok (.iconst 0, 1) := by decide +kernel
theorem dX11_isPoly_17 : decode cX11_isPoly 17 = .ok (.ireturn, 1) := by decide +kernel
theorem dX11_termOf_0 : decode cX11_termOf 0 = .ok (.aload_n 0, 1) := by decide +kernel
theorem dX11_termOf_1 : decode cX11_termOf 1 = .ok (.getfield 20, 3) := by decide +kernel
theorem dX11_termOf_4 : decode cX11_termOf 4 = .ok (.bipush 9, 2) := by decide +kernel
theorem dX11_termOf_6 : decode cX11_termOf 6 = .ok (.iload_n 1, 1) := by decide +kernel
theorem dX11_termOf_7 : decode cX11_termOf 7 = .ok (.imul, 1) := by decide +kernel
theorem dX11_termOf_8 : decode cX11_termOf 8 = .ok (.iload_n 2, 1) := by decide +kernel
theorem dX11_termOf_9 : decode cX11_termOf 9 = .ok (.iadd, 1) := by decide +kernel
theorem dX11_termOf_10 : decode cX11_termOf 10 = .ok (.laload, 1) := by decide +kernel
theorem dX11_termOf_11 : decode cX11_termOf 11 = .ok (.lreturn, 1) := by decide +kernel
theorem dX11_clearDraft_0 : decode cX11_clearDraft 0 = .ok (.iconst 0, 1) := by decide +kernel
theorem dX11_clearDraft_1 : decode cX11_clearDraft 1 = .ok (.istore_n 1, 1) := by decide +kernel
theorem dX11_clearDraft_2 : decode cX11_clearDraft 2 = .ok (.iload_n 1, 1) := by decide +kernel
theorem dX11_clearDraft_3 : decode cX11_clearDraft 3 = .ok (.bipush 25, 2) := by decide +kernel
theorem dX11_clearDraft_5 : decode cX11_clearDraft 5 = .ok (.if_icmp .ge 16, 3) := by decide +kernel
theorem dX11_clearDraft_8 : decode cX11_clearDraft 8 = .ok (.aload_n 0, 1) := by decide +kernel
theorem dX11_clearDraft_9 : decode cX11_clearDraft 9 = .ok (.getfield 23, 3) := by decide +kernel
theorem dX11_clearDraft_12 : decode cX11_clearDraft 12 = .ok (.iload_n 1, 1) := by decide +kernel
theorem dX11_clearDraft_13 : decode cX11_clearDraft 13 = .ok (.lconst 0, 1) := by decide +kernel
theorem dX11_clearDraft_14 : decode cX11_clearDraft 14 = .ok (.lastore, 1) := by decide +kernel
theorem dX11_clearDraft_15 : decode cX11_clearDraft 15 = .ok (.iinc 1 1, 3) := by decide +kernel
theorem dX11_clearDraft_18 : decode cX11_clearDraft 18 = .ok (.goto (-16), 3) := by decide +kernel
theorem dX11_clearDraft_21 : decode cX11_clearDraft 21 = .ok (.return_, 1) := by decide +kernel
theorem dX11_becomes_0 : decode cX11_becomes 0 = .ok (.iconst 0, 1) := by decide +kernel
theorem dX11_becomes_1 : decode cX11_becomes 1 = .ok (.istore_n 2, 1) := by decide +kernel
theorem dX11_becomes_2 : decode cX11_becomes 2 = .ok (.iload_n 2, 1) := by decide +kernel
theorem dX11_becomes_3 : decode cX11_becomes 3 = .ok (.iload_n 1, 1) := by decide +kernel
theorem dX11_becomes_4 : decode cX11_becomes 4 = .ok (.if_icmp .ge 30, 3) := by decide +kernel
theorem dX11_becomes_7 : decode cX11_becomes 7 = .ok (.aload_n 0, 1) := by decide +kernel
theorem dX11_becomes_8 : decode cX11_becomes 8 = .ok (.getfield 23, 3) := by decide +kernel
theorem dX11_becomes_11 : decode cX11_becomes 11 = .ok (.iload_n 2, 1) := by decide +kernel
theorem dX11_becomes_12 : decode cX11_becomes 12 = .ok (.laload, 1) := by decide +kernel
theorem dX11_becomes_13 : decode cX11_becomes 13 = .ok (.ldc2_w 99, 3) := by decide +kernel
theorem dX11_becomes_16 : decode cX11_becomes 16 = .ok (.ldc2_w 101, 3) := by decide +kernel
theorem dX11_becomes_19 : decode cX11_becomes 19 = .ok (.invokestatic 82, 3) := by decide +kernel
theorem dX11_becomes_22 : decode cX11_becomes 22 = .ok (.ifCond .ne 6, 3) := by decide +kernel
theorem dX11_becomes_25 : decode cX11_becomes 25 = .ok (.bipush (-2), 2) := by decide +kernel
theorem dX11_becomes_27 : decode cX11_becomes 27 = .ok (.ireturn, 1) := by decide +kernel
theorem dX11_becomes_28 : decode cX11_becomes 28 = .ok (.iinc 2 1, 3) := by decide +kernel
theorem dX11_becomes_31 : decode cX11_becomes 31 = .ok (.goto (-29), 3) := by decide +kernel
theorem dX11_becomes_34 : decode cX11_becomes 34 = .ok (.aload_n 0, 1) := by decide +kernel
theorem dX11_becomes_35 : decode cX11_becomes 35 = .ok (.getfield 96, 3) := by decide +kernel
theorem dX11_becomes_38 : decode cX11_becomes 38 = .ok (.bipush 30, 2) := by decide +kernel
theorem dX11_becomes_40 : decode cX11_becomes 40 = .ok (.if_icmp .ne 6, 3) := by decide +kernel
theorem dX11_becomes_43 : decode cX11_becomes 43 = .ok (.bipush (-4), 2) := by decide +kernel
theorem dX11_becomes_45 : decode cX11_becomes 45 = .ok (.ireturn, 1) := by decide +kernel
theorem dX11_becomes_46 : decode cX11_becomes 46 = .ok (.iconst 0, 1) := by decide +kernel
theorem dX11_becomes_47 : decode cX11_becomes 47 = .ok (.istore_n 2, 1) := by decide +kernel
theorem dX11_becomes_48 : decode cX11_becomes 48 = .ok (.iload_n 2, 1) := by decide +kernel
theorem dX11_becomes_49 : decode cX11_becomes 49 = .ok (.bipush 9, 2) := by decide +kernel
theorem dX11_becomes_51 : decode cX11_becomes 51 = .ok (.if_icmp .ge 29, 3) := by decide +kernel
theorem dX11_becomes_54 : decode cX11_becomes 54 = .ok (.aload_n 0, 1) := by decide +kernel
theorem dX11_becomes_55 : decode cX11_becomes 55 = .ok (.getfield 20, 3) := by decide +kernel
theorem dX11_becomes_58 : decode cX11_becomes 58 = .ok (.bipush 9, 2) := by decide +kernel
theorem dX11_becomes_60 : decode cX11_becomes 60 = .ok (.aload_n 0, 1) := by decide +kernel
theorem dX11_becomes_61 : decode cX11_becomes 61 = .ok (.getfield 96, 3) := by decide +kernel
theorem dX11_becomes_64 : decode cX11_becomes 64 = .ok (.imul, 1) := by decide +kernel
theorem dX11_becomes_65 : decode cX11_becomes 65 = .ok (.iload_n 2, 1) := by decide +kernel
theorem dX11_becomes_66 : decode cX11_becomes 66 = .ok (.iadd, 1) := by decide +kernel
theorem dX11_becomes_67 : decode cX11_becomes 67 = .ok (.aload_n 0, 1) := by decide +kernel
theorem dX11_becomes_68 : decode cX11_becomes 68 = .ok (.getfield 23, 3) := by decide +kernel
theorem dX11_becomes_71 : decode cX11_becomes 71 = .ok (.iload_n 2, 1) := by decide +kernel
theorem dX11_becomes_72 : decode cX11_becomes 72 = .ok (.laload, 1) := by decide +kernel
theorem dX11_becomes_73 : decode cX11_becomes 73 = .ok (.lastore, 1) := by decide +kernel
theorem dX11_becomes_74 : decode cX11_becomes 74 = .ok (.iinc 2 1, 3) := by decide +kernel
theorem dX11_becomes_77 : decode cX11_becomes 77 = .ok (.goto (-29), 3) := by decide +kernel
theorem dX11_becomes_80 : decode cX11_becomes 80 = .ok (.aload_n 0, 1) := by decide +kernel
theorem dX11_becomes_81 : decode cX11_becomes 81 = .ok (.dup, 1) := by decide +kernel
theorem dX11_becomes_82 : decode cX11_becomes 82 = .ok (.getfield 96, 3) := by decide +kernel
theorem dX11_becomes_85 : decode cX11_becomes 85 = .ok (.iconst 1, 1) := by decide +kernel
theorem dX11_becomes_86 : decode cX11_becomes 86 = .ok (.iadd, 1) := by decide +kernel
theorem dX11_becomes_87 : decode cX11_becomes 87 = .ok (.putfield 96, 3) := by decide +kernel
theorem dX11_becomes_90 : decode cX11_becomes 90 = .ok (.aload_n 0, 1) := by decide +kernel
theorem dX11_becomes_91 : decode cX11_becomes 91 = .ok (.getfield 96, 3) := by decide +kernel
theorem dX11_becomes_94 : decode cX11_becomes 94 = .ok (.iconst 1, 1) := by decide +kernel
theorem dX11_becomes_95 : decode cX11_becomes 95 = .ok (.isub, 1) := by decide +kernel
theorem dX11_becomes_96 : decode cX11_becomes 96 = .ok (.ireturn, 1) := by decide +kernel
theorem dX11_poly_0 : decode cX11_poly 0 = .ok (.aload_n 0, 1) := by decide +kernel
theorem dX11_poly_1 : decode cX11_poly 1 = .ok (.iconst 0, 1) := by decide +kernel
theorem dX11_poly_2 : decode cX11_poly 2 = .ok (.putfield 74, 3) := by decide +kernel
theorem dX11_poly_5 : decode cX11_poly 5 = .ok (.iload_n 1, 1) := by decide +kernel
theorem dX11_poly_6 : decode cX11_poly 6 = .ok (.i2l, 1) := by decide +kernel
theorem dX11_poly_7 : decode cX11_poly 7 = .ok (.lconst 0, 1) := by decide +kernel
theorem dX11_poly_8 : decode cX11_poly 8 = .ok (.ldc2_w 80, 3) := by decide +kernel
theorem dX11_poly_11 : decode cX11_poly 11 = .ok (.invokestatic 82, 3) := by decide +kernel
theorem dX11_poly_14 : decode cX11_poly 14 = .ok (.ifCond .ne 5, 3) := by decide +kernel
theorem dX11_poly_17 : decode cX11_poly 17 = .ok (.iconst (-1), 1) := by decide +kernel
theorem dX11_poly_18 : decode cX11_poly 18 = .ok (.ireturn, 1) := by decide +kernel
theorem dX11_poly_19 : decode cX11_poly 19 = .ok (.iload_n 2, 1) := by decide +kernel
theorem dX11_poly_20 : decode cX11_poly 20 = .ok (.i2l, 1) := by decide +kernel
theorem dX11_poly_21 : decode cX11_poly 21 = .ok (.lconst 0, 1) := by decide +kernel
theorem dX11_poly_22 : decode cX11_poly 22 = .ok (.ldc2_w 86, 3) := by decide +kernel
theorem dX11_poly_25 : decode cX11_poly 25 = .ok (.invokestatic 82, 3) := by decide +kernel
theorem dX11_poly_28 : decode cX11_poly 28 = .ok (.ifCond .eq 10, 3) := by decide +kernel
theorem dX11_poly_31 : decode cX11_poly 31 = .ok (.iload 4, 2) := by decide +kernel
theorem dX11_poly_33 : decode cX11_poly 33 = .ok (.bipush 9, 2) := by decide +kernel
theorem dX11_poly_35 : decode cX11_poly 35 = .ok (.if_icmp .le 6, 3) := by decide +kernel
theorem dX11_poly_38 : decode cX11_poly 38 = .ok (.bipush (-2), 2) := by decide +kernel
theorem dX11_poly_40 : decode cX11_poly 40 = .ok (.ireturn, 1) := by decide +kernel
theorem dX11_poly_41 : decode cX11_poly 41 = .ok (.aload_n 0, 1) := by decide +kernel
theorem dX11_poly_42 : decode cX11_poly 42 = .ok (.getfield 9, 3) := by decide +kernel
theorem dX11_poly_45 : decode cX11_poly 45 = .ok (.iload_n 1, 1) := by decide +kernel
theorem dX11_poly_46 : decode cX11_poly 46 = .ok (.iaload, 1) := by decide +kernel
theorem dX11_poly_47 : decode cX11_poly 47 = .ok (.bipush (-9), 2) := by decide +kernel
theorem dX11_poly_49 : decode cX11_poly 49 = .ok (.if_icmp .eq 19, 3) := by decide +kernel
theorem dX11_poly_52 : decode cX11_poly 52 = .ok (.aload_n 0, 1) := by decide +kernel
theorem dX11_poly_53 : decode cX11_poly 53 = .ok (.getfield 9, 3) := by decide +kernel
theorem dX11_poly_56 : decode cX11_poly 56 = .ok (.iload_n 1, 1) := by decide +kernel
theorem dX11_poly_57 : decode cX11_poly 57 = .ok (.iaload, 1) := by decide +kernel
theorem dX11_poly_58 : decode cX11_poly 58 = .ok (.iload_n 2, 1) := by decide +kernel
theorem dX11_poly_59 : decode cX11_poly 59 = .ok (.if_icmp .eq 9, 3) := by decide +kernel
theorem dX11_poly_62 : decode cX11_poly 62 = .ok (.aload_n 0, 1) := by decide +kernel
theorem dX11_poly_63 : decode cX11_poly 63 = .ok (.iconst 2, 1) := by decide +kernel
theorem dX11_poly_64 : decode cX11_poly 64 = .ok (.invokevirtual 88, 3) := by decide +kernel
theorem dX11_poly_67 : decode cX11_poly 67 = .ok (.ireturn, 1) := by decide +kernel
theorem dX11_poly_68 : decode cX11_poly 68 = .ok (.aload_n 0, 1) := by decide +kernel
theorem dX11_poly_69 : decode cX11_poly 69 = .ok (.getfield 9, 3) := by decide +kernel
theorem dX11_poly_72 : decode cX11_poly 72 = .ok (.iload_n 1, 1) := by decide +kernel
theorem dX11_poly_73 : decode cX11_poly 73 = .ok (.iaload, 1) := by decide +kernel
theorem dX11_poly_74 : decode cX11_poly 74 = .ok (.bipush (-9), 2) := by decide +kernel
theorem dX11_poly_76 : decode cX11_poly 76 = .ok (.if_icmp .ne 9, 3) := by decide +kernel
theorem dX11_poly_79 : decode cX11_poly 79 = .ok (.aload_n 0, 1) := by decide +kernel
theorem dX11_poly_80 : decode cX11_poly 80 = .ok (.iconst 1, 1) := by decide +kernel
theorem dX11_poly_81 : decode cX11_poly 81 = .ok (.invokevirtual 88, 3) := by decide +kernel
theorem dX11_poly_84 : decode cX11_poly 84 = .ok (.ireturn, 1) := by decide +kernel
theorem dX11_poly_85 : decode cX11_poly 85 = .ok (.iload 4, 2) := by decide +kernel
theorem dX11_poly_87 : decode cX11_poly 87 = .ok (.ifCond .ge 9, 3) := by decide +kernel
theorem dX11_poly_90 : decode cX11_poly 90 = .ok (.aload_n 0, 1) := by decide +kernel
theorem dX11_poly_91 : decode cX11_poly 91 = .ok (.iconst 4, 1) := by decide +kernel
theorem dX11_poly_92 : decode cX11_poly 92 = .ok (.invokevirtual 88, 3) := by decide +kernel
theorem dX11_poly_95 : decode cX11_poly 95 = .ok (.ireturn, 1) := by decide +kernel
theorem dX11_poly_96 : decode cX11_poly 96 = .ok (.iload_n 3, 1) := by decide +kernel
theorem dX11_poly_97 : decode cX11_poly 97 = .ok (.ifCond .lt 26, 3) := by decide +kernel
theorem dX11_poly_100 : decode cX11_poly 100 = .ok (.iload_n 3, 1) := by decide +kernel
theorem dX11_poly_101 : decode cX11_poly 101 = .ok (.aload_n 0, 1) := by decide +kernel
theorem dX11_poly_102 : decode cX11_poly 102 = .ok (.getfield 13, 3) := by decide +kernel
theorem dX11_poly_105 : decode cX11_poly 105 = .ok (.iload_n 1, 1) := by decide +kernel
theorem dX11_poly_106 : decode cX11_poly 106 = .ok (.iaload, 1) := by decide +kernel
theorem dX11_poly_107 : decode cX11_poly 107 = .ok (.if_icmp .gt 16, 3) := by decide +kernel
theorem dX11_poly_110 : decode cX11_poly 110 = .ok (.iload 4, 2) := by decide +kernel
theorem dX11_poly_112 : decode cX11_poly 112 = .ok (.aload_n 0, 1) := by decide +kernel
theorem dX11_poly_113 : decode cX11_poly 113 = .ok (.getfield 13, 3) := by decide +kernel
theorem dX11_poly_116 : decode cX11_poly 116 = .ok (.iload_n 1, 1) := by decide +kernel
theorem dX11_poly_117 : decode cX11_poly 117 = .ok (.iaload, 1) := by decide +kernel
theorem dX11_poly_118 : decode cX11_poly 118 = .ok (.iload_n 3, 1) := by decide +kernel
theorem dX11_poly_119 : decode cX11_poly 119 = .ok (.isub, 1) := by decide +kernel
theorem dX11_poly_120 : decode cX11_poly 120 = .ok (.if_icmp .le 9, 3) := by decide +kernel
theorem dX11_poly_123 : decode cX11_poly 123 = .ok (.aload_n 0, 1) := by decide +kernel
theorem dX11_poly_124 : decode cX11_poly 124 = .ok (.iconst 3, 1) := by decide +kernel
theorem dX11_poly_125 : decode cX11_poly 125 = .ok (.invokevirtual 88, 3) := by decide +kernel
theorem dX11_poly_128 : decode cX11_poly 128 = .ok (.ireturn, 1) := by decide +kernel
theorem dX11_poly_129 : decode cX11_poly 129 = .ok (.aload_n 0, 1) := by decide +kernel
theorem dX11_poly_130 : decode cX11_poly 130 = .ok (.invokevirtual 103, 3) := by decide +kernel
theorem dX11_poly_133 : decode cX11_poly 133 = .ok (.iconst 0, 1) := by decide +kernel
theorem dX11_poly_134 : decode cX11_poly 134 = .ok (.istore 5, 2) := by decide +kernel
theorem dX11_poly_136 : decode cX11_poly 136 = .ok (.iload 5, 2) := by decide +kernel
theorem dX11_poly_138 : decode cX11_poly 138 = .ok (.iload 4, 2) := by decide +kernel
theorem dX11_poly_140 : decode cX11_poly 140 = .ok (.if_icmp .ge 30, 3) := by decide +kernel
theorem dX11_poly_143 : decode cX11_poly 143 = .ok (.aload_n 0, 1) := by decide +kernel
theorem dX11_poly_144 : decode cX11_poly 144 = .ok (.getfield 23, 3) := by decide +kernel
theorem dX11_poly_147 : decode cX11_poly 147 = .ok (.iload 5, 2) := by decide +kernel
theorem dX11_poly_149 : decode cX11_poly 149 = .ok (.aload_n 0, 1) := by decide +kernel
theorem dX11_poly_150 : decode cX11_poly 150 = .ok (.getfield 16, 3) := by decide +kernel
theorem dX11_poly_153 : decode cX11_poly 153 = .ok (.bipush 30, 2) := by decide +kernel
theorem dX11_poly_155 : decode cX11_poly 155 = .ok (.iload_n 1, 1) := by decide +kernel
theorem dX11_poly_156 : decode cX11_poly 156 = .ok (.imul, 1) := by decide +kernel
theorem dX11_poly_157 : decode cX11_poly 157 = .ok (.iload_n 3, 1) := by decide +kernel
theorem dX11_poly_158 : decode cX11_poly 158 = .ok (.iadd, 1) := by decide +kernel
theorem dX11_poly_159 : decode cX11_poly 159 = .ok (.iload 5, 2) := by decide +kernel
theorem dX11_poly_161 : decode cX11_poly 161 = .ok (.iadd, 1) := by decide +kernel
theorem dX11_poly_162 : decode cX11_poly 162 = .ok (.laload, 1) := by decide +kernel
theorem dX11_poly_163 : decode cX11_poly 163 = .ok (.lastore, 1) := by decide +kernel
theorem dX11_poly_164 : decode cX11_poly 164 = .ok (.iinc 5 1, 3) := by decide +kernel
theorem dX11_poly_167 : decode cX11_poly 167 = .ok (.goto (-31), 3) := by decide +kernel
theorem dX11_poly_170 : decode cX11_poly 170 = .ok (.aload_n 0, 1) := by decide +kernel
theorem dX11_poly_171 : decode cX11_poly 171 = .ok (.bipush 9, 2) := by decide +kernel
theorem dX11_poly_173 : decode cX11_poly 173 = .ok (.invokevirtual 106, 3) := by decide +kernel
theorem dX11_poly_176 : decode cX11_poly 176 = .ok (.ireturn, 1) := by decide +kernel
theorem dX11_add_0 : decode cX11_add 0 = .ok (.aload_n 0, 1) := by decide +kernel
theorem dX11_add_1 : decode cX11_add 1 = .ok (.iload_n 1, 1) := by decide +kernel
theorem dX11_add_2 : decode cX11_add 2 = .ok (.invokevirtual 109, 3) := by decide +kernel
theorem dX11_add_5 : decode cX11_add 5 = .ok (.ifCond .eq 11, 3) := by decide +kernel
theorem dX11_add_8 : decode cX11_add 8 = .ok (.aload_n 0, 1) := by decide +kernel
theorem dX11_add_9 : decode cX11_add 9 = .ok (.iload_n 2, 1) := by decide +kernel
theorem dX11_add_10 : decode cX11_add 10 = .ok (.invokevirtual 109, 3) := by decide +kernel
theorem dX11_add_13 : decode cX11_add 13 = .ok (.ifCond .ne 5, 3) := by decide +kernel
theorem dX11_add_16 : decode cX11_add 16 = .ok (.iconst (-1), 1) := by decide +kernel
theorem dX11_add_17 : decode cX11_add 17 = .ok (.ireturn, 1) := by decide +kernel
theorem dX11_add_18 : decode cX11_add 18 = .ok (.iload_n 3, 1) := by decide +kernel
theorem dX11_add_19 : decode cX11_add 19 = .ok (.i2l, 1) := by decide +kernel
theorem dX11_add_20 : decode cX11_add 20 = .ok (.ldc2_w 99, 3) := by decide +kernel
theorem dX11_add_23 : decode cX11_add 23 = .ok (.ldc2_w 101, 3) := by decide +kernel
theorem dX11_add_26 : decode cX11_add 26 = .ok (.invokestatic 82, 3) := by decide +kernel
theorem dX11_add_29 : decode cX11_add 29 = .ok (.ifCond .ne 6, 3) := by decide +kernel
theorem dX11_add_32 : decode cX11_add 32 = .ok (.bipush (-2), 2) := by decide +kernel
theorem dX11_add_34 : decode cX11_add 34 = .ok (.ireturn, 1) := by decide +kernel
theorem dX11_add_35 : decode cX11_add 35 = .ok (.aload_n 0, 1) := by decide +kernel
theorem dX11_add_36 : decode cX11_add 36 = .ok (.invokevirtual 103, 3) := by decide +kernel
theorem dX11_add_39 : decode cX11_add 39 = .ok (.iconst 0, 1) := by decide +kernel
theorem dX11_add_40 : decode cX11_add 40 = .ok (.istore 4, 2) := by decide +kernel
theorem dX11_add_42 : decode cX11_add 42 = .ok (.iload 4, 2) := by decide +kernel
theorem dX11_add_44 : decode cX11_add 44 = .ok (.bipush 9, 2) := by decide +kernel
theorem dX11_add_46 : decode cX11_add 46 = .ok (.if_icmp .ge 34, 3) := by decide +kernel
theorem dX11_add_49 : decode cX11_add 49 = .ok (.aload_n 0, 1) := by decide +kernel
theorem dX11_add_50 : decode cX11_add 50 = .ok (.getfield 23, 3) := by decide +kernel
theorem dX11_add_53 : decode cX11_add 53 = .ok (.iload 4, 2) := by decide +kernel
theorem dX11_add_55 : decode cX11_add 55 = .ok (.aload_n 0, 1) := by decide +kernel
theorem dX11_add_56 : decode cX11_add 56 = .ok (.iload_n 1, 1) := by decide +kernel
theorem dX11_add_57 : decode cX11_add 57 = .ok (.iload 4, 2) := by decide +kernel
theorem dX11_add_59 : decode cX11_add 59 = .ok (.invokevirtual 113, 3) := by decide +kernel
theorem dX11_add_62 : decode cX11_add 62 = .ok (.iload_n 3, 1) := by decide +kernel
theorem dX11_add_63 : decode cX11_add 63 = .ok (.i2l, 1) := by decide +kernel
theorem dX11_add_64 : decode cX11_add 64 = .ok (.aload_n 0, 1) := by decide +kernel
theorem dX11_add_65 : decode cX11_add 65 = .ok (.iload_n 2, 1) := by decide +kernel
theorem dX11_add_66 : decode cX11_add 66 = .ok (.iload 4, 2) := by decide +kernel
theorem dX11_add_68 : decode cX11_add 68 = .ok (.invokevirtual 113, 3) := by decide +kernel
theorem dX11_add_71 : decode cX11_add 71 = .ok (.lmul, 1) := by decide +kernel
theorem dX11_add_72 : decode cX11_add 72 = .ok (.ladd, 1) := by decide +kernel
theorem dX11_add_73 : decode cX11_add 73 = .ok (.lastore, 1) := by decide +kernel
theorem dX11_add_74 : decode cX11_add 74 = .ok (.iinc 4 1, 3) := by decide +kernel
theorem dX11_add_77 : decode cX11_add 77 = .ok (.goto (-35), 3) := by decide +kernel
theorem dX11_add_80 : decode cX11_add 80 = .ok (.aload_n 0, 1) := by decide +kernel
theorem dX11_add_81 : decode cX11_add 81 = .ok (.bipush 9, 2) := by decide +kernel
theorem dX11_add_83 : decode cX11_add 83 = .ok (.invokevirtual 106, 3) := by decide +kernel
theorem dX11_add_86 : decode cX11_add 86 = .ok (.ireturn, 1) := by decide +kernel
theorem dX11_times_0 : decode cX11_times 0 = .ok (.aload_n 0, 1) := by decide +kernel
theorem dX11_times_1 : decode cX11_times 1 = .ok (.iload_n 1, 1) := by decide +kernel
theorem dX11_times_2 : decode cX11_times 2 = .ok (.invokevirtual 109, 3) := by decide +kernel
theorem dX11_times_5 : decode cX11_times 5 = .ok (.ifCond .eq 11, 3) := by decide +kernel
theorem dX11_times_8 : decode cX11_times 8 = .ok (.aload_n 0, 1) := by decide +kernel
theorem dX11_times_9 : decode cX11_times 9 = .ok (.iload_n 2, 1) := by decide +kernel
theorem dX11_times_10 : decode cX11_times 10 = .ok (.invokevirtual 109, 3) := by decide +kernel
theorem dX11_times_13 : decode cX11_times 13 = .ok (.ifCond .ne 5, 3) := by decide +kernel
theorem dX11_times_16 : decode cX11_times 16 = .ok (.iconst (-1), 1) := by decide +kernel
theorem dX11_times_17 : decode cX11_times 17 = .ok (.ireturn, 1) := by decide +kernel
theorem dX11_times_18 : decode cX11_times 18 = .ok (.aload_n 0, 1) := by decide +kernel
theorem dX11_times_19 : decode cX11_times 19 = .ok (.invokevirtual 103, 3) := by decide +kernel
theorem dX11_times_22 : decode cX11_times 22 = .ok (.iconst 0, 1) := by decide +kernel
theorem dX11_times_23 : decode cX11_times 23 = .ok (.istore_n 3, 1) := by decide +kernel
theorem dX11_times_24 : decode cX11_times 24 = .ok (.iload_n 3, 1) := by decide +kernel
theorem dX11_times_25 : decode cX11_times 25 = .ok (.bipush 9, 2) := by decide +kernel
theorem dX11_times_27 : decode cX11_times 27 = .ok (.if_icmp .ge 66, 3) := by decide +kernel
theorem dX11_times_30 : decode cX11_times 30 = .ok (.iconst 0, 1) := by decide +kernel
theorem dX11_times_31 : decode cX11_times 31 = .ok (.istore 4, 2) := by decide +kernel
theorem dX11_times_33 : decode cX11_times 33 = .ok (.iload 4, 2) := by decide +kernel
theorem dX11_times_35 : decode cX11_times 35 = .ok (.bipush 9, 2) := by decide +kernel
theorem dX11_times_37 : decode cX11_times 37 = .ok (.if_icmp .ge 50, 3) := by decide +kernel
theorem dX11_times_40 : decode cX11_times 40 = .ok (.aload_n 0, 1) := by decide +kernel
theorem dX11_times_41 : decode cX11_times 41 = .ok (.getfield 23, 3) := by decide +kernel
theorem dX11_times_44 : decode cX11_times 44 = .ok (.iconst 5, 1) := by decide +kernel
theorem dX11_times_45 : decode cX11_times 45 = .ok (.iload_n 3, 1) := by decide +kernel
theorem dX11_times_46 : decode cX11_times 46 = .ok (.iconst 3, 1) := by decide +kernel
theorem dX11_times_47 : decode cX11_times 47 = .ok (.idiv, 1) := by decide +kernel
theorem dX11_times_48 : decode cX11_times 48 = .ok (.iload 4, 2) := by decide +kernel
theorem dX11_times_50 : decode cX11_times 50 = .ok (.iconst 3, 1) := by decide +kernel
theorem dX11_times_51 : decode cX11_times 51 = .ok (.idiv, 1) := by decide +kernel
theorem dX11_times_52 : decode cX11_times 52 = .ok (.iadd, 1) := by decide +kernel
theorem dX11_times_53 : decode cX11_times 53 = .ok (.imul, 1) := by decide +kernel
theorem dX11_times_54 : decode cX11_times 54 = .ok (.iload_n 3, 1) := by decide +kernel
theorem dX11_times_55 : decode cX11_times 55 = .ok (.iconst 3, 1) := by decide +kernel
theorem dX11_times_56 : decode cX11_times 56 = .ok (.irem, 1) := by decide +kernel
theorem dX11_times_57 : decode cX11_times 57 = .ok (.iadd, 1) := by decide +kernel
theorem dX11_times_58 : decode cX11_times 58 = .ok (.iload 4, 2) := by decide +kernel
theorem dX11_times_60 : decode cX11_times 60 = .ok (.iconst 3, 1) := by decide +kernel
theorem dX11_times_61 : decode cX11_times 61 = .ok (.irem, 1) := by decide +kernel
theorem dX11_times_62 : decode cX11_times 62 = .ok (.iadd, 1) := by decide +kernel
theorem dX11_times_63 : decode cX11_times 63 = .ok (.dup2, 1) := by decide +kernel
theorem dX11_times_64 : decode cX11_times 64 = .ok (.laload, 1) := by decide +kernel
theorem dX11_times_65 : decode cX11_times 65 = .ok (.aload_n 0, 1) := by decide +kernel
theorem dX11_times_66 : decode cX11_times 66 = .ok (.iload_n 1, 1) := by decide +kernel
theorem dX11_times_67 : decode cX11_times 67 = .ok (.iload_n 3, 1) := by decide +kernel
theorem dX11_times_68 : decode cX11_times 68 = .ok (.invokevirtual 113, 3) := by decide +kernel
theorem dX11_times_71 : decode cX11_times 71 = .ok (.aload_n 0, 1) := by decide +kernel
theorem dX11_times_72 : decode cX11_times 72 = .ok (.iload_n 2, 1) := by decide +kernel
theorem dX11_times_73 : decode cX11_times 73 = .ok (.iload 4, 2) := by decide +kernel
theorem dX11_times_75 : decode cX11_times 75 = .ok (.invokevirtual 113, 3) := by decide +kernel
theorem dX11_times_78 : decode cX11_times 78 = .ok (.lmul, 1) := by decide +kernel
theorem dX11_times_79 : decode cX11_times 79 = .ok (.ladd, 1) := by decide +kernel
theorem dX11_times_80 : decode cX11_times 80 = .ok (.lastore, 1) := by decide +kernel
theorem dX11_times_81 : decode cX11_times 81 = .ok (.iinc 4 1, 3) := by decide +kernel
theorem dX11_times_84 : decode cX11_times 84 = .ok (.goto (-51), 3) := by decide +kernel
theorem dX11_times_87 : decode cX11_times 87 = .ok (.iinc 3 1, 3) := by decide +kernel
theorem dX11_times_90 : decode cX11_times 90 = .ok (.goto (-66), 3) := by decide +kernel
theorem dX11_times_93 : decode cX11_times 93 = .ok (.iconst 0, 1) := by decide +kernel
theorem dX11_times_94 : decode cX11_times 94 = .ok (.istore_n 3, 1) := by decide +kernel
theorem dX11_times_95 : decode cX11_times 95 = .ok (.iconst 0, 1) := by decide +kernel
theorem dX11_times_96 : decode cX11_times 96 = .ok (.istore 4, 2) := by decide +kernel
theorem dX11_times_98 : decode cX11_times 98 = .ok (.iload 4, 2) := by decide +kernel
theorem dX11_times_100 : decode cX11_times 100 = .ok (.bipush 25, 2) := by decide +kernel
theorem dX11_times_102 : decode cX11_times 102 = .ok (.if_icmp .ge 84, 3) := by decide +kernel
theorem dX11_times_105 : decode cX11_times 105 = .ok (.iload 4, 2) := by decide +kernel
theorem dX11_times_107 : decode cX11_times 107 = .ok (.iconst 5, 1) := by decide +kernel
theorem dX11_times_108 : decode cX11_times 108 = .ok (.idiv, 1) := by decide +kernel
theorem dX11_times_109 : decode cX11_times 109 = .ok (.iconst 2, 1) := by decide +kernel
theorem dX11_times_110 : decode cX11_times 110 = .ok (.if_icmp .gt 11, 3) := by decide +kernel
theorem dX11_times_113 : decode cX11_times 113 = .ok (.iload 4, 2) := by decide +kernel
theorem dX11_times_115 : decode cX11_times 115 = .ok (.iconst 5, 1) := by decide +kernel
theorem dX11_times_116 : decode cX11_times 116 = .ok (.irem, 1) := by decide +kernel
theorem dX11_times_117 : decode cX11_times 117 = .ok (.iconst 2, 1) := by decide +kernel
theorem dX11_times_118 : decode cX11_times 118 = .ok (.if_icmp .le 7, 3) := by decide +kernel
theorem dX11_times_121 : decode cX11_times 121 = .ok (.iconst 1, 1) := by decide +kernel
theorem dX11_times_122 : decode cX11_times 122 = .ok (.goto 4, 3) := by decide +kernel
theorem dX11_times_125 : decode cX11_times 125 = .ok (.iconst 0, 1) := by decide +kernel
theorem dX11_times_126 : decode cX11_times 126 = .ok (.istore 5, 2) := by decide +kernel
theorem dX11_times_128 : decode cX11_times 128 = .ok (.iload 5, 2) := by decide +kernel
theorem dX11_times_130 : decode cX11_times 130 = .ok (.ifCond .ne 25, 3) := by decide +kernel
theorem dX11_times_133 : decode cX11_times 133 = .ok (.aload_n 0, 1) := by decide +kernel
theorem dX11_times_134 : decode cX11_times 134 = .ok (.getfield 23, 3) := by decide +kernel
theorem dX11_times_137 : decode cX11_times 137 = .ok (.iload 4, 2) := by decide +kernel
theorem dX11_times_139 : decode cX11_times 139 = .ok (.laload, 1) := by decide +kernel
theorem dX11_times_140 : decode cX11_times 140 = .ok (.ldc2_w 99, 3) := by decide +kernel
theorem dX11_times_143 : decode cX11_times 143 = .ok (.ldc2_w 101, 3) := by decide +kernel
theorem dX11_times_146 : decode cX11_times 146 = .ok (.invokestatic 82, 3) := by decide +kernel
theorem dX11_times_149 : decode cX11_times 149 = .ok (.ifCond .ne 6, 3) := by decide +kernel
theorem dX11_times_152 : decode cX11_times 152 = .ok (.bipush (-2), 2) := by decide +kernel
theorem dX11_times_154 : decode cX11_times 154 = .ok (.ireturn, 1) := by decide +kernel
theorem dX11_times_155 : decode cX11_times 155 = .ok (.iload_n 3, 1) := by decide +kernel
theorem dX11_times_156 : decode cX11_times 156 = .ok (.iload 5, 2) := by decide +kernel
theorem dX11_times_158 : decode cX11_times 158 = .ok (.ifCond .eq 19, 3) := by decide +kernel
theorem dX11_times_161 : decode cX11_times 161 = .ok (.aload_n 0, 1) := by decide +kernel
theorem dX11_times_162 : decode cX11_times 162 = .ok (.getfield 23, 3) := by decide +kernel
theorem dX11_times_165 : decode cX11_times 165 = .ok (.iload 4, 2) := by decide +kernel
theorem dX11_times_167 : decode cX11_times 167 = .ok (.laload, 1) := by decide +kernel
theorem dX11_times_168 : decode cX11_times 168 = .ok (.lconst 0, 1) := by decide +kernel
theorem dX11_times_169 : decode cX11_times 169 = .ok (.lcmp, 1) := by decide +kernel
theorem dX11_times_170 : decode cX11_times 170 = .ok (.ifCond .eq 7, 3) := by decide +kernel
theorem dX11_times_173 : decode cX11_times 173 = .ok (.iconst 1, 1) := by decide +kernel
theorem dX11_times_174 : decode cX11_times 174 = .ok (.goto 4, 3) := by decide +kernel
theorem dX11_times_177 : decode cX11_times 177 = .ok (.iconst 0, 1) := by decide +kernel
theorem dX11_times_178 : decode cX11_times 178 = .ok (.ior, 1) := by decide +kernel
theorem dX11_times_179 : decode cX11_times 179 = .ok (.istore_n 3, 1) := by decide +kernel
theorem dX11_times_180 : decode cX11_times 180 = .ok (.iinc 4 1, 3) := by decide +kernel
theorem dX11_times_183 : decode cX11_times 183 = .ok (.goto (-85), 3) := by decide +kernel
theorem dX11_times_186 : decode cX11_times 186 = .ok (.iload_n 3, 1) := by decide +kernel
theorem dX11_times_187 : decode cX11_times 187 = .ok (.ifCond .eq 6, 3) := by decide +kernel
theorem dX11_times_190 : decode cX11_times 190 = .ok (.bipush (-3), 2) := by decide +kernel
theorem dX11_times_192 : decode cX11_times 192 = .ok (.ireturn, 1) := by decide +kernel
theorem dX11_times_193 : decode cX11_times 193 = .ok (.iconst 0, 1) := by decide +kernel
theorem dX11_times_194 : decode cX11_times 194 = .ok (.istore 4, 2) := by decide +kernel
theorem dX11_times_196 : decode cX11_times 196 = .ok (.iload 4, 2) := by decide +kernel
theorem dX11_times_198 : decode cX11_times 198 = .ok (.bipush 9, 2) := by decide +kernel
theorem dX11_times_200 : decode cX11_times 200 = .ok (.if_icmp .ge 32, 3) := by decide +kernel
theorem dX11_times_203 : decode cX11_times 203 = .ok (.aload_n 0, 1) := by decide +kernel
theorem dX11_times_204 : decode cX11_times 204 = .ok (.getfield 23, 3) := by decide +kernel
theorem dX11_times_207 : decode cX11_times 207 = .ok (.iload 4, 2) := by decide +kernel
theorem dX11_times_209 : decode cX11_times 209 = .ok (.aload_n 0, 1) := by decide +kernel
theorem dX11_times_210 : decode cX11_times 210 = .ok (.getfield 23, 3) := by decide +kernel
theorem dX11_times_213 : decode cX11_times 213 = .ok (.iconst 5, 1) := by decide +kernel
theorem dX11_times_214 : decode cX11_times 214 = .ok (.iload 4, 2) := by decide +kernel
theorem dX11_times_216 : decode cX11_times 216 = .ok (.iconst 3, 1) := by decide +kernel
theorem dX11_times_217 : decode cX11_times 217 = .ok (.idiv, 1) := by decide +kernel
theorem dX11_times_218 : decode cX11_times 218 = .ok (.imul, 1) := by decide +kernel
theorem dX11_times_219 : decode cX11_times 219 = .ok (.iload 4, 2) := by decide +kernel
theorem dX11_times_221 : decode cX11_times 221 = .ok (.iconst 3, 1) := by decide +kernel
theorem dX11_times_222 : decode cX11_times 222 = .ok (.irem, 1) := by decide +kernel
theorem dX11_times_223 : decode cX11_times 223 = .ok (.iadd, 1) := by decide +kernel
theorem dX11_times_224 : decode cX11_times 224 = .ok (.laload, 1) := by decide +kernel
theorem dX11_times_225 : decode cX11_times 225 = .ok (.lastore, 1) := by decide +kernel
theorem dX11_times_226 : decode cX11_times 226 = .ok (.iinc 4 1, 3) := by decide +kernel
theorem dX11_times_229 : decode cX11_times 229 = .ok (.goto (-33), 3) := by decide +kernel
theorem dX11_times_232 : decode cX11_times 232 = .ok (.aload_n 0, 1) := by decide +kernel
theorem dX11_times_233 : decode cX11_times 233 = .ok (.bipush 9, 2) := by decide +kernel
theorem dX11_times_235 : decode cX11_times 235 = .ok (.invokevirtual 106, 3) := by decide +kernel
theorem dX11_times_238 : decode cX11_times 238 = .ok (.ireturn, 1) := by decide +kernel
theorem dX11_slope_0 : decode cX11_slope 0 = .ok (.aload_n 0, 1) := by decide +kernel
theorem dX11_slope_1 : decode cX11_slope 1 = .ok (.iload_n 1, 1) := by decide +kernel
theorem dX11_slope_2 : decode cX11_slope 2 = .ok (.invokevirtual 109, 3) := by decide +kernel
theorem dX11_slope_5 : decode cX11_slope 5 = .ok (.ifCond .ne 5, 3) := by decide +kernel
theorem dX11_slope_8 : decode cX11_slope 8 = .ok (.iconst (-1), 1) := by decide +kernel
theorem dX11_slope_9 : decode cX11_slope 9 = .ok (.ireturn, 1) := by decide +kernel
theorem dX11_slope_10 : decode cX11_slope 10 = .ok (.iload_n 2, 1) := by decide +kernel
theorem dX11_slope_11 : decode cX11_slope 11 = .ok (.i2l, 1) := by decide +kernel
theorem dX11_slope_12 : decode cX11_slope 12 = .ok (.lconst 0, 1) := by decide +kernel
theorem dX11_slope_13 : decode cX11_slope 13 = .ok (.lconst 1, 1) := by decide +kernel
theorem dX11_slope_14 : decode cX11_slope 14 = .ok (.invokestatic 82, 3) := by decide +kernel
theorem dX11_slope_17 : decode cX11_slope 17 = .ok (.ifCond .ne 6, 3) := by decide +kernel
theorem dX11_slope_20 : decode cX11_slope 20 = .ok (.bipush (-2), 2) := by decide +kernel
theorem dX11_slope_22 : decode cX11_slope 22 = .ok (.ireturn, 1) := by decide +kernel
theorem dX11_slope_23 : decode cX11_slope 23 = .ok (.aload_n 0, 1) := by decide +kernel
theorem dX11_slope_24 : decode cX11_slope 24 = .ok (.invokevirtual 103, 3) := by decide +kernel
theorem dX11_slope_27 : decode cX11_slope 27 = .ok (.iconst 0, 1) := by decide +kernel
theorem dX11_slope_28 : decode cX11_slope 28 = .ok (.istore_n 3, 1) := by decide +kernel
theorem dX11_slope_29 : decode cX11_slope 29 = .ok (.iload_n 3, 1) := by decide +kernel
theorem dX11_slope_30 : decode cX11_slope 30 = .ok (.bipush 9, 2) := by decide +kernel
theorem dX11_slope_32 : decode cX11_slope 32 = .ok (.if_icmp .ge 57, 3) := by decide +kernel
theorem dX11_slope_35 : decode cX11_slope 35 = .ok (.iload_n 2, 1) := by decide +kernel
theorem dX11_slope_36 : decode cX11_slope 36 = .ok (.ifCond .ne 9, 3) := by decide +kernel
theorem dX11_slope_39 : decode cX11_slope 39 = .ok (.iload_n 3, 1) := by decide +kernel
theorem dX11_slope_40 : decode cX11_slope 40 = .ok (.iconst 3, 1) := by decide +kernel
theorem dX11_slope_41 : decode cX11_slope 41 = .ok (.idiv, 1) := by decide +kernel
theorem dX11_slope_42 : decode cX11_slope 42 = .ok (.goto 6, 3) := by decide +kernel
theorem dX11_slope_45 : decode cX11_slope 45 = .ok (.iload_n 3, 1) := by decide +kernel
theorem dX11_slope_46 : decode cX11_slope 46 = .ok (.iconst 3, 1) := by decide +kernel
theorem dX11_slope_47 : decode cX11_slope 47 = .ok (.irem, 1) := by decide +kernel
theorem dX11_slope_48 : decode cX11_slope 48 = .ok (.istore 4, 2) := by decide +kernel
theorem dX11_slope_50 : decode cX11_slope 50 = .ok (.iload 4, 2) := by decide +kernel
theorem dX11_slope_52 : decode cX11_slope 52 = .ok (.ifCond .le 31, 3) := by decide +kernel
theorem dX11_slope_55 : decode cX11_slope 55 = .ok (.aload_n 0, 1) := by decide +kernel
theorem dX11_slope_56 : decode cX11_slope 56 = .ok (.getfield 23, 3) := by decide +kernel
theorem dX11_slope_59 : decode cX11_slope 59 = .ok (.iload_n 2, 1) := by decide +kernel
theorem dX11_slope_60 : decode cX11_slope 60 = .ok (.ifCond .ne 9, 3) := by decide +kernel
theorem dX11_slope_63 : decode cX11_slope 63 = .ok (.iload_n 3, 1) := by decide +kernel
theorem dX11_slope_64 : decode cX11_slope 64 = .ok (.iconst 3, 1) := by decide +kernel
theorem dX11_slope_65 : decode cX11_slope 65 = .ok (.isub, 1) := by decide +kernel
theorem dX11_slope_66 : decode cX11_slope 66 = .ok (.goto 6, 3) := by decide +kernel
theorem dX11_slope_69 : decode cX11_slope 69 = .ok (.iload_n 3, 1) := by decide +kernel
theorem dX11_slope_70 : decode cX11_slope 70 = .ok (.iconst 1, 1) := by decide +kernel
theorem dX11_slope_71 : decode cX11_slope 71 = .ok (.isub, 1) := by decide +kernel
theorem dX11_slope_72 : decode cX11_slope 72 = .ok (.iload 4, 2) := by decide +kernel
theorem dX11_slope_74 : decode cX11_slope 74 = .ok (.i2l, 1) := by decide +kernel
theorem dX11_slope_75 : decode cX11_slope 75 = .ok (.aload_n 0, 1) := by decide +kernel
theorem dX11_slope_76 : decode cX11_slope 76 = .ok (.iload_n 1, 1) := by decide +kernel
theorem dX11_slope_77 : decode cX11_slope 77 = .ok (.iload_n 3, 1) := by decide +kernel
theorem dX11_slope_78 : decode cX11_slope 78 = .ok (.invokevirtual 113, 3) := by decide +kernel
theorem dX11_slope_81 : decode cX11_slope 81 = .ok (.lmul, 1) := by decide +kernel
theorem dX11_slope_82 : decode cX11_slope 82 = .ok (.lastore, 1) := by decide +kernel
theorem dX11_slope_83 : decode cX11_slope 83 = .ok (.iinc 3 1, 3) := by decide +kernel
theorem dX11_slope_86 : decode cX11_slope 86 = .ok (.goto (-57), 3) := by decide +kernel
theorem dX11_slope_89 : decode cX11_slope 89 = .ok (.aload_n 0, 1) := by decide +kernel
theorem dX11_slope_90 : decode cX11_slope 90 = .ok (.bipush 9, 2) := by decide +kernel
theorem dX11_slope_92 : decode cX11_slope 92 = .ok (.invokevirtual 106, 3) := by decide +kernel
theorem dX11_slope_95 : decode cX11_slope 95 = .ok (.ireturn, 1) := by decide +kernel
theorem dX11_term_0 : decode cX11_term 0 = .ok (.aload_n 0, 1) := by decide +kernel
theorem dX11_term_1 : decode cX11_term 1 = .ok (.iload_n 1, 1) := by decide +kernel
theorem dX11_term_2 : decode cX11_term 2 = .ok (.invokevirtual 109, 3) := by decide +kernel
theorem dX11_term_5 : decode cX11_term 5 = .ok (.ifCond .eq 24, 3) := by decide +kernel
theorem dX11_term_8 : decode cX11_term 8 = .ok (.iload_n 2, 1) := by decide +kernel
theorem dX11_term_9 : decode cX11_term 9 = .ok (.i2l, 1) := by decide +kernel
theorem dX11_term_10 : decode cX11_term 10 = .ok (.lconst 0, 1) := by decide +kernel
theorem dX11_term_11 : decode cX11_term 11 = .ok (.ldc2_w 117, 3) := by decide +kernel
theorem dX11_term_14 : decode cX11_term 14 = .ok (.invokestatic 82, 3) := by decide +kernel
theorem dX11_term_17 : decode cX11_term 17 = .ok (.ifCond .eq 12, 3) := by decide +kernel
theorem dX11_term_20 : decode cX11_term 20 = .ok (.aload_n 0, 1) := by decide +kernel
theorem dX11_term_21 : decode cX11_term 21 = .ok (.iload_n 1, 1) := by decide +kernel
theorem dX11_term_22 : decode cX11_term 22 = .ok (.iload_n 2, 1) := by decide +kernel
theorem dX11_term_23 : decode cX11_term 23 = .ok (.invokevirtual 113, 3) := by decide +kernel
theorem dX11_term_26 : decode cX11_term 26 = .ok (.goto 6, 3) := by decide +kernel
theorem dX11_term_29 : decode cX11_term 29 = .ok (.ldc2_w 78, 3) := by decide +kernel
theorem dX11_term_32 : decode cX11_term 32 = .ok (.lreturn, 1) := by decide +kernel
theorem dX11_value_0 : decode cX11_value 0 = .ok (.aload_n 0, 1) := by decide +kernel
theorem dX11_value_1 : decode cX11_value 1 = .ok (.iload_n 1, 1) := by decide +kernel
theorem dX11_value_2 : decode cX11_value 2 = .ok (.invokevirtual 109, 3) := by decide +kernel
theorem dX11_value_5 : decode cX11_value 5 = .ok (.ifCond .eq 31, 3) := by decide +kernel
theorem dX11_value_8 : decode cX11_value 8 = .ok (.iload_n 2, 1) := by decide +kernel
theorem dX11_value_9 : decode cX11_value 9 = .ok (.i2l, 1) := by decide +kernel
theorem dX11_value_10 : decode cX11_value 10 = .ok (.ldc2_w 119, 3) := by decide +kernel
theorem dX11_value_13 : decode cX11_value 13 = .ok (.ldc2_w 121, 3) := by decide +kernel
theorem dX11_value_16 : decode cX11_value 16 = .ok (.invokestatic 82, 3) := by decide +kernel
theorem dX11_value_19 : decode cX11_value 19 = .ok (.ifCond .eq 17, 3) := by decide +kernel
theorem dX11_value_22 : decode cX11_value 22 = .ok (.iload_n 3, 1) := by decide +kernel
theorem dX11_value_23 : decode cX11_value 23 = .ok (.i2l, 1) := by decide +kernel
theorem dX11_value_24 : decode cX11_value 24 = .ok (.ldc2_w 119, 3) := by decide +kernel
theorem dX11_value_27 : decode cX11_value 27 = .ok (.ldc2_w 121, 3) := by decide +kernel
theorem dX11_value_30 : decode cX11_value 30 = .ok (.invokestatic 82, 3) := by decide +kernel
theorem dX11_value_33 : decode cX11_value 33 = .ok (.ifCond .ne 7, 3) := by decide +kernel
theorem dX11_value_36 : decode cX11_value 36 = .ok (.ldc2_w 78, 3) := by decide +kernel
theorem dX11_value_39 : decode cX11_value 39 = .ok (.lreturn, 1) := by decide +kernel
theorem dX11_value_40 : decode cX11_value 40 = .ok (.lconst 0, 1) := by decide +kernel
theorem dX11_value_41 : decode cX11_value 41 = .ok (.lstore 4, 2) := by decide +kernel
theorem dX11_value_43 : decode cX11_value 43 = .ok (.iconst 0, 1) := by decide +kernel
theorem dX11_value_44 : decode cX11_value 44 = .ok (.istore 6, 2) := by decide +kernel
theorem dX11_value_46 : decode cX11_value 46 = .ok (.iload 6, 2) := by decide +kernel
theorem dX11_value_48 : decode cX11_value 48 = .ok (.bipush 9, 2) := by decide +kernel
theorem dX11_value_50 : decode cX11_value 50 = .ok (.if_icmp .ge 41, 3) := by decide +kernel
theorem dX11_value_53 : decode cX11_value 53 = .ok (.lload 4, 2) := by decide +kernel
theorem dX11_value_55 : decode cX11_value 55 = .ok (.aload_n 0, 1) := by decide +kernel
theorem dX11_value_56 : decode cX11_value 56 = .ok (.iload_n 1, 1) := by decide +kernel
theorem dX11_value_57 : decode cX11_value 57 = .ok (.iload 6, 2) := by decide +kernel
theorem dX11_value_59 : decode cX11_value 59 = .ok (.invokevirtual 113, 3) := by decide +kernel
theorem dX11_value_62 : decode cX11_value 62 = .ok (.iload_n 2, 1) := by decide +kernel
theorem dX11_value_63 : decode cX11_value 63 = .ok (.i2l, 1) := by decide +kernel
theorem dX11_value_64 : decode cX11_value 64 = .ok (.iload 6, 2) := by decide +kernel
theorem dX11_value_66 : decode cX11_value 66 = .ok (.iconst 3, 1) := by decide +kernel
theorem dX11_value_67 : decode cX11_value 67 = .ok (.idiv, 1) := by decide +kernel
theorem dX11_value_68 : decode cX11_value 68 = .ok (.invokestatic 123, 3) := by decide +kernel
theorem dX11_value_71 : decode cX11_value 71 = .ok (.lmul, 1) := by decide +kernel
theorem dX11_value_72 : decode cX11_value 72 = .ok (.iload_n 3, 1) := by decide +kernel
theorem dX11_value_73 : decode cX11_value 73 = .ok (.i2l, 1) := by decide +kernel
theorem dX11_value_74 : decode cX11_value 74 = .ok (.iload 6, 2) := by decide +kernel
theorem dX11_value_76 : decode cX11_value 76 = .ok (.iconst 3, 1) := by decide +kernel
theorem dX11_value_77 : decode cX11_value 77 = .ok (.irem, 1) := by decide +kernel
theorem dX11_value_78 : decode cX11_value 78 = .ok (.invokestatic 123, 3) := by decide +kernel
theorem dX11_value_81 : decode cX11_value 81 = .ok (.lmul, 1) := by decide +kernel
theorem dX11_value_82 : decode cX11_value 82 = .ok (.ladd, 1) := by decide +kernel
theorem dX11_value_83 : decode cX11_value 83 = .ok (.lstore 4, 2) := by decide +kernel
theorem dX11_value_85 : decode cX11_value 85 = .ok (.iinc 6 1, 3) := by decide +kernel
theorem dX11_value_88 : decode cX11_value 88 = .ok (.goto (-42), 3) := by decide +kernel
theorem dX11_value_91 : decode cX11_value 91 = .ok (.lload 4, 2) := by decide +kernel
theorem dX11_value_93 : decode cX11_value 93 = .ok (.lreturn, 1) := by decide +kernel
theorem dX11_power_0 : decode cX11_power 0 = .ok (.iload_n 2, 1) := by decide +kernel
theorem dX11_power_1 : decode cX11_power 1 = .ok (.ifCond .ne 9, 3) := by decide +kernel
theorem dX11_power_4 : decode cX11_power 4 = .ok (.ldc2_w 127, 3) := by decide +kernel
theorem dX11_power_7 : decode cX11_power 7 = .ok (.goto 19, 3) := by decide +kernel
theorem dX11_power_10 : decode cX11_power 10 = .ok (.iload_n 2, 1) := by decide +kernel
theorem dX11_power_11 : decode cX11_power 11 = .ok (.iconst 1, 1) := by decide +kernel
theorem dX11_power_12 : decode cX11_power 12 = .ok (.if_icmp .ne 11, 3) := by decide +kernel
theorem dX11_power_15 : decode cX11_power 15 = .ok (.ldc2_w 129, 3) := by decide +kernel
theorem dX11_power_18 : decode cX11_power 18 = .ok (.lload_n 0, 1) := by decide +kernel
theorem dX11_power_19 : decode cX11_power 19 = .ok (.lmul, 1) := by decide +kernel
theorem dX11_power_20 : decode cX11_power 20 = .ok (.goto 6, 3) := by decide +kernel
theorem dX11_power_23 : decode cX11_power 23 = .ok (.lload_n 0, 1) := by decide +kernel
theorem dX11_power_24 : decode cX11_power 24 = .ok (.lload_n 0, 1) := by decide +kernel
theorem dX11_power_25 : decode cX11_power 25 = .ok (.lmul, 1) := by decide +kernel
theorem dX11_power_26 : decode cX11_power 26 = .ok (.lreturn, 1) := by decide +kernel
theorem dX11_same_0 : decode cX11_same 0 = .ok (.aload_n 0, 1) := by decide +kernel
theorem dX11_same_1 : decode cX11_same 1 = .ok (.iload_n 1, 1) := by decide +kernel
theorem dX11_same_2 : decode cX11_same 2 = .ok (.invokevirtual 109, 3) := by decide +kernel
theorem dX11_same_5 : decode cX11_same 5 = .ok (.ifCond .eq 11, 3) := by decide +kernel
theorem dX11_same_8 : decode cX11_same 8 = .ok (.aload_n 0, 1) := by decide +kernel
theorem dX11_same_9 : decode cX11_same 9 = .ok (.iload_n 2, 1) := by decide +kernel
theorem dX11_same_10 : decode cX11_same 10 = .ok (.invokevirtual 109, 3) := by decide +kernel
theorem dX11_same_13 : decode cX11_same 13 = .ok (.ifCond .ne 5, 3) := by decide +kernel
theorem dX11_same_16 : decode cX11_same 16 = .ok (.iconst (-1), 1) := by decide +kernel
theorem dX11_same_17 : decode cX11_same 17 = .ok (.ireturn, 1) := by decide +kernel
theorem dX11_same_18 : decode cX11_same 18 = .ok (.iconst 0, 1) := by decide +kernel
theorem dX11_same_19 : decode cX11_same 19 = .ok (.istore_n 3, 1) := by decide +kernel
theorem dX11_same_20 : decode cX11_same 20 = .ok (.iload_n 3, 1) := by decide +kernel
theorem dX11_same_21 : decode cX11_same 21 = .ok (.bipush 9, 2) := by decide +kernel
theorem dX11_same_23 : decode cX11_same 23 = .ok (.if_icmp .ge 27, 3) := by decide +kernel
theorem dX11_same_26 : decode cX11_same 26 = .ok (.aload_n 0, 1) := by decide +kernel
theorem dX11_same_27 : decode cX11_same 27 = .ok (.iload_n 1, 1) := by decide +kernel
theorem dX11_same_28 : decode cX11_same 28 = .ok (.iload_n 3, 1) := by decide +kernel
theorem dX11_same_29 : decode cX11_same 29 = .ok (.invokevirtual 113, 3) := by decide +kernel
theorem dX11_same_32 : decode cX11_same 32 = .ok (.aload_n 0, 1) := by decide +kernel
theorem dX11_same_33 : decode cX11_same 33 = .ok (.iload_n 2, 1) := by decide +kernel
theorem dX11_same_34 : decode cX11_same 34 = .ok (.iload_n 3, 1) := by decide +kernel
theorem dX11_same_35 : decode cX11_same 35 = .ok (.invokevirtual 113, 3) := by decide +kernel
theorem dX11_same_38 : decode cX11_same 38 = .ok (.lcmp, 1) := by decide +kernel
theorem dX11_same_39 : decode cX11_same 39 = .ok (.ifCond .eq 5, 3) := by decide +kernel
theorem dX11_same_42 : decode cX11_same 42 = .ok (.iconst 0, 1) := by decide +kernel
theorem dX11_same_43 : decode cX11_same 43 = .ok (.ireturn, 1) := by decide +kernel
theorem dX11_same_44 : decode cX11_same 44 = .ok (.iinc 3 1, 3) := by decide +kernel
theorem dX11_same_47 : decode cX11_same 47 = .ok (.goto (-27), 3) := by decide +kernel
theorem dX11_same_50 : decode cX11_same 50 = .ok (.iconst 1, 1) := by decide +kernel
theorem dX11_same_51 : decode cX11_same 51 = .ok (.ireturn, 1) := by decide +kernel
theorem dX11_isBox_0 : decode cX11_isBox 0 = .ok (.iload_n 1, 1) := by decide +kernel
theorem dX11_isBox_1 : decode cX11_isBox 1 = .ok (.ifCond .lt 15, 3) := by decide +kernel
theorem dX11_isBox_4 : decode cX11_isBox 4 = .ok (.iload_n 1, 1) := by decide +kernel
theorem dX11_isBox_5 : decode cX11_isBox 5 = .ok (.aload_n 0, 1) := by decide +kernel
theorem dX11_isBox_6 : decode cX11_isBox 6 = .ok (.getfield 131, 3) := by decide +kernel
theorem dX11_isBox_9 : decode cX11_isBox 9 = .ok (.if_icmp .ge 7, 3) := by decide +kernel
theorem dX11_isBox_12 : decode cX11_isBox 12 = .ok (.iconst 1, 1) := by decide +kernel
theorem dX11_isBox_13 : decode cX11_isBox 13 = .ok (.goto 4, 3) := by decide +kernel
theorem dX11_isBox_16 : decode cX11_isBox 16 = .ok (.iconst 0, 1) := by decide +kernel
theorem dX11_isBox_17 : decode cX11_isBox 17 = .ok (.ireturn, 1) := by decide +kernel
theorem dX11_isRange_0 : decode cX11_isRange 0 = .ok (.iload_n 0, 1) := by decide +kernel
theorem dX11_isRange_1 : decode cX11_isRange 1 = .ok (.i2l, 1) := by decide +kernel
theorem dX11_isRange_2 : decode cX11_isRange 2 = .ok (.ldc2_w 119, 3) := by decide +kernel
theorem dX11_isRange_5 : decode cX11_isRange 5 = .ok (.ldc2_w 121, 3) := by decide +kernel
theorem dX11_isRange_8 : decode cX11_isRange 8 = .ok (.invokestatic 82, 3) := by decide +kernel
theorem dX11_isRange_11 : decode cX11_isRange 11 = .ok (.ifCond .eq 26, 3) := by decide +kernel
theorem dX11_isRange_14 : decode cX11_isRange 14 = .ok (.iload_n 1, 1) := by decide +kernel
theorem dX11_isRange_15 : decode cX11_isRange 15 = .ok (.i2l, 1) := by decide +kernel
theorem dX11_isRange_16 : decode cX11_isRange 16 = .ok (.ldc2_w 119, 3) := by decide +kernel
theorem dX11_isRange_19 : decode cX11_isRange 19 = .ok (.ldc2_w 121, 3) := by decide +kernel
theorem dX11_isRange_22 : decode cX11_isRange 22 = .ok (.invokestatic 82, 3) := by decide +kernel
theorem dX11_isRange_25 : decode cX11_isRange 25 = .ok (.ifCond .eq 12, 3) := by decide +kernel
theorem dX11_isRange_28 : decode cX11_isRange 28 = .ok (.iload_n 0, 1) := by decide +kernel
theorem dX11_isRange_29 : decode cX11_isRange 29 = .ok (.iload_n 1, 1) := by decide +kernel
theorem dX11_isRange_30 : decode cX11_isRange 30 = .ok (.if_icmp .ge 7, 3) := by decide +kernel
theorem dX11_isRange_33 : decode cX11_isRange 33 = .ok (.iconst 1, 1) := by decide +kernel
theorem dX11_isRange_34 : decode cX11_isRange 34 = .ok (.goto 4, 3) := by decide +kernel
theorem dX11_isRange_37 : decode cX11_isRange 37 = .ok (.iconst 0, 1) := by decide +kernel
theorem dX11_isRange_38 : decode cX11_isRange 38 = .ok (.ireturn, 1) := by decide +kernel
theorem dX11_newBox_0 : decode cX11_newBox 0 = .ok (.aload_n 0, 1) := by decide +kernel
theorem dX11_newBox_1 : decode cX11_newBox 1 = .ok (.getfield 26, 3) := by decide +kernel
theorem dX11_newBox_4 : decode cX11_newBox 4 = .ok (.iconst 4, 1) := by decide +kernel
theorem dX11_newBox_5 : decode cX11_newBox 5 = .ok (.aload_n 0, 1) := by decide +kernel
theorem dX11_newBox_6 : decode cX11_newBox 6 = .ok (.getfield 131, 3) := by decide +kernel
theorem dX11_newBox_9 : decode cX11_newBox 9 = .ok (.imul, 1) := by decide +kernel
theorem dX11_newBox_10 : decode cX11_newBox 10 = .ok (.iload_n 1, 1) := by decide +kernel
theorem dX11_newBox_11 : decode cX11_newBox 11 = .ok (.iastore, 1) := by decide +kernel
theorem dX11_newBox_12 : decode cX11_newBox 12 = .ok (.aload_n 0, 1) := by decide +kernel
theorem dX11_newBox_13 : decode cX11_newBox 13 = .ok (.getfield 26, 3) := by decide +kernel
theorem dX11_newBox_16 : decode cX11_newBox 16 = .ok (.iconst 4, 1) := by decide +kernel
theorem dX11_newBox_17 : decode cX11_newBox 17 = .ok (.aload_n 0, 1) := by decide +kernel
theorem dX11_newBox_18 : decode cX11_newBox 18 = .ok (.getfield 131, 3) := by decide +kernel
theorem dX11_newBox_21 : decode cX11_newBox 21 = .ok (.imul, 1) := by decide +kernel
theorem dX11_newBox_22 : decode cX11_newBox 22 = .ok (.iconst 1, 1) := by decide +kernel
theorem dX11_newBox_23 : decode cX11_newBox 23 = .ok (.iadd, 1) := by decide +kernel
theorem dX11_newBox_24 : decode cX11_newBox 24 = .ok (.iload_n 2, 1) := by decide +kernel
theorem dX11_newBox_25 : decode cX11_newBox 25 = .ok (.iastore, 1) := by decide +kernel
theorem dX11_newBox_26 : decode cX11_newBox 26 = .ok (.aload_n 0, 1) := by decide +kernel
theorem dX11_newBox_27 : decode cX11_newBox 27 = .ok (.getfield 26, 3) := by decide +kernel
theorem dX11_newBox_30 : decode cX11_newBox 30 = .ok (.iconst 4, 1) := by decide +kernel
theorem dX11_newBox_31 : decode cX11_newBox 31 = .ok (.aload_n 0, 1) := by decide +kernel
theorem dX11_newBox_32 : decode cX11_newBox 32 = .ok (.getfield 131, 3) := by decide +kernel
theorem dX11_newBox_35 : decode cX11_newBox 35 = .ok (.imul, 1) := by decide +kernel
theorem dX11_newBox_36 : decode cX11_newBox 36 = .ok (.iconst 2, 1) := by decide +kernel
theorem dX11_newBox_37 : decode cX11_newBox 37 = .ok (.iadd, 1) := by decide +kernel
theorem dX11_newBox_38 : decode cX11_newBox 38 = .ok (.iload_n 3, 1) := by decide +kernel
theorem dX11_newBox_39 : decode cX11_newBox 39 = .ok (.iastore, 1) := by decide +kernel
theorem dX11_newBox_40 : decode cX11_newBox 40 = .ok (.aload_n 0, 1) := by decide +kernel
theorem dX11_newBox_41 : decode cX11_newBox 41 = .ok (.getfield 26, 3) := by decide +kernel
theorem dX11_newBox_44 : decode cX11_newBox 44 = .ok (.iconst 4, 1) := by decide +kernel
theorem dX11_newBox_45 : decode cX11_newBox 45 = .ok (.aload_n 0, 1) := by decide +kernel
theorem dX11_newBox_46 : decode cX11_newBox 46 = .ok (.getfield 131, 3) := by decide +kernel
theorem dX11_newBox_49 : decode cX11_newBox 49 = .ok (.imul, 1) := by decide +kernel
