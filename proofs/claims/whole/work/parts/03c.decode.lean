theorem dX11_newBox_50 : decode cX11_newBox 50 = .ok (.iconst 3, 1) := by decide +kernel
theorem dX11_newBox_51 : decode cX11_newBox 51 = .ok (.iadd, 1) := by decide +kernel
theorem dX11_newBox_52 : decode cX11_newBox 52 = .ok (.iload 4, 2) := by decide +kernel
theorem dX11_newBox_54 : decode cX11_newBox 54 = .ok (.iastore, 1) := by decide +kernel
theorem dX11_newBox_55 : decode cX11_newBox 55 = .ok (.aload_n 0, 1) := by decide +kernel
theorem dX11_newBox_56 : decode cX11_newBox 56 = .ok (.dup, 1) := by decide +kernel
theorem dX11_newBox_57 : decode cX11_newBox 57 = .ok (.getfield 131, 3) := by decide +kernel
theorem dX11_newBox_60 : decode cX11_newBox 60 = .ok (.iconst 1, 1) := by decide +kernel
theorem dX11_newBox_61 : decode cX11_newBox 61 = .ok (.iadd, 1) := by decide +kernel
theorem dX11_newBox_62 : decode cX11_newBox 62 = .ok (.putfield 131, 3) := by decide +kernel
theorem dX11_newBox_65 : decode cX11_newBox 65 = .ok (.aload_n 0, 1) := by decide +kernel
theorem dX11_newBox_66 : decode cX11_newBox 66 = .ok (.getfield 131, 3) := by decide +kernel
theorem dX11_newBox_69 : decode cX11_newBox 69 = .ok (.iconst 1, 1) := by decide +kernel
theorem dX11_newBox_70 : decode cX11_newBox 70 = .ok (.isub, 1) := by decide +kernel
theorem dX11_newBox_71 : decode cX11_newBox 71 = .ok (.ireturn, 1) := by decide +kernel
theorem dX11_box_0 : decode cX11_box 0 = .ok (.iload_n 1, 1) := by decide +kernel
theorem dX11_box_1 : decode cX11_box 1 = .ok (.iload_n 2, 1) := by decide +kernel
theorem dX11_box_2 : decode cX11_box 2 = .ok (.invokestatic 134, 3) := by decide +kernel
theorem dX11_box_5 : decode cX11_box 5 = .ok (.ifCond .eq 12, 3) := by decide +kernel
theorem dX11_box_8 : decode cX11_box 8 = .ok (.iload_n 3, 1) := by decide +kernel
theorem dX11_box_9 : decode cX11_box 9 = .ok (.iload 4, 2) := by decide +kernel
theorem dX11_box_11 : decode cX11_box 11 = .ok (.invokestatic 134, 3) := by decide +kernel
theorem dX11_box_14 : decode cX11_box 14 = .ok (.ifCond .ne 6, 3) := by decide +kernel
theorem dX11_box_17 : decode cX11_box 17 = .ok (.bipush (-2), 2) := by decide +kernel
theorem dX11_box_19 : decode cX11_box 19 = .ok (.ireturn, 1) := by decide +kernel
theorem dX11_box_20 : decode cX11_box 20 = .ok (.aload_n 0, 1) := by decide +kernel
theorem dX11_box_21 : decode cX11_box 21 = .ok (.getfield 131, 3) := by decide +kernel
theorem dX11_box_24 : decode cX11_box 24 = .ok (.bipush 30, 2) := by decide +kernel
theorem dX11_box_26 : decode cX11_box 26 = .ok (.if_icmp .ne 8, 3) := by decide +kernel
theorem dX11_box_29 : decode cX11_box 29 = .ok (.bipush (-4), 2) := by decide +kernel
theorem dX11_box_31 : decode cX11_box 31 = .ok (.goto 12, 3) := by decide +kernel
theorem dX11_box_34 : decode cX11_box 34 = .ok (.aload_n 0, 1) := by decide +kernel
theorem dX11_box_35 : decode cX11_box 35 = .ok (.iload_n 1, 1) := by decide +kernel
theorem dX11_box_36 : decode cX11_box 36 = .ok (.iload_n 2, 1) := by decide +kernel
theorem dX11_box_37 : decode cX11_box 37 = .ok (.iload_n 3, 1) := by decide +kernel
theorem dX11_box_38 : decode cX11_box 38 = .ok (.iload 4, 2) := by decide +kernel
theorem dX11_box_40 : decode cX11_box 40 = .ok (.invokevirtual 138, 3) := by decide +kernel
theorem dX11_box_43 : decode cX11_box 43 = .ok (.ireturn, 1) := by decide +kernel
theorem dX11_side_0 : decode cX11_side 0 = .ok (.aload_n 0, 1) := by decide +kernel
theorem dX11_side_1 : decode cX11_side 1 = .ok (.iload_n 1, 1) := by decide +kernel
theorem dX11_side_2 : decode cX11_side 2 = .ok (.invokevirtual 142, 3) := by decide +kernel
theorem dX11_side_5 : decode cX11_side 5 = .ok (.ifCond .ne 5, 3) := by decide +kernel
theorem dX11_side_8 : decode cX11_side 8 = .ok (.iconst (-1), 1) := by decide +kernel
theorem dX11_side_9 : decode cX11_side 9 = .ok (.ireturn, 1) := by decide +kernel
theorem dX11_side_10 : decode cX11_side 10 = .ok (.iload_n 2, 1) := by decide +kernel
theorem dX11_side_11 : decode cX11_side 11 = .ok (.i2l, 1) := by decide +kernel
theorem dX11_side_12 : decode cX11_side 12 = .ok (.lconst 0, 1) := by decide +kernel
theorem dX11_side_13 : decode cX11_side 13 = .ok (.ldc2_w 80, 3) := by decide +kernel
theorem dX11_side_16 : decode cX11_side 16 = .ok (.invokestatic 82, 3) := by decide +kernel
theorem dX11_side_19 : decode cX11_side 19 = .ok (.ifCond .eq 16, 3) := by decide +kernel
theorem dX11_side_22 : decode cX11_side 22 = .ok (.aload_n 0, 1) := by decide +kernel
theorem dX11_side_23 : decode cX11_side 23 = .ok (.getfield 26, 3) := by decide +kernel
theorem dX11_side_26 : decode cX11_side 26 = .ok (.iconst 4, 1) := by decide +kernel
theorem dX11_side_27 : decode cX11_side 27 = .ok (.iload_n 1, 1) := by decide +kernel
theorem dX11_side_28 : decode cX11_side 28 = .ok (.imul, 1) := by decide +kernel
theorem dX11_side_29 : decode cX11_side 29 = .ok (.iload_n 2, 1) := by decide +kernel
theorem dX11_side_30 : decode cX11_side 30 = .ok (.iadd, 1) := by decide +kernel
theorem dX11_side_31 : decode cX11_side 31 = .ok (.iaload, 1) := by decide +kernel
theorem dX11_side_32 : decode cX11_side 32 = .ok (.goto 5, 3) := by decide +kernel
theorem dX11_side_35 : decode cX11_side 35 = .ok (.bipush (-2), 2) := by decide +kernel
theorem dX11_side_37 : decode cX11_side 37 = .ok (.ireturn, 1) := by decide +kernel
theorem dX11_along_0 : decode cX11_along 0 = .ok (.iload_n 0, 1) := by decide +kernel
theorem dX11_along_1 : decode cX11_along 1 = .ok (.ifCond .ne 7, 3) := by decide +kernel
theorem dX11_along_4 : decode cX11_along 4 = .ok (.ldc2_w 145, 3) := by decide +kernel
theorem dX11_along_7 : decode cX11_along 7 = .ok (.lreturn, 1) := by decide +kernel
theorem dX11_along_8 : decode cX11_along 8 = .ok (.iload_n 0, 1) := by decide +kernel
theorem dX11_along_9 : decode cX11_along 9 = .ok (.iconst 1, 1) := by decide +kernel
theorem dX11_along_10 : decode cX11_along 10 = .ok (.if_icmp .ne 38, 3) := by decide +kernel
theorem dX11_along_13 : decode cX11_along 13 = .ok (.ldc2_w 129, 3) := by decide +kernel
theorem dX11_along_16 : decode cX11_along 16 = .ok (.iload_n 1, 1) := by decide +kernel
theorem dX11_along_17 : decode cX11_along 17 = .ok (.ifCond .ne 11, 3) := by decide +kernel
theorem dX11_along_20 : decode cX11_along 20 = .ok (.ldc2_w 86, 3) := by decide +kernel
theorem dX11_along_23 : decode cX11_along 23 = .ok (.lload_n 2, 1) := by decide +kernel
theorem dX11_along_24 : decode cX11_along 24 = .ok (.lmul, 1) := by decide +kernel
theorem dX11_along_25 : decode cX11_along 25 = .ok (.goto 21, 3) := by decide +kernel
theorem dX11_along_28 : decode cX11_along 28 = .ok (.iload_n 1, 1) := by decide +kernel
theorem dX11_along_29 : decode cX11_along 29 = .ok (.iconst 1, 1) := by decide +kernel
theorem dX11_along_30 : decode cX11_along 30 = .ok (.if_icmp .ne 10, 3) := by decide +kernel
theorem dX11_along_33 : decode cX11_along 33 = .ok (.lload_n 2, 1) := by decide +kernel
theorem dX11_along_34 : decode cX11_along 34 = .ok (.lload 4, 2) := by decide +kernel
theorem dX11_along_36 : decode cX11_along 36 = .ok (.ladd, 1) := by decide +kernel
theorem dX11_along_37 : decode cX11_along 37 = .ok (.goto 9, 3) := by decide +kernel
theorem dX11_along_40 : decode cX11_along 40 = .ok (.ldc2_w 86, 3) := by decide +kernel
theorem dX11_along_43 : decode cX11_along 43 = .ok (.lload 4, 2) := by decide +kernel
theorem dX11_along_45 : decode cX11_along 45 = .ok (.lmul, 1) := by decide +kernel
theorem dX11_along_46 : decode cX11_along 46 = .ok (.lmul, 1) := by decide +kernel
theorem dX11_along_47 : decode cX11_along 47 = .ok (.lreturn, 1) := by decide +kernel
theorem dX11_along_48 : decode cX11_along 48 = .ok (.ldc2_w 86, 3) := by decide +kernel
theorem dX11_along_51 : decode cX11_along 51 = .ok (.iload_n 1, 1) := by decide +kernel
theorem dX11_along_52 : decode cX11_along 52 = .ok (.ifCond .ne 9, 3) := by decide +kernel
theorem dX11_along_55 : decode cX11_along 55 = .ok (.lload_n 2, 1) := by decide +kernel
theorem dX11_along_56 : decode cX11_along 56 = .ok (.lload_n 2, 1) := by decide +kernel
theorem dX11_along_57 : decode cX11_along 57 = .ok (.lmul, 1) := by decide +kernel
theorem dX11_along_58 : decode cX11_along 58 = .ok (.goto 20, 3) := by decide +kernel
theorem dX11_along_61 : decode cX11_along 61 = .ok (.iload_n 1, 1) := by decide +kernel
theorem dX11_along_62 : decode cX11_along 62 = .ok (.iconst 1, 1) := by decide +kernel
theorem dX11_along_63 : decode cX11_along 63 = .ok (.if_icmp .ne 10, 3) := by decide +kernel
theorem dX11_along_66 : decode cX11_along 66 = .ok (.lload_n 2, 1) := by decide +kernel
theorem dX11_along_67 : decode cX11_along 67 = .ok (.lload 4, 2) := by decide +kernel
theorem dX11_along_69 : decode cX11_along 69 = .ok (.lmul, 1) := by decide +kernel
theorem dX11_along_70 : decode cX11_along 70 = .ok (.goto 8, 3) := by decide +kernel
theorem dX11_along_73 : decode cX11_along 73 = .ok (.lload 4, 2) := by decide +kernel
theorem dX11_along_75 : decode cX11_along 75 = .ok (.lload 4, 2) := by decide +kernel
theorem dX11_along_77 : decode cX11_along 77 = .ok (.lmul, 1) := by decide +kernel
theorem dX11_along_78 : decode cX11_along 78 = .ok (.lmul, 1) := by decide +kernel
theorem dX11_along_79 : decode cX11_along 79 = .ok (.lreturn, 1) := by decide +kernel
theorem dX11_cornerOf_0 : decode cX11_cornerOf 0 = .ok (.lconst 0, 1) := by decide +kernel
theorem dX11_cornerOf_1 : decode cX11_cornerOf 1 = .ok (.lstore 7, 2) := by decide +kernel
theorem dX11_cornerOf_3 : decode cX11_cornerOf 3 = .ok (.iconst 0, 1) := by decide +kernel
theorem dX11_cornerOf_4 : decode cX11_cornerOf 4 = .ok (.istore 9, 2) := by decide +kernel
theorem dX11_cornerOf_6 : decode cX11_cornerOf 6 = .ok (.iload 9, 2) := by decide +kernel
theorem dX11_cornerOf_8 : decode cX11_cornerOf 8 = .ok (.bipush 9, 2) := by decide +kernel
theorem dX11_cornerOf_10 : decode cX11_cornerOf 10 = .ok (.if_icmp .ge 54, 3) := by decide +kernel
theorem dX11_cornerOf_13 : decode cX11_cornerOf 13 = .ok (.lload 7, 2) := by decide +kernel
theorem dX11_cornerOf_15 : decode cX11_cornerOf 15 = .ok (.aload_n 0, 1) := by decide +kernel
theorem dX11_cornerOf_16 : decode cX11_cornerOf 16 = .ok (.iload_n 1, 1) := by decide +kernel
theorem dX11_cornerOf_17 : decode cX11_cornerOf 17 = .ok (.iload 9, 2) := by decide +kernel
theorem dX11_cornerOf_19 : decode cX11_cornerOf 19 = .ok (.invokevirtual 113, 3) := by decide +kernel
theorem dX11_cornerOf_22 : decode cX11_cornerOf 22 = .ok (.iload 9, 2) := by decide +kernel
theorem dX11_cornerOf_24 : decode cX11_cornerOf 24 = .ok (.iconst 3, 1) := by decide +kernel
theorem dX11_cornerOf_25 : decode cX11_cornerOf 25 = .ok (.idiv, 1) := by decide +kernel
theorem dX11_cornerOf_26 : decode cX11_cornerOf 26 = .ok (.iload_n 2, 1) := by decide +kernel
theorem dX11_cornerOf_27 : decode cX11_cornerOf 27 = .ok (.iconst 3, 1) := by decide +kernel
theorem dX11_cornerOf_28 : decode cX11_cornerOf 28 = .ok (.idiv, 1) := by decide +kernel
theorem dX11_cornerOf_29 : decode cX11_cornerOf 29 = .ok (.iload_n 3, 1) := by decide +kernel
theorem dX11_cornerOf_30 : decode cX11_cornerOf 30 = .ok (.i2l, 1) := by decide +kernel
theorem dX11_cornerOf_31 : decode cX11_cornerOf 31 = .ok (.iload 4, 2) := by decide +kernel
theorem dX11_cornerOf_33 : decode cX11_cornerOf 33 = .ok (.i2l, 1) := by decide +kernel
theorem dX11_cornerOf_34 : decode cX11_cornerOf 34 = .ok (.invokestatic 147, 3) := by decide +kernel
theorem dX11_cornerOf_37 : decode cX11_cornerOf 37 = .ok (.lmul, 1) := by decide +kernel
theorem dX11_cornerOf_38 : decode cX11_cornerOf 38 = .ok (.iload 9, 2) := by decide +kernel
theorem dX11_cornerOf_40 : decode cX11_cornerOf 40 = .ok (.iconst 3, 1) := by decide +kernel
theorem dX11_cornerOf_41 : decode cX11_cornerOf 41 = .ok (.irem, 1) := by decide +kernel
theorem dX11_cornerOf_42 : decode cX11_cornerOf 42 = .ok (.iload_n 2, 1) := by decide +kernel
theorem dX11_cornerOf_43 : decode cX11_cornerOf 43 = .ok (.iconst 3, 1) := by decide +kernel
theorem dX11_cornerOf_44 : decode cX11_cornerOf 44 = .ok (.irem, 1) := by decide +kernel
theorem dX11_cornerOf_45 : decode cX11_cornerOf 45 = .ok (.iload 5, 2) := by decide +kernel
theorem dX11_cornerOf_47 : decode cX11_cornerOf 47 = .ok (.i2l, 1) := by decide +kernel
theorem dX11_cornerOf_48 : decode cX11_cornerOf 48 = .ok (.iload 6, 2) := by decide +kernel
theorem dX11_cornerOf_50 : decode cX11_cornerOf 50 = .ok (.i2l, 1) := by decide +kernel
theorem dX11_cornerOf_51 : decode cX11_cornerOf 51 = .ok (.invokestatic 147, 3) := by decide +kernel
theorem dX11_cornerOf_54 : decode cX11_cornerOf 54 = .ok (.lmul, 1) := by decide +kernel
theorem dX11_cornerOf_55 : decode cX11_cornerOf 55 = .ok (.ladd, 1) := by decide +kernel
theorem dX11_cornerOf_56 : decode cX11_cornerOf 56 = .ok (.lstore 7, 2) := by decide +kernel
theorem dX11_cornerOf_58 : decode cX11_cornerOf 58 = .ok (.iinc 9 1, 3) := by decide +kernel
theorem dX11_cornerOf_61 : decode cX11_cornerOf 61 = .ok (.goto (-55), 3) := by decide +kernel
theorem dX11_cornerOf_64 : decode cX11_cornerOf 64 = .ok (.lload 7, 2) := by decide +kernel
theorem dX11_cornerOf_66 : decode cX11_cornerOf 66 = .ok (.lreturn, 1) := by decide +kernel
theorem dX11_boxCorner_0 : decode cX11_boxCorner 0 = .ok (.aload_n 0, 1) := by decide +kernel
theorem dX11_boxCorner_1 : decode cX11_boxCorner 1 = .ok (.iload_n 1, 1) := by decide +kernel
theorem dX11_boxCorner_2 : decode cX11_boxCorner 2 = .ok (.iload_n 3, 1) := by decide +kernel
theorem dX11_boxCorner_3 : decode cX11_boxCorner 3 = .ok (.aload_n 0, 1) := by decide +kernel
theorem dX11_boxCorner_4 : decode cX11_boxCorner 4 = .ok (.getfield 26, 3) := by decide +kernel
theorem dX11_boxCorner_7 : decode cX11_boxCorner 7 = .ok (.iconst 4, 1) := by decide +kernel
theorem dX11_boxCorner_8 : decode cX11_boxCorner 8 = .ok (.iload_n 2, 1) := by decide +kernel
theorem dX11_boxCorner_9 : decode cX11_boxCorner 9 = .ok (.imul, 1) := by decide +kernel
theorem dX11_boxCorner_10 : decode cX11_boxCorner 10 = .ok (.iaload, 1) := by decide +kernel
theorem dX11_boxCorner_11 : decode cX11_boxCorner 11 = .ok (.aload_n 0, 1) := by decide +kernel
theorem dX11_boxCorner_12 : decode cX11_boxCorner 12 = .ok (.getfield 26, 3) := by decide +kernel
theorem dX11_boxCorner_15 : decode cX11_boxCorner 15 = .ok (.iconst 4, 1) := by decide +kernel
theorem dX11_boxCorner_16 : decode cX11_boxCorner 16 = .ok (.iload_n 2, 1) := by decide +kernel
theorem dX11_boxCorner_17 : decode cX11_boxCorner 17 = .ok (.imul, 1) := by decide +kernel
theorem dX11_boxCorner_18 : decode cX11_boxCorner 18 = .ok (.iconst 1, 1) := by decide +kernel
theorem dX11_boxCorner_19 : decode cX11_boxCorner 19 = .ok (.iadd, 1) := by decide +kernel
theorem dX11_boxCorner_20 : decode cX11_boxCorner 20 = .ok (.iaload, 1) := by decide +kernel
theorem dX11_boxCorner_21 : decode cX11_boxCorner 21 = .ok (.aload_n 0, 1) := by decide +kernel
theorem dX11_boxCorner_22 : decode cX11_boxCorner 22 = .ok (.getfield 26, 3) := by decide +kernel
theorem dX11_boxCorner_25 : decode cX11_boxCorner 25 = .ok (.iconst 4, 1) := by decide +kernel
theorem dX11_boxCorner_26 : decode cX11_boxCorner 26 = .ok (.iload_n 2, 1) := by decide +kernel
theorem dX11_boxCorner_27 : decode cX11_boxCorner 27 = .ok (.imul, 1) := by decide +kernel
theorem dX11_boxCorner_28 : decode cX11_boxCorner 28 = .ok (.iconst 2, 1) := by decide +kernel
theorem dX11_boxCorner_29 : decode cX11_boxCorner 29 = .ok (.iadd, 1) := by decide +kernel
theorem dX11_boxCorner_30 : decode cX11_boxCorner 30 = .ok (.iaload, 1) := by decide +kernel
theorem dX11_boxCorner_31 : decode cX11_boxCorner 31 = .ok (.aload_n 0, 1) := by decide +kernel
theorem dX11_boxCorner_32 : decode cX11_boxCorner 32 = .ok (.getfield 26, 3) := by decide +kernel
theorem dX11_boxCorner_35 : decode cX11_boxCorner 35 = .ok (.iconst 4, 1) := by decide +kernel
theorem dX11_boxCorner_36 : decode cX11_boxCorner 36 = .ok (.iload_n 2, 1) := by decide +kernel
theorem dX11_boxCorner_37 : decode cX11_boxCorner 37 = .ok (.imul, 1) := by decide +kernel
theorem dX11_boxCorner_38 : decode cX11_boxCorner 38 = .ok (.iconst 3, 1) := by decide +kernel
theorem dX11_boxCorner_39 : decode cX11_boxCorner 39 = .ok (.iadd, 1) := by decide +kernel
theorem dX11_boxCorner_40 : decode cX11_boxCorner 40 = .ok (.iaload, 1) := by decide +kernel
theorem dX11_boxCorner_41 : decode cX11_boxCorner 41 = .ok (.invokevirtual 151, 3) := by decide +kernel
theorem dX11_boxCorner_44 : decode cX11_boxCorner 44 = .ok (.lreturn, 1) := by decide +kernel
theorem dX11_corner_0 : decode cX11_corner 0 = .ok (.aload_n 0, 1) := by decide +kernel
theorem dX11_corner_1 : decode cX11_corner 1 = .ok (.iload_n 1, 1) := by decide +kernel
theorem dX11_corner_2 : decode cX11_corner 2 = .ok (.invokevirtual 109, 3) := by decide +kernel
theorem dX11_corner_5 : decode cX11_corner 5 = .ok (.ifCond .eq 33, 3) := by decide +kernel
theorem dX11_corner_8 : decode cX11_corner 8 = .ok (.aload_n 0, 1) := by decide +kernel
theorem dX11_corner_9 : decode cX11_corner 9 = .ok (.iload_n 2, 1) := by decide +kernel
theorem dX11_corner_10 : decode cX11_corner 10 = .ok (.invokevirtual 142, 3) := by decide +kernel
theorem dX11_corner_13 : decode cX11_corner 13 = .ok (.ifCond .eq 25, 3) := by decide +kernel
theorem dX11_corner_16 : decode cX11_corner 16 = .ok (.iload_n 3, 1) := by decide +kernel
theorem dX11_corner_17 : decode cX11_corner 17 = .ok (.i2l, 1) := by decide +kernel
theorem dX11_corner_18 : decode cX11_corner 18 = .ok (.lconst 0, 1) := by decide +kernel
theorem dX11_corner_19 : decode cX11_corner 19 = .ok (.ldc2_w 117, 3) := by decide +kernel
theorem dX11_corner_22 : decode cX11_corner 22 = .ok (.invokestatic 82, 3) := by decide +kernel
theorem dX11_corner_25 : decode cX11_corner 25 = .ok (.ifCond .eq 13, 3) := by decide +kernel
theorem dX11_corner_28 : decode cX11_corner 28 = .ok (.aload_n 0, 1) := by decide +kernel
theorem dX11_corner_29 : decode cX11_corner 29 = .ok (.iload_n 1, 1) := by decide +kernel
theorem dX11_corner_30 : decode cX11_corner 30 = .ok (.iload_n 2, 1) := by decide +kernel
theorem dX11_corner_31 : decode cX11_corner 31 = .ok (.iload_n 3, 1) := by decide +kernel
theorem dX11_corner_32 : decode cX11_corner 32 = .ok (.invokevirtual 155, 3) := by decide +kernel
theorem dX11_corner_35 : decode cX11_corner 35 = .ok (.goto 6, 3) := by decide +kernel
theorem dX11_corner_38 : decode cX11_corner 38 = .ok (.ldc2_w 78, 3) := by decide +kernel
theorem dX11_corner_41 : decode cX11_corner 41 = .ok (.lreturn, 1) := by decide +kernel
theorem dX11_bound_0 : decode cX11_bound 0 = .ok (.aload_n 0, 1) := by decide +kernel
theorem dX11_bound_1 : decode cX11_bound 1 = .ok (.iload_n 1, 1) := by decide +kernel
theorem dX11_bound_2 : decode cX11_bound 2 = .ok (.invokevirtual 109, 3) := by decide +kernel
theorem dX11_bound_5 : decode cX11_bound 5 = .ok (.ifCond .eq 21, 3) := by decide +kernel
theorem dX11_bound_8 : decode cX11_bound 8 = .ok (.aload_n 0, 1) := by decide +kernel
theorem dX11_bound_9 : decode cX11_bound 9 = .ok (.iload_n 2, 1) := by decide +kernel
theorem dX11_bound_10 : decode cX11_bound 10 = .ok (.invokevirtual 142, 3) := by decide +kernel
theorem dX11_bound_13 : decode cX11_bound 13 = .ok (.ifCond .eq 13, 3) := by decide +kernel
theorem dX11_bound_16 : decode cX11_bound 16 = .ok (.iload_n 3, 1) := by decide +kernel
theorem dX11_bound_17 : decode cX11_bound 17 = .ok (.i2l, 1) := by decide +kernel
theorem dX11_bound_18 : decode cX11_bound 18 = .ok (.lconst 0, 1) := by decide +kernel
theorem dX11_bound_19 : decode cX11_bound 19 = .ok (.lconst 1, 1) := by decide +kernel
theorem dX11_bound_20 : decode cX11_bound 20 = .ok (.invokestatic 82, 3) := by decide +kernel
theorem dX11_bound_23 : decode cX11_bound 23 = .ok (.ifCond .ne 7, 3) := by decide +kernel
theorem dX11_bound_26 : decode cX11_bound 26 = .ok (.ldc2_w 78, 3) := by decide +kernel
theorem dX11_bound_29 : decode cX11_bound 29 = .ok (.lreturn, 1) := by decide +kernel
theorem dX11_bound_30 : decode cX11_bound 30 = .ok (.aload_n 0, 1) := by decide +kernel
theorem dX11_bound_31 : decode cX11_bound 31 = .ok (.iload_n 1, 1) := by decide +kernel
theorem dX11_bound_32 : decode cX11_bound 32 = .ok (.iload_n 2, 1) := by decide +kernel
theorem dX11_bound_33 : decode cX11_bound 33 = .ok (.iconst 0, 1) := by decide +kernel
theorem dX11_bound_34 : decode cX11_bound 34 = .ok (.invokevirtual 155, 3) := by decide +kernel
theorem dX11_bound_37 : decode cX11_bound 37 = .ok (.lstore 4, 2) := by decide +kernel
theorem dX11_bound_39 : decode cX11_bound 39 = .ok (.iconst 1, 1) := by decide +kernel
theorem dX11_bound_40 : decode cX11_bound 40 = .ok (.istore 6, 2) := by decide +kernel
theorem dX11_bound_42 : decode cX11_bound 42 = .ok (.iload 6, 2) := by decide +kernel
theorem dX11_bound_44 : decode cX11_bound 44 = .ok (.bipush 9, 2) := by decide +kernel
theorem dX11_bound_46 : decode cX11_bound 46 = .ok (.if_icmp .ge 51, 3) := by decide +kernel
theorem dX11_bound_49 : decode cX11_bound 49 = .ok (.aload_n 0, 1) := by decide +kernel
theorem dX11_bound_50 : decode cX11_bound 50 = .ok (.iload_n 1, 1) := by decide +kernel
theorem dX11_bound_51 : decode cX11_bound 51 = .ok (.iload_n 2, 1) := by decide +kernel
theorem dX11_bound_52 : decode cX11_bound 52 = .ok (.iload 6, 2) := by decide +kernel
theorem dX11_bound_54 : decode cX11_bound 54 = .ok (.invokevirtual 155, 3) := by decide +kernel
theorem dX11_bound_57 : decode cX11_bound 57 = .ok (.lstore 7, 2) := by decide +kernel
theorem dX11_bound_59 : decode cX11_bound 59 = .ok (.iload_n 3, 1) := by decide +kernel
theorem dX11_bound_60 : decode cX11_bound 60 = .ok (.ifCond .ne 14, 3) := by decide +kernel
theorem dX11_bound_63 : decode cX11_bound 63 = .ok (.lload 7, 2) := by decide +kernel
theorem dX11_bound_65 : decode cX11_bound 65 = .ok (.lload 4, 2) := by decide +kernel
theorem dX11_bound_67 : decode cX11_bound 67 = .ok (.lcmp, 1) := by decide +kernel
theorem dX11_bound_68 : decode cX11_bound 68 = .ok (.ifCond .ge 19, 3) := by decide +kernel
theorem dX11_bound_71 : decode cX11_bound 71 = .ok (.goto 11, 3) := by decide +kernel
theorem dX11_bound_74 : decode cX11_bound 74 = .ok (.lload 7, 2) := by decide +kernel
theorem dX11_bound_76 : decode cX11_bound 76 = .ok (.lload 4, 2) := by decide +kernel
theorem dX11_bound_78 : decode cX11_bound 78 = .ok (.lcmp, 1) := by decide +kernel
theorem dX11_bound_79 : decode cX11_bound 79 = .ok (.ifCond .le 8, 3) := by decide +kernel
theorem dX11_bound_82 : decode cX11_bound 82 = .ok (.lload 7, 2) := by decide +kernel
theorem dX11_bound_84 : decode cX11_bound 84 = .ok (.goto 5, 3) := by decide +kernel
theorem dX11_bound_87 : decode cX11_bound 87 = .ok (.lload 4, 2) := by decide +kernel
theorem dX11_bound_89 : decode cX11_bound 89 = .ok (.lstore 4, 2) := by decide +kernel
theorem dX11_bound_91 : decode cX11_bound 91 = .ok (.iinc 6 1, 3) := by decide +kernel
theorem dX11_bound_94 : decode cX11_bound 94 = .ok (.goto (-52), 3) := by decide +kernel
theorem dX11_bound_97 : decode cX11_bound 97 = .ok (.lload 4, 2) := by decide +kernel
theorem dX11_bound_99 : decode cX11_bound 99 = .ok (.lreturn, 1) := by decide +kernel
theorem dX11_cut_0 : decode cX11_cut 0 = .ok (.aload_n 0, 1) := by decide +kernel
theorem dX11_cut_1 : decode cX11_cut 1 = .ok (.iload_n 1, 1) := by decide +kernel
theorem dX11_cut_2 : decode cX11_cut 2 = .ok (.invokevirtual 142, 3) := by decide +kernel
theorem dX11_cut_5 : decode cX11_cut 5 = .ok (.ifCond .ne 5, 3) := by decide +kernel
theorem dX11_cut_8 : decode cX11_cut 8 = .ok (.iconst (-1), 1) := by decide +kernel
theorem dX11_cut_9 : decode cX11_cut 9 = .ok (.ireturn, 1) := by decide +kernel
theorem dX11_cut_10 : decode cX11_cut 10 = .ok (.iload_n 2, 1) := by decide +kernel
theorem dX11_cut_11 : decode cX11_cut 11 = .ok (.i2l, 1) := by decide +kernel
theorem dX11_cut_12 : decode cX11_cut 12 = .ok (.lconst 0, 1) := by decide +kernel
theorem dX11_cut_13 : decode cX11_cut 13 = .ok (.lconst 1, 1) := by decide +kernel
theorem dX11_cut_14 : decode cX11_cut 14 = .ok (.invokestatic 82, 3) := by decide +kernel
theorem dX11_cut_17 : decode cX11_cut 17 = .ok (.ifCond .ne 6, 3) := by decide +kernel
theorem dX11_cut_20 : decode cX11_cut 20 = .ok (.bipush (-2), 2) := by decide +kernel
theorem dX11_cut_22 : decode cX11_cut 22 = .ok (.ireturn, 1) := by decide +kernel
theorem dX11_cut_23 : decode cX11_cut 23 = .ok (.aload_n 0, 1) := by decide +kernel
theorem dX11_cut_24 : decode cX11_cut 24 = .ok (.getfield 26, 3) := by decide +kernel
theorem dX11_cut_27 : decode cX11_cut 27 = .ok (.iconst 4, 1) := by decide +kernel
theorem dX11_cut_28 : decode cX11_cut 28 = .ok (.iload_n 1, 1) := by decide +kernel
theorem dX11_cut_29 : decode cX11_cut 29 = .ok (.imul, 1) := by decide +kernel
theorem dX11_cut_30 : decode cX11_cut 30 = .ok (.iaload, 1) := by decide +kernel
theorem dX11_cut_31 : decode cX11_cut 31 = .ok (.istore_n 3, 1) := by decide +kernel
theorem dX11_cut_32 : decode cX11_cut 32 = .ok (.aload_n 0, 1) := by decide +kernel
theorem dX11_cut_33 : decode cX11_cut 33 = .ok (.getfield 26, 3) := by decide +kernel
theorem dX11_cut_36 : decode cX11_cut 36 = .ok (.iconst 4, 1) := by decide +kernel
theorem dX11_cut_37 : decode cX11_cut 37 = .ok (.iload_n 1, 1) := by decide +kernel
theorem dX11_cut_38 : decode cX11_cut 38 = .ok (.imul, 1) := by decide +kernel
theorem dX11_cut_39 : decode cX11_cut 39 = .ok (.iconst 1, 1) := by decide +kernel
theorem dX11_cut_40 : decode cX11_cut 40 = .ok (.iadd, 1) := by decide +kernel
theorem dX11_cut_41 : decode cX11_cut 41 = .ok (.iaload, 1) := by decide +kernel
theorem dX11_cut_42 : decode cX11_cut 42 = .ok (.istore 4, 2) := by decide +kernel
theorem dX11_cut_44 : decode cX11_cut 44 = .ok (.aload_n 0, 1) := by decide +kernel
theorem dX11_cut_45 : decode cX11_cut 45 = .ok (.getfield 26, 3) := by decide +kernel
theorem dX11_cut_48 : decode cX11_cut 48 = .ok (.iconst 4, 1) := by decide +kernel
theorem dX11_cut_49 : decode cX11_cut 49 = .ok (.iload_n 1, 1) := by decide +kernel
theorem dX11_cut_50 : decode cX11_cut 50 = .ok (.imul, 1) := by decide +kernel
theorem dX11_cut_51 : decode cX11_cut 51 = .ok (.iconst 2, 1) := by decide +kernel
theorem dX11_cut_52 : decode cX11_cut 52 = .ok (.iadd, 1) := by decide +kernel
theorem dX11_cut_53 : decode cX11_cut 53 = .ok (.iaload, 1) := by decide +kernel
theorem dX11_cut_54 : decode cX11_cut 54 = .ok (.istore 5, 2) := by decide +kernel
theorem dX11_cut_56 : decode cX11_cut 56 = .ok (.aload_n 0, 1) := by decide +kernel
theorem dX11_cut_57 : decode cX11_cut 57 = .ok (.getfield 26, 3) := by decide +kernel
theorem dX11_cut_60 : decode cX11_cut 60 = .ok (.iconst 4, 1) := by decide +kernel
theorem dX11_cut_61 : decode cX11_cut 61 = .ok (.iload_n 1, 1) := by decide +kernel
theorem dX11_cut_62 : decode cX11_cut 62 = .ok (.imul, 1) := by decide +kernel
theorem dX11_cut_63 : decode cX11_cut 63 = .ok (.iconst 3, 1) := by decide +kernel
theorem dX11_cut_64 : decode cX11_cut 64 = .ok (.iadd, 1) := by decide +kernel
theorem dX11_cut_65 : decode cX11_cut 65 = .ok (.iaload, 1) := by decide +kernel
theorem dX11_cut_66 : decode cX11_cut 66 = .ok (.istore 6, 2) := by decide +kernel
theorem dX11_cut_68 : decode cX11_cut 68 = .ok (.iload_n 2, 1) := by decide +kernel
theorem dX11_cut_69 : decode cX11_cut 69 = .ok (.ifCond .ne 10, 3) := by decide +kernel
theorem dX11_cut_72 : decode cX11_cut 72 = .ok (.iload 4, 2) := by decide +kernel
theorem dX11_cut_74 : decode cX11_cut 74 = .ok (.iload_n 3, 1) := by decide +kernel
theorem dX11_cut_75 : decode cX11_cut 75 = .ok (.isub, 1) := by decide +kernel
theorem dX11_cut_76 : decode cX11_cut 76 = .ok (.goto 8, 3) := by decide +kernel
theorem dX11_cut_79 : decode cX11_cut 79 = .ok (.iload 6, 2) := by decide +kernel
theorem dX11_cut_81 : decode cX11_cut 81 = .ok (.iload 5, 2) := by decide +kernel
theorem dX11_cut_83 : decode cX11_cut 83 = .ok (.isub, 1) := by decide +kernel
theorem dX11_cut_84 : decode cX11_cut 84 = .ok (.iconst 2, 1) := by decide +kernel
theorem dX11_cut_85 : decode cX11_cut 85 = .ok (.irem, 1) := by decide +kernel
theorem dX11_cut_86 : decode cX11_cut 86 = .ok (.ifCond .eq 6, 3) := by decide +kernel
theorem dX11_cut_89 : decode cX11_cut 89 = .ok (.bipush (-3), 2) := by decide +kernel
theorem dX11_cut_91 : decode cX11_cut 91 = .ok (.ireturn, 1) := by decide +kernel
theorem dX11_cut_92 : decode cX11_cut 92 = .ok (.aload_n 0, 1) := by decide +kernel
theorem dX11_cut_93 : decode cX11_cut 93 = .ok (.getfield 131, 3) := by decide +kernel
theorem dX11_cut_96 : decode cX11_cut 96 = .ok (.iconst 2, 1) := by decide +kernel
theorem dX11_cut_97 : decode cX11_cut 97 = .ok (.iadd, 1) := by decide +kernel
theorem dX11_cut_98 : decode cX11_cut 98 = .ok (.bipush 30, 2) := by decide +kernel
theorem dX11_cut_100 : decode cX11_cut 100 = .ok (.if_icmp .le 6, 3) := by decide +kernel
theorem dX11_cut_103 : decode cX11_cut 103 = .ok (.bipush (-4), 2) := by decide +kernel
theorem dX11_cut_105 : decode cX11_cut 105 = .ok (.ireturn, 1) := by decide +kernel
theorem dX11_cut_106 : decode cX11_cut 106 = .ok (.aload_n 0, 1) := by decide +kernel
theorem dX11_cut_107 : decode cX11_cut 107 = .ok (.getfield 131, 3) := by decide +kernel
theorem dX11_cut_110 : decode cX11_cut 110 = .ok (.istore 7, 2) := by decide +kernel
theorem dX11_cut_112 : decode cX11_cut 112 = .ok (.iload_n 2, 1) := by decide +kernel
theorem dX11_cut_113 : decode cX11_cut 113 = .ok (.ifCond .ne 40, 3) := by decide +kernel
theorem dX11_cut_116 : decode cX11_cut 116 = .ok (.aload_n 0, 1) := by decide +kernel
theorem dX11_cut_117 : decode cX11_cut 117 = .ok (.iload_n 3, 1) := by decide +kernel
theorem dX11_cut_118 : decode cX11_cut 118 = .ok (.iload_n 3, 1) := by decide +kernel
theorem dX11_cut_119 : decode cX11_cut 119 = .ok (.iload 4, 2) := by decide +kernel
theorem dX11_cut_121 : decode cX11_cut 121 = .ok (.iadd, 1) := by decide +kernel
theorem dX11_cut_122 : decode cX11_cut 122 = .ok (.iconst 2, 1) := by decide +kernel
theorem dX11_cut_123 : decode cX11_cut 123 = .ok (.idiv, 1) := by decide +kernel
theorem dX11_cut_124 : decode cX11_cut 124 = .ok (.iload 5, 2) := by decide +kernel
theorem dX11_cut_126 : decode cX11_cut 126 = .ok (.iload 6, 2) := by decide +kernel
theorem dX11_cut_128 : decode cX11_cut 128 = .ok (.invokevirtual 138, 3) := by decide +kernel
theorem dX11_cut_131 : decode cX11_cut 131 = .ok (.aload_n 0, 1) := by decide +kernel
theorem dX11_cut_132 : decode cX11_cut 132 = .ok (.iload_n 3, 1) := by decide +kernel
theorem dX11_cut_133 : decode cX11_cut 133 = .ok (.iload 4, 2) := by decide +kernel
theorem dX11_cut_135 : decode cX11_cut 135 = .ok (.iadd, 1) := by decide +kernel
theorem dX11_cut_136 : decode cX11_cut 136 = .ok (.iconst 2, 1) := by decide +kernel
theorem dX11_cut_137 : decode cX11_cut 137 = .ok (.idiv, 1) := by decide +kernel
theorem dX11_cut_138 : decode cX11_cut 138 = .ok (.iload 4, 2) := by decide +kernel
theorem dX11_cut_140 : decode cX11_cut 140 = .ok (.iload 5, 2) := by decide +kernel
theorem dX11_cut_142 : decode cX11_cut 142 = .ok (.iload 6, 2) := by decide +kernel
theorem dX11_cut_144 : decode cX11_cut 144 = .ok (.invokevirtual 138, 3) := by decide +kernel
theorem dX11_cut_147 : decode cX11_cut 147 = .ok (.iadd, 1) := by decide +kernel
theorem dX11_cut_148 : decode cX11_cut 148 = .ok (.istore 8, 2) := by decide +kernel
theorem dX11_cut_150 : decode cX11_cut 150 = .ok (.goto 38, 3) := by decide +kernel
theorem dX11_cut_153 : decode cX11_cut 153 = .ok (.aload_n 0, 1) := by decide +kernel
theorem dX11_cut_154 : decode cX11_cut 154 = .ok (.iload_n 3, 1) := by decide +kernel
theorem dX11_cut_155 : decode cX11_cut 155 = .ok (.iload 4, 2) := by decide +kernel
theorem dX11_cut_157 : decode cX11_cut 157 = .ok (.iload 5, 2) := by decide +kernel
theorem dX11_cut_159 : decode cX11_cut 159 = .ok (.iload 5, 2) := by decide +kernel
theorem dX11_cut_161 : decode cX11_cut 161 = .ok (.iload 6, 2) := by decide +kernel
theorem dX11_cut_163 : decode cX11_cut 163 = .ok (.iadd, 1) := by decide +kernel
theorem dX11_cut_164 : decode cX11_cut 164 = .ok (.iconst 2, 1) := by decide +kernel
theorem dX11_cut_165 : decode cX11_cut 165 = .ok (.idiv, 1) := by decide +kernel
theorem dX11_cut_166 : decode cX11_cut 166 = .ok (.invokevirtual 138, 3) := by decide +kernel
theorem dX11_cut_169 : decode cX11_cut 169 = .ok (.aload_n 0, 1) := by decide +kernel
theorem dX11_cut_170 : decode cX11_cut 170 = .ok (.iload_n 3, 1) := by decide +kernel
theorem dX11_cut_171 : decode cX11_cut 171 = .ok (.iload 4, 2) := by decide +kernel
theorem dX11_cut_173 : decode cX11_cut 173 = .ok (.iload 5, 2) := by decide +kernel
theorem dX11_cut_175 : decode cX11_cut 175 = .ok (.iload 6, 2) := by decide +kernel
theorem dX11_cut_177 : decode cX11_cut 177 = .ok (.iadd, 1) := by decide +kernel
theorem dX11_cut_178 : decode cX11_cut 178 = .ok (.iconst 2, 1) := by decide +kernel
theorem dX11_cut_179 : decode cX11_cut 179 = .ok (.idiv, 1) := by decide +kernel
theorem dX11_cut_180 : decode cX11_cut 180 = .ok (.iload 6, 2) := by decide +kernel
theorem dX11_cut_182 : decode cX11_cut 182 = .ok (.invokevirtual 138, 3) := by decide +kernel
theorem dX11_cut_185 : decode cX11_cut 185 = .ok (.iadd, 1) := by decide +kernel
theorem dX11_cut_186 : decode cX11_cut 186 = .ok (.istore 8, 2) := by decide +kernel
theorem dX11_cut_188 : decode cX11_cut 188 = .ok (.iload 7, 2) := by decide +kernel
theorem dX11_cut_190 : decode cX11_cut 190 = .ok (.ireturn, 1) := by decide +kernel
theorem dX11_beginParts_0 : decode cX11_beginParts 0 = .ok (.aload_n 0, 1) := by decide +kernel
theorem dX11_beginParts_1 : decode cX11_beginParts 1 = .ok (.iconst 1, 1) := by decide +kernel
theorem dX11_beginParts_2 : decode cX11_beginParts 2 = .ok (.putfield 159, 3) := by decide +kernel
theorem dX11_beginParts_5 : decode cX11_beginParts 5 = .ok (.aload_n 0, 1) := by decide +kernel
theorem dX11_beginParts_6 : decode cX11_beginParts 6 = .ok (.getfield 32, 3) := by decide +kernel
theorem dX11_beginParts_9 : decode cX11_beginParts 9 = .ok (.iconst 0, 1) := by decide +kernel
theorem dX11_beginParts_10 : decode cX11_beginParts 10 = .ok (.iconst 0, 1) := by decide +kernel
theorem dX11_beginParts_11 : decode cX11_beginParts 11 = .ok (.iastore, 1) := by decide +kernel
theorem dX11_beginParts_12 : decode cX11_beginParts 12 = .ok (.iconst 0, 1) := by decide +kernel
theorem dX11_beginParts_13 : decode cX11_beginParts 13 = .ok (.istore_n 2, 1) := by decide +kernel
theorem dX11_beginParts_14 : decode cX11_beginParts 14 = .ok (.iload_n 2, 1) := by decide +kernel
theorem dX11_beginParts_15 : decode cX11_beginParts 15 = .ok (.iconst 4, 1) := by decide +kernel
theorem dX11_beginParts_16 : decode cX11_beginParts 16 = .ok (.if_icmp .ge 25, 3) := by decide +kernel
theorem dX11_beginParts_19 : decode cX11_beginParts 19 = .ok (.aload_n 0, 1) := by decide +kernel
theorem dX11_beginParts_20 : decode cX11_beginParts 20 = .ok (.getfield 29, 3) := by decide +kernel
theorem dX11_beginParts_23 : decode cX11_beginParts 23 = .ok (.iload_n 2, 1) := by decide +kernel
theorem dX11_beginParts_24 : decode cX11_beginParts 24 = .ok (.aload_n 0, 1) := by decide +kernel
theorem dX11_beginParts_25 : decode cX11_beginParts 25 = .ok (.getfield 26, 3) := by decide +kernel
theorem dX11_beginParts_28 : decode cX11_beginParts 28 = .ok (.iconst 4, 1) := by decide +kernel
theorem dX11_beginParts_29 : decode cX11_beginParts 29 = .ok (.iload_n 1, 1) := by decide +kernel
theorem dX11_beginParts_30 : decode cX11_beginParts 30 = .ok (.imul, 1) := by decide +kernel
theorem dX11_beginParts_31 : decode cX11_beginParts 31 = .ok (.iload_n 2, 1) := by decide +kernel
theorem dX11_beginParts_32 : decode cX11_beginParts 32 = .ok (.iadd, 1) := by decide +kernel
theorem dX11_beginParts_33 : decode cX11_beginParts 33 = .ok (.iaload, 1) := by decide +kernel
theorem dX11_beginParts_34 : decode cX11_beginParts 34 = .ok (.iastore, 1) := by decide +kernel
theorem dX11_beginParts_35 : decode cX11_beginParts 35 = .ok (.iinc 2 1, 3) := by decide +kernel
theorem dX11_beginParts_38 : decode cX11_beginParts 38 = .ok (.goto (-24), 3) := by decide +kernel
theorem dX11_beginParts_41 : decode cX11_beginParts 41 = .ok (.return_, 1) := by decide +kernel
theorem dX11_parts_0 : decode cX11_parts 0 = .ok (.aload_n 0, 1) := by decide +kernel
theorem dX11_parts_1 : decode cX11_parts 1 = .ok (.iload_n 1, 1) := by decide +kernel
theorem dX11_parts_2 : decode cX11_parts 2 = .ok (.invokevirtual 109, 3) := by decide +kernel
theorem dX11_parts_5 : decode cX11_parts 5 = .ok (.ifCond .eq 11, 3) := by decide +kernel
theorem dX11_parts_8 : decode cX11_parts 8 = .ok (.aload_n 0, 1) := by decide +kernel
theorem dX11_parts_9 : decode cX11_parts 9 = .ok (.iload_n 2, 1) := by decide +kernel
theorem dX11_parts_10 : decode cX11_parts 10 = .ok (.invokevirtual 142, 3) := by decide +kernel
theorem dX11_parts_13 : decode cX11_parts 13 = .ok (.ifCond .ne 5, 3) := by decide +kernel
theorem dX11_parts_16 : decode cX11_parts 16 = .ok (.iconst (-1), 1) := by decide +kernel
theorem dX11_parts_17 : decode cX11_parts 17 = .ok (.ireturn, 1) := by decide +kernel
theorem dX11_parts_18 : decode cX11_parts 18 = .ok (.aload_n 0, 1) := by decide +kernel
theorem dX11_parts_19 : decode cX11_parts 19 = .ok (.iload_n 1, 1) := by decide +kernel
theorem dX11_parts_20 : decode cX11_parts 20 = .ok (.putfield 162, 3) := by decide +kernel
theorem dX11_parts_23 : decode cX11_parts 23 = .ok (.aload_n 0, 1) := by decide +kernel
theorem dX11_parts_24 : decode cX11_parts 24 = .ok (.iload_n 2, 1) := by decide +kernel
theorem dX11_parts_25 : decode cX11_parts 25 = .ok (.putfield 165, 3) := by decide +kernel
theorem dX11_parts_28 : decode cX11_parts 28 = .ok (.aload_n 0, 1) := by decide +kernel
theorem dX11_parts_29 : decode cX11_parts 29 = .ok (.iload_n 2, 1) := by decide +kernel
theorem dX11_parts_30 : decode cX11_parts 30 = .ok (.invokevirtual 168, 3) := by decide +kernel
theorem dX11_parts_33 : decode cX11_parts 33 = .ok (.iconst 1, 1) := by decide +kernel
theorem dX11_parts_34 : decode cX11_parts 34 = .ok (.ireturn, 1) := by decide +kernel
theorem dX11_partCorner_0 : decode cX11_partCorner 0 = .ok (.aload_n 0, 1) := by decide +kernel
theorem dX11_partCorner_1 : decode cX11_partCorner 1 = .ok (.aload_n 0, 1) := by decide +kernel
theorem dX11_partCorner_2 : decode cX11_partCorner 2 = .ok (.getfield 162, 3) := by decide +kernel
theorem dX11_partCorner_5 : decode cX11_partCorner 5 = .ok (.iload_n 2, 1) := by decide +kernel
theorem dX11_partCorner_6 : decode cX11_partCorner 6 = .ok (.aload_n 0, 1) := by decide +kernel
theorem dX11_partCorner_7 : decode cX11_partCorner 7 = .ok (.getfield 29, 3) := by decide +kernel
theorem dX11_partCorner_10 : decode cX11_partCorner 10 = .ok (.iconst 4, 1) := by decide +kernel
theorem dX11_partCorner_11 : decode cX11_partCorner 11 = .ok (.iload_n 1, 1) := by decide +kernel
theorem dX11_partCorner_12 : decode cX11_partCorner 12 = .ok (.imul, 1) := by decide +kernel
theorem dX11_partCorner_13 : decode cX11_partCorner 13 = .ok (.iaload, 1) := by decide +kernel
theorem dX11_partCorner_14 : decode cX11_partCorner 14 = .ok (.aload_n 0, 1) := by decide +kernel
theorem dX11_partCorner_15 : decode cX11_partCorner 15 = .ok (.getfield 29, 3) := by decide +kernel
theorem dX11_partCorner_18 : decode cX11_partCorner 18 = .ok (.iconst 4, 1) := by decide +kernel
theorem dX11_partCorner_19 : decode cX11_partCorner 19 = .ok (.iload_n 1, 1) := by decide +kernel
theorem dX11_partCorner_20 : decode cX11_partCorner 20 = .ok (.imul, 1) := by decide +kernel
theorem dX11_partCorner_21 : decode cX11_partCorner 21 = .ok (.iconst 1, 1) := by decide +kernel
theorem dX11_partCorner_22 : decode cX11_partCorner 22 = .ok (.iadd, 1) := by decide +kernel
theorem dX11_partCorner_23 : decode cX11_partCorner 23 = .ok (.iaload, 1) := by decide +kernel
theorem dX11_partCorner_24 : decode cX11_partCorner 24 = .ok (.aload_n 0, 1) := by decide +kernel
theorem dX11_partCorner_25 : decode cX11_partCorner 25 = .ok (.getfield 29, 3) := by decide +kernel
theorem dX11_partCorner_28 : decode cX11_partCorner 28 = .ok (.iconst 4, 1) := by decide +kernel
theorem dX11_partCorner_29 : decode cX11_partCorner 29 = .ok (.iload_n 1, 1) := by decide +kernel
theorem dX11_partCorner_30 : decode cX11_partCorner 30 = .ok (.imul, 1) := by decide +kernel
theorem dX11_partCorner_31 : decode cX11_partCorner 31 = .ok (.iconst 2, 1) := by decide +kernel
theorem dX11_partCorner_32 : decode cX11_partCorner 32 = .ok (.iadd, 1) := by decide +kernel
theorem dX11_partCorner_33 : decode cX11_partCorner 33 = .ok (.iaload, 1) := by decide +kernel
theorem dX11_partCorner_34 : decode cX11_partCorner 34 = .ok (.aload_n 0, 1) := by decide +kernel
theorem dX11_partCorner_35 : decode cX11_partCorner 35 = .ok (.getfield 29, 3) := by decide +kernel
theorem dX11_partCorner_38 : decode cX11_partCorner 38 = .ok (.iconst 4, 1) := by decide +kernel
theorem dX11_partCorner_39 : decode cX11_partCorner 39 = .ok (.iload_n 1, 1) := by decide +kernel
theorem dX11_partCorner_40 : decode cX11_partCorner 40 = .ok (.imul, 1) := by decide +kernel
theorem dX11_partCorner_41 : decode cX11_partCorner 41 = .ok (.iconst 3, 1) := by decide +kernel
theorem dX11_partCorner_42 : decode cX11_partCorner 42 = .ok (.iadd, 1) := by decide +kernel
theorem dX11_partCorner_43 : decode cX11_partCorner 43 = .ok (.iaload, 1) := by decide +kernel
theorem dX11_partCorner_44 : decode cX11_partCorner 44 = .ok (.invokevirtual 151, 3) := by decide +kernel
theorem dX11_partCorner_47 : decode cX11_partCorner 47 = .ok (.lreturn, 1) := by decide +kernel
theorem dX11_firstPart_0 : decode cX11_firstPart 0 = .ok (.iconst 0, 1) := by decide +kernel
theorem dX11_firstPart_1 : decode cX11_firstPart 1 = .ok (.istore_n 2, 1) := by decide +kernel
theorem dX11_firstPart_2 : decode cX11_firstPart 2 = .ok (.iload_n 2, 1) := by decide +kernel
theorem dX11_firstPart_3 : decode cX11_firstPart 3 = .ok (.aload_n 0, 1) := by decide +kernel
theorem dX11_firstPart_4 : decode cX11_firstPart 4 = .ok (.getfield 159, 3) := by decide +kernel
theorem dX11_firstPart_7 : decode cX11_firstPart 7 = .ok (.if_icmp .ge 21, 3) := by decide +kernel
theorem dX11_firstPart_10 : decode cX11_firstPart 10 = .ok (.aload_n 0, 1) := by decide +kernel
theorem dX11_firstPart_11 : decode cX11_firstPart 11 = .ok (.getfield 32, 3) := by decide +kernel
theorem dX11_firstPart_14 : decode cX11_firstPart 14 = .ok (.iload_n 2, 1) := by decide +kernel
theorem dX11_firstPart_15 : decode cX11_firstPart 15 = .ok (.iaload, 1) := by decide +kernel
theorem dX11_firstPart_16 : decode cX11_firstPart 16 = .ok (.iload_n 1, 1) := by decide +kernel
theorem dX11_firstPart_17 : decode cX11_firstPart 17 = .ok (.if_icmp .ne 5, 3) := by decide +kernel
theorem dX11_firstPart_20 : decode cX11_firstPart 20 = .ok (.iload_n 2, 1) := by decide +kernel
theorem dX11_firstPart_21 : decode cX11_firstPart 21 = .ok (.ireturn, 1) := by decide +kernel
theorem dX11_firstPart_22 : decode cX11_firstPart 22 = .ok (.iinc 2 1, 3) := by decide +kernel
theorem dX11_firstPart_25 : decode cX11_firstPart 25 = .ok (.goto (-23), 3) := by decide +kernel
theorem dX11_firstPart_28 : decode cX11_firstPart 28 = .ok (.bipush (-9), 2) := by decide +kernel
theorem dX11_firstPart_30 : decode cX11_firstPart 30 = .ok (.ireturn, 1) := by decide +kernel
theorem dX11_countParts_0 : decode cX11_countParts 0 = .ok (.iconst 0, 1) := by decide +kernel
theorem dX11_countParts_1 : decode cX11_countParts 1 = .ok (.istore_n 2, 1) := by decide +kernel
theorem dX11_countParts_2 : decode cX11_countParts 2 = .ok (.iconst 0, 1) := by decide +kernel
theorem dX11_countParts_3 : decode cX11_countParts 3 = .ok (.istore_n 3, 1) := by decide +kernel
theorem dX11_countParts_4 : decode cX11_countParts 4 = .ok (.iload_n 3, 1) := by decide +kernel
theorem dX11_countParts_5 : decode cX11_countParts 5 = .ok (.aload_n 0, 1) := by decide +kernel
theorem dX11_countParts_6 : decode cX11_countParts 6 = .ok (.getfield 159, 3) := by decide +kernel
theorem dX11_countParts_9 : decode cX11_countParts 9 = .ok (.if_icmp .ge 27, 3) := by decide +kernel
theorem dX11_countParts_12 : decode cX11_countParts 12 = .ok (.iload_n 2, 1) := by decide +kernel
theorem dX11_countParts_13 : decode cX11_countParts 13 = .ok (.aload_n 0, 1) := by decide +kernel
theorem dX11_countParts_14 : decode cX11_countParts 14 = .ok (.getfield 32, 3) := by decide +kernel
theorem dX11_countParts_17 : decode cX11_countParts 17 = .ok (.iload_n 3, 1) := by decide +kernel
theorem dX11_countParts_18 : decode cX11_countParts 18 = .ok (.iaload, 1) := by decide +kernel
theorem dX11_countParts_19 : decode cX11_countParts 19 = .ok (.iload_n 1, 1) := by decide +kernel
theorem dX11_countParts_20 : decode cX11_countParts 20 = .ok (.if_icmp .ne 7, 3) := by decide +kernel
theorem dX11_countParts_23 : decode cX11_countParts 23 = .ok (.iconst 1, 1) := by decide +kernel
theorem dX11_countParts_24 : decode cX11_countParts 24 = .ok (.goto 4, 3) := by decide +kernel
theorem dX11_countParts_27 : decode cX11_countParts 27 = .ok (.iconst 0, 1) := by decide +kernel
theorem dX11_countParts_28 : decode cX11_countParts 28 = .ok (.iadd, 1) := by decide +kernel
theorem dX11_countParts_29 : decode cX11_countParts 29 = .ok (.istore_n 2, 1) := by decide +kernel
theorem dX11_countParts_30 : decode cX11_countParts 30 = .ok (.iinc 3 1, 3) := by decide +kernel
theorem dX11_countParts_33 : decode cX11_countParts 33 = .ok (.goto (-29), 3) := by decide +kernel
theorem dX11_countParts_36 : decode cX11_countParts 36 = .ok (.iload_n 2, 1) := by decide +kernel
theorem dX11_countParts_37 : decode cX11_countParts 37 = .ok (.ireturn, 1) := by decide +kernel
theorem dX11_judged_0 : decode cX11_judged 0 = .ok (.iconst 1, 1) := by decide +kernel
theorem dX11_judged_1 : decode cX11_judged 1 = .ok (.istore_n 2, 1) := by decide +kernel
theorem dX11_judged_2 : decode cX11_judged 2 = .ok (.iconst 0, 1) := by decide +kernel
theorem dX11_judged_3 : decode cX11_judged 3 = .ok (.istore_n 3, 1) := by decide +kernel
theorem dX11_judged_4 : decode cX11_judged 4 = .ok (.iload_n 3, 1) := by decide +kernel
theorem dX11_judged_5 : decode cX11_judged 5 = .ok (.bipush 9, 2) := by decide +kernel
theorem dX11_judged_7 : decode cX11_judged 7 = .ok (.if_icmp .ge 28, 3) := by decide +kernel
theorem dX11_judged_10 : decode cX11_judged 10 = .ok (.iload_n 2, 1) := by decide +kernel
theorem dX11_judged_11 : decode cX11_judged 11 = .ok (.aload_n 0, 1) := by decide +kernel
theorem dX11_judged_12 : decode cX11_judged 12 = .ok (.iload_n 1, 1) := by decide +kernel
theorem dX11_judged_13 : decode cX11_judged 13 = .ok (.iload_n 3, 1) := by decide +kernel
theorem dX11_judged_14 : decode cX11_judged 14 = .ok (.invokevirtual 172, 3) := by decide +kernel
theorem dX11_judged_17 : decode cX11_judged 17 = .ok (.lconst 0, 1) := by decide +kernel
theorem dX11_judged_18 : decode cX11_judged 18 = .ok (.lcmp, 1) := by decide +kernel
theorem dX11_judged_19 : decode cX11_judged 19 = .ok (.ifCond .lt 7, 3) := by decide +kernel
theorem dX11_judged_22 : decode cX11_judged 22 = .ok (.iconst 1, 1) := by decide +kernel
theorem dX11_judged_23 : decode cX11_judged 23 = .ok (.goto 4, 3) := by decide +kernel
theorem dX11_judged_26 : decode cX11_judged 26 = .ok (.iconst 0, 1) := by decide +kernel
theorem dX11_judged_27 : decode cX11_judged 27 = .ok (.iand, 1) := by decide +kernel
theorem dX11_judged_28 : decode cX11_judged 28 = .ok (.istore_n 2, 1) := by decide +kernel
theorem dX11_judged_29 : decode cX11_judged 29 = .ok (.iinc 3 1, 3) := by decide +kernel
theorem dX11_judged_32 : decode cX11_judged 32 = .ok (.goto (-28), 3) := by decide +kernel
theorem dX11_judged_35 : decode cX11_judged 35 = .ok (.iload_n 2, 1) := by decide +kernel
theorem dX11_judged_36 : decode cX11_judged 36 = .ok (.ifCond .eq 5, 3) := by decide +kernel
theorem dX11_judged_39 : decode cX11_judged 39 = .ok (.iconst 1, 1) := by decide +kernel
theorem dX11_judged_40 : decode cX11_judged 40 = .ok (.ireturn, 1) := by decide +kernel
theorem dX11_judged_41 : decode cX11_judged 41 = .ok (.iconst 0, 1) := by decide +kernel
theorem dX11_judged_42 : decode cX11_judged 42 = .ok (.istore_n 3, 1) := by decide +kernel
theorem dX11_judged_43 : decode cX11_judged 43 = .ok (.iload_n 3, 1) := by decide +kernel
theorem dX11_judged_44 : decode cX11_judged 44 = .ok (.bipush 9, 2) := by decide +kernel
theorem dX11_judged_46 : decode cX11_judged 46 = .ok (.if_icmp .ge 79, 3) := by decide +kernel
theorem dX11_judged_49 : decode cX11_judged 49 = .ok (.aload_n 0, 1) := by decide +kernel
theorem dX11_judged_50 : decode cX11_judged 50 = .ok (.iload_n 1, 1) := by decide +kernel
theorem dX11_judged_51 : decode cX11_judged 51 = .ok (.iload_n 3, 1) := by decide +kernel
theorem dX11_judged_52 : decode cX11_judged 52 = .ok (.invokevirtual 172, 3) := by decide +kernel
theorem dX11_judged_55 : decode cX11_judged 55 = .ok (.lconst 0, 1) := by decide +kernel
theorem dX11_judged_56 : decode cX11_judged 56 = .ok (.lcmp, 1) := by decide +kernel
theorem dX11_judged_57 : decode cX11_judged 57 = .ok (.ifCond .ge 52, 3) := by decide +kernel
theorem dX11_judged_60 : decode cX11_judged 60 = .ok (.aload_n 0, 1) := by decide +kernel
theorem dX11_judged_61 : decode cX11_judged 61 = .ok (.aload_n 0, 1) := by decide +kernel
theorem dX11_judged_62 : decode cX11_judged 62 = .ok (.getfield 29, 3) := by decide +kernel
theorem dX11_judged_65 : decode cX11_judged 65 = .ok (.iconst 4, 1) := by decide +kernel
theorem dX11_judged_66 : decode cX11_judged 66 = .ok (.iload_n 1, 1) := by decide +kernel
theorem dX11_judged_67 : decode cX11_judged 67 = .ok (.imul, 1) := by decide +kernel
theorem dX11_judged_68 : decode cX11_judged 68 = .ok (.iload_n 3, 1) := by decide +kernel
theorem dX11_judged_69 : decode cX11_judged 69 = .ok (.iconst 3, 1) := by decide +kernel
theorem dX11_judged_70 : decode cX11_judged 70 = .ok (.if_icmp .ge 7, 3) := by decide +kernel
theorem dX11_judged_73 : decode cX11_judged 73 = .ok (.iconst 0, 1) := by decide +kernel
theorem dX11_judged_74 : decode cX11_judged 74 = .ok (.goto 4, 3) := by decide +kernel
theorem dX11_judged_77 : decode cX11_judged 77 = .ok (.iconst 1, 1) := by decide +kernel
theorem dX11_judged_78 : decode cX11_judged 78 = .ok (.iadd, 1) := by decide +kernel
theorem dX11_judged_79 : decode cX11_judged 79 = .ok (.iaload, 1) := by decide +kernel
theorem dX11_judged_80 : decode cX11_judged 80 = .ok (.putfield 175, 3) := by decide +kernel
theorem dX11_judged_83 : decode cX11_judged 83 = .ok (.aload_n 0, 1) := by decide +kernel
theorem dX11_judged_84 : decode cX11_judged 84 = .ok (.aload_n 0, 1) := by decide +kernel
theorem dX11_judged_85 : decode cX11_judged 85 = .ok (.getfield 29, 3) := by decide +kernel
theorem dX11_judged_88 : decode cX11_judged 88 = .ok (.iconst 4, 1) := by decide +kernel
theorem dX11_judged_89 : decode cX11_judged 89 = .ok (.iload_n 1, 1) := by decide +kernel
theorem dX11_judged_90 : decode cX11_judged 90 = .ok (.imul, 1) := by decide +kernel
theorem dX11_judged_91 : decode cX11_judged 91 = .ok (.iload_n 3, 1) := by decide +kernel
theorem dX11_judged_92 : decode cX11_judged 92 = .ok (.iconst 3, 1) := by decide +kernel
theorem dX11_judged_93 : decode cX11_judged 93 = .ok (.irem, 1) := by decide +kernel
theorem dX11_judged_94 : decode cX11_judged 94 = .ok (.ifCond .ne 7, 3) := by decide +kernel
theorem dX11_judged_97 : decode cX11_judged 97 = .ok (.iconst 2, 1) := by decide +kernel
theorem dX11_judged_98 : decode cX11_judged 98 = .ok (.goto 4, 3) := by decide +kernel
theorem dX11_judged_101 : decode cX11_judged 101 = .ok (.iconst 3, 1) := by decide +kernel
theorem dX11_judged_102 : decode cX11_judged 102 = .ok (.iadd, 1) := by decide +kernel
theorem dX11_judged_103 : decode cX11_judged 103 = .ok (.iaload, 1) := by decide +kernel
theorem dX11_judged_104 : decode cX11_judged 104 = .ok (.putfield 178, 3) := by decide +kernel
theorem dX11_judged_107 : decode cX11_judged 107 = .ok (.iconst 3, 1) := by decide +kernel
theorem dX11_judged_108 : decode cX11_judged 108 = .ok (.ireturn, 1) := by decide +kernel
theorem dX11_judged_109 : decode cX11_judged 109 = .ok (.iload_n 3, 1) := by decide +kernel
theorem dX11_judged_110 : decode cX11_judged 110 = .ok (.iload_n 3, 1) := by decide +kernel
theorem dX11_judged_111 : decode cX11_judged 111 = .ok (.iconst 2, 1) := by decide +kernel
theorem dX11_judged_112 : decode cX11_judged 112 = .ok (.if_icmp .ne 7, 3) := by decide +kernel
theorem dX11_judged_115 : decode cX11_judged 115 = .ok (.iconst 4, 1) := by decide +kernel
theorem dX11_judged_116 : decode cX11_judged 116 = .ok (.goto 4, 3) := by decide +kernel
theorem dX11_judged_119 : decode cX11_judged 119 = .ok (.iconst 2, 1) := by decide +kernel
theorem dX11_judged_120 : decode cX11_judged 120 = .ok (.iadd, 1) := by decide +kernel
theorem dX11_judged_121 : decode cX11_judged 121 = .ok (.istore_n 3, 1) := by decide +kernel
theorem dX11_judged_122 : decode cX11_judged 122 = .ok (.goto (-79), 3) := by decide +kernel
theorem dX11_judged_125 : decode cX11_judged 125 = .ok (.aload_n 0, 1) := by decide +kernel
theorem dX11_judged_126 : decode cX11_judged 126 = .ok (.getfield 29, 3) := by decide +kernel
theorem dX11_judged_129 : decode cX11_judged 129 = .ok (.iconst 4, 1) := by decide +kernel
theorem dX11_judged_130 : decode cX11_judged 130 = .ok (.iload_n 1, 1) := by decide +kernel
theorem dX11_judged_131 : decode cX11_judged 131 = .ok (.imul, 1) := by decide +kernel
theorem dX11_judged_132 : decode cX11_judged 132 = .ok (.iconst 1, 1) := by decide +kernel
theorem dX11_judged_133 : decode cX11_judged 133 = .ok (.iadd, 1) := by decide +kernel
theorem dX11_judged_134 : decode cX11_judged 134 = .ok (.iaload, 1) := by decide +kernel
theorem dX11_judged_135 : decode cX11_judged 135 = .ok (.aload_n 0, 1) := by decide +kernel
theorem dX11_judged_136 : decode cX11_judged 136 = .ok (.getfield 29, 3) := by decide +kernel
theorem dX11_judged_139 : decode cX11_judged 139 = .ok (.iconst 4, 1) := by decide +kernel
theorem dX11_judged_140 : decode cX11_judged 140 = .ok (.iload_n 1, 1) := by decide +kernel
theorem dX11_judged_141 : decode cX11_judged 141 = .ok (.imul, 1) := by decide +kernel
theorem dX11_judged_142 : decode cX11_judged 142 = .ok (.iaload, 1) := by decide +kernel
theorem dX11_judged_143 : decode cX11_judged 143 = .ok (.isub, 1) := by decide +kernel
theorem dX11_judged_144 : decode cX11_judged 144 = .ok (.iconst 2, 1) := by decide +kernel
theorem dX11_judged_145 : decode cX11_judged 145 = .ok (.irem, 1) := by decide +kernel
theorem dX11_judged_146 : decode cX11_judged 146 = .ok (.ifCond .eq 7, 3) := by decide +kernel
theorem dX11_judged_149 : decode cX11_judged 149 = .ok (.iconst 1, 1) := by decide +kernel
theorem dX11_judged_150 : decode cX11_judged 150 = .ok (.goto 4, 3) := by decide +kernel
theorem dX11_judged_153 : decode cX11_judged 153 = .ok (.iconst 0, 1) := by decide +kernel
theorem dX11_judged_154 : decode cX11_judged 154 = .ok (.istore_n 3, 1) := by decide +kernel
theorem dX11_judged_155 : decode cX11_judged 155 = .ok (.aload_n 0, 1) := by decide +kernel
theorem dX11_judged_156 : decode cX11_judged 156 = .ok (.getfield 29, 3) := by decide +kernel
theorem dX11_judged_159 : decode cX11_judged 159 = .ok (.iconst 4, 1) := by decide +kernel
theorem dX11_judged_160 : decode cX11_judged 160 = .ok (.iload_n 1, 1) := by decide +kernel
theorem dX11_judged_161 : decode cX11_judged 161 = .ok (.imul, 1) := by decide +kernel
theorem dX11_judged_162 : decode cX11_judged 162 = .ok (.iconst 3, 1) := by decide +kernel
theorem dX11_judged_163 : decode cX11_judged 163 = .ok (.iadd, 1) := by decide +kernel
theorem dX11_judged_164 : decode cX11_judged 164 = .ok (.iaload, 1) := by decide +kernel
theorem dX11_judged_165 : decode cX11_judged 165 = .ok (.aload_n 0, 1) := by decide +kernel
theorem dX11_judged_166 : decode cX11_judged 166 = .ok (.getfield 29, 3) := by decide +kernel
theorem dX11_judged_169 : decode cX11_judged 169 = .ok (.iconst 4, 1) := by decide +kernel
theorem dX11_judged_170 : decode cX11_judged 170 = .ok (.iload_n 1, 1) := by decide +kernel
theorem dX11_judged_171 : decode cX11_judged 171 = .ok (.imul, 1) := by decide +kernel
theorem dX11_judged_172 : decode cX11_judged 172 = .ok (.iconst 2, 1) := by decide +kernel
theorem dX11_judged_173 : decode cX11_judged 173 = .ok (.iadd, 1) := by decide +kernel
theorem dX11_judged_174 : decode cX11_judged 174 = .ok (.iaload, 1) := by decide +kernel
theorem dX11_judged_175 : decode cX11_judged 175 = .ok (.isub, 1) := by decide +kernel
theorem dX11_judged_176 : decode cX11_judged 176 = .ok (.iconst 2, 1) := by decide +kernel
theorem dX11_judged_177 : decode cX11_judged 177 = .ok (.irem, 1) := by decide +kernel
theorem dX11_judged_178 : decode cX11_judged 178 = .ok (.ifCond .eq 7, 3) := by decide +kernel
theorem dX11_judged_181 : decode cX11_judged 181 = .ok (.iconst 1, 1) := by decide +kernel
theorem dX11_judged_182 : decode cX11_judged 182 = .ok (.goto 4, 3) := by decide +kernel
theorem dX11_judged_185 : decode cX11_judged 185 = .ok (.iconst 0, 1) := by decide +kernel
theorem dX11_judged_186 : decode cX11_judged 186 = .ok (.istore 4, 2) := by decide +kernel
theorem dX11_judged_188 : decode cX11_judged 188 = .ok (.iload_n 3, 1) := by decide +kernel
theorem dX11_judged_189 : decode cX11_judged 189 = .ok (.ifCond .eq 12, 3) := by decide +kernel
theorem dX11_judged_192 : decode cX11_judged 192 = .ok (.iload 4, 2) := by decide +kernel
theorem dX11_judged_194 : decode cX11_judged 194 = .ok (.ifCond .eq 7, 3) := by decide +kernel
theorem dX11_judged_197 : decode cX11_judged 197 = .ok (.iconst 2, 1) := by decide +kernel
theorem dX11_judged_198 : decode cX11_judged 198 = .ok (.goto 4, 3) := by decide +kernel
theorem dX11_judged_201 : decode cX11_judged 201 = .ok (.iconst 0, 1) := by decide +kernel
theorem dX11_judged_202 : decode cX11_judged 202 = .ok (.ireturn, 1) := by decide +kernel
theorem dX11_halve_0 : decode cX11_halve 0 = .ok (.aload_n 0, 1) := by decide +kernel
theorem dX11_halve_1 : decode cX11_halve 1 = .ok (.getfield 29, 3) := by decide +kernel
theorem dX11_halve_4 : decode cX11_halve 4 = .ok (.iconst 4, 1) := by decide +kernel
theorem dX11_halve_5 : decode cX11_halve 5 = .ok (.iload_n 1, 1) := by decide +kernel
theorem dX11_halve_6 : decode cX11_halve 6 = .ok (.imul, 1) := by decide +kernel
theorem dX11_halve_7 : decode cX11_halve 7 = .ok (.iconst 1, 1) := by decide +kernel
theorem dX11_halve_8 : decode cX11_halve 8 = .ok (.iadd, 1) := by decide +kernel
theorem dX11_halve_9 : decode cX11_halve 9 = .ok (.iaload, 1) := by decide +kernel
theorem dX11_halve_10 : decode cX11_halve 10 = .ok (.aload_n 0, 1) := by decide +kernel
theorem dX11_halve_11 : decode cX11_halve 11 = .ok (.getfield 29, 3) := by decide +kernel
theorem dX11_halve_14 : decode cX11_halve 14 = .ok (.iconst 4, 1) := by decide +kernel
theorem dX11_halve_15 : decode cX11_halve 15 = .ok (.iload_n 1, 1) := by decide +kernel
theorem dX11_halve_16 : decode cX11_halve 16 = .ok (.imul, 1) := by decide +kernel
theorem dX11_halve_17 : decode cX11_halve 17 = .ok (.iaload, 1) := by decide +kernel
theorem dX11_halve_18 : decode cX11_halve 18 = .ok (.isub, 1) := by decide +kernel
theorem dX11_halve_19 : decode cX11_halve 19 = .ok (.istore_n 2, 1) := by decide +kernel
theorem dX11_halve_20 : decode cX11_halve 20 = .ok (.aload_n 0, 1) := by decide +kernel
theorem dX11_halve_21 : decode cX11_halve 21 = .ok (.getfield 29, 3) := by decide +kernel
theorem dX11_halve_24 : decode cX11_halve 24 = .ok (.iconst 4, 1) := by decide +kernel
theorem dX11_halve_25 : decode cX11_halve 25 = .ok (.iload_n 1, 1) := by decide +kernel
theorem dX11_halve_26 : decode cX11_halve 26 = .ok (.imul, 1) := by decide +kernel
theorem dX11_halve_27 : decode cX11_halve 27 = .ok (.iconst 3, 1) := by decide +kernel
theorem dX11_halve_28 : decode cX11_halve 28 = .ok (.iadd, 1) := by decide +kernel
theorem dX11_halve_29 : decode cX11_halve 29 = .ok (.iaload, 1) := by decide +kernel
theorem dX11_halve_30 : decode cX11_halve 30 = .ok (.aload_n 0, 1) := by decide +kernel
theorem dX11_halve_31 : decode cX11_halve 31 = .ok (.getfield 29, 3) := by decide +kernel
theorem dX11_halve_34 : decode cX11_halve 34 = .ok (.iconst 4, 1) := by decide +kernel
theorem dX11_halve_35 : decode cX11_halve 35 = .ok (.iload_n 1, 1) := by decide +kernel
theorem dX11_halve_36 : decode cX11_halve 36 = .ok (.imul, 1) := by decide +kernel
theorem dX11_halve_37 : decode cX11_halve 37 = .ok (.iconst 2, 1) := by decide +kernel
theorem dX11_halve_38 : decode cX11_halve 38 = .ok (.iadd, 1) := by decide +kernel
theorem dX11_halve_39 : decode cX11_halve 39 = .ok (.iaload, 1) := by decide +kernel
theorem dX11_halve_40 : decode cX11_halve 40 = .ok (.isub, 1) := by decide +kernel
theorem dX11_halve_41 : decode cX11_halve 41 = .ok (.istore_n 3, 1) := by decide +kernel
theorem dX11_halve_42 : decode cX11_halve 42 = .ok (.iload_n 2, 1) := by decide +kernel
theorem dX11_halve_43 : decode cX11_halve 43 = .ok (.iconst 2, 1) := by decide +kernel
theorem dX11_halve_44 : decode cX11_halve 44 = .ok (.irem, 1) := by decide +kernel
theorem dX11_halve_45 : decode cX11_halve 45 = .ok (.ifCond .ne 8, 3) := by decide +kernel
theorem dX11_halve_48 : decode cX11_halve 48 = .ok (.iload_n 2, 1) := by decide +kernel
theorem dX11_halve_49 : decode cX11_halve 49 = .ok (.iload_n 3, 1) := by decide +kernel
theorem dX11_halve_50 : decode cX11_halve 50 = .ok (.if_icmp .ge 9, 3) := by decide +kernel
theorem dX11_halve_53 : decode cX11_halve 53 = .ok (.iload_n 3, 1) := by decide +kernel
theorem dX11_halve_54 : decode cX11_halve 54 = .ok (.iconst 2, 1) := by decide +kernel
theorem dX11_halve_55 : decode cX11_halve 55 = .ok (.irem, 1) := by decide +kernel
theorem dX11_halve_56 : decode cX11_halve 56 = .ok (.ifCond .eq 7, 3) := by decide +kernel
theorem dX11_halve_59 : decode cX11_halve 59 = .ok (.iconst 1, 1) := by decide +kernel
theorem dX11_halve_60 : decode cX11_halve 60 = .ok (.goto 4, 3) := by decide +kernel
theorem dX11_halve_63 : decode cX11_halve 63 = .ok (.iconst 0, 1) := by decide +kernel
theorem dX11_halve_64 : decode cX11_halve 64 = .ok (.istore 4, 2) := by decide +kernel
theorem dX11_halve_66 : decode cX11_halve 66 = .ok (.aload_n 0, 1) := by decide +kernel
theorem dX11_halve_67 : decode cX11_halve 67 = .ok (.getfield 159, 3) := by decide +kernel
theorem dX11_halve_70 : decode cX11_halve 70 = .ok (.istore 5, 2) := by decide +kernel
theorem dX11_halve_72 : decode cX11_halve 72 = .ok (.iload 5, 2) := by decide +kernel
theorem dX11_halve_74 : decode cX11_halve 74 = .ok (.iload_n 1, 1) := by decide +kernel
theorem dX11_halve_75 : decode cX11_halve 75 = .ok (.iconst 1, 1) := by decide +kernel
theorem dX11_halve_76 : decode cX11_halve 76 = .ok (.iadd, 1) := by decide +kernel
theorem dX11_halve_77 : decode cX11_halve 77 = .ok (.if_icmp .le 66, 3) := by decide +kernel
theorem dX11_halve_80 : decode cX11_halve 80 = .ok (.aload_n 0, 1) := by decide +kernel
theorem dX11_halve_81 : decode cX11_halve 81 = .ok (.getfield 32, 3) := by decide +kernel
theorem dX11_halve_84 : decode cX11_halve 84 = .ok (.iload 5, 2) := by decide +kernel
theorem dX11_halve_86 : decode cX11_halve 86 = .ok (.aload_n 0, 1) := by decide +kernel
theorem dX11_halve_87 : decode cX11_halve 87 = .ok (.getfield 32, 3) := by decide +kernel
theorem dX11_halve_90 : decode cX11_halve 90 = .ok (.iload 5, 2) := by decide +kernel
theorem dX11_halve_92 : decode cX11_halve 92 = .ok (.iconst 1, 1) := by decide +kernel
theorem dX11_halve_93 : decode cX11_halve 93 = .ok (.isub, 1) := by decide +kernel
theorem dX11_halve_94 : decode cX11_halve 94 = .ok (.iaload, 1) := by decide +kernel
theorem dX11_halve_95 : decode cX11_halve 95 = .ok (.iastore, 1) := by decide +kernel
theorem dX11_halve_96 : decode cX11_halve 96 = .ok (.iconst 0, 1) := by decide +kernel
theorem dX11_halve_97 : decode cX11_halve 97 = .ok (.istore 6, 2) := by decide +kernel
theorem dX11_halve_99 : decode cX11_halve 99 = .ok (.iload 6, 2) := by decide +kernel
theorem dX11_halve_101 : decode cX11_halve 101 = .ok (.iconst 4, 1) := by decide +kernel
theorem dX11_halve_102 : decode cX11_halve 102 = .ok (.if_icmp .ge 35, 3) := by decide +kernel
theorem dX11_halve_105 : decode cX11_halve 105 = .ok (.aload_n 0, 1) := by decide +kernel
theorem dX11_halve_106 : decode cX11_halve 106 = .ok (.getfield 29, 3) := by decide +kernel
theorem dX11_halve_109 : decode cX11_halve 109 = .ok (.iconst 4, 1) := by decide +kernel
theorem dX11_halve_110 : decode cX11_halve 110 = .ok (.iload 5, 2) := by decide +kernel
theorem dX11_halve_112 : decode cX11_halve 112 = .ok (.imul, 1) := by decide +kernel
theorem dX11_halve_113 : decode cX11_halve 113 = .ok (.iload 6, 2) := by decide +kernel
theorem dX11_halve_115 : decode cX11_halve 115 = .ok (.iadd, 1) := by decide +kernel
theorem dX11_halve_116 : decode cX11_halve 116 = .ok (.aload_n 0, 1) := by decide +kernel
theorem dX11_halve_117 : decode cX11_halve 117 = .ok (.getfield 29, 3) := by decide +kernel
theorem dX11_halve_120 : decode cX11_halve 120 = .ok (.iconst 4, 1) := by decide +kernel
theorem dX11_halve_121 : decode cX11_halve 121 = .ok (.iload 5, 2) := by decide +kernel
theorem dX11_halve_123 : decode cX11_halve 123 = .ok (.imul, 1) := by decide +kernel
theorem dX11_halve_124 : decode cX11_halve 124 = .ok (.iconst 4, 1) := by decide +kernel
theorem dX11_halve_125 : decode cX11_halve 125 = .ok (.isub, 1) := by decide +kernel
theorem dX11_halve_126 : decode cX11_halve 126 = .ok (.iload 6, 2) := by decide +kernel
theorem dX11_halve_128 : decode cX11_halve 128 = .ok (.iadd, 1) := by decide +kernel
theorem dX11_halve_129 : decode cX11_halve 129 = .ok (.iaload, 1) := by decide +kernel
theorem dX11_halve_130 : decode cX11_halve 130 = .ok (.iastore, 1) := by decide +kernel
theorem dX11_halve_131 : decode cX11_halve 131 = .ok (.iinc 6 1, 3) := by decide +kernel
theorem dX11_halve_134 : decode cX11_halve 134 = .ok (.goto (-35), 3) := by decide +kernel
theorem dX11_halve_137 : decode cX11_halve 137 = .ok (.iinc 5 (-1), 3) := by decide +kernel
theorem dX11_halve_140 : decode cX11_halve 140 = .ok (.goto (-68), 3) := by decide +kernel
theorem dX11_halve_143 : decode cX11_halve 143 = .ok (.aload_n 0, 1) := by decide +kernel
theorem dX11_halve_144 : decode cX11_halve 144 = .ok (.getfield 32, 3) := by decide +kernel
theorem dX11_halve_147 : decode cX11_halve 147 = .ok (.iload_n 1, 1) := by decide +kernel
theorem dX11_halve_148 : decode cX11_halve 148 = .ok (.iconst 0, 1) := by decide +kernel
theorem dX11_halve_149 : decode cX11_halve 149 = .ok (.iastore, 1) := by decide +kernel
theorem dX11_halve_150 : decode cX11_halve 150 = .ok (.aload_n 0, 1) := by decide +kernel
theorem dX11_halve_151 : decode cX11_halve 151 = .ok (.getfield 32, 3) := by decide +kernel
theorem dX11_halve_154 : decode cX11_halve 154 = .ok (.iload_n 1, 1) := by decide +kernel
theorem dX11_halve_155 : decode cX11_halve 155 = .ok (.iconst 1, 1) := by decide +kernel
theorem dX11_halve_156 : decode cX11_halve 156 = .ok (.iadd, 1) := by decide +kernel
theorem dX11_halve_157 : decode cX11_halve 157 = .ok (.iconst 0, 1) := by decide +kernel
theorem dX11_halve_158 : decode cX11_halve 158 = .ok (.iastore, 1) := by decide +kernel
theorem dX11_halve_159 : decode cX11_halve 159 = .ok (.iconst 0, 1) := by decide +kernel
theorem dX11_halve_160 : decode cX11_halve 160 = .ok (.istore 5, 2) := by decide +kernel
theorem dX11_halve_162 : decode cX11_halve 162 = .ok (.iload 5, 2) := by decide +kernel
theorem dX11_halve_164 : decode cX11_halve 164 = .ok (.iconst 4, 1) := by decide +kernel
theorem dX11_halve_165 : decode cX11_halve 165 = .ok (.if_icmp .ge 33, 3) := by decide +kernel
theorem dX11_halve_168 : decode cX11_halve 168 = .ok (.aload_n 0, 1) := by decide +kernel
theorem dX11_halve_169 : decode cX11_halve 169 = .ok (.getfield 29, 3) := by decide +kernel
theorem dX11_halve_172 : decode cX11_halve 172 = .ok (.iconst 4, 1) := by decide +kernel
theorem dX11_halve_173 : decode cX11_halve 173 = .ok (.iload_n 1, 1) := by decide +kernel
theorem dX11_halve_174 : decode cX11_halve 174 = .ok (.imul, 1) := by decide +kernel
theorem dX11_halve_175 : decode cX11_halve 175 = .ok (.iconst 4, 1) := by decide +kernel
theorem dX11_halve_176 : decode cX11_halve 176 = .ok (.iadd, 1) := by decide +kernel
theorem dX11_halve_177 : decode cX11_halve 177 = .ok (.iload 5, 2) := by decide +kernel
theorem dX11_halve_179 : decode cX11_halve 179 = .ok (.iadd, 1) := by decide +kernel
theorem dX11_halve_180 : decode cX11_halve 180 = .ok (.aload_n 0, 1) := by decide +kernel
theorem dX11_halve_181 : decode cX11_halve 181 = .ok (.getfield 29, 3) := by decide +kernel
theorem dX11_halve_184 : decode cX11_halve 184 = .ok (.iconst 4, 1) := by decide +kernel
theorem dX11_halve_185 : decode cX11_halve 185 = .ok (.iload_n 1, 1) := by decide +kernel
theorem dX11_halve_186 : decode cX11_halve 186 = .ok (.imul, 1) := by decide +kernel
theorem dX11_halve_187 : decode cX11_halve 187 = .ok (.iload 5, 2) := by decide +kernel
theorem dX11_halve_189 : decode cX11_halve 189 = .ok (.iadd, 1) := by decide +kernel
theorem dX11_halve_190 : decode cX11_halve 190 = .ok (.iaload, 1) := by decide +kernel
theorem dX11_halve_191 : decode cX11_halve 191 = .ok (.iastore, 1) := by decide +kernel
theorem dX11_halve_192 : decode cX11_halve 192 = .ok (.iinc 5 1, 3) := by decide +kernel
theorem dX11_halve_195 : decode cX11_halve 195 = .ok (.goto (-33), 3) := by decide +kernel
theorem dX11_halve_198 : decode cX11_halve 198 = .ok (.iload 4, 2) := by decide +kernel
theorem dX11_halve_200 : decode cX11_halve 200 = .ok (.ifCond .eq 7, 3) := by decide +kernel
theorem dX11_halve_203 : decode cX11_halve 203 = .ok (.iconst 0, 1) := by decide +kernel
theorem dX11_halve_204 : decode cX11_halve 204 = .ok (.goto 4, 3) := by decide +kernel
theorem dX11_halve_207 : decode cX11_halve 207 = .ok (.iconst 2, 1) := by decide +kernel
theorem dX11_halve_208 : decode cX11_halve 208 = .ok (.istore 5, 2) := by decide +kernel
theorem dX11_halve_210 : decode cX11_halve 210 = .ok (.aload_n 0, 1) := by decide +kernel
theorem dX11_halve_211 : decode cX11_halve 211 = .ok (.getfield 29, 3) := by decide +kernel
theorem dX11_halve_214 : decode cX11_halve 214 = .ok (.iconst 4, 1) := by decide +kernel
theorem dX11_halve_215 : decode cX11_halve 215 = .ok (.iload_n 1, 1) := by decide +kernel
theorem dX11_halve_216 : decode cX11_halve 216 = .ok (.imul, 1) := by decide +kernel
theorem dX11_halve_217 : decode cX11_halve 217 = .ok (.iload 5, 2) := by decide +kernel
theorem dX11_halve_219 : decode cX11_halve 219 = .ok (.iadd, 1) := by decide +kernel
theorem dX11_halve_220 : decode cX11_halve 220 = .ok (.iaload, 1) := by decide +kernel
theorem dX11_halve_221 : decode cX11_halve 221 = .ok (.aload_n 0, 1) := by decide +kernel
theorem dX11_halve_222 : decode cX11_halve 222 = .ok (.getfield 29, 3) := by decide +kernel
theorem dX11_halve_225 : decode cX11_halve 225 = .ok (.iconst 4, 1) := by decide +kernel
theorem dX11_halve_226 : decode cX11_halve 226 = .ok (.iload_n 1, 1) := by decide +kernel
theorem dX11_halve_227 : decode cX11_halve 227 = .ok (.imul, 1) := by decide +kernel
theorem dX11_halve_228 : decode cX11_halve 228 = .ok (.iload 5, 2) := by decide +kernel
theorem dX11_halve_230 : decode cX11_halve 230 = .ok (.iadd, 1) := by decide +kernel
theorem dX11_halve_231 : decode cX11_halve 231 = .ok (.iconst 1, 1) := by decide +kernel
theorem dX11_halve_232 : decode cX11_halve 232 = .ok (.iadd, 1) := by decide +kernel
theorem dX11_halve_233 : decode cX11_halve 233 = .ok (.iaload, 1) := by decide +kernel
theorem dX11_halve_234 : decode cX11_halve 234 = .ok (.iadd, 1) := by decide +kernel
theorem dX11_halve_235 : decode cX11_halve 235 = .ok (.iconst 2, 1) := by decide +kernel
theorem dX11_halve_236 : decode cX11_halve 236 = .ok (.idiv, 1) := by decide +kernel
theorem dX11_halve_237 : decode cX11_halve 237 = .ok (.istore 6, 2) := by decide +kernel
theorem dX11_halve_239 : decode cX11_halve 239 = .ok (.aload_n 0, 1) := by decide +kernel
theorem dX11_halve_240 : decode cX11_halve 240 = .ok (.getfield 29, 3) := by decide +kernel
theorem dX11_halve_243 : decode cX11_halve 243 = .ok (.iconst 4, 1) := by decide +kernel
theorem dX11_halve_244 : decode cX11_halve 244 = .ok (.iload_n 1, 1) := by decide +kernel
theorem dX11_halve_245 : decode cX11_halve 245 = .ok (.imul, 1) := by decide +kernel
theorem dX11_halve_246 : decode cX11_halve 246 = .ok (.iload 5, 2) := by decide +kernel
theorem dX11_halve_248 : decode cX11_halve 248 = .ok (.iadd, 1) := by decide +kernel
theorem dX11_halve_249 : decode cX11_halve 249 = .ok (.iconst 1, 1) := by decide +kernel
theorem dX11_halve_250 : decode cX11_halve 250 = .ok (.iadd, 1) := by decide +kernel
theorem dX11_halve_251 : decode cX11_halve 251 = .ok (.iload 6, 2) := by decide +kernel
theorem dX11_halve_253 : decode cX11_halve 253 = .ok (.iastore, 1) := by decide +kernel
theorem dX11_halve_254 : decode cX11_halve 254 = .ok (.aload_n 0, 1) := by decide +kernel
theorem dX11_halve_255 : decode cX11_halve 255 = .ok (.getfield 29, 3) := by decide +kernel
theorem dX11_halve_258 : decode cX11_halve 258 = .ok (.iconst 4, 1) := by decide +kernel
theorem dX11_halve_259 : decode cX11_halve 259 = .ok (.iload_n 1, 1) := by decide +kernel
theorem dX11_halve_260 : decode cX11_halve 260 = .ok (.imul, 1) := by decide +kernel
theorem dX11_halve_261 : decode cX11_halve 261 = .ok (.iconst 4, 1) := by decide +kernel
theorem dX11_halve_262 : decode cX11_halve 262 = .ok (.iadd, 1) := by decide +kernel
theorem dX11_halve_263 : decode cX11_halve 263 = .ok (.iload 5, 2) := by decide +kernel
theorem dX11_halve_265 : decode cX11_halve 265 = .ok (.iadd, 1) := by decide +kernel
theorem dX11_halve_266 : decode cX11_halve 266 = .ok (.iload 6, 2) := by decide +kernel
theorem dX11_halve_268 : decode cX11_halve 268 = .ok (.iastore, 1) := by decide +kernel
theorem dX11_halve_269 : decode cX11_halve 269 = .ok (.aload_n 0, 1) := by decide +kernel
theorem dX11_halve_270 : decode cX11_halve 270 = .ok (.dup, 1) := by decide +kernel
theorem dX11_halve_271 : decode cX11_halve 271 = .ok (.getfield 159, 3) := by decide +kernel
theorem dX11_halve_274 : decode cX11_halve 274 = .ok (.iconst 1, 1) := by decide +kernel
theorem dX11_halve_275 : decode cX11_halve 275 = .ok (.iadd, 1) := by decide +kernel
theorem dX11_halve_276 : decode cX11_halve 276 = .ok (.putfield 159, 3) := by decide +kernel
theorem dX11_halve_279 : decode cX11_halve 279 = .ok (.return_, 1) := by decide +kernel
theorem dX11_cover_0 : decode cX11_cover 0 = .ok (.iload_n 1, 1) := by decide +kernel
theorem dX11_cover_1 : decode cX11_cover 1 = .ok (.i2l, 1) := by decide +kernel
theorem dX11_cover_2 : decode cX11_cover 2 = .ok (.lconst 0, 1) := by decide +kernel
theorem dX11_cover_3 : decode cX11_cover 3 = .ok (.ldc2_w 181, 3) := by decide +kernel
theorem dX11_cover_6 : decode cX11_cover 6 = .ok (.invokestatic 82, 3) := by decide +kernel
theorem dX11_cover_9 : decode cX11_cover 9 = .ok (.ifCond .ne 6, 3) := by decide +kernel
theorem dX11_cover_12 : decode cX11_cover 12 = .ok (.bipush (-2), 2) := by decide +kernel
theorem dX11_cover_14 : decode cX11_cover 14 = .ok (.ireturn, 1) := by decide +kernel
theorem dX11_cover_15 : decode cX11_cover 15 = .ok (.aload_n 0, 1) := by decide +kernel
theorem dX11_cover_16 : decode cX11_cover 16 = .ok (.getfield 159, 3) := by decide +kernel
theorem dX11_cover_19 : decode cX11_cover 19 = .ok (.ifCond .ne 6, 3) := by decide +kernel
theorem dX11_cover_22 : decode cX11_cover 22 = .ok (.bipush (-3), 2) := by decide +kernel
theorem dX11_cover_24 : decode cX11_cover 24 = .ok (.ireturn, 1) := by decide +kernel
theorem dX11_cover_25 : decode cX11_cover 25 = .ok (.iconst 0, 1) := by decide +kernel
theorem dX11_cover_26 : decode cX11_cover 26 = .ok (.istore_n 2, 1) := by decide +kernel
theorem dX11_cover_27 : decode cX11_cover 27 = .ok (.iload_n 2, 1) := by decide +kernel
theorem dX11_cover_28 : decode cX11_cover 28 = .ok (.iload_n 1, 1) := by decide +kernel
theorem dX11_cover_29 : decode cX11_cover 29 = .ok (.if_icmp .ge 86, 3) := by decide +kernel
theorem dX11_cover_32 : decode cX11_cover 32 = .ok (.aload_n 0, 1) := by decide +kernel
theorem dX11_cover_33 : decode cX11_cover 33 = .ok (.iconst 0, 1) := by decide +kernel
theorem dX11_cover_34 : decode cX11_cover 34 = .ok (.invokevirtual 183, 3) := by decide +kernel
theorem dX11_cover_37 : decode cX11_cover 37 = .ok (.istore_n 3, 1) := by decide +kernel
theorem dX11_cover_38 : decode cX11_cover 38 = .ok (.iload_n 3, 1) := by decide +kernel
theorem dX11_cover_39 : decode cX11_cover 39 = .ok (.bipush (-9), 2) := by decide +kernel
theorem dX11_cover_41 : decode cX11_cover 41 = .ok (.if_icmp .eq 13, 3) := by decide +kernel
theorem dX11_cover_44 : decode cX11_cover 44 = .ok (.aload_n 0, 1) := by decide +kernel
theorem dX11_cover_45 : decode cX11_cover 45 = .ok (.iconst 3, 1) := by decide +kernel
theorem dX11_cover_46 : decode cX11_cover 46 = .ok (.invokevirtual 183, 3) := by decide +kernel
theorem dX11_cover_49 : decode cX11_cover 49 = .ok (.bipush (-9), 2) := by decide +kernel
theorem dX11_cover_51 : decode cX11_cover 51 = .ok (.if_icmp .eq 5, 3) := by decide +kernel
theorem dX11_cover_54 : decode cX11_cover 54 = .ok (.iload_n 2, 1) := by decide +kernel
theorem dX11_cover_55 : decode cX11_cover 55 = .ok (.ireturn, 1) := by decide +kernel
theorem dX11_cover_56 : decode cX11_cover 56 = .ok (.aload_n 0, 1) := by decide +kernel
theorem dX11_cover_57 : decode cX11_cover 57 = .ok (.iload_n 3, 1) := by decide +kernel
theorem dX11_cover_58 : decode cX11_cover 58 = .ok (.invokevirtual 186, 3) := by decide +kernel
theorem dX11_cover_61 : decode cX11_cover 61 = .ok (.istore 4, 2) := by decide +kernel
theorem dX11_cover_63 : decode cX11_cover 63 = .ok (.iload 4, 2) := by decide +kernel
theorem dX11_cover_65 : decode cX11_cover 65 = .ok (.ifCond .ne 23, 3) := by decide +kernel
theorem dX11_cover_68 : decode cX11_cover 68 = .ok (.aload_n 0, 1) := by decide +kernel
theorem dX11_cover_69 : decode cX11_cover 69 = .ok (.getfield 159, 3) := by decide +kernel
theorem dX11_cover_72 : decode cX11_cover 72 = .ok (.bipush 40, 2) := by decide +kernel
theorem dX11_cover_74 : decode cX11_cover 74 = .ok (.if_icmp .ne 14, 3) := by decide +kernel
theorem dX11_cover_77 : decode cX11_cover 77 = .ok (.iload_n 2, 1) := by decide +kernel
theorem dX11_cover_78 : decode cX11_cover 78 = .ok (.ifCond .ne 8, 3) := by decide +kernel
theorem dX11_cover_81 : decode cX11_cover 81 = .ok (.bipush (-4), 2) := by decide +kernel
theorem dX11_cover_83 : decode cX11_cover 83 = .ok (.goto 4, 3) := by decide +kernel
theorem dX11_cover_86 : decode cX11_cover 86 = .ok (.iload_n 2, 1) := by decide +kernel
theorem dX11_cover_87 : decode cX11_cover 87 = .ok (.ireturn, 1) := by decide +kernel
theorem dX11_cover_88 : decode cX11_cover 88 = .ok (.iload 4, 2) := by decide +kernel
theorem dX11_cover_90 : decode cX11_cover 90 = .ok (.ifCond .ne 11, 3) := by decide +kernel
theorem dX11_cover_93 : decode cX11_cover 93 = .ok (.aload_n 0, 1) := by decide +kernel
theorem dX11_cover_94 : decode cX11_cover 94 = .ok (.iload_n 3, 1) := by decide +kernel
theorem dX11_cover_95 : decode cX11_cover 95 = .ok (.invokevirtual 189, 3) := by decide +kernel
theorem dX11_cover_98 : decode cX11_cover 98 = .ok (.goto 11, 3) := by decide +kernel
theorem dX11_cover_101 : decode cX11_cover 101 = .ok (.aload_n 0, 1) := by decide +kernel
theorem dX11_cover_102 : decode cX11_cover 102 = .ok (.getfield 32, 3) := by decide +kernel
theorem dX11_cover_105 : decode cX11_cover 105 = .ok (.iload_n 3, 1) := by decide +kernel
theorem dX11_cover_106 : decode cX11_cover 106 = .ok (.iload 4, 2) := by decide +kernel
theorem dX11_cover_108 : decode cX11_cover 108 = .ok (.iastore, 1) := by decide +kernel
theorem dX11_cover_109 : decode cX11_cover 109 = .ok (.iinc 2 1, 3) := by decide +kernel
theorem dX11_cover_112 : decode cX11_cover 112 = .ok (.goto (-85), 3) := by decide +kernel
theorem dX11_cover_115 : decode cX11_cover 115 = .ok (.iload_n 2, 1) := by decide +kernel
theorem dX11_cover_116 : decode cX11_cover 116 = .ok (.ireturn, 1) := by decide +kernel
theorem dX11_open_0 : decode cX11_open 0 = .ok (.iload_n 1, 1) := by decide +kernel
theorem dX11_open_1 : decode cX11_open 1 = .ok (.tableswitch 64 0 4 #[35, 40, 46, 52, 58], 35) := by decide +kernel
theorem dX11_open_36 : decode cX11_open 36 = .ok (.aload_n 0, 1) := by decide +kernel
theorem dX11_open_37 : decode cX11_open 37 = .ok (.getfield 159, 3) := by decide +kernel
theorem dX11_open_40 : decode cX11_open 40 = .ok (.ireturn, 1) := by decide +kernel
theorem dX11_open_41 : decode cX11_open 41 = .ok (.aload_n 0, 1) := by decide +kernel
theorem dX11_open_42 : decode cX11_open 42 = .ok (.iconst 0, 1) := by decide +kernel
theorem dX11_open_43 : decode cX11_open 43 = .ok (.invokevirtual 192, 3) := by decide +kernel
theorem dX11_open_46 : decode cX11_open 46 = .ok (.ireturn, 1) := by decide +kernel
theorem dX11_open_47 : decode cX11_open 47 = .ok (.aload_n 0, 1) := by decide +kernel
theorem dX11_open_48 : decode cX11_open 48 = .ok (.iconst 1, 1) := by decide +kernel
theorem dX11_open_49 : decode cX11_open 49 = .ok (.invokevirtual 192, 3) := by decide +kernel
theorem dX11_open_52 : decode cX11_open 52 = .ok (.ireturn, 1) := by decide +kernel
theorem dX11_open_53 : decode cX11_open 53 = .ok (.aload_n 0, 1) := by decide +kernel
theorem dX11_open_54 : decode cX11_open 54 = .ok (.iconst 2, 1) := by decide +kernel
theorem dX11_open_55 : decode cX11_open 55 = .ok (.invokevirtual 192, 3) := by decide +kernel
theorem dX11_open_58 : decode cX11_open 58 = .ok (.ireturn, 1) := by decide +kernel
theorem dX11_open_59 : decode cX11_open 59 = .ok (.aload_n 0, 1) := by decide +kernel
theorem dX11_open_60 : decode cX11_open 60 = .ok (.iconst 3, 1) := by decide +kernel
theorem dX11_open_61 : decode cX11_open 61 = .ok (.invokevirtual 192, 3) := by decide +kernel
theorem dX11_open_64 : decode cX11_open 64 = .ok (.ireturn, 1) := by decide +kernel
theorem dX11_open_65 : decode cX11_open 65 = .ok (.bipush (-2), 2) := by decide +kernel
theorem dX11_open_67 : decode cX11_open 67 = .ok (.ireturn, 1) := by decide +kernel
theorem dX11_partly_0 : decode cX11_partly 0 = .ok (.iload_n 1, 1) := by decide +kernel
theorem dX11_partly_1 : decode cX11_partly 1 = .ok (.i2l, 1) := by decide +kernel
theorem dX11_partly_2 : decode cX11_partly 2 = .ok (.lconst 0, 1) := by decide +kernel
theorem dX11_partly_3 : decode cX11_partly 3 = .ok (.aload_n 0, 1) := by decide +kernel
theorem dX11_partly_4 : decode cX11_partly 4 = .ok (.getfield 159, 3) := by decide +kernel
theorem dX11_partly_7 : decode cX11_partly 7 = .ok (.i2l, 1) := by decide +kernel
theorem dX11_partly_8 : decode cX11_partly 8 = .ok (.lconst 1, 1) := by decide +kernel
theorem dX11_partly_9 : decode cX11_partly 9 = .ok (.lsub, 1) := by decide +kernel
theorem dX11_partly_10 : decode cX11_partly 10 = .ok (.invokestatic 82, 3) := by decide +kernel
theorem dX11_partly_13 : decode cX11_partly 13 = .ok (.ifCond .ne 5, 3) := by decide +kernel
theorem dX11_partly_16 : decode cX11_partly 16 = .ok (.iconst (-1), 1) := by decide +kernel
theorem dX11_partly_17 : decode cX11_partly 17 = .ok (.ireturn, 1) := by decide +kernel
theorem dX11_partly_18 : decode cX11_partly 18 = .ok (.iload_n 2, 1) := by decide +kernel
theorem dX11_partly_19 : decode cX11_partly 19 = .ok (.iconst 4, 1) := by decide +kernel
theorem dX11_partly_20 : decode cX11_partly 20 = .ok (.if_icmp .ne 10, 3) := by decide +kernel
theorem dX11_partly_23 : decode cX11_partly 23 = .ok (.aload_n 0, 1) := by decide +kernel
theorem dX11_partly_24 : decode cX11_partly 24 = .ok (.getfield 32, 3) := by decide +kernel
theorem dX11_partly_27 : decode cX11_partly 27 = .ok (.iload_n 1, 1) := by decide +kernel
theorem dX11_partly_28 : decode cX11_partly 28 = .ok (.iaload, 1) := by decide +kernel
theorem dX11_partly_29 : decode cX11_partly 29 = .ok (.ireturn, 1) := by decide +kernel
theorem dX11_partly_30 : decode cX11_partly 30 = .ok (.iload_n 2, 1) := by decide +kernel
theorem dX11_partly_31 : decode cX11_partly 31 = .ok (.i2l, 1) := by decide +kernel
theorem dX11_partly_32 : decode cX11_partly 32 = .ok (.lconst 0, 1) := by decide +kernel
theorem dX11_partly_33 : decode cX11_partly 33 = .ok (.ldc2_w 80, 3) := by decide +kernel
theorem dX11_partly_36 : decode cX11_partly 36 = .ok (.invokestatic 82, 3) := by decide +kernel
theorem dX11_partly_39 : decode cX11_partly 39 = .ok (.ifCond .eq 16, 3) := by decide +kernel
theorem dX11_partly_42 : decode cX11_partly 42 = .ok (.aload_n 0, 1) := by decide +kernel
theorem dX11_partly_43 : decode cX11_partly 43 = .ok (.getfield 29, 3) := by decide +kernel
theorem dX11_partly_46 : decode cX11_partly 46 = .ok (.iconst 4, 1) := by decide +kernel
theorem dX11_partly_47 : decode cX11_partly 47 = .ok (.iload_n 1, 1) := by decide +kernel
theorem dX11_partly_48 : decode cX11_partly 48 = .ok (.imul, 1) := by decide +kernel
theorem dX11_partly_49 : decode cX11_partly 49 = .ok (.iload_n 2, 1) := by decide +kernel
theorem dX11_partly_50 : decode cX11_partly 50 = .ok (.iadd, 1) := by decide +kernel
theorem dX11_partly_51 : decode cX11_partly 51 = .ok (.iaload, 1) := by decide +kernel
theorem dX11_partly_52 : decode cX11_partly 52 = .ok (.goto 5, 3) := by decide +kernel
theorem dX11_partly_55 : decode cX11_partly 55 = .ok (.bipush (-2), 2) := by decide +kernel
theorem dX11_partly_57 : decode cX11_partly 57 = .ok (.ireturn, 1) := by decide +kernel
theorem dX11_where_0 : decode cX11_where 0 = .ok (.iload_n 1, 1) := by decide +kernel
theorem dX11_where_1 : decode cX11_where 1 = .ok (.i2l, 1) := by decide +kernel
theorem dX11_where_2 : decode cX11_where 2 = .ok (.lconst 0, 1) := by decide +kernel
theorem dX11_where_3 : decode cX11_where 3 = .ok (.lconst 1, 1) := by decide +kernel
theorem dX11_where_4 : decode cX11_where 4 = .ok (.invokestatic 82, 3) := by decide +kernel
theorem dX11_where_7 : decode cX11_where 7 = .ok (.ifCond .ne 6, 3) := by decide +kernel
theorem dX11_where_10 : decode cX11_where 10 = .ok (.bipush (-2), 2) := by decide +kernel
theorem dX11_where_12 : decode cX11_where 12 = .ok (.ireturn, 1) := by decide +kernel
theorem dX11_where_13 : decode cX11_where 13 = .ok (.aload_n 0, 1) := by decide +kernel
theorem dX11_where_14 : decode cX11_where 14 = .ok (.iconst 3, 1) := by decide +kernel
theorem dX11_where_15 : decode cX11_where 15 = .ok (.invokevirtual 183, 3) := by decide +kernel
theorem dX11_where_18 : decode cX11_where 18 = .ok (.bipush (-9), 2) := by decide +kernel
theorem dX11_where_20 : decode cX11_where 20 = .ok (.if_icmp .ne 6, 3) := by decide +kernel
theorem dX11_where_23 : decode cX11_where 23 = .ok (.bipush (-9), 2) := by decide +kernel
theorem dX11_where_25 : decode cX11_where 25 = .ok (.ireturn, 1) := by decide +kernel
theorem dX11_where_26 : decode cX11_where 26 = .ok (.iload_n 1, 1) := by decide +kernel
theorem dX11_where_27 : decode cX11_where 27 = .ok (.ifCond .ne 10, 3) := by decide +kernel
theorem dX11_where_30 : decode cX11_where 30 = .ok (.aload_n 0, 1) := by decide +kernel
theorem dX11_where_31 : decode cX11_where 31 = .ok (.getfield 175, 3) := by decide +kernel
theorem dX11_where_34 : decode cX11_where 34 = .ok (.goto 7, 3) := by decide +kernel
theorem dX11_where_37 : decode cX11_where 37 = .ok (.aload_n 0, 1) := by decide +kernel
theorem dX11_where_38 : decode cX11_where 38 = .ok (.getfield 178, 3) := by decide +kernel
theorem dX11_where_41 : decode cX11_where 41 = .ok (.ireturn, 1) := by decide +kernel
theorem dX11_least_0 : decode cX11_least 0 = .ok (.aload_n 0, 1) := by decide +kernel
theorem dX11_least_1 : decode cX11_least 1 = .ok (.getfield 159, 3) := by decide +kernel
theorem dX11_least_4 : decode cX11_least 4 = .ok (.ifCond .ne 7, 3) := by decide +kernel
theorem dX11_least_7 : decode cX11_least 7 = .ok (.ldc2_w 78, 3) := by decide +kernel
theorem dX11_least_10 : decode cX11_least 10 = .ok (.lreturn, 1) := by decide +kernel
theorem dX11_least_11 : decode cX11_least 11 = .ok (.aload_n 0, 1) := by decide +kernel
theorem dX11_least_12 : decode cX11_least 12 = .ok (.iconst 0, 1) := by decide +kernel
theorem dX11_least_13 : decode cX11_least 13 = .ok (.iconst 0, 1) := by decide +kernel
theorem dX11_least_14 : decode cX11_least 14 = .ok (.invokevirtual 172, 3) := by decide +kernel
theorem dX11_least_17 : decode cX11_least 17 = .ok (.lstore_n 1, 1) := by decide +kernel
theorem dX11_least_18 : decode cX11_least 18 = .ok (.iconst 0, 1) := by decide +kernel
theorem dX11_least_19 : decode cX11_least 19 = .ok (.istore_n 3, 1) := by decide +kernel
theorem dX11_least_20 : decode cX11_least 20 = .ok (.iload_n 3, 1) := by decide +kernel
theorem dX11_least_21 : decode cX11_least 21 = .ok (.aload_n 0, 1) := by decide +kernel
theorem dX11_least_22 : decode cX11_least 22 = .ok (.getfield 159, 3) := by decide +kernel
theorem dX11_least_25 : decode cX11_least 25 = .ok (.if_icmp .ge 48, 3) := by decide +kernel
theorem dX11_least_28 : decode cX11_least 28 = .ok (.iconst 0, 1) := by decide +kernel
theorem dX11_least_29 : decode cX11_least 29 = .ok (.istore 4, 2) := by decide +kernel
theorem dX11_least_31 : decode cX11_least 31 = .ok (.iload 4, 2) := by decide +kernel
theorem dX11_least_33 : decode cX11_least 33 = .ok (.bipush 9, 2) := by decide +kernel
theorem dX11_least_35 : decode cX11_least 35 = .ok (.if_icmp .ge 32, 3) := by decide +kernel
theorem dX11_least_38 : decode cX11_least 38 = .ok (.aload_n 0, 1) := by decide +kernel
theorem dX11_least_39 : decode cX11_least 39 = .ok (.iload_n 3, 1) := by decide +kernel
theorem dX11_least_40 : decode cX11_least 40 = .ok (.iload 4, 2) := by decide +kernel
theorem dX11_least_42 : decode cX11_least 42 = .ok (.invokevirtual 172, 3) := by decide +kernel
theorem dX11_least_45 : decode cX11_least 45 = .ok (.lstore 5, 2) := by decide +kernel
theorem dX11_least_47 : decode cX11_least 47 = .ok (.lload 5, 2) := by decide +kernel
theorem dX11_least_49 : decode cX11_least 49 = .ok (.lload_n 1, 1) := by decide +kernel
theorem dX11_least_50 : decode cX11_least 50 = .ok (.lcmp, 1) := by decide +kernel
theorem dX11_least_51 : decode cX11_least 51 = .ok (.ifCond .ge 8, 3) := by decide +kernel
theorem dX11_least_54 : decode cX11_least 54 = .ok (.lload 5, 2) := by decide +kernel
theorem dX11_least_56 : decode cX11_least 56 = .ok (.goto 4, 3) := by decide +kernel
theorem dX11_least_59 : decode cX11_least 59 = .ok (.lload_n 1, 1) := by decide +kernel
theorem dX11_least_60 : decode cX11_least 60 = .ok (.lstore_n 1, 1) := by decide +kernel
theorem dX11_least_61 : decode cX11_least 61 = .ok (.iinc 4 1, 3) := by decide +kernel
theorem dX11_least_64 : decode cX11_least 64 = .ok (.goto (-33), 3) := by decide +kernel
theorem dX11_least_67 : decode cX11_least 67 = .ok (.iinc 3 1, 3) := by decide +kernel
theorem dX11_least_70 : decode cX11_least 70 = .ok (.goto (-50), 3) := by decide +kernel
theorem dX11_least_73 : decode cX11_least 73 = .ok (.lload_n 1, 1) := by decide +kernel
theorem dX11_least_74 : decode cX11_least 74 = .ok (.lreturn, 1) := by decide +kernel
theorem dX11_isOther_0 : decode cX11_isOther 0 = .ok (.iload_n 0, 1) := by decide +kernel
theorem dX11_isOther_1 : decode cX11_isOther 1 = .ok (.iconst 5, 1) := by decide +kernel
theorem dX11_isOther_2 : decode cX11_isOther 2 = .ok (.if_icmp .eq 15, 3) := by decide +kernel
theorem dX11_isOther_5 : decode cX11_isOther 5 = .ok (.iload_n 0, 1) := by decide +kernel
theorem dX11_isOther_6 : decode cX11_isOther 6 = .ok (.bipush 7, 2) := by decide +kernel
theorem dX11_isOther_8 : decode cX11_isOther 8 = .ok (.if_icmp .eq 9, 3) := by decide +kernel
theorem dX11_isOther_11 : decode cX11_isOther 11 = .ok (.iload_n 0, 1) := by decide +kernel
theorem dX11_isOther_12 : decode cX11_isOther 12 = .ok (.bipush 8, 2) := by decide +kernel
theorem dX11_isOther_14 : decode cX11_isOther 14 = .ok (.if_icmp .ne 7, 3) := by decide +kernel
theorem dX11_isOther_17 : decode cX11_isOther 17 = .ok (.iconst 1, 1) := by decide +kernel
theorem dX11_isOther_18 : decode cX11_isOther 18 = .ok (.goto 4, 3) := by decide +kernel
theorem dX11_isOther_21 : decode cX11_isOther 21 = .ok (.iconst 0, 1) := by decide +kernel
theorem dX11_isOther_22 : decode cX11_isOther 22 = .ok (.ireturn, 1) := by decide +kernel
theorem dX11_hasOther_0 : decode cX11_hasOther 0 = .ok (.aload_n 0, 1) := by decide +kernel
theorem dX11_hasOther_1 : decode cX11_hasOther 1 = .ok (.iload_n 1, 1) := by decide +kernel
theorem dX11_hasOther_2 : decode cX11_hasOther 2 = .ok (.iconst 5, 1) := by decide +kernel
theorem dX11_hasOther_3 : decode cX11_hasOther 3 = .ok (.invokevirtual 113, 3) := by decide +kernel
theorem dX11_hasOther_6 : decode cX11_hasOther 6 = .ok (.lconst 0, 1) := by decide +kernel
theorem dX11_hasOther_7 : decode cX11_hasOther 7 = .ok (.lcmp, 1) := by decide +kernel
theorem dX11_hasOther_8 : decode cX11_hasOther 8 = .ok (.ifCond .ne 27, 3) := by decide +kernel
theorem dX11_hasOther_11 : decode cX11_hasOther 11 = .ok (.aload_n 0, 1) := by decide +kernel
theorem dX11_hasOther_12 : decode cX11_hasOther 12 = .ok (.iload_n 1, 1) := by decide +kernel
theorem dX11_hasOther_13 : decode cX11_hasOther 13 = .ok (.bipush 7, 2) := by decide +kernel
theorem dX11_hasOther_15 : decode cX11_hasOther 15 = .ok (.invokevirtual 113, 3) := by decide +kernel
theorem dX11_hasOther_18 : decode cX11_hasOther 18 = .ok (.lconst 0, 1) := by decide +kernel
theorem dX11_hasOther_19 : decode cX11_hasOther 19 = .ok (.lcmp, 1) := by decide +kernel
theorem dX11_hasOther_20 : decode cX11_hasOther 20 = .ok (.ifCond .ne 15, 3) := by decide +kernel
theorem dX11_hasOther_23 : decode cX11_hasOther 23 = .ok (.aload_n 0, 1) := by decide +kernel
theorem dX11_hasOther_24 : decode cX11_hasOther 24 = .ok (.iload_n 1, 1) := by decide +kernel
theorem dX11_hasOther_25 : decode cX11_hasOther 25 = .ok (.bipush 8, 2) := by decide +kernel
theorem dX11_hasOther_27 : decode cX11_hasOther 27 = .ok (.invokevirtual 113, 3) := by decide +kernel
theorem dX11_hasOther_30 : decode cX11_hasOther 30 = .ok (.lconst 0, 1) := by decide +kernel
theorem dX11_hasOther_31 : decode cX11_hasOther 31 = .ok (.lcmp, 1) := by decide +kernel
theorem dX11_hasOther_32 : decode cX11_hasOther 32 = .ok (.ifCond .eq 7, 3) := by decide +kernel
theorem dX11_hasOther_35 : decode cX11_hasOther 35 = .ok (.iconst 1, 1) := by decide +kernel
theorem dX11_hasOther_36 : decode cX11_hasOther 36 = .ok (.goto 4, 3) := by decide +kernel
theorem dX11_hasOther_39 : decode cX11_hasOther 39 = .ok (.iconst 0, 1) := by decide +kernel
theorem dX11_hasOther_40 : decode cX11_hasOther 40 = .ok (.ireturn, 1) := by decide +kernel
theorem dX11_layForm_0 : decode cX11_layForm 0 = .ok (.aload_n 0, 1) := by decide +kernel
theorem dX11_layForm_1 : decode cX11_layForm 1 = .ok (.getfield 35, 3) := by decide +kernel
theorem dX11_layForm_4 : decode cX11_layForm 4 = .ok (.iconst 0, 1) := by decide +kernel
theorem dX11_layForm_5 : decode cX11_layForm 5 = .ok (.ldc2_w 86, 3) := by decide +kernel
theorem dX11_layForm_8 : decode cX11_layForm 8 = .ok (.lload_n 1, 1) := by decide +kernel
theorem dX11_layForm_9 : decode cX11_layForm 9 = .ok (.lmul, 1) := by decide +kernel
theorem dX11_layForm_10 : decode cX11_layForm 10 = .ok (.lastore, 1) := by decide +kernel
theorem dX11_layForm_11 : decode cX11_layForm 11 = .ok (.aload_n 0, 1) := by decide +kernel
theorem dX11_layForm_12 : decode cX11_layForm 12 = .ok (.getfield 35, 3) := by decide +kernel
theorem dX11_layForm_15 : decode cX11_layForm 15 = .ok (.iconst 1, 1) := by decide +kernel
theorem dX11_layForm_16 : decode cX11_layForm 16 = .ok (.lload_n 3, 1) := by decide +kernel
theorem dX11_layForm_17 : decode cX11_layForm 17 = .ok (.lastore, 1) := by decide +kernel
theorem dX11_layForm_18 : decode cX11_layForm 18 = .ok (.aload_n 0, 1) := by decide +kernel
theorem dX11_layForm_19 : decode cX11_layForm 19 = .ok (.getfield 35, 3) := by decide +kernel
theorem dX11_layForm_22 : decode cX11_layForm 22 = .ok (.iconst 2, 1) := by decide +kernel
theorem dX11_layForm_23 : decode cX11_layForm 23 = .ok (.lload 5, 2) := by decide +kernel
theorem dX11_layForm_25 : decode cX11_layForm 25 = .ok (.lastore, 1) := by decide +kernel
theorem dX11_layForm_26 : decode cX11_layForm 26 = .ok (.aload_n 0, 1) := by decide +kernel
theorem dX11_layForm_27 : decode cX11_layForm 27 = .ok (.getfield 35, 3) := by decide +kernel
theorem dX11_layForm_30 : decode cX11_layForm 30 = .ok (.iconst 3, 1) := by decide +kernel
theorem dX11_layForm_31 : decode cX11_layForm 31 = .ok (.lload_n 3, 1) := by decide +kernel
theorem dX11_layForm_32 : decode cX11_layForm 32 = .ok (.lastore, 1) := by decide +kernel
theorem dX11_layForm_33 : decode cX11_layForm 33 = .ok (.aload_n 0, 1) := by decide +kernel
theorem dX11_layForm_34 : decode cX11_layForm 34 = .ok (.getfield 35, 3) := by decide +kernel
theorem dX11_layForm_37 : decode cX11_layForm 37 = .ok (.iconst 4, 1) := by decide +kernel
theorem dX11_layForm_38 : decode cX11_layForm 38 = .ok (.ldc2_w 86, 3) := by decide +kernel
theorem dX11_layForm_41 : decode cX11_layForm 41 = .ok (.lload 7, 2) := by decide +kernel
theorem dX11_layForm_43 : decode cX11_layForm 43 = .ok (.lmul, 1) := by decide +kernel
theorem dX11_layForm_44 : decode cX11_layForm 44 = .ok (.lastore, 1) := by decide +kernel
theorem dX11_layForm_45 : decode cX11_layForm 45 = .ok (.aload_n 0, 1) := by decide +kernel
theorem dX11_layForm_46 : decode cX11_layForm 46 = .ok (.getfield 35, 3) := by decide +kernel
theorem dX11_layForm_49 : decode cX11_layForm 49 = .ok (.iconst 5, 1) := by decide +kernel
theorem dX11_layForm_50 : decode cX11_layForm 50 = .ok (.lload 9, 2) := by decide +kernel
theorem dX11_layForm_52 : decode cX11_layForm 52 = .ok (.lastore, 1) := by decide +kernel
theorem dX11_layForm_53 : decode cX11_layForm 53 = .ok (.aload_n 0, 1) := by decide +kernel
theorem dX11_layForm_54 : decode cX11_layForm 54 = .ok (.getfield 35, 3) := by decide +kernel
theorem dX11_layForm_57 : decode cX11_layForm 57 = .ok (.bipush 6, 2) := by decide +kernel
theorem dX11_layForm_59 : decode cX11_layForm 59 = .ok (.lload 5, 2) := by decide +kernel
theorem dX11_layForm_61 : decode cX11_layForm 61 = .ok (.lastore, 1) := by decide +kernel
theorem dX11_layForm_62 : decode cX11_layForm 62 = .ok (.aload_n 0, 1) := by decide +kernel
theorem dX11_layForm_63 : decode cX11_layForm 63 = .ok (.getfield 35, 3) := by decide +kernel
theorem dX11_layForm_66 : decode cX11_layForm 66 = .ok (.bipush 7, 2) := by decide +kernel
theorem dX11_layForm_68 : decode cX11_layForm 68 = .ok (.lload 9, 2) := by decide +kernel
theorem dX11_layForm_70 : decode cX11_layForm 70 = .ok (.lastore, 1) := by decide +kernel
theorem dX11_layForm_71 : decode cX11_layForm 71 = .ok (.aload_n 0, 1) := by decide +kernel
theorem dX11_layForm_72 : decode cX11_layForm 72 = .ok (.getfield 35, 3) := by decide +kernel
theorem dX11_layForm_75 : decode cX11_layForm 75 = .ok (.bipush 8, 2) := by decide +kernel
theorem dX11_layForm_77 : decode cX11_layForm 77 = .ok (.ldc2_w 86, 3) := by decide +kernel
theorem dX11_layForm_80 : decode cX11_layForm 80 = .ok (.lload 11, 2) := by decide +kernel
theorem dX11_layForm_82 : decode cX11_layForm 82 = .ok (.lmul, 1) := by decide +kernel
theorem dX11_layForm_83 : decode cX11_layForm 83 = .ok (.lastore, 1) := by decide +kernel
theorem dX11_layForm_84 : decode cX11_layForm 84 = .ok (.return_, 1) := by decide +kernel
theorem dX11_form_0 : decode cX11_form 0 = .ok (.aload_n 0, 1) := by decide +kernel
theorem dX11_form_1 : decode cX11_form 1 = .ok (.iload_n 1, 1) := by decide +kernel
theorem dX11_form_2 : decode cX11_form 2 = .ok (.invokevirtual 109, 3) := by decide +kernel
theorem dX11_form_5 : decode cX11_form 5 = .ok (.ifCond .eq 35, 3) := by decide +kernel
theorem dX11_form_8 : decode cX11_form 8 = .ok (.iload_n 2, 1) := by decide +kernel
theorem dX11_form_9 : decode cX11_form 9 = .ok (.i2l, 1) := by decide +kernel
theorem dX11_form_10 : decode cX11_form 10 = .ok (.lconst 0, 1) := by decide +kernel
theorem dX11_form_11 : decode cX11_form 11 = .ok (.ldc2_w 86, 3) := by decide +kernel
theorem dX11_form_14 : decode cX11_form 14 = .ok (.invokestatic 82, 3) := by decide +kernel
theorem dX11_form_17 : decode cX11_form 17 = .ok (.ifCond .eq 23, 3) := by decide +kernel
theorem dX11_form_20 : decode cX11_form 20 = .ok (.iload_n 3, 1) := by decide +kernel
theorem dX11_form_21 : decode cX11_form 21 = .ok (.i2l, 1) := by decide +kernel
theorem dX11_form_22 : decode cX11_form 22 = .ok (.lconst 0, 1) := by decide +kernel
theorem dX11_form_23 : decode cX11_form 23 = .ok (.ldc2_w 86, 3) := by decide +kernel
theorem dX11_form_26 : decode cX11_form 26 = .ok (.invokestatic 82, 3) := by decide +kernel
theorem dX11_form_29 : decode cX11_form 29 = .ok (.ifCond .eq 11, 3) := by decide +kernel
theorem dX11_form_32 : decode cX11_form 32 = .ok (.aload_n 0, 1) := by decide +kernel
theorem dX11_form_33 : decode cX11_form 33 = .ok (.iload_n 1, 1) := by decide +kernel
theorem dX11_form_34 : decode cX11_form 34 = .ok (.invokevirtual 195, 3) := by decide +kernel
theorem dX11_form_37 : decode cX11_form 37 = .ok (.ifCond .eq 7, 3) := by decide +kernel
theorem dX11_form_40 : decode cX11_form 40 = .ok (.ldc2_w 78, 3) := by decide +kernel
theorem dX11_form_43 : decode cX11_form 43 = .ok (.lreturn, 1) := by decide +kernel
theorem dX11_form_44 : decode cX11_form 44 = .ok (.aload_n 0, 1) := by decide +kernel
theorem dX11_form_45 : decode cX11_form 45 = .ok (.aload_n 0, 1) := by decide +kernel
theorem dX11_form_46 : decode cX11_form 46 = .ok (.iload_n 1, 1) := by decide +kernel
theorem dX11_form_47 : decode cX11_form 47 = .ok (.bipush 6, 2) := by decide +kernel
theorem dX11_form_49 : decode cX11_form 49 = .ok (.invokevirtual 113, 3) := by decide +kernel
theorem dX11_form_52 : decode cX11_form 52 = .ok (.aload_n 0, 1) := by decide +kernel
theorem dX11_form_53 : decode cX11_form 53 = .ok (.iload_n 1, 1) := by decide +kernel
theorem dX11_form_54 : decode cX11_form 54 = .ok (.iconst 4, 1) := by decide +kernel
theorem dX11_form_55 : decode cX11_form 55 = .ok (.invokevirtual 113, 3) := by decide +kernel
theorem dX11_form_58 : decode cX11_form 58 = .ok (.aload_n 0, 1) := by decide +kernel
theorem dX11_form_59 : decode cX11_form 59 = .ok (.iload_n 1, 1) := by decide +kernel
theorem dX11_form_60 : decode cX11_form 60 = .ok (.iconst 3, 1) := by decide +kernel
theorem dX11_form_61 : decode cX11_form 61 = .ok (.invokevirtual 113, 3) := by decide +kernel
theorem dX11_form_64 : decode cX11_form 64 = .ok (.aload_n 0, 1) := by decide +kernel
theorem dX11_form_65 : decode cX11_form 65 = .ok (.iload_n 1, 1) := by decide +kernel
theorem dX11_form_66 : decode cX11_form 66 = .ok (.iconst 2, 1) := by decide +kernel
theorem dX11_form_67 : decode cX11_form 67 = .ok (.invokevirtual 113, 3) := by decide +kernel
theorem dX11_form_70 : decode cX11_form 70 = .ok (.aload_n 0, 1) := by decide +kernel
theorem dX11_form_71 : decode cX11_form 71 = .ok (.iload_n 1, 1) := by decide +kernel
theorem dX11_form_72 : decode cX11_form 72 = .ok (.iconst 1, 1) := by decide +kernel
theorem dX11_form_73 : decode cX11_form 73 = .ok (.invokevirtual 113, 3) := by decide +kernel
theorem dX11_form_76 : decode cX11_form 76 = .ok (.aload_n 0, 1) := by decide +kernel
theorem dX11_form_77 : decode cX11_form 77 = .ok (.iload_n 1, 1) := by decide +kernel
theorem dX11_form_78 : decode cX11_form 78 = .ok (.iconst 0, 1) := by decide +kernel
theorem dX11_form_79 : decode cX11_form 79 = .ok (.invokevirtual 113, 3) := by decide +kernel
theorem dX11_form_82 : decode cX11_form 82 = .ok (.invokevirtual 198, 3) := by decide +kernel
theorem dX11_form_85 : decode cX11_form 85 = .ok (.aload_n 0, 1) := by decide +kernel
theorem dX11_form_86 : decode cX11_form 86 = .ok (.getfield 35, 3) := by decide +kernel
theorem dX11_form_89 : decode cX11_form 89 = .ok (.iconst 3, 1) := by decide +kernel
theorem dX11_form_90 : decode cX11_form 90 = .ok (.iload_n 2, 1) := by decide +kernel
theorem dX11_form_91 : decode cX11_form 91 = .ok (.imul, 1) := by decide +kernel
theorem dX11_form_92 : decode cX11_form 92 = .ok (.iload_n 3, 1) := by decide +kernel
theorem dX11_form_93 : decode cX11_form 93 = .ok (.iadd, 1) := by decide +kernel
theorem dX11_form_94 : decode cX11_form 94 = .ok (.laload, 1) := by decide +kernel
theorem dX11_form_95 : decode cX11_form 95 = .ok (.lreturn, 1) := by decide +kernel
theorem dX11_findSquares_0 : decode cX11_findSquares 0 = .ok (.aload_n 0, 1) := by decide +kernel
theorem dX11_findSquares_1 : decode cX11_findSquares 1 = .ok (.iconst 0, 1) := by decide +kernel
theorem dX11_findSquares_2 : decode cX11_findSquares 2 = .ok (.putfield 202, 3) := by decide +kernel
theorem dX11_findSquares_5 : decode cX11_findSquares 5 = .ok (.lconst 1, 1) := by decide +kernel
theorem dX11_findSquares_6 : decode cX11_findSquares 6 = .ok (.lstore_n 1, 1) := by decide +kernel
theorem dX11_findSquares_7 : decode cX11_findSquares 7 = .ok (.iconst 0, 1) := by decide +kernel
theorem dX11_findSquares_8 : decode cX11_findSquares 8 = .ok (.istore_n 3, 1) := by decide +kernel
theorem dX11_findSquares_9 : decode cX11_findSquares 9 = .ok (.iload_n 3, 1) := by decide +kernel
theorem dX11_findSquares_10 : decode cX11_findSquares 10 = .ok (.iconst 3, 1) := by decide +kernel
theorem dX11_findSquares_11 : decode cX11_findSquares 11 = .ok (.if_icmp .ge 258, 3) := by decide +kernel
theorem dX11_findSquares_14 : decode cX11_findSquares 14 = .ok (.aload_n 0, 1) := by decide +kernel
theorem dX11_findSquares_15 : decode cX11_findSquares 15 = .ok (.getfield 35, 3) := by decide +kernel
theorem dX11_findSquares_18 : decode cX11_findSquares 18 = .ok (.iconst 4, 1) := by decide +kernel
theorem dX11_findSquares_19 : decode cX11_findSquares 19 = .ok (.iload_n 3, 1) := by decide +kernel
theorem dX11_findSquares_20 : decode cX11_findSquares 20 = .ok (.imul, 1) := by decide +kernel
theorem dX11_findSquares_21 : decode cX11_findSquares 21 = .ok (.laload, 1) := by decide +kernel
theorem dX11_findSquares_22 : decode cX11_findSquares 22 = .ok (.lstore 4, 2) := by decide +kernel
theorem dX11_findSquares_24 : decode cX11_findSquares 24 = .ok (.lload 4, 2) := by decide +kernel
theorem dX11_findSquares_26 : decode cX11_findSquares 26 = .ok (.lconst 0, 1) := by decide +kernel
theorem dX11_findSquares_27 : decode cX11_findSquares 27 = .ok (.lcmp, 1) := by decide +kernel
theorem dX11_findSquares_28 : decode cX11_findSquares 28 = .ok (.ifCond .ge 5, 3) := by decide +kernel
theorem dX11_findSquares_31 : decode cX11_findSquares 31 = .ok (.iconst 0, 1) := by decide +kernel
theorem dX11_findSquares_32 : decode cX11_findSquares 32 = .ok (.ireturn, 1) := by decide +kernel
theorem dX11_findSquares_33 : decode cX11_findSquares 33 = .ok (.lload 4, 2) := by decide +kernel
theorem dX11_findSquares_35 : decode cX11_findSquares 35 = .ok (.lconst 0, 1) := by decide +kernel
theorem dX11_findSquares_36 : decode cX11_findSquares 36 = .ok (.lcmp, 1) := by decide +kernel
theorem dX11_findSquares_37 : decode cX11_findSquares 37 = .ok (.ifCond .ne 41, 3) := by decide +kernel
theorem dX11_findSquares_40 : decode cX11_findSquares 40 = .ok (.iload_n 3, 1) := by decide +kernel
theorem dX11_findSquares_41 : decode cX11_findSquares 41 = .ok (.iconst 1, 1) := by decide +kernel
theorem dX11_findSquares_42 : decode cX11_findSquares 42 = .ok (.iadd, 1) := by decide +kernel
theorem dX11_findSquares_43 : decode cX11_findSquares 43 = .ok (.istore 6, 2) := by decide +kernel
theorem dX11_findSquares_45 : decode cX11_findSquares 45 = .ok (.iload 6, 2) := by decide +kernel
theorem dX11_findSquares_47 : decode cX11_findSquares 47 = .ok (.iconst 3, 1) := by decide +kernel
theorem dX11_findSquares_48 : decode cX11_findSquares 48 = .ok (.if_icmp .ge 27, 3) := by decide +kernel
theorem dX11_findSquares_51 : decode cX11_findSquares 51 = .ok (.aload_n 0, 1) := by decide +kernel
theorem dX11_findSquares_52 : decode cX11_findSquares 52 = .ok (.getfield 35, 3) := by decide +kernel
theorem dX11_findSquares_55 : decode cX11_findSquares 55 = .ok (.iconst 3, 1) := by decide +kernel
theorem dX11_findSquares_56 : decode cX11_findSquares 56 = .ok (.iload_n 3, 1) := by decide +kernel
theorem dX11_findSquares_57 : decode cX11_findSquares 57 = .ok (.imul, 1) := by decide +kernel
theorem dX11_findSquares_58 : decode cX11_findSquares 58 = .ok (.iload 6, 2) := by decide +kernel
theorem dX11_findSquares_60 : decode cX11_findSquares 60 = .ok (.iadd, 1) := by decide +kernel
theorem dX11_findSquares_61 : decode cX11_findSquares 61 = .ok (.laload, 1) := by decide +kernel
theorem dX11_findSquares_62 : decode cX11_findSquares 62 = .ok (.lconst 0, 1) := by decide +kernel
theorem dX11_findSquares_63 : decode cX11_findSquares 63 = .ok (.lcmp, 1) := by decide +kernel
theorem dX11_findSquares_64 : decode cX11_findSquares 64 = .ok (.ifCond .eq 5, 3) := by decide +kernel
theorem dX11_findSquares_67 : decode cX11_findSquares 67 = .ok (.iconst 0, 1) := by decide +kernel
theorem dX11_findSquares_68 : decode cX11_findSquares 68 = .ok (.ireturn, 1) := by decide +kernel
theorem dX11_findSquares_69 : decode cX11_findSquares 69 = .ok (.iinc 6 1, 3) := by decide +kernel
theorem dX11_findSquares_72 : decode cX11_findSquares 72 = .ok (.goto (-27), 3) := by decide +kernel
theorem dX11_findSquares_75 : decode cX11_findSquares 75 = .ok (.goto 188, 3) := by decide +kernel
theorem dX11_findSquares_78 : decode cX11_findSquares 78 = .ok (.aload_n 0, 1) := by decide +kernel
theorem dX11_findSquares_79 : decode cX11_findSquares 79 = .ok (.getfield 38, 3) := by decide +kernel
theorem dX11_findSquares_82 : decode cX11_findSquares 82 = .ok (.iconst 5, 1) := by decide +kernel
theorem dX11_findSquares_83 : decode cX11_findSquares 83 = .ok (.aload_n 0, 1) := by decide +kernel
theorem dX11_findSquares_84 : decode cX11_findSquares 84 = .ok (.getfield 202, 3) := by decide +kernel
theorem dX11_findSquares_87 : decode cX11_findSquares 87 = .ok (.imul, 1) := by decide +kernel
theorem dX11_findSquares_88 : decode cX11_findSquares 88 = .ok (.lconst 1, 1) := by decide +kernel
theorem dX11_findSquares_89 : decode cX11_findSquares 89 = .ok (.lastore, 1) := by decide +kernel
theorem dX11_findSquares_90 : decode cX11_findSquares 90 = .ok (.aload_n 0, 1) := by decide +kernel
theorem dX11_findSquares_91 : decode cX11_findSquares 91 = .ok (.getfield 38, 3) := by decide +kernel
theorem dX11_findSquares_94 : decode cX11_findSquares 94 = .ok (.iconst 5, 1) := by decide +kernel
theorem dX11_findSquares_95 : decode cX11_findSquares 95 = .ok (.aload_n 0, 1) := by decide +kernel
theorem dX11_findSquares_96 : decode cX11_findSquares 96 = .ok (.getfield 202, 3) := by decide +kernel
theorem dX11_findSquares_99 : decode cX11_findSquares 99 = .ok (.imul, 1) := by decide +kernel
theorem dX11_findSquares_100 : decode cX11_findSquares 100 = .ok (.iconst 1, 1) := by decide +kernel
theorem dX11_findSquares_101 : decode cX11_findSquares 101 = .ok (.iadd, 1) := by decide +kernel
theorem dX11_findSquares_102 : decode cX11_findSquares 102 = .ok (.ldc2_w 86, 3) := by decide +kernel
theorem dX11_findSquares_105 : decode cX11_findSquares 105 = .ok (.lload_n 1, 1) := by decide +kernel
theorem dX11_findSquares_106 : decode cX11_findSquares 106 = .ok (.lmul, 1) := by decide +kernel
theorem dX11_findSquares_107 : decode cX11_findSquares 107 = .ok (.lload 4, 2) := by decide +kernel
theorem dX11_findSquares_109 : decode cX11_findSquares 109 = .ok (.lmul, 1) := by decide +kernel
theorem dX11_findSquares_110 : decode cX11_findSquares 110 = .ok (.lastore, 1) := by decide +kernel
theorem dX11_findSquares_111 : decode cX11_findSquares 111 = .ok (.iconst 0, 1) := by decide +kernel
theorem dX11_findSquares_112 : decode cX11_findSquares 112 = .ok (.istore 6, 2) := by decide +kernel
theorem dX11_findSquares_114 : decode cX11_findSquares 114 = .ok (.iload 6, 2) := by decide +kernel
theorem dX11_findSquares_116 : decode cX11_findSquares 116 = .ok (.iconst 3, 1) := by decide +kernel
theorem dX11_findSquares_117 : decode cX11_findSquares 117 = .ok (.if_icmp .ge 46, 3) := by decide +kernel
theorem dX11_findSquares_120 : decode cX11_findSquares 120 = .ok (.aload_n 0, 1) := by decide +kernel
theorem dX11_findSquares_121 : decode cX11_findSquares 121 = .ok (.getfield 38, 3) := by decide +kernel
theorem dX11_findSquares_124 : decode cX11_findSquares 124 = .ok (.iconst 5, 1) := by decide +kernel
theorem dX11_findSquares_125 : decode cX11_findSquares 125 = .ok (.aload_n 0, 1) := by decide +kernel
theorem dX11_findSquares_126 : decode cX11_findSquares 126 = .ok (.getfield 202, 3) := by decide +kernel
theorem dX11_findSquares_129 : decode cX11_findSquares 129 = .ok (.imul, 1) := by decide +kernel
theorem dX11_findSquares_130 : decode cX11_findSquares 130 = .ok (.iconst 2, 1) := by decide +kernel
theorem dX11_findSquares_131 : decode cX11_findSquares 131 = .ok (.iadd, 1) := by decide +kernel
theorem dX11_findSquares_132 : decode cX11_findSquares 132 = .ok (.iload 6, 2) := by decide +kernel
theorem dX11_findSquares_134 : decode cX11_findSquares 134 = .ok (.iadd, 1) := by decide +kernel
theorem dX11_findSquares_135 : decode cX11_findSquares 135 = .ok (.iload 6, 2) := by decide +kernel
theorem dX11_findSquares_137 : decode cX11_findSquares 137 = .ok (.iload_n 3, 1) := by decide +kernel
theorem dX11_findSquares_138 : decode cX11_findSquares 138 = .ok (.if_icmp .ge 7, 3) := by decide +kernel
theorem dX11_findSquares_141 : decode cX11_findSquares 141 = .ok (.lconst 0, 1) := by decide +kernel
theorem dX11_findSquares_142 : decode cX11_findSquares 142 = .ok (.goto 14, 3) := by decide +kernel
theorem dX11_findSquares_145 : decode cX11_findSquares 145 = .ok (.aload_n 0, 1) := by decide +kernel
theorem dX11_findSquares_146 : decode cX11_findSquares 146 = .ok (.getfield 35, 3) := by decide +kernel
theorem dX11_findSquares_149 : decode cX11_findSquares 149 = .ok (.iconst 3, 1) := by decide +kernel
theorem dX11_findSquares_150 : decode cX11_findSquares 150 = .ok (.iload_n 3, 1) := by decide +kernel
theorem dX11_findSquares_151 : decode cX11_findSquares 151 = .ok (.imul, 1) := by decide +kernel
theorem dX11_findSquares_152 : decode cX11_findSquares 152 = .ok (.iload 6, 2) := by decide +kernel
theorem dX11_findSquares_154 : decode cX11_findSquares 154 = .ok (.iadd, 1) := by decide +kernel
theorem dX11_findSquares_155 : decode cX11_findSquares 155 = .ok (.laload, 1) := by decide +kernel
theorem dX11_findSquares_156 : decode cX11_findSquares 156 = .ok (.lastore, 1) := by decide +kernel
theorem dX11_findSquares_157 : decode cX11_findSquares 157 = .ok (.iinc 6 1, 3) := by decide +kernel
theorem dX11_findSquares_160 : decode cX11_findSquares 160 = .ok (.goto (-46), 3) := by decide +kernel
theorem dX11_findSquares_163 : decode cX11_findSquares 163 = .ok (.aload_n 0, 1) := by decide +kernel
theorem dX11_findSquares_164 : decode cX11_findSquares 164 = .ok (.dup, 1) := by decide +kernel
theorem dX11_findSquares_165 : decode cX11_findSquares 165 = .ok (.getfield 202, 3) := by decide +kernel
theorem dX11_findSquares_168 : decode cX11_findSquares 168 = .ok (.iconst 1, 1) := by decide +kernel
theorem dX11_findSquares_169 : decode cX11_findSquares 169 = .ok (.iadd, 1) := by decide +kernel
theorem dX11_findSquares_170 : decode cX11_findSquares 170 = .ok (.putfield 202, 3) := by decide +kernel
theorem dX11_findSquares_173 : decode cX11_findSquares 173 = .ok (.iload_n 3, 1) := by decide +kernel
theorem dX11_findSquares_174 : decode cX11_findSquares 174 = .ok (.iconst 1, 1) := by decide +kernel
theorem dX11_findSquares_175 : decode cX11_findSquares 175 = .ok (.iadd, 1) := by decide +kernel
theorem dX11_findSquares_176 : decode cX11_findSquares 176 = .ok (.istore 6, 2) := by decide +kernel
theorem dX11_findSquares_178 : decode cX11_findSquares 178 = .ok (.iload 6, 2) := by decide +kernel
theorem dX11_findSquares_180 : decode cX11_findSquares 180 = .ok (.iconst 3, 1) := by decide +kernel
theorem dX11_findSquares_181 : decode cX11_findSquares 181 = .ok (.if_icmp .ge 79, 3) := by decide +kernel
theorem dX11_findSquares_184 : decode cX11_findSquares 184 = .ok (.iload_n 3, 1) := by decide +kernel
theorem dX11_findSquares_185 : decode cX11_findSquares 185 = .ok (.iconst 1, 1) := by decide +kernel
theorem dX11_findSquares_186 : decode cX11_findSquares 186 = .ok (.iadd, 1) := by decide +kernel
theorem dX11_findSquares_187 : decode cX11_findSquares 187 = .ok (.istore 7, 2) := by decide +kernel
theorem dX11_findSquares_189 : decode cX11_findSquares 189 = .ok (.iload 7, 2) := by decide +kernel
theorem dX11_findSquares_191 : decode cX11_findSquares 191 = .ok (.iconst 3, 1) := by decide +kernel
theorem dX11_findSquares_192 : decode cX11_findSquares 192 = .ok (.if_icmp .ge 62, 3) := by decide +kernel
theorem dX11_findSquares_195 : decode cX11_findSquares 195 = .ok (.aload_n 0, 1) := by decide +kernel
theorem dX11_findSquares_196 : decode cX11_findSquares 196 = .ok (.getfield 35, 3) := by decide +kernel
theorem dX11_findSquares_199 : decode cX11_findSquares 199 = .ok (.iconst 3, 1) := by decide +kernel
theorem dX11_findSquares_200 : decode cX11_findSquares 200 = .ok (.iload 6, 2) := by decide +kernel
theorem dX11_findSquares_202 : decode cX11_findSquares 202 = .ok (.imul, 1) := by decide +kernel
theorem dX11_findSquares_203 : decode cX11_findSquares 203 = .ok (.iload 7, 2) := by decide +kernel
theorem dX11_findSquares_205 : decode cX11_findSquares 205 = .ok (.iadd, 1) := by decide +kernel
theorem dX11_findSquares_206 : decode cX11_findSquares 206 = .ok (.aload_n 0, 1) := by decide +kernel
theorem dX11_findSquares_207 : decode cX11_findSquares 207 = .ok (.getfield 35, 3) := by decide +kernel
theorem dX11_findSquares_210 : decode cX11_findSquares 210 = .ok (.iconst 3, 1) := by decide +kernel
theorem dX11_findSquares_211 : decode cX11_findSquares 211 = .ok (.iload 6, 2) := by decide +kernel
theorem dX11_findSquares_213 : decode cX11_findSquares 213 = .ok (.imul, 1) := by decide +kernel
theorem dX11_findSquares_214 : decode cX11_findSquares 214 = .ok (.iload 7, 2) := by decide +kernel
theorem dX11_findSquares_216 : decode cX11_findSquares 216 = .ok (.iadd, 1) := by decide +kernel
theorem dX11_findSquares_217 : decode cX11_findSquares 217 = .ok (.laload, 1) := by decide +kernel
theorem dX11_findSquares_218 : decode cX11_findSquares 218 = .ok (.lload 4, 2) := by decide +kernel
theorem dX11_findSquares_220 : decode cX11_findSquares 220 = .ok (.lmul, 1) := by decide +kernel
theorem dX11_findSquares_221 : decode cX11_findSquares 221 = .ok (.aload_n 0, 1) := by decide +kernel
theorem dX11_findSquares_222 : decode cX11_findSquares 222 = .ok (.getfield 35, 3) := by decide +kernel
theorem dX11_findSquares_225 : decode cX11_findSquares 225 = .ok (.iconst 3, 1) := by decide +kernel
theorem dX11_findSquares_226 : decode cX11_findSquares 226 = .ok (.iload 6, 2) := by decide +kernel
theorem dX11_findSquares_228 : decode cX11_findSquares 228 = .ok (.imul, 1) := by decide +kernel
theorem dX11_findSquares_229 : decode cX11_findSquares 229 = .ok (.iload_n 3, 1) := by decide +kernel
theorem dX11_findSquares_230 : decode cX11_findSquares 230 = .ok (.iadd, 1) := by decide +kernel
theorem dX11_findSquares_231 : decode cX11_findSquares 231 = .ok (.laload, 1) := by decide +kernel
theorem dX11_findSquares_232 : decode cX11_findSquares 232 = .ok (.aload_n 0, 1) := by decide +kernel
theorem dX11_findSquares_233 : decode cX11_findSquares 233 = .ok (.getfield 35, 3) := by decide +kernel
theorem dX11_findSquares_236 : decode cX11_findSquares 236 = .ok (.iconst 3, 1) := by decide +kernel
theorem dX11_findSquares_237 : decode cX11_findSquares 237 = .ok (.iload_n 3, 1) := by decide +kernel
theorem dX11_findSquares_238 : decode cX11_findSquares 238 = .ok (.imul, 1) := by decide +kernel
theorem dX11_findSquares_239 : decode cX11_findSquares 239 = .ok (.iload 7, 2) := by decide +kernel
theorem dX11_findSquares_241 : decode cX11_findSquares 241 = .ok (.iadd, 1) := by decide +kernel
theorem dX11_findSquares_242 : decode cX11_findSquares 242 = .ok (.laload, 1) := by decide +kernel
theorem dX11_findSquares_243 : decode cX11_findSquares 243 = .ok (.lmul, 1) := by decide +kernel
theorem dX11_findSquares_244 : decode cX11_findSquares 244 = .ok (.lsub, 1) := by decide +kernel
theorem dX11_findSquares_245 : decode cX11_findSquares 245 = .ok (.lload_n 1, 1) := by decide +kernel
theorem dX11_findSquares_246 : decode cX11_findSquares 246 = .ok (.ldiv, 1) := by decide +kernel
theorem dX11_findSquares_247 : decode cX11_findSquares 247 = .ok (.lastore, 1) := by decide +kernel
theorem dX11_findSquares_248 : decode cX11_findSquares 248 = .ok (.iinc 7 1, 3) := by decide +kernel
theorem dX11_findSquares_251 : decode cX11_findSquares 251 = .ok (.goto (-62), 3) := by decide +kernel
theorem dX11_findSquares_254 : decode cX11_findSquares 254 = .ok (.iinc 6 1, 3) := by decide +kernel
theorem dX11_findSquares_257 : decode cX11_findSquares 257 = .ok (.goto (-79), 3) := by decide +kernel
theorem dX11_findSquares_260 : decode cX11_findSquares 260 = .ok (.lload 4, 2) := by decide +kernel
theorem dX11_findSquares_262 : decode cX11_findSquares 262 = .ok (.lstore_n 1, 1) := by decide +kernel
theorem dX11_findSquares_263 : decode cX11_findSquares 263 = .ok (.iinc 3 1, 3) := by decide +kernel
theorem dX11_findSquares_266 : decode cX11_findSquares 266 = .ok (.goto (-257), 3) := by decide +kernel
theorem dX11_findSquares_269 : decode cX11_findSquares 269 = .ok (.iconst 1, 1) := by decide +kernel
theorem dX11_findSquares_270 : decode cX11_findSquares 270 = .ok (.ireturn, 1) := by decide +kernel
theorem dX11_isProof_0 : decode cX11_isProof 0 = .ok (.iload_n 1, 1) := by decide +kernel
theorem dX11_isProof_1 : decode cX11_isProof 1 = .ok (.ifCond .lt 15, 3) := by decide +kernel
theorem dX11_isProof_4 : decode cX11_isProof 4 = .ok (.iload_n 1, 1) := by decide +kernel
theorem dX11_isProof_5 : decode cX11_isProof 5 = .ok (.aload_n 0, 1) := by decide +kernel
theorem dX11_isProof_6 : decode cX11_isProof 6 = .ok (.getfield 205, 3) := by decide +kernel
theorem dX11_isProof_9 : decode cX11_isProof 9 = .ok (.if_icmp .ge 7, 3) := by decide +kernel
theorem dX11_isProof_12 : decode cX11_isProof 12 = .ok (.iconst 1, 1) := by decide +kernel
theorem dX11_isProof_13 : decode cX11_isProof 13 = .ok (.goto 4, 3) := by decide +kernel
theorem dX11_isProof_16 : decode cX11_isProof 16 = .ok (.iconst 0, 1) := by decide +kernel
theorem dX11_isProof_17 : decode cX11_isProof 17 = .ok (.ireturn, 1) := by decide +kernel
theorem dX11_newProof_0 : decode cX11_newProof 0 = .ok (.aload_n 0, 1) := by decide +kernel
theorem dX11_newProof_1 : decode cX11_newProof 1 = .ok (.getfield 41, 3) := by decide +kernel
theorem dX11_newProof_4 : decode cX11_newProof 4 = .ok (.aload_n 0, 1) := by decide +kernel
theorem dX11_newProof_5 : decode cX11_newProof 5 = .ok (.getfield 205, 3) := by decide +kernel
theorem dX11_newProof_8 : decode cX11_newProof 8 = .ok (.iload_n 1, 1) := by decide +kernel
theorem dX11_newProof_9 : decode cX11_newProof 9 = .ok (.iastore, 1) := by decide +kernel
theorem dX11_newProof_10 : decode cX11_newProof 10 = .ok (.aload_n 0, 1) := by decide +kernel
theorem dX11_newProof_11 : decode cX11_newProof 11 = .ok (.getfield 44, 3) := by decide +kernel
theorem dX11_newProof_14 : decode cX11_newProof 14 = .ok (.aload_n 0, 1) := by decide +kernel
theorem dX11_newProof_15 : decode cX11_newProof 15 = .ok (.getfield 205, 3) := by decide +kernel
theorem dX11_newProof_18 : decode cX11_newProof 18 = .ok (.iload_n 2, 1) := by decide +kernel
theorem dX11_newProof_19 : decode cX11_newProof 19 = .ok (.iastore, 1) := by decide +kernel
theorem dX11_newProof_20 : decode cX11_newProof 20 = .ok (.aload_n 0, 1) := by decide +kernel
theorem dX11_newProof_21 : decode cX11_newProof 21 = .ok (.getfield 47, 3) := by decide +kernel
theorem dX11_newProof_24 : decode cX11_newProof 24 = .ok (.aload_n 0, 1) := by decide +kernel
theorem dX11_newProof_25 : decode cX11_newProof 25 = .ok (.getfield 205, 3) := by decide +kernel
theorem dX11_newProof_28 : decode cX11_newProof 28 = .ok (.iload_n 3, 1) := by decide +kernel
theorem dX11_newProof_29 : decode cX11_newProof 29 = .ok (.iastore, 1) := by decide +kernel
theorem dX11_newProof_30 : decode cX11_newProof 30 = .ok (.aload_n 0, 1) := by decide +kernel
theorem dX11_newProof_31 : decode cX11_newProof 31 = .ok (.getfield 50, 3) := by decide +kernel
theorem dX11_newProof_34 : decode cX11_newProof 34 = .ok (.aload_n 0, 1) := by decide +kernel
theorem dX11_newProof_35 : decode cX11_newProof 35 = .ok (.getfield 205, 3) := by decide +kernel
theorem dX11_newProof_38 : decode cX11_newProof 38 = .ok (.iconst 0, 1) := by decide +kernel
theorem dX11_newProof_39 : decode cX11_newProof 39 = .ok (.iastore, 1) := by decide +kernel
theorem dX11_newProof_40 : decode cX11_newProof 40 = .ok (.aload_n 0, 1) := by decide +kernel
theorem dX11_newProof_41 : decode cX11_newProof 41 = .ok (.dup, 1) := by decide +kernel
theorem dX11_newProof_42 : decode cX11_newProof 42 = .ok (.getfield 205, 3) := by decide +kernel
theorem dX11_newProof_45 : decode cX11_newProof 45 = .ok (.iconst 1, 1) := by decide +kernel
theorem dX11_newProof_46 : decode cX11_newProof 46 = .ok (.iadd, 1) := by decide +kernel
theorem dX11_newProof_47 : decode cX11_newProof 47 = .ok (.putfield 205, 3) := by decide +kernel
theorem dX11_newProof_50 : decode cX11_newProof 50 = .ok (.aload_n 0, 1) := by decide +kernel
theorem dX11_newProof_51 : decode cX11_newProof 51 = .ok (.getfield 205, 3) := by decide +kernel
theorem dX11_newProof_54 : decode cX11_newProof 54 = .ok (.iconst 1, 1) := by decide +kernel
theorem dX11_newProof_55 : decode cX11_newProof 55 = .ok (.isub, 1) := by decide +kernel
theorem dX11_newProof_56 : decode cX11_newProof 56 = .ok (.ireturn, 1) := by decide +kernel
theorem dX11_tellNumber_0 : decode cX11_tellNumber 0 = .ok (.aload_n 0, 1) := by decide +kernel
theorem dX11_tellNumber_1 : decode cX11_tellNumber 1 = .ok (.getfield 53, 3) := by decide +kernel
theorem dX11_tellNumber_4 : decode cX11_tellNumber 4 = .ok (.sipush 160, 3) := by decide +kernel
theorem dX11_tellNumber_7 : decode cX11_tellNumber 7 = .ok (.iload_n 1, 1) := by decide +kernel
theorem dX11_tellNumber_8 : decode cX11_tellNumber 8 = .ok (.imul, 1) := by decide +kernel
theorem dX11_tellNumber_9 : decode cX11_tellNumber 9 = .ok (.aload_n 0, 1) := by decide +kernel
theorem dX11_tellNumber_10 : decode cX11_tellNumber 10 = .ok (.getfield 50, 3) := by decide +kernel
theorem dX11_tellNumber_13 : decode cX11_tellNumber 13 = .ok (.iload_n 1, 1) := by decide +kernel
theorem dX11_tellNumber_14 : decode cX11_tellNumber 14 = .ok (.iaload, 1) := by decide +kernel
theorem dX11_tellNumber_15 : decode cX11_tellNumber 15 = .ok (.iadd, 1) := by decide +kernel
theorem dX11_tellNumber_16 : decode cX11_tellNumber 16 = .ok (.lload_n 2, 1) := by decide +kernel
theorem dX11_tellNumber_17 : decode cX11_tellNumber 17 = .ok (.lastore, 1) := by decide +kernel
theorem dX11_tellNumber_18 : decode cX11_tellNumber 18 = .ok (.aload_n 0, 1) := by decide +kernel
theorem dX11_tellNumber_19 : decode cX11_tellNumber 19 = .ok (.getfield 50, 3) := by decide +kernel
theorem dX11_tellNumber_22 : decode cX11_tellNumber 22 = .ok (.iload_n 1, 1) := by decide +kernel
theorem dX11_tellNumber_23 : decode cX11_tellNumber 23 = .ok (.dup2, 1) := by decide +kernel
theorem dX11_tellNumber_24 : decode cX11_tellNumber 24 = .ok (.iaload, 1) := by decide +kernel
theorem dX11_tellNumber_25 : decode cX11_tellNumber 25 = .ok (.iconst 1, 1) := by decide +kernel
theorem dX11_tellNumber_26 : decode cX11_tellNumber 26 = .ok (.iadd, 1) := by decide +kernel
theorem dX11_tellNumber_27 : decode cX11_tellNumber 27 = .ok (.iastore, 1) := by decide +kernel
theorem dX11_tellNumber_28 : decode cX11_tellNumber 28 = .ok (.return_, 1) := by decide +kernel
theorem dX11_tellSquares_0 : decode cX11_tellSquares 0 = .ok (.iconst 0, 1) := by decide +kernel
theorem dX11_tellSquares_1 : decode cX11_tellSquares 1 = .ok (.istore_n 2, 1) := by decide +kernel
theorem dX11_tellSquares_2 : decode cX11_tellSquares 2 = .ok (.iload_n 2, 1) := by decide +kernel
theorem dX11_tellSquares_3 : decode cX11_tellSquares 3 = .ok (.iconst 5, 1) := by decide +kernel
theorem dX11_tellSquares_4 : decode cX11_tellSquares 4 = .ok (.aload_n 0, 1) := by decide +kernel
theorem dX11_tellSquares_5 : decode cX11_tellSquares 5 = .ok (.getfield 202, 3) := by decide +kernel
theorem dX11_tellSquares_8 : decode cX11_tellSquares 8 = .ok (.imul, 1) := by decide +kernel
theorem dX11_tellSquares_9 : decode cX11_tellSquares 9 = .ok (.if_icmp .ge 20, 3) := by decide +kernel
theorem dX11_tellSquares_12 : decode cX11_tellSquares 12 = .ok (.aload_n 0, 1) := by decide +kernel
theorem dX11_tellSquares_13 : decode cX11_tellSquares 13 = .ok (.iload_n 1, 1) := by decide +kernel
theorem dX11_tellSquares_14 : decode cX11_tellSquares 14 = .ok (.aload_n 0, 1) := by decide +kernel
theorem dX11_tellSquares_15 : decode cX11_tellSquares 15 = .ok (.getfield 38, 3) := by decide +kernel
theorem dX11_tellSquares_18 : decode cX11_tellSquares 18 = .ok (.iload_n 2, 1) := by decide +kernel
theorem dX11_tellSquares_19 : decode cX11_tellSquares 19 = .ok (.laload, 1) := by decide +kernel
theorem dX11_tellSquares_20 : decode cX11_tellSquares 20 = .ok (.invokevirtual 208, 3) := by decide +kernel
theorem dX11_tellSquares_23 : decode cX11_tellSquares 23 = .ok (.iinc 2 1, 3) := by decide +kernel
theorem dX11_tellSquares_26 : decode cX11_tellSquares 26 = .ok (.goto (-24), 3) := by decide +kernel
theorem dX11_tellSquares_29 : decode cX11_tellSquares 29 = .ok (.return_, 1) := by decide +kernel
theorem dX11_squares_0 : decode cX11_squares 0 = .ok (.aload_n 0, 1) := by decide +kernel
theorem dX11_squares_1 : decode cX11_squares 1 = .ok (.iload_n 1, 1) := by decide +kernel
theorem dX11_squares_2 : decode cX11_squares 2 = .ok (.invokevirtual 109, 3) := by decide +kernel
theorem dX11_squares_5 : decode cX11_squares 5 = .ok (.ifCond .ne 5, 3) := by decide +kernel
theorem dX11_squares_8 : decode cX11_squares 8 = .ok (.iconst (-1), 1) := by decide +kernel
theorem dX11_squares_9 : decode cX11_squares 9 = .ok (.ireturn, 1) := by decide +kernel
theorem dX11_squares_10 : decode cX11_squares 10 = .ok (.aload_n 0, 1) := by decide +kernel
theorem dX11_squares_11 : decode cX11_squares 11 = .ok (.iload_n 1, 1) := by decide +kernel
theorem dX11_squares_12 : decode cX11_squares 12 = .ok (.invokevirtual 195, 3) := by decide +kernel
theorem dX11_squares_15 : decode cX11_squares 15 = .ok (.ifCond .eq 6, 3) := by decide +kernel
theorem dX11_squares_18 : decode cX11_squares 18 = .ok (.bipush (-3), 2) := by decide +kernel
theorem dX11_squares_20 : decode cX11_squares 20 = .ok (.ireturn, 1) := by decide +kernel
theorem dX11_squares_21 : decode cX11_squares 21 = .ok (.aload_n 0, 1) := by decide +kernel
theorem dX11_squares_22 : decode cX11_squares 22 = .ok (.aload_n 0, 1) := by decide +kernel
theorem dX11_squares_23 : decode cX11_squares 23 = .ok (.iload_n 1, 1) := by decide +kernel
theorem dX11_squares_24 : decode cX11_squares 24 = .ok (.bipush 6, 2) := by decide +kernel
theorem dX11_squares_26 : decode cX11_squares 26 = .ok (.invokevirtual 113, 3) := by decide +kernel
theorem dX11_squares_29 : decode cX11_squares 29 = .ok (.aload_n 0, 1) := by decide +kernel
theorem dX11_squares_30 : decode cX11_squares 30 = .ok (.iload_n 1, 1) := by decide +kernel
theorem dX11_squares_31 : decode cX11_squares 31 = .ok (.iconst 4, 1) := by decide +kernel
theorem dX11_squares_32 : decode cX11_squares 32 = .ok (.invokevirtual 113, 3) := by decide +kernel
theorem dX11_squares_35 : decode cX11_squares 35 = .ok (.aload_n 0, 1) := by decide +kernel
theorem dX11_squares_36 : decode cX11_squares 36 = .ok (.iload_n 1, 1) := by decide +kernel
theorem dX11_squares_37 : decode cX11_squares 37 = .ok (.iconst 3, 1) := by decide +kernel
theorem dX11_squares_38 : decode cX11_squares 38 = .ok (.invokevirtual 113, 3) := by decide +kernel
theorem dX11_squares_41 : decode cX11_squares 41 = .ok (.aload_n 0, 1) := by decide +kernel
theorem dX11_squares_42 : decode cX11_squares 42 = .ok (.iload_n 1, 1) := by decide +kernel
theorem dX11_squares_43 : decode cX11_squares 43 = .ok (.iconst 2, 1) := by decide +kernel
theorem dX11_squares_44 : decode cX11_squares 44 = .ok (.invokevirtual 113, 3) := by decide +kernel
theorem dX11_squares_47 : decode cX11_squares 47 = .ok (.aload_n 0, 1) := by decide +kernel
theorem dX11_squares_48 : decode cX11_squares 48 = .ok (.iload_n 1, 1) := by decide +kernel
theorem dX11_squares_49 : decode cX11_squares 49 = .ok (.iconst 1, 1) := by decide +kernel
theorem dX11_squares_50 : decode cX11_squares 50 = .ok (.invokevirtual 113, 3) := by decide +kernel
theorem dX11_squares_53 : decode cX11_squares 53 = .ok (.aload_n 0, 1) := by decide +kernel
theorem dX11_squares_54 : decode cX11_squares 54 = .ok (.iload_n 1, 1) := by decide +kernel
theorem dX11_squares_55 : decode cX11_squares 55 = .ok (.iconst 0, 1) := by decide +kernel
theorem dX11_squares_56 : decode cX11_squares 56 = .ok (.invokevirtual 113, 3) := by decide +kernel
theorem dX11_squares_59 : decode cX11_squares 59 = .ok (.invokevirtual 198, 3) := by decide +kernel
theorem dX11_squares_62 : decode cX11_squares 62 = .ok (.aload_n 0, 1) := by decide +kernel
theorem dX11_squares_63 : decode cX11_squares 63 = .ok (.invokevirtual 212, 3) := by decide +kernel
theorem dX11_squares_66 : decode cX11_squares 66 = .ok (.ifCond .ne 6, 3) := by decide +kernel
theorem dX11_squares_69 : decode cX11_squares 69 = .ok (.bipush (-9), 2) := by decide +kernel
theorem dX11_squares_71 : decode cX11_squares 71 = .ok (.ireturn, 1) := by decide +kernel
theorem dX11_squares_72 : decode cX11_squares 72 = .ok (.aload_n 0, 1) := by decide +kernel
theorem dX11_squares_73 : decode cX11_squares 73 = .ok (.getfield 205, 3) := by decide +kernel
theorem dX11_squares_76 : decode cX11_squares 76 = .ok (.bipush 40, 2) := by decide +kernel
theorem dX11_squares_78 : decode cX11_squares 78 = .ok (.if_icmp .ne 6, 3) := by decide +kernel
theorem dX11_squares_81 : decode cX11_squares 81 = .ok (.bipush (-4), 2) := by decide +kernel
theorem dX11_squares_83 : decode cX11_squares 83 = .ok (.ireturn, 1) := by decide +kernel
theorem dX11_squares_84 : decode cX11_squares 84 = .ok (.aload_n 0, 1) := by decide +kernel
theorem dX11_squares_85 : decode cX11_squares 85 = .ok (.iconst 0, 1) := by decide +kernel
theorem dX11_squares_86 : decode cX11_squares 86 = .ok (.iload_n 1, 1) := by decide +kernel
theorem dX11_squares_87 : decode cX11_squares 87 = .ok (.bipush (-9), 2) := by decide +kernel
theorem dX11_squares_89 : decode cX11_squares 89 = .ok (.invokevirtual 216, 3) := by decide +kernel
theorem dX11_squares_92 : decode cX11_squares 92 = .ok (.istore_n 2, 1) := by decide +kernel
theorem dX11_squares_93 : decode cX11_squares 93 = .ok (.aload_n 0, 1) := by decide +kernel
theorem dX11_squares_94 : decode cX11_squares 94 = .ok (.iload_n 2, 1) := by decide +kernel
theorem dX11_squares_95 : decode cX11_squares 95 = .ok (.invokevirtual 220, 3) := by decide +kernel
theorem dX11_squares_98 : decode cX11_squares 98 = .ok (.iload_n 2, 1) := by decide +kernel
theorem dX11_squares_99 : decode cX11_squares 99 = .ok (.ireturn, 1) := by decide +kernel
theorem dX11_corners_0 : decode cX11_corners 0 = .ok (.aload_n 0, 1) := by decide +kernel
theorem dX11_corners_1 : decode cX11_corners 1 = .ok (.iload_n 1, 1) := by decide +kernel
theorem dX11_corners_2 : decode cX11_corners 2 = .ok (.invokevirtual 109, 3) := by decide +kernel
theorem dX11_corners_5 : decode cX11_corners 5 = .ok (.ifCond .eq 11, 3) := by decide +kernel
theorem dX11_corners_8 : decode cX11_corners 8 = .ok (.aload_n 0, 1) := by decide +kernel
theorem dX11_corners_9 : decode cX11_corners 9 = .ok (.iload_n 2, 1) := by decide +kernel
theorem dX11_corners_10 : decode cX11_corners 10 = .ok (.invokevirtual 142, 3) := by decide +kernel
theorem dX11_corners_13 : decode cX11_corners 13 = .ok (.ifCond .ne 5, 3) := by decide +kernel
theorem dX11_corners_16 : decode cX11_corners 16 = .ok (.iconst (-1), 1) := by decide +kernel
theorem dX11_corners_17 : decode cX11_corners 17 = .ok (.ireturn, 1) := by decide +kernel
theorem dX11_corners_18 : decode cX11_corners 18 = .ok (.iconst 0, 1) := by decide +kernel
theorem dX11_corners_19 : decode cX11_corners 19 = .ok (.istore_n 3, 1) := by decide +kernel
theorem dX11_corners_20 : decode cX11_corners 20 = .ok (.iload_n 3, 1) := by decide +kernel
theorem dX11_corners_21 : decode cX11_corners 21 = .ok (.bipush 9, 2) := by decide +kernel
theorem dX11_corners_23 : decode cX11_corners 23 = .ok (.if_icmp .ge 24, 3) := by decide +kernel
theorem dX11_corners_26 : decode cX11_corners 26 = .ok (.aload_n 0, 1) := by decide +kernel
theorem dX11_corners_27 : decode cX11_corners 27 = .ok (.iload_n 1, 1) := by decide +kernel
theorem dX11_corners_28 : decode cX11_corners 28 = .ok (.iload_n 2, 1) := by decide +kernel
theorem dX11_corners_29 : decode cX11_corners 29 = .ok (.iload_n 3, 1) := by decide +kernel
theorem dX11_corners_30 : decode cX11_corners 30 = .ok (.invokevirtual 155, 3) := by decide +kernel
theorem dX11_corners_33 : decode cX11_corners 33 = .ok (.lconst 0, 1) := by decide +kernel
theorem dX11_corners_34 : decode cX11_corners 34 = .ok (.lcmp, 1) := by decide +kernel
theorem dX11_corners_35 : decode cX11_corners 35 = .ok (.ifCond .ge 6, 3) := by decide +kernel
theorem dX11_corners_38 : decode cX11_corners 38 = .ok (.bipush (-9), 2) := by decide +kernel
theorem dX11_corners_40 : decode cX11_corners 40 = .ok (.ireturn, 1) := by decide +kernel
theorem dX11_corners_41 : decode cX11_corners 41 = .ok (.iinc 3 1, 3) := by decide +kernel
theorem dX11_corners_44 : decode cX11_corners 44 = .ok (.goto (-24), 3) := by decide +kernel
theorem dX11_corners_47 : decode cX11_corners 47 = .ok (.aload_n 0, 1) := by decide +kernel
theorem dX11_corners_48 : decode cX11_corners 48 = .ok (.getfield 205, 3) := by decide +kernel
theorem dX11_corners_51 : decode cX11_corners 51 = .ok (.bipush 40, 2) := by decide +kernel
theorem dX11_corners_53 : decode cX11_corners 53 = .ok (.if_icmp .ne 6, 3) := by decide +kernel
theorem dX11_corners_56 : decode cX11_corners 56 = .ok (.bipush (-4), 2) := by decide +kernel
theorem dX11_corners_58 : decode cX11_corners 58 = .ok (.ireturn, 1) := by decide +kernel
theorem dX11_corners_59 : decode cX11_corners 59 = .ok (.aload_n 0, 1) := by decide +kernel
theorem dX11_corners_60 : decode cX11_corners 60 = .ok (.iconst 1, 1) := by decide +kernel
theorem dX11_corners_61 : decode cX11_corners 61 = .ok (.iload_n 1, 1) := by decide +kernel
theorem dX11_corners_62 : decode cX11_corners 62 = .ok (.iload_n 2, 1) := by decide +kernel
theorem dX11_corners_63 : decode cX11_corners 63 = .ok (.invokevirtual 216, 3) := by decide +kernel
theorem dX11_corners_66 : decode cX11_corners 66 = .ok (.istore_n 3, 1) := by decide +kernel
theorem dX11_corners_67 : decode cX11_corners 67 = .ok (.iconst 0, 1) := by decide +kernel
theorem dX11_corners_68 : decode cX11_corners 68 = .ok (.istore 4, 2) := by decide +kernel
theorem dX11_corners_70 : decode cX11_corners 70 = .ok (.iload 4, 2) := by decide +kernel
theorem dX11_corners_72 : decode cX11_corners 72 = .ok (.bipush 9, 2) := by decide +kernel
theorem dX11_corners_74 : decode cX11_corners 74 = .ok (.if_icmp .ge 22, 3) := by decide +kernel
theorem dX11_corners_77 : decode cX11_corners 77 = .ok (.aload_n 0, 1) := by decide +kernel
theorem dX11_corners_78 : decode cX11_corners 78 = .ok (.iload_n 3, 1) := by decide +kernel
theorem dX11_corners_79 : decode cX11_corners 79 = .ok (.aload_n 0, 1) := by decide +kernel
theorem dX11_corners_80 : decode cX11_corners 80 = .ok (.iload_n 1, 1) := by decide +kernel
theorem dX11_corners_81 : decode cX11_corners 81 = .ok (.iload_n 2, 1) := by decide +kernel
theorem dX11_corners_82 : decode cX11_corners 82 = .ok (.iload 4, 2) := by decide +kernel
theorem dX11_corners_84 : decode cX11_corners 84 = .ok (.invokevirtual 155, 3) := by decide +kernel
theorem dX11_corners_87 : decode cX11_corners 87 = .ok (.invokevirtual 208, 3) := by decide +kernel
theorem dX11_corners_90 : decode cX11_corners 90 = .ok (.iinc 4 1, 3) := by decide +kernel
theorem dX11_corners_93 : decode cX11_corners 93 = .ok (.goto (-23), 3) := by decide +kernel
theorem dX11_corners_96 : decode cX11_corners 96 = .ok (.iload_n 3, 1) := by decide +kernel
theorem dX11_corners_97 : decode cX11_corners 97 = .ok (.ireturn, 1) := by decide +kernel
theorem dX11_proved_0 : decode cX11_proved 0 = .ok (.aload_n 0, 1) := by decide +kernel
theorem dX11_proved_1 : decode cX11_proved 1 = .ok (.getfield 159, 3) := by decide +kernel
theorem dX11_proved_4 : decode cX11_proved 4 = .ok (.ifCond .eq 15, 3) := by decide +kernel
theorem dX11_proved_7 : decode cX11_proved 7 = .ok (.aload_n 0, 1) := by decide +kernel
theorem dX11_proved_8 : decode cX11_proved 8 = .ok (.iconst 1, 1) := by decide +kernel
theorem dX11_proved_9 : decode cX11_proved 9 = .ok (.invokevirtual 192, 3) := by decide +kernel
theorem dX11_proved_12 : decode cX11_proved 12 = .ok (.aload_n 0, 1) := by decide +kernel
theorem dX11_proved_13 : decode cX11_proved 13 = .ok (.getfield 159, 3) := by decide +kernel
theorem dX11_proved_16 : decode cX11_proved 16 = .ok (.if_icmp .eq 6, 3) := by decide +kernel
theorem dX11_proved_19 : decode cX11_proved 19 = .ok (.bipush (-3), 2) := by decide +kernel
theorem dX11_proved_21 : decode cX11_proved 21 = .ok (.ireturn, 1) := by decide +kernel
theorem dX11_proved_22 : decode cX11_proved 22 = .ok (.aload_n 0, 1) := by decide +kernel
theorem dX11_proved_23 : decode cX11_proved 23 = .ok (.getfield 205, 3) := by decide +kernel
theorem dX11_proved_26 : decode cX11_proved 26 = .ok (.bipush 40, 2) := by decide +kernel
theorem dX11_proved_28 : decode cX11_proved 28 = .ok (.if_icmp .ne 6, 3) := by decide +kernel
theorem dX11_proved_31 : decode cX11_proved 31 = .ok (.bipush (-4), 2) := by decide +kernel
theorem dX11_proved_33 : decode cX11_proved 33 = .ok (.ireturn, 1) := by decide +kernel
theorem dX11_proved_34 : decode cX11_proved 34 = .ok (.aload_n 0, 1) := by decide +kernel
theorem dX11_proved_35 : decode cX11_proved 35 = .ok (.iconst 2, 1) := by decide +kernel
theorem dX11_proved_36 : decode cX11_proved 36 = .ok (.aload_n 0, 1) := by decide +kernel
theorem dX11_proved_37 : decode cX11_proved 37 = .ok (.getfield 162, 3) := by decide +kernel
theorem dX11_proved_40 : decode cX11_proved 40 = .ok (.aload_n 0, 1) := by decide +kernel
theorem dX11_proved_41 : decode cX11_proved 41 = .ok (.getfield 165, 3) := by decide +kernel
theorem dX11_proved_44 : decode cX11_proved 44 = .ok (.invokevirtual 216, 3) := by decide +kernel
theorem dX11_proved_47 : decode cX11_proved 47 = .ok (.istore_n 1, 1) := by decide +kernel
theorem dX11_proved_48 : decode cX11_proved 48 = .ok (.iconst 0, 1) := by decide +kernel
theorem dX11_proved_49 : decode cX11_proved 49 = .ok (.istore_n 2, 1) := by decide +kernel
theorem dX11_proved_50 : decode cX11_proved 50 = .ok (.iload_n 2, 1) := by decide +kernel
theorem dX11_proved_51 : decode cX11_proved 51 = .ok (.iconst 4, 1) := by decide +kernel
theorem dX11_proved_52 : decode cX11_proved 52 = .ok (.aload_n 0, 1) := by decide +kernel
theorem dX11_proved_53 : decode cX11_proved 53 = .ok (.getfield 159, 3) := by decide +kernel
theorem dX11_proved_56 : decode cX11_proved 56 = .ok (.imul, 1) := by decide +kernel
theorem dX11_proved_57 : decode cX11_proved 57 = .ok (.if_icmp .ge 21, 3) := by decide +kernel
theorem dX11_proved_60 : decode cX11_proved 60 = .ok (.aload_n 0, 1) := by decide +kernel
theorem dX11_proved_61 : decode cX11_proved 61 = .ok (.iload_n 1, 1) := by decide +kernel
theorem dX11_proved_62 : decode cX11_proved 62 = .ok (.aload_n 0, 1) := by decide +kernel
theorem dX11_proved_63 : decode cX11_proved 63 = .ok (.getfield 29, 3) := by decide +kernel
theorem dX11_proved_66 : decode cX11_proved 66 = .ok (.iload_n 2, 1) := by decide +kernel
theorem dX11_proved_67 : decode cX11_proved 67 = .ok (.iaload, 1) := by decide +kernel
theorem dX11_proved_68 : decode cX11_proved 68 = .ok (.i2l, 1) := by decide +kernel
theorem dX11_proved_69 : decode cX11_proved 69 = .ok (.invokevirtual 208, 3) := by decide +kernel
theorem dX11_proved_72 : decode cX11_proved 72 = .ok (.iinc 2 1, 3) := by decide +kernel
theorem dX11_proved_75 : decode cX11_proved 75 = .ok (.goto (-25), 3) := by decide +kernel
theorem dX11_proved_78 : decode cX11_proved 78 = .ok (.iload_n 1, 1) := by decide +kernel
theorem dX11_proved_79 : decode cX11_proved 79 = .ok (.ireturn, 1) := by decide +kernel
theorem dX11_mayBe_0 : decode cX11_mayBe 0 = .ok (.lload_n 0, 1) := by decide +kernel
theorem dX11_mayBe_1 : decode cX11_mayBe 1 = .ok (.lload_n 2, 1) := by decide +kernel
theorem dX11_mayBe_2 : decode cX11_mayBe 2 = .ok (.lrem, 1) := by decide +kernel
theorem dX11_mayBe_3 : decode cX11_mayBe 3 = .ok (.lconst 0, 1) := by decide +kernel
theorem dX11_mayBe_4 : decode cX11_mayBe 4 = .ok (.lcmp, 1) := by decide +kernel
theorem dX11_mayBe_5 : decode cX11_mayBe 5 = .ok (.ifCond .ne 22, 3) := by decide +kernel
theorem dX11_mayBe_8 : decode cX11_mayBe 8 = .ok (.lload_n 0, 1) := by decide +kernel
theorem dX11_mayBe_9 : decode cX11_mayBe 9 = .ok (.lload_n 2, 1) := by decide +kernel
theorem dX11_mayBe_10 : decode cX11_mayBe 10 = .ok (.ldiv, 1) := by decide +kernel
theorem dX11_mayBe_11 : decode cX11_mayBe 11 = .ok (.ldc2_w 99, 3) := by decide +kernel
theorem dX11_mayBe_14 : decode cX11_mayBe 14 = .ok (.ldc2_w 101, 3) := by decide +kernel
theorem dX11_mayBe_17 : decode cX11_mayBe 17 = .ok (.invokestatic 82, 3) := by decide +kernel
theorem dX11_mayBe_20 : decode cX11_mayBe 20 = .ok (.ifCond .eq 7, 3) := by decide +kernel
theorem dX11_mayBe_23 : decode cX11_mayBe 23 = .ok (.iconst 1, 1) := by decide +kernel
theorem dX11_mayBe_24 : decode cX11_mayBe 24 = .ok (.goto 4, 3) := by decide +kernel
theorem dX11_mayBe_27 : decode cX11_mayBe 27 = .ok (.iconst 0, 1) := by decide +kernel
theorem dX11_mayBe_28 : decode cX11_mayBe 28 = .ok (.ireturn, 1) := by decide +kernel
theorem dX11_span_0 : decode cX11_span 0 = .ok (.aload_n 0, 1) := by decide +kernel
theorem dX11_span_1 : decode cX11_span 1 = .ok (.iload_n 1, 1) := by decide +kernel
theorem dX11_span_2 : decode cX11_span 2 = .ok (.invokevirtual 109, 3) := by decide +kernel
theorem dX11_span_5 : decode cX11_span 5 = .ok (.ifCond .ne 5, 3) := by decide +kernel
theorem dX11_span_8 : decode cX11_span 8 = .ok (.iconst (-1), 1) := by decide +kernel
theorem dX11_span_9 : decode cX11_span 9 = .ok (.ireturn, 1) := by decide +kernel
theorem dX11_span_10 : decode cX11_span 10 = .ok (.iload_n 2, 1) := by decide +kernel
theorem dX11_span_11 : decode cX11_span 11 = .ok (.i2l, 1) := by decide +kernel
theorem dX11_span_12 : decode cX11_span 12 = .ok (.lconst 1, 1) := by decide +kernel
theorem dX11_span_13 : decode cX11_span 13 = .ok (.ldc2_w 101, 3) := by decide +kernel
theorem dX11_span_16 : decode cX11_span 16 = .ok (.invokestatic 82, 3) := by decide +kernel
theorem dX11_span_19 : decode cX11_span 19 = .ok (.ifCond .eq 25, 3) := by decide +kernel
theorem dX11_span_22 : decode cX11_span 22 = .ok (.iload_n 3, 1) := by decide +kernel
theorem dX11_span_23 : decode cX11_span 23 = .ok (.i2l, 1) := by decide +kernel
theorem dX11_span_24 : decode cX11_span 24 = .ok (.lconst 1, 1) := by decide +kernel
theorem dX11_span_25 : decode cX11_span 25 = .ok (.ldc2_w 101, 3) := by decide +kernel
theorem dX11_span_28 : decode cX11_span 28 = .ok (.invokestatic 82, 3) := by decide +kernel
theorem dX11_span_31 : decode cX11_span 31 = .ok (.ifCond .eq 13, 3) := by decide +kernel
theorem dX11_span_34 : decode cX11_span 34 = .ok (.iload 4, 2) := by decide +kernel
theorem dX11_span_36 : decode cX11_span 36 = .ok (.iload 5, 2) := by decide +kernel
theorem dX11_span_38 : decode cX11_span 38 = .ok (.invokestatic 134, 3) := by decide +kernel
theorem dX11_span_41 : decode cX11_span 41 = .ok (.ifCond .ne 6, 3) := by decide +kernel
theorem dX11_span_44 : decode cX11_span 44 = .ok (.bipush (-2), 2) := by decide +kernel
theorem dX11_span_46 : decode cX11_span 46 = .ok (.ireturn, 1) := by decide +kernel
theorem dX11_span_47 : decode cX11_span 47 = .ok (.aload_n 0, 1) := by decide +kernel
theorem dX11_span_48 : decode cX11_span 48 = .ok (.iload_n 1, 1) := by decide +kernel
theorem dX11_span_49 : decode cX11_span 49 = .ok (.invokevirtual 195, 3) := by decide +kernel
theorem dX11_span_52 : decode cX11_span 52 = .ok (.ifCond .eq 6, 3) := by decide +kernel
theorem dX11_span_55 : decode cX11_span 55 = .ok (.bipush (-3), 2) := by decide +kernel
theorem dX11_span_57 : decode cX11_span 57 = .ok (.ireturn, 1) := by decide +kernel
theorem dX11_span_58 : decode cX11_span 58 = .ok (.aload_n 0, 1) := by decide +kernel
theorem dX11_span_59 : decode cX11_span 59 = .ok (.iload_n 1, 1) := by decide +kernel
theorem dX11_span_60 : decode cX11_span 60 = .ok (.bipush 6, 2) := by decide +kernel
theorem dX11_span_62 : decode cX11_span 62 = .ok (.invokevirtual 113, 3) := by decide +kernel
theorem dX11_span_65 : decode cX11_span 65 = .ok (.iload_n 3, 1) := by decide +kernel
theorem dX11_span_66 : decode cX11_span 66 = .ok (.i2l, 1) := by decide +kernel
theorem dX11_span_67 : decode cX11_span 67 = .ok (.lmul, 1) := by decide +kernel
theorem dX11_span_68 : decode cX11_span 68 = .ok (.iload_n 2, 1) := by decide +kernel
theorem dX11_span_69 : decode cX11_span 69 = .ok (.i2l, 1) := by decide +kernel
theorem dX11_span_70 : decode cX11_span 70 = .ok (.ladd, 1) := by decide +kernel
theorem dX11_span_71 : decode cX11_span 71 = .ok (.lstore 6, 2) := by decide +kernel
theorem dX11_span_73 : decode cX11_span 73 = .ok (.aload_n 0, 1) := by decide +kernel
theorem dX11_span_74 : decode cX11_span 74 = .ok (.iload_n 1, 1) := by decide +kernel
theorem dX11_span_75 : decode cX11_span 75 = .ok (.iconst 3, 1) := by decide +kernel
theorem dX11_span_76 : decode cX11_span 76 = .ok (.invokevirtual 113, 3) := by decide +kernel
theorem dX11_span_79 : decode cX11_span 79 = .ok (.iload_n 3, 1) := by decide +kernel
theorem dX11_span_80 : decode cX11_span 80 = .ok (.i2l, 1) := by decide +kernel
theorem dX11_span_81 : decode cX11_span 81 = .ok (.lmul, 1) := by decide +kernel
theorem dX11_span_82 : decode cX11_span 82 = .ok (.ldc2_w 129, 3) := by decide +kernel
theorem dX11_span_85 : decode cX11_span 85 = .ok (.lmul, 1) := by decide +kernel
theorem dX11_span_86 : decode cX11_span 86 = .ok (.iload_n 2, 1) := by decide +kernel
theorem dX11_span_87 : decode cX11_span 87 = .ok (.i2l, 1) := by decide +kernel
theorem dX11_span_88 : decode cX11_span 88 = .ok (.iload 4, 2) := by decide +kernel
theorem dX11_span_90 : decode cX11_span 90 = .ok (.iload 5, 2) := by decide +kernel
theorem dX11_span_92 : decode cX11_span 92 = .ok (.iadd, 1) := by decide +kernel
theorem dX11_span_93 : decode cX11_span 93 = .ok (.i2l, 1) := by decide +kernel
theorem dX11_span_94 : decode cX11_span 94 = .ok (.lmul, 1) := by decide +kernel
theorem dX11_span_95 : decode cX11_span 95 = .ok (.lsub, 1) := by decide +kernel
theorem dX11_span_96 : decode cX11_span 96 = .ok (.lstore 8, 2) := by decide +kernel
theorem dX11_span_98 : decode cX11_span 98 = .ok (.aload_n 0, 1) := by decide +kernel
theorem dX11_span_99 : decode cX11_span 99 = .ok (.iload_n 1, 1) := by decide +kernel
theorem dX11_span_100 : decode cX11_span 100 = .ok (.iconst 0, 1) := by decide +kernel
theorem dX11_span_101 : decode cX11_span 101 = .ok (.invokevirtual 113, 3) := by decide +kernel
theorem dX11_span_104 : decode cX11_span 104 = .ok (.iload_n 3, 1) := by decide +kernel
theorem dX11_span_105 : decode cX11_span 105 = .ok (.i2l, 1) := by decide +kernel
theorem dX11_span_106 : decode cX11_span 106 = .ok (.lmul, 1) := by decide +kernel
theorem dX11_span_107 : decode cX11_span 107 = .ok (.ldc2_w 127, 3) := by decide +kernel
theorem dX11_span_110 : decode cX11_span 110 = .ok (.lmul, 1) := by decide +kernel
theorem dX11_span_111 : decode cX11_span 111 = .ok (.iload_n 2, 1) := by decide +kernel
theorem dX11_span_112 : decode cX11_span 112 = .ok (.i2l, 1) := by decide +kernel
theorem dX11_span_113 : decode cX11_span 113 = .ok (.iload 4, 2) := by decide +kernel
theorem dX11_span_115 : decode cX11_span 115 = .ok (.i2l, 1) := by decide +kernel
theorem dX11_span_116 : decode cX11_span 116 = .ok (.lmul, 1) := by decide +kernel
theorem dX11_span_117 : decode cX11_span 117 = .ok (.iload 5, 2) := by decide +kernel
theorem dX11_span_119 : decode cX11_span 119 = .ok (.i2l, 1) := by decide +kernel
theorem dX11_span_120 : decode cX11_span 120 = .ok (.lmul, 1) := by decide +kernel
theorem dX11_span_121 : decode cX11_span 121 = .ok (.ladd, 1) := by decide +kernel
theorem dX11_span_122 : decode cX11_span 122 = .ok (.lstore 10, 2) := by decide +kernel
theorem dX11_span_124 : decode cX11_span 124 = .ok (.lload 6, 2) := by decide +kernel
theorem dX11_span_126 : decode cX11_span 126 = .ok (.iload_n 3, 1) := by decide +kernel
theorem dX11_span_127 : decode cX11_span 127 = .ok (.i2l, 1) := by decide +kernel
theorem dX11_span_128 : decode cX11_span 128 = .ok (.invokestatic 223, 3) := by decide +kernel
theorem dX11_span_131 : decode cX11_span 131 = .ok (.ifCond .eq 31, 3) := by decide +kernel
theorem dX11_span_134 : decode cX11_span 134 = .ok (.lload 8, 2) := by decide +kernel
theorem dX11_span_136 : decode cX11_span 136 = .ok (.ldc2_w 129, 3) := by decide +kernel
theorem dX11_span_139 : decode cX11_span 139 = .ok (.iload_n 3, 1) := by decide +kernel
theorem dX11_span_140 : decode cX11_span 140 = .ok (.i2l, 1) := by decide +kernel
theorem dX11_span_141 : decode cX11_span 141 = .ok (.lmul, 1) := by decide +kernel
theorem dX11_span_142 : decode cX11_span 142 = .ok (.invokestatic 223, 3) := by decide +kernel
theorem dX11_span_145 : decode cX11_span 145 = .ok (.ifCond .eq 17, 3) := by decide +kernel
theorem dX11_span_148 : decode cX11_span 148 = .ok (.lload 10, 2) := by decide +kernel
theorem dX11_span_150 : decode cX11_span 150 = .ok (.ldc2_w 127, 3) := by decide +kernel
theorem dX11_span_153 : decode cX11_span 153 = .ok (.iload_n 3, 1) := by decide +kernel
theorem dX11_span_154 : decode cX11_span 154 = .ok (.i2l, 1) := by decide +kernel
theorem dX11_span_155 : decode cX11_span 155 = .ok (.lmul, 1) := by decide +kernel
theorem dX11_span_156 : decode cX11_span 156 = .ok (.invokestatic 223, 3) := by decide +kernel
theorem dX11_span_159 : decode cX11_span 159 = .ok (.ifCond .ne 6, 3) := by decide +kernel
theorem dX11_span_162 : decode cX11_span 162 = .ok (.bipush (-3), 2) := by decide +kernel
theorem dX11_span_164 : decode cX11_span 164 = .ok (.ireturn, 1) := by decide +kernel
theorem dX11_span_165 : decode cX11_span 165 = .ok (.aload_n 0, 1) := by decide +kernel
theorem dX11_span_166 : decode cX11_span 166 = .ok (.lload 6, 2) := by decide +kernel
theorem dX11_span_168 : decode cX11_span 168 = .ok (.iload_n 3, 1) := by decide +kernel
theorem dX11_span_169 : decode cX11_span 169 = .ok (.i2l, 1) := by decide +kernel
theorem dX11_span_170 : decode cX11_span 170 = .ok (.ldiv, 1) := by decide +kernel
theorem dX11_span_171 : decode cX11_span 171 = .ok (.aload_n 0, 1) := by decide +kernel
theorem dX11_span_172 : decode cX11_span 172 = .ok (.iload_n 1, 1) := by decide +kernel
theorem dX11_span_173 : decode cX11_span 173 = .ok (.iconst 4, 1) := by decide +kernel
theorem dX11_span_174 : decode cX11_span 174 = .ok (.invokevirtual 113, 3) := by decide +kernel
theorem dX11_span_177 : decode cX11_span 177 = .ok (.lload 8, 2) := by decide +kernel
theorem dX11_span_179 : decode cX11_span 179 = .ok (.ldc2_w 129, 3) := by decide +kernel
theorem dX11_span_182 : decode cX11_span 182 = .ok (.iload_n 3, 1) := by decide +kernel
theorem dX11_span_183 : decode cX11_span 183 = .ok (.i2l, 1) := by decide +kernel
theorem dX11_span_184 : decode cX11_span 184 = .ok (.lmul, 1) := by decide +kernel
theorem dX11_span_185 : decode cX11_span 185 = .ok (.ldiv, 1) := by decide +kernel
theorem dX11_span_186 : decode cX11_span 186 = .ok (.aload_n 0, 1) := by decide +kernel
theorem dX11_span_187 : decode cX11_span 187 = .ok (.iload_n 1, 1) := by decide +kernel
theorem dX11_span_188 : decode cX11_span 188 = .ok (.iconst 2, 1) := by decide +kernel
theorem dX11_span_189 : decode cX11_span 189 = .ok (.invokevirtual 113, 3) := by decide +kernel
theorem dX11_span_192 : decode cX11_span 192 = .ok (.aload_n 0, 1) := by decide +kernel
theorem dX11_span_193 : decode cX11_span 193 = .ok (.iload_n 1, 1) := by decide +kernel
theorem dX11_span_194 : decode cX11_span 194 = .ok (.iconst 1, 1) := by decide +kernel
theorem dX11_span_195 : decode cX11_span 195 = .ok (.invokevirtual 113, 3) := by decide +kernel
theorem dX11_span_198 : decode cX11_span 198 = .ok (.lload 10, 2) := by decide +kernel
theorem dX11_span_200 : decode cX11_span 200 = .ok (.ldc2_w 127, 3) := by decide +kernel
theorem dX11_span_203 : decode cX11_span 203 = .ok (.iload_n 3, 1) := by decide +kernel
theorem dX11_span_204 : decode cX11_span 204 = .ok (.i2l, 1) := by decide +kernel
theorem dX11_span_205 : decode cX11_span 205 = .ok (.lmul, 1) := by decide +kernel
theorem dX11_span_206 : decode cX11_span 206 = .ok (.ldiv, 1) := by decide +kernel
theorem dX11_span_207 : decode cX11_span 207 = .ok (.invokevirtual 198, 3) := by decide +kernel
theorem dX11_span_210 : decode cX11_span 210 = .ok (.aload_n 0, 1) := by decide +kernel
theorem dX11_span_211 : decode cX11_span 211 = .ok (.invokevirtual 212, 3) := by decide +kernel
theorem dX11_span_214 : decode cX11_span 214 = .ok (.ifCond .ne 6, 3) := by decide +kernel
theorem dX11_span_217 : decode cX11_span 217 = .ok (.bipush (-9), 2) := by decide +kernel
theorem dX11_span_219 : decode cX11_span 219 = .ok (.ireturn, 1) := by decide +kernel
theorem dX11_span_220 : decode cX11_span 220 = .ok (.aload_n 0, 1) := by decide +kernel
theorem dX11_span_221 : decode cX11_span 221 = .ok (.getfield 205, 3) := by decide +kernel
theorem dX11_span_224 : decode cX11_span 224 = .ok (.bipush 40, 2) := by decide +kernel
theorem dX11_span_226 : decode cX11_span 226 = .ok (.if_icmp .ne 6, 3) := by decide +kernel
theorem dX11_span_229 : decode cX11_span 229 = .ok (.bipush (-4), 2) := by decide +kernel
theorem dX11_span_231 : decode cX11_span 231 = .ok (.ireturn, 1) := by decide +kernel
theorem dX11_span_232 : decode cX11_span 232 = .ok (.aload_n 0, 1) := by decide +kernel
theorem dX11_span_233 : decode cX11_span 233 = .ok (.iconst 3, 1) := by decide +kernel
theorem dX11_span_234 : decode cX11_span 234 = .ok (.iload_n 1, 1) := by decide +kernel
theorem dX11_span_235 : decode cX11_span 235 = .ok (.bipush (-9), 2) := by decide +kernel
theorem dX11_span_237 : decode cX11_span 237 = .ok (.invokevirtual 216, 3) := by decide +kernel
theorem dX11_span_240 : decode cX11_span 240 = .ok (.istore 12, 2) := by decide +kernel
theorem dX11_span_242 : decode cX11_span 242 = .ok (.aload_n 0, 1) := by decide +kernel
theorem dX11_span_243 : decode cX11_span 243 = .ok (.iload 12, 2) := by decide +kernel
theorem dX11_span_245 : decode cX11_span 245 = .ok (.invokevirtual 220, 3) := by decide +kernel
theorem dX11_span_248 : decode cX11_span 248 = .ok (.aload_n 0, 1) := by decide +kernel
theorem dX11_span_249 : decode cX11_span 249 = .ok (.iload 12, 2) := by decide +kernel
theorem dX11_span_251 : decode cX11_span 251 = .ok (.iload_n 2, 1) := by decide +kernel
theorem dX11_span_252 : decode cX11_span 252 = .ok (.i2l, 1) := by decide +kernel
theorem dX11_span_253 : decode cX11_span 253 = .ok (.invokevirtual 208, 3) := by decide +kernel
theorem dX11_span_256 : decode cX11_span 256 = .ok (.aload_n 0, 1) := by decide +kernel
theorem dX11_span_257 : decode cX11_span 257 = .ok (.iload 12, 2) := by decide +kernel
theorem dX11_span_259 : decode cX11_span 259 = .ok (.iload_n 3, 1) := by decide +kernel
theorem dX11_span_260 : decode cX11_span 260 = .ok (.i2l, 1) := by decide +kernel
theorem dX11_span_261 : decode cX11_span 261 = .ok (.invokevirtual 208, 3) := by decide +kernel
theorem dX11_span_264 : decode cX11_span 264 = .ok (.aload_n 0, 1) := by decide +kernel
theorem dX11_span_265 : decode cX11_span 265 = .ok (.iload 12, 2) := by decide +kernel
theorem dX11_span_267 : decode cX11_span 267 = .ok (.iload 4, 2) := by decide +kernel
theorem dX11_span_269 : decode cX11_span 269 = .ok (.i2l, 1) := by decide +kernel
theorem dX11_span_270 : decode cX11_span 270 = .ok (.invokevirtual 208, 3) := by decide +kernel
theorem dX11_span_273 : decode cX11_span 273 = .ok (.aload_n 0, 1) := by decide +kernel
theorem dX11_span_274 : decode cX11_span 274 = .ok (.iload 12, 2) := by decide +kernel
theorem dX11_span_276 : decode cX11_span 276 = .ok (.iload 5, 2) := by decide +kernel
theorem dX11_span_278 : decode cX11_span 278 = .ok (.i2l, 1) := by decide +kernel
theorem dX11_span_279 : decode cX11_span 279 = .ok (.invokevirtual 208, 3) := by decide +kernel
theorem dX11_span_282 : decode cX11_span 282 = .ok (.iload 12, 2) := by decide +kernel
theorem dX11_span_284 : decode cX11_span 284 = .ok (.ireturn, 1) := by decide +kernel
theorem dX11_squaresIn_0 : decode cX11_squaresIn 0 = .ok (.aload_n 0, 1) := by decide +kernel
theorem dX11_squaresIn_1 : decode cX11_squaresIn 1 = .ok (.getfield 50, 3) := by decide +kernel
theorem dX11_squaresIn_4 : decode cX11_squaresIn 4 = .ok (.iload_n 1, 1) := by decide +kernel
theorem dX11_squaresIn_5 : decode cX11_squaresIn 5 = .ok (.iaload, 1) := by decide +kernel
theorem dX11_squaresIn_6 : decode cX11_squaresIn 6 = .ok (.aload_n 0, 1) := by decide +kernel
theorem dX11_squaresIn_7 : decode cX11_squaresIn 7 = .ok (.getfield 41, 3) := by decide +kernel
theorem dX11_squaresIn_10 : decode cX11_squaresIn 10 = .ok (.iload_n 1, 1) := by decide +kernel
theorem dX11_squaresIn_11 : decode cX11_squaresIn 11 = .ok (.iaload, 1) := by decide +kernel
theorem dX11_squaresIn_12 : decode cX11_squaresIn 12 = .ok (.iconst 3, 1) := by decide +kernel
theorem dX11_squaresIn_13 : decode cX11_squaresIn 13 = .ok (.if_icmp .ne 7, 3) := by decide +kernel
theorem dX11_squaresIn_16 : decode cX11_squaresIn 16 = .ok (.iconst 4, 1) := by decide +kernel
theorem dX11_squaresIn_17 : decode cX11_squaresIn 17 = .ok (.goto 4, 3) := by decide +kernel
theorem dX11_squaresIn_20 : decode cX11_squaresIn 20 = .ok (.iconst 0, 1) := by decide +kernel
theorem dX11_squaresIn_21 : decode cX11_squaresIn 21 = .ok (.isub, 1) := by decide +kernel
theorem dX11_squaresIn_22 : decode cX11_squaresIn 22 = .ok (.iconst 5, 1) := by decide +kernel
theorem dX11_squaresIn_23 : decode cX11_squaresIn 23 = .ok (.idiv, 1) := by decide +kernel
theorem dX11_squaresIn_24 : decode cX11_squaresIn 24 = .ok (.ireturn, 1) := by decide +kernel
theorem dX11_proof_0 : decode cX11_proof 0 = .ok (.aload_n 0, 1) := by decide +kernel
theorem dX11_proof_1 : decode cX11_proof 1 = .ok (.iload_n 1, 1) := by decide +kernel
theorem dX11_proof_2 : decode cX11_proof 2 = .ok (.invokevirtual 227, 3) := by decide +kernel
theorem dX11_proof_5 : decode cX11_proof 5 = .ok (.ifCond .ne 5, 3) := by decide +kernel
theorem dX11_proof_8 : decode cX11_proof 8 = .ok (.iconst (-1), 1) := by decide +kernel
theorem dX11_proof_9 : decode cX11_proof 9 = .ok (.ireturn, 1) := by decide +kernel
theorem dX11_proof_10 : decode cX11_proof 10 = .ok (.iload_n 2, 1) := by decide +kernel
theorem dX11_proof_11 : decode cX11_proof 11 = .ok (.tableswitch 102 0 4 #[33, 40, 47, 54, 95], 33) := by decide +kernel
theorem dX11_proof_44 : decode cX11_proof 44 = .ok (.aload_n 0, 1) := by decide +kernel
theorem dX11_proof_45 : decode cX11_proof 45 = .ok (.getfield 41, 3) := by decide +kernel
theorem dX11_proof_48 : decode cX11_proof 48 = .ok (.iload_n 1, 1) := by decide +kernel
theorem dX11_proof_49 : decode cX11_proof 49 = .ok (.iaload, 1) := by decide +kernel
theorem dX11_proof_50 : decode cX11_proof 50 = .ok (.ireturn, 1) := by decide +kernel
theorem dX11_proof_51 : decode cX11_proof 51 = .ok (.aload_n 0, 1) := by decide +kernel
theorem dX11_proof_52 : decode cX11_proof 52 = .ok (.getfield 44, 3) := by decide +kernel
theorem dX11_proof_55 : decode cX11_proof 55 = .ok (.iload_n 1, 1) := by decide +kernel
theorem dX11_proof_56 : decode cX11_proof 56 = .ok (.iaload, 1) := by decide +kernel
theorem dX11_proof_57 : decode cX11_proof 57 = .ok (.ireturn, 1) := by decide +kernel
theorem dX11_proof_58 : decode cX11_proof 58 = .ok (.aload_n 0, 1) := by decide +kernel
theorem dX11_proof_59 : decode cX11_proof 59 = .ok (.getfield 50, 3) := by decide +kernel
theorem dX11_proof_62 : decode cX11_proof 62 = .ok (.iload_n 1, 1) := by decide +kernel
theorem dX11_proof_63 : decode cX11_proof 63 = .ok (.iaload, 1) := by decide +kernel
theorem dX11_proof_64 : decode cX11_proof 64 = .ok (.ireturn, 1) := by decide +kernel
theorem dX11_proof_65 : decode cX11_proof 65 = .ok (.aload_n 0, 1) := by decide +kernel
theorem dX11_proof_66 : decode cX11_proof 66 = .ok (.getfield 41, 3) := by decide +kernel
theorem dX11_proof_69 : decode cX11_proof 69 = .ok (.iload_n 1, 1) := by decide +kernel
theorem dX11_proof_70 : decode cX11_proof 70 = .ok (.iaload, 1) := by decide +kernel
theorem dX11_proof_71 : decode cX11_proof 71 = .ok (.iconst 1, 1) := by decide +kernel
theorem dX11_proof_72 : decode cX11_proof 72 = .ok (.if_icmp .ne 7, 3) := by decide +kernel
theorem dX11_proof_75 : decode cX11_proof 75 = .ok (.iconst 0, 1) := by decide +kernel
theorem dX11_proof_76 : decode cX11_proof 76 = .ok (.goto 29, 3) := by decide +kernel
theorem dX11_proof_79 : decode cX11_proof 79 = .ok (.aload_n 0, 1) := by decide +kernel
theorem dX11_proof_80 : decode cX11_proof 80 = .ok (.getfield 41, 3) := by decide +kernel
theorem dX11_proof_83 : decode cX11_proof 83 = .ok (.iload_n 1, 1) := by decide +kernel
theorem dX11_proof_84 : decode cX11_proof 84 = .ok (.iaload, 1) := by decide +kernel
theorem dX11_proof_85 : decode cX11_proof 85 = .ok (.iconst 2, 1) := by decide +kernel
theorem dX11_proof_86 : decode cX11_proof 86 = .ok (.if_icmp .ne 14, 3) := by decide +kernel
theorem dX11_proof_89 : decode cX11_proof 89 = .ok (.aload_n 0, 1) := by decide +kernel
theorem dX11_proof_90 : decode cX11_proof 90 = .ok (.getfield 50, 3) := by decide +kernel
theorem dX11_proof_93 : decode cX11_proof 93 = .ok (.iload_n 1, 1) := by decide +kernel
theorem dX11_proof_94 : decode cX11_proof 94 = .ok (.iaload, 1) := by decide +kernel
theorem dX11_proof_95 : decode cX11_proof 95 = .ok (.iconst 4, 1) := by decide +kernel
theorem dX11_proof_96 : decode cX11_proof 96 = .ok (.idiv, 1) := by decide +kernel
theorem dX11_proof_97 : decode cX11_proof 97 = .ok (.goto 8, 3) := by decide +kernel
theorem dX11_proof_100 : decode cX11_proof 100 = .ok (.aload_n 0, 1) := by decide +kernel
theorem dX11_proof_101 : decode cX11_proof 101 = .ok (.iload_n 1, 1) := by decide +kernel
theorem dX11_proof_102 : decode cX11_proof 102 = .ok (.invokevirtual 230, 3) := by decide +kernel
theorem dX11_proof_105 : decode cX11_proof 105 = .ok (.ireturn, 1) := by decide +kernel
theorem dX11_proof_106 : decode cX11_proof 106 = .ok (.aload_n 0, 1) := by decide +kernel
theorem dX11_proof_107 : decode cX11_proof 107 = .ok (.getfield 47, 3) := by decide +kernel
theorem dX11_proof_110 : decode cX11_proof 110 = .ok (.iload_n 1, 1) := by decide +kernel
theorem dX11_proof_111 : decode cX11_proof 111 = .ok (.iaload, 1) := by decide +kernel
theorem dX11_proof_112 : decode cX11_proof 112 = .ok (.ireturn, 1) := by decide +kernel
theorem dX11_proof_113 : decode cX11_proof 113 = .ok (.bipush (-2), 2) := by decide +kernel
theorem dX11_proof_115 : decode cX11_proof 115 = .ok (.ireturn, 1) := by decide +kernel
theorem dX11_number_0 : decode cX11_number 0 = .ok (.aload_n 0, 1) := by decide +kernel
theorem dX11_number_1 : decode cX11_number 1 = .ok (.iload_n 1, 1) := by decide +kernel
theorem dX11_number_2 : decode cX11_number 2 = .ok (.invokevirtual 227, 3) := by decide +kernel
theorem dX11_number_5 : decode cX11_number 5 = .ok (.ifCond .eq 36, 3) := by decide +kernel
theorem dX11_number_8 : decode cX11_number 8 = .ok (.iload_n 2, 1) := by decide +kernel
theorem dX11_number_9 : decode cX11_number 9 = .ok (.i2l, 1) := by decide +kernel
theorem dX11_number_10 : decode cX11_number 10 = .ok (.lconst 0, 1) := by decide +kernel
theorem dX11_number_11 : decode cX11_number 11 = .ok (.aload_n 0, 1) := by decide +kernel
theorem dX11_number_12 : decode cX11_number 12 = .ok (.getfield 50, 3) := by decide +kernel
theorem dX11_number_15 : decode cX11_number 15 = .ok (.iload_n 1, 1) := by decide +kernel
theorem dX11_number_16 : decode cX11_number 16 = .ok (.iaload, 1) := by decide +kernel
theorem dX11_number_17 : decode cX11_number 17 = .ok (.i2l, 1) := by decide +kernel
theorem dX11_number_18 : decode cX11_number 18 = .ok (.lconst 1, 1) := by decide +kernel
theorem dX11_number_19 : decode cX11_number 19 = .ok (.lsub, 1) := by decide +kernel
theorem dX11_number_20 : decode cX11_number 20 = .ok (.invokestatic 82, 3) := by decide +kernel
theorem dX11_number_23 : decode cX11_number 23 = .ok (.ifCond .eq 18, 3) := by decide +kernel
theorem dX11_number_26 : decode cX11_number 26 = .ok (.aload_n 0, 1) := by decide +kernel
theorem dX11_number_27 : decode cX11_number 27 = .ok (.getfield 53, 3) := by decide +kernel
theorem dX11_number_30 : decode cX11_number 30 = .ok (.sipush 160, 3) := by decide +kernel
theorem dX11_number_33 : decode cX11_number 33 = .ok (.iload_n 1, 1) := by decide +kernel
theorem dX11_number_34 : decode cX11_number 34 = .ok (.imul, 1) := by decide +kernel
theorem dX11_number_35 : decode cX11_number 35 = .ok (.iload_n 2, 1) := by decide +kernel
theorem dX11_number_36 : decode cX11_number 36 = .ok (.iadd, 1) := by decide +kernel
theorem dX11_number_37 : decode cX11_number 37 = .ok (.laload, 1) := by decide +kernel
theorem dX11_number_38 : decode cX11_number 38 = .ok (.goto 6, 3) := by decide +kernel
theorem dX11_number_41 : decode cX11_number 41 = .ok (.ldc2_w 78, 3) := by decide +kernel
theorem dX11_number_44 : decode cX11_number 44 = .ok (.lreturn, 1) := by decide +kernel
theorem dX11_forge_0 : decode cX11_forge 0 = .ok (.aload_n 0, 1) := by decide +kernel
theorem dX11_forge_1 : decode cX11_forge 1 = .ok (.iload_n 1, 1) := by decide +kernel
theorem dX11_forge_2 : decode cX11_forge 2 = .ok (.invokevirtual 227, 3) := by decide +kernel
theorem dX11_forge_5 : decode cX11_forge 5 = .ok (.ifCond .eq 21, 3) := by decide +kernel
theorem dX11_forge_8 : decode cX11_forge 8 = .ok (.iload_n 2, 1) := by decide +kernel
theorem dX11_forge_9 : decode cX11_forge 9 = .ok (.i2l, 1) := by decide +kernel
theorem dX11_forge_10 : decode cX11_forge 10 = .ok (.lconst 0, 1) := by decide +kernel
theorem dX11_forge_11 : decode cX11_forge 11 = .ok (.aload_n 0, 1) := by decide +kernel
theorem dX11_forge_12 : decode cX11_forge 12 = .ok (.getfield 50, 3) := by decide +kernel
theorem dX11_forge_15 : decode cX11_forge 15 = .ok (.iload_n 1, 1) := by decide +kernel
theorem dX11_forge_16 : decode cX11_forge 16 = .ok (.iaload, 1) := by decide +kernel
theorem dX11_forge_17 : decode cX11_forge 17 = .ok (.i2l, 1) := by decide +kernel
theorem dX11_forge_18 : decode cX11_forge 18 = .ok (.lconst 1, 1) := by decide +kernel
theorem dX11_forge_19 : decode cX11_forge 19 = .ok (.lsub, 1) := by decide +kernel
theorem dX11_forge_20 : decode cX11_forge 20 = .ok (.invokestatic 82, 3) := by decide +kernel
theorem dX11_forge_23 : decode cX11_forge 23 = .ok (.ifCond .ne 5, 3) := by decide +kernel
theorem dX11_forge_26 : decode cX11_forge 26 = .ok (.iconst (-1), 1) := by decide +kernel
theorem dX11_forge_27 : decode cX11_forge 27 = .ok (.ireturn, 1) := by decide +kernel
theorem dX11_forge_28 : decode cX11_forge 28 = .ok (.aload_n 0, 1) := by decide +kernel
theorem dX11_forge_29 : decode cX11_forge 29 = .ok (.getfield 41, 3) := by decide +kernel
theorem dX11_forge_32 : decode cX11_forge 32 = .ok (.iload_n 1, 1) := by decide +kernel
theorem dX11_forge_33 : decode cX11_forge 33 = .ok (.iaload, 1) := by decide +kernel
theorem dX11_forge_34 : decode cX11_forge 34 = .ok (.iconst 1, 1) := by decide +kernel
theorem dX11_forge_35 : decode cX11_forge 35 = .ok (.if_icmp .eq 19, 3) := by decide +kernel
theorem dX11_forge_38 : decode cX11_forge 38 = .ok (.lload_n 3, 1) := by decide +kernel
theorem dX11_forge_39 : decode cX11_forge 39 = .ok (.ldc2_w 233, 3) := by decide +kernel
theorem dX11_forge_42 : decode cX11_forge 42 = .ok (.ldc2_w 235, 3) := by decide +kernel
theorem dX11_forge_45 : decode cX11_forge 45 = .ok (.invokestatic 82, 3) := by decide +kernel
theorem dX11_forge_48 : decode cX11_forge 48 = .ok (.ifCond .ne 6, 3) := by decide +kernel
theorem dX11_forge_51 : decode cX11_forge 51 = .ok (.bipush (-2), 2) := by decide +kernel
theorem dX11_forge_53 : decode cX11_forge 53 = .ok (.ireturn, 1) := by decide +kernel
theorem dX11_forge_54 : decode cX11_forge 54 = .ok (.aload_n 0, 1) := by decide +kernel
theorem dX11_forge_55 : decode cX11_forge 55 = .ok (.getfield 53, 3) := by decide +kernel
theorem dX11_forge_58 : decode cX11_forge 58 = .ok (.sipush 160, 3) := by decide +kernel
theorem dX11_forge_61 : decode cX11_forge 61 = .ok (.iload_n 1, 1) := by decide +kernel
theorem dX11_forge_62 : decode cX11_forge 62 = .ok (.imul, 1) := by decide +kernel
theorem dX11_forge_63 : decode cX11_forge 63 = .ok (.iload_n 2, 1) := by decide +kernel
theorem dX11_forge_64 : decode cX11_forge 64 = .ok (.iadd, 1) := by decide +kernel
theorem dX11_forge_65 : decode cX11_forge 65 = .ok (.lload_n 3, 1) := by decide +kernel
theorem dX11_forge_66 : decode cX11_forge 66 = .ok (.lastore, 1) := by decide +kernel
theorem dX11_forge_67 : decode cX11_forge 67 = .ok (.iconst 1, 1) := by decide +kernel
theorem dX11_forge_68 : decode cX11_forge 68 = .ok (.ireturn, 1) := by decide +kernel
theorem dX11_beginProduct_0 : decode cX11_beginProduct 0 = .ok (.iconst 0, 1) := by decide +kernel
theorem dX11_beginProduct_1 : decode cX11_beginProduct 1 = .ok (.istore_n 3, 1) := by decide +kernel
theorem dX11_beginProduct_2 : decode cX11_beginProduct 2 = .ok (.iload_n 3, 1) := by decide +kernel
theorem dX11_beginProduct_3 : decode cX11_beginProduct 3 = .ok (.bipush 24, 2) := by decide +kernel
theorem dX11_beginProduct_5 : decode cX11_beginProduct 5 = .ok (.if_icmp .ge 43, 3) := by decide +kernel
theorem dX11_beginProduct_8 : decode cX11_beginProduct 8 = .ok (.aload_n 0, 1) := by decide +kernel
theorem dX11_beginProduct_9 : decode cX11_beginProduct 9 = .ok (.getfield 56, 3) := by decide +kernel
theorem dX11_beginProduct_12 : decode cX11_beginProduct 12 = .ok (.iload_n 3, 1) := by decide +kernel
theorem dX11_beginProduct_13 : decode cX11_beginProduct 13 = .ok (.iload_n 3, 1) := by decide +kernel
theorem dX11_beginProduct_14 : decode cX11_beginProduct 14 = .ok (.ifCond .ne 7, 3) := by decide +kernel
theorem dX11_beginProduct_17 : decode cX11_beginProduct 17 = .ok (.lload_n 1, 1) := by decide +kernel
theorem dX11_beginProduct_18 : decode cX11_beginProduct 18 = .ok (.goto 19, 3) := by decide +kernel
theorem dX11_beginProduct_21 : decode cX11_beginProduct 21 = .ok (.iload_n 3, 1) := by decide +kernel
theorem dX11_beginProduct_22 : decode cX11_beginProduct 22 = .ok (.iconst 1, 1) := by decide +kernel
theorem dX11_beginProduct_23 : decode cX11_beginProduct 23 = .ok (.if_icmp .ne 10, 3) := by decide +kernel
theorem dX11_beginProduct_26 : decode cX11_beginProduct 26 = .ok (.lload_n 1, 1) := by decide +kernel
theorem dX11_beginProduct_27 : decode cX11_beginProduct 27 = .ok (.bipush 32, 2) := by decide +kernel
theorem dX11_beginProduct_29 : decode cX11_beginProduct 29 = .ok (.lshr, 1) := by decide +kernel
theorem dX11_beginProduct_30 : decode cX11_beginProduct 30 = .ok (.goto 7, 3) := by decide +kernel
theorem dX11_beginProduct_33 : decode cX11_beginProduct 33 = .ok (.lload_n 1, 1) := by decide +kernel
theorem dX11_beginProduct_34 : decode cX11_beginProduct 34 = .ok (.bipush 63, 2) := by decide +kernel
theorem dX11_beginProduct_36 : decode cX11_beginProduct 36 = .ok (.lshr, 1) := by decide +kernel
theorem dX11_beginProduct_37 : decode cX11_beginProduct 37 = .ok (.ldc2_w 237, 3) := by decide +kernel
theorem dX11_beginProduct_40 : decode cX11_beginProduct 40 = .ok (.land, 1) := by decide +kernel
theorem dX11_beginProduct_41 : decode cX11_beginProduct 41 = .ok (.lastore, 1) := by decide +kernel
theorem dX11_beginProduct_42 : decode cX11_beginProduct 42 = .ok (.iinc 3 1, 3) := by decide +kernel
theorem dX11_beginProduct_45 : decode cX11_beginProduct 45 = .ok (.goto (-43), 3) := by decide +kernel
theorem dX11_beginProduct_48 : decode cX11_beginProduct 48 = .ok (.return_, 1) := by decide +kernel
theorem dX11_multiply_0 : decode cX11_multiply 0 = .ok (.iconst 0, 1) := by decide +kernel
theorem dX11_multiply_1 : decode cX11_multiply 1 = .ok (.istore_n 3, 1) := by decide +kernel
theorem dX11_multiply_2 : decode cX11_multiply 2 = .ok (.iload_n 3, 1) := by decide +kernel
theorem dX11_multiply_3 : decode cX11_multiply 3 = .ok (.bipush 24, 2) := by decide +kernel
theorem dX11_multiply_5 : decode cX11_multiply 5 = .ok (.if_icmp .ge 50, 3) := by decide +kernel
theorem dX11_multiply_8 : decode cX11_multiply 8 = .ok (.aload_n 0, 1) := by decide +kernel
theorem dX11_multiply_9 : decode cX11_multiply 9 = .ok (.getfield 59, 3) := by decide +kernel
theorem dX11_multiply_12 : decode cX11_multiply 12 = .ok (.iload_n 3, 1) := by decide +kernel
theorem dX11_multiply_13 : decode cX11_multiply 13 = .ok (.iload_n 3, 1) := by decide +kernel
theorem dX11_multiply_14 : decode cX11_multiply 14 = .ok (.ifCond .ne 7, 3) := by decide +kernel
theorem dX11_multiply_17 : decode cX11_multiply 17 = .ok (.lload_n 1, 1) := by decide +kernel
theorem dX11_multiply_18 : decode cX11_multiply 18 = .ok (.goto 19, 3) := by decide +kernel
theorem dX11_multiply_21 : decode cX11_multiply 21 = .ok (.iload_n 3, 1) := by decide +kernel
theorem dX11_multiply_22 : decode cX11_multiply 22 = .ok (.iconst 1, 1) := by decide +kernel
theorem dX11_multiply_23 : decode cX11_multiply 23 = .ok (.if_icmp .ne 10, 3) := by decide +kernel
theorem dX11_multiply_26 : decode cX11_multiply 26 = .ok (.lload_n 1, 1) := by decide +kernel
theorem dX11_multiply_27 : decode cX11_multiply 27 = .ok (.bipush 32, 2) := by decide +kernel
theorem dX11_multiply_29 : decode cX11_multiply 29 = .ok (.lshr, 1) := by decide +kernel
theorem dX11_multiply_30 : decode cX11_multiply 30 = .ok (.goto 7, 3) := by decide +kernel
theorem dX11_multiply_33 : decode cX11_multiply 33 = .ok (.lload_n 1, 1) := by decide +kernel
theorem dX11_multiply_34 : decode cX11_multiply 34 = .ok (.bipush 63, 2) := by decide +kernel
theorem dX11_multiply_36 : decode cX11_multiply 36 = .ok (.lshr, 1) := by decide +kernel
theorem dX11_multiply_37 : decode cX11_multiply 37 = .ok (.ldc2_w 237, 3) := by decide +kernel
theorem dX11_multiply_40 : decode cX11_multiply 40 = .ok (.land, 1) := by decide +kernel
theorem dX11_multiply_41 : decode cX11_multiply 41 = .ok (.lastore, 1) := by decide +kernel
theorem dX11_multiply_42 : decode cX11_multiply 42 = .ok (.aload_n 0, 1) := by decide +kernel
theorem dX11_multiply_43 : decode cX11_multiply 43 = .ok (.getfield 62, 3) := by decide +kernel
theorem dX11_multiply_46 : decode cX11_multiply 46 = .ok (.iload_n 3, 1) := by decide +kernel
theorem dX11_multiply_47 : decode cX11_multiply 47 = .ok (.lconst 0, 1) := by decide +kernel
theorem dX11_multiply_48 : decode cX11_multiply 48 = .ok (.lastore, 1) := by decide +kernel
theorem dX11_multiply_49 : decode cX11_multiply 49 = .ok (.iinc 3 1, 3) := by decide +kernel
theorem dX11_multiply_52 : decode cX11_multiply 52 = .ok (.goto (-50), 3) := by decide +kernel
theorem dX11_multiply_55 : decode cX11_multiply 55 = .ok (.iconst 0, 1) := by decide +kernel
theorem dX11_multiply_56 : decode cX11_multiply 56 = .ok (.istore_n 3, 1) := by decide +kernel
theorem dX11_multiply_57 : decode cX11_multiply 57 = .ok (.iload_n 3, 1) := by decide +kernel
theorem dX11_multiply_58 : decode cX11_multiply 58 = .ok (.bipush 24, 2) := by decide +kernel
theorem dX11_multiply_60 : decode cX11_multiply 60 = .ok (.if_icmp .ge 95, 3) := by decide +kernel
theorem dX11_multiply_63 : decode cX11_multiply 63 = .ok (.lconst 0, 1) := by decide +kernel
theorem dX11_multiply_64 : decode cX11_multiply 64 = .ok (.lstore 4, 2) := by decide +kernel
theorem dX11_multiply_66 : decode cX11_multiply 66 = .ok (.iconst 0, 1) := by decide +kernel
theorem dX11_multiply_67 : decode cX11_multiply 67 = .ok (.istore 6, 2) := by decide +kernel
theorem dX11_multiply_69 : decode cX11_multiply 69 = .ok (.iload_n 3, 1) := by decide +kernel
theorem dX11_multiply_70 : decode cX11_multiply 70 = .ok (.iload 6, 2) := by decide +kernel
theorem dX11_multiply_72 : decode cX11_multiply 72 = .ok (.iadd, 1) := by decide +kernel
theorem dX11_multiply_73 : decode cX11_multiply 73 = .ok (.bipush 24, 2) := by decide +kernel
theorem dX11_multiply_75 : decode cX11_multiply 75 = .ok (.if_icmp .ge 74, 3) := by decide +kernel
theorem dX11_multiply_78 : decode cX11_multiply 78 = .ok (.aload_n 0, 1) := by decide +kernel
theorem dX11_multiply_79 : decode cX11_multiply 79 = .ok (.getfield 56, 3) := by decide +kernel
theorem dX11_multiply_82 : decode cX11_multiply 82 = .ok (.iload_n 3, 1) := by decide +kernel
theorem dX11_multiply_83 : decode cX11_multiply 83 = .ok (.laload, 1) := by decide +kernel
theorem dX11_multiply_84 : decode cX11_multiply 84 = .ok (.aload_n 0, 1) := by decide +kernel
theorem dX11_multiply_85 : decode cX11_multiply 85 = .ok (.getfield 59, 3) := by decide +kernel
theorem dX11_multiply_88 : decode cX11_multiply 88 = .ok (.iload 6, 2) := by decide +kernel
theorem dX11_multiply_90 : decode cX11_multiply 90 = .ok (.laload, 1) := by decide +kernel
theorem dX11_multiply_91 : decode cX11_multiply 91 = .ok (.lmul, 1) := by decide +kernel
theorem dX11_multiply_92 : decode cX11_multiply 92 = .ok (.lstore 7, 2) := by decide +kernel
theorem dX11_multiply_94 : decode cX11_multiply 94 = .ok (.aload_n 0, 1) := by decide +kernel
theorem dX11_multiply_95 : decode cX11_multiply 95 = .ok (.getfield 62, 3) := by decide +kernel
theorem dX11_multiply_98 : decode cX11_multiply 98 = .ok (.iload_n 3, 1) := by decide +kernel
theorem dX11_multiply_99 : decode cX11_multiply 99 = .ok (.iload 6, 2) := by decide +kernel
theorem dX11_multiply_101 : decode cX11_multiply 101 = .ok (.iadd, 1) := by decide +kernel
theorem dX11_multiply_102 : decode cX11_multiply 102 = .ok (.laload, 1) := by decide +kernel
theorem dX11_multiply_103 : decode cX11_multiply 103 = .ok (.lload 7, 2) := by decide +kernel
theorem dX11_multiply_105 : decode cX11_multiply 105 = .ok (.ldc2_w 237, 3) := by decide +kernel
theorem dX11_multiply_108 : decode cX11_multiply 108 = .ok (.land, 1) := by decide +kernel
theorem dX11_multiply_109 : decode cX11_multiply 109 = .ok (.ladd, 1) := by decide +kernel
theorem dX11_multiply_110 : decode cX11_multiply 110 = .ok (.lload 4, 2) := by decide +kernel
theorem dX11_multiply_112 : decode cX11_multiply 112 = .ok (.ladd, 1) := by decide +kernel
theorem dX11_multiply_113 : decode cX11_multiply 113 = .ok (.lstore 9, 2) := by decide +kernel
theorem dX11_multiply_115 : decode cX11_multiply 115 = .ok (.aload_n 0, 1) := by decide +kernel
theorem dX11_multiply_116 : decode cX11_multiply 116 = .ok (.getfield 62, 3) := by decide +kernel
theorem dX11_multiply_119 : decode cX11_multiply 119 = .ok (.iload_n 3, 1) := by decide +kernel
theorem dX11_multiply_120 : decode cX11_multiply 120 = .ok (.iload 6, 2) := by decide +kernel
theorem dX11_multiply_122 : decode cX11_multiply 122 = .ok (.iadd, 1) := by decide +kernel
theorem dX11_multiply_123 : decode cX11_multiply 123 = .ok (.lload 9, 2) := by decide +kernel
theorem dX11_multiply_125 : decode cX11_multiply 125 = .ok (.ldc2_w 237, 3) := by decide +kernel
theorem dX11_multiply_128 : decode cX11_multiply 128 = .ok (.land, 1) := by decide +kernel
theorem dX11_multiply_129 : decode cX11_multiply 129 = .ok (.lastore, 1) := by decide +kernel
theorem dX11_multiply_130 : decode cX11_multiply 130 = .ok (.lload 7, 2) := by decide +kernel
theorem dX11_multiply_132 : decode cX11_multiply 132 = .ok (.bipush 32, 2) := by decide +kernel
theorem dX11_multiply_134 : decode cX11_multiply 134 = .ok (.lushr, 1) := by decide +kernel
theorem dX11_multiply_135 : decode cX11_multiply 135 = .ok (.lload 9, 2) := by decide +kernel
theorem dX11_multiply_137 : decode cX11_multiply 137 = .ok (.bipush 32, 2) := by decide +kernel
theorem dX11_multiply_139 : decode cX11_multiply 139 = .ok (.lushr, 1) := by decide +kernel
theorem dX11_multiply_140 : decode cX11_multiply 140 = .ok (.ladd, 1) := by decide +kernel
theorem dX11_multiply_141 : decode cX11_multiply 141 = .ok (.lstore 4, 2) := by decide +kernel
theorem dX11_multiply_143 : decode cX11_multiply 143 = .ok (.iinc 6 1, 3) := by decide +kernel
theorem dX11_multiply_146 : decode cX11_multiply 146 = .ok (.goto (-77), 3) := by decide +kernel
theorem dX11_multiply_149 : decode cX11_multiply 149 = .ok (.iinc 3 1, 3) := by decide +kernel
theorem dX11_multiply_152 : decode cX11_multiply 152 = .ok (.goto (-95), 3) := by decide +kernel
theorem dX11_multiply_155 : decode cX11_multiply 155 = .ok (.iconst 0, 1) := by decide +kernel
theorem dX11_multiply_156 : decode cX11_multiply 156 = .ok (.istore_n 3, 1) := by decide +kernel
theorem dX11_multiply_157 : decode cX11_multiply 157 = .ok (.iload_n 3, 1) := by decide +kernel
theorem dX11_multiply_158 : decode cX11_multiply 158 = .ok (.bipush 24, 2) := by decide +kernel
theorem dX11_multiply_160 : decode cX11_multiply 160 = .ok (.if_icmp .ge 21, 3) := by decide +kernel
theorem dX11_multiply_163 : decode cX11_multiply 163 = .ok (.aload_n 0, 1) := by decide +kernel
theorem dX11_multiply_164 : decode cX11_multiply 164 = .ok (.getfield 56, 3) := by decide +kernel
theorem dX11_multiply_167 : decode cX11_multiply 167 = .ok (.iload_n 3, 1) := by decide +kernel
theorem dX11_multiply_168 : decode cX11_multiply 168 = .ok (.aload_n 0, 1) := by decide +kernel
theorem dX11_multiply_169 : decode cX11_multiply 169 = .ok (.getfield 62, 3) := by decide +kernel
theorem dX11_multiply_172 : decode cX11_multiply 172 = .ok (.iload_n 3, 1) := by decide +kernel
theorem dX11_multiply_173 : decode cX11_multiply 173 = .ok (.laload, 1) := by decide +kernel
theorem dX11_multiply_174 : decode cX11_multiply 174 = .ok (.lastore, 1) := by decide +kernel
theorem dX11_multiply_175 : decode cX11_multiply 175 = .ok (.iinc 3 1, 3) := by decide +kernel
theorem dX11_multiply_178 : decode cX11_multiply 178 = .ok (.goto (-21), 3) := by decide +kernel
theorem dX11_multiply_181 : decode cX11_multiply 181 = .ok (.return_, 1) := by decide +kernel
theorem dX11_addProduct_0 : decode cX11_addProduct 0 = .ok (.lconst 0, 1) := by decide +kernel
theorem dX11_addProduct_1 : decode cX11_addProduct 1 = .ok (.lstore_n 2, 1) := by decide +kernel
theorem dX11_addProduct_2 : decode cX11_addProduct 2 = .ok (.iconst 0, 1) := by decide +kernel
theorem dX11_addProduct_3 : decode cX11_addProduct 3 = .ok (.istore 4, 2) := by decide +kernel
theorem dX11_addProduct_5 : decode cX11_addProduct 5 = .ok (.iload 4, 2) := by decide +kernel
theorem dX11_addProduct_7 : decode cX11_addProduct 7 = .ok (.bipush 24, 2) := by decide +kernel
theorem dX11_addProduct_9 : decode cX11_addProduct 9 = .ok (.if_icmp .ge 66, 3) := by decide +kernel
theorem dX11_addProduct_12 : decode cX11_addProduct 12 = .ok (.lload_n 2, 1) := by decide +kernel
theorem dX11_addProduct_13 : decode cX11_addProduct 13 = .ok (.iload_n 1, 1) := by decide +kernel
theorem dX11_addProduct_14 : decode cX11_addProduct 14 = .ok (.ifCond .eq 21, 3) := by decide +kernel
theorem dX11_addProduct_17 : decode cX11_addProduct 17 = .ok (.aload_n 0, 1) := by decide +kernel
theorem dX11_addProduct_18 : decode cX11_addProduct 18 = .ok (.getfield 65, 3) := by decide +kernel
theorem dX11_addProduct_21 : decode cX11_addProduct 21 = .ok (.iload 4, 2) := by decide +kernel
theorem dX11_addProduct_23 : decode cX11_addProduct 23 = .ok (.laload, 1) := by decide +kernel
theorem dX11_addProduct_24 : decode cX11_addProduct 24 = .ok (.aload_n 0, 1) := by decide +kernel
theorem dX11_addProduct_25 : decode cX11_addProduct 25 = .ok (.getfield 56, 3) := by decide +kernel
theorem dX11_addProduct_28 : decode cX11_addProduct 28 = .ok (.iload 4, 2) := by decide +kernel
theorem dX11_addProduct_30 : decode cX11_addProduct 30 = .ok (.laload, 1) := by decide +kernel
theorem dX11_addProduct_31 : decode cX11_addProduct 31 = .ok (.lsub, 1) := by decide +kernel
theorem dX11_addProduct_32 : decode cX11_addProduct 32 = .ok (.goto 18, 3) := by decide +kernel
theorem dX11_addProduct_35 : decode cX11_addProduct 35 = .ok (.aload_n 0, 1) := by decide +kernel
theorem dX11_addProduct_36 : decode cX11_addProduct 36 = .ok (.getfield 65, 3) := by decide +kernel
theorem dX11_addProduct_39 : decode cX11_addProduct 39 = .ok (.iload 4, 2) := by decide +kernel
theorem dX11_addProduct_41 : decode cX11_addProduct 41 = .ok (.laload, 1) := by decide +kernel
theorem dX11_addProduct_42 : decode cX11_addProduct 42 = .ok (.aload_n 0, 1) := by decide +kernel
theorem dX11_addProduct_43 : decode cX11_addProduct 43 = .ok (.getfield 56, 3) := by decide +kernel
theorem dX11_addProduct_46 : decode cX11_addProduct 46 = .ok (.iload 4, 2) := by decide +kernel
theorem dX11_addProduct_48 : decode cX11_addProduct 48 = .ok (.laload, 1) := by decide +kernel
theorem dX11_addProduct_49 : decode cX11_addProduct 49 = .ok (.ladd, 1) := by decide +kernel
theorem dX11_addProduct_50 : decode cX11_addProduct 50 = .ok (.ladd, 1) := by decide +kernel
theorem dX11_addProduct_51 : decode cX11_addProduct 51 = .ok (.lstore_n 2, 1) := by decide +kernel
theorem dX11_addProduct_52 : decode cX11_addProduct 52 = .ok (.aload_n 0, 1) := by decide +kernel
theorem dX11_addProduct_53 : decode cX11_addProduct 53 = .ok (.getfield 65, 3) := by decide +kernel
theorem dX11_addProduct_56 : decode cX11_addProduct 56 = .ok (.iload 4, 2) := by decide +kernel
theorem dX11_addProduct_58 : decode cX11_addProduct 58 = .ok (.lload_n 2, 1) := by decide +kernel
theorem dX11_addProduct_59 : decode cX11_addProduct 59 = .ok (.ldc2_w 237, 3) := by decide +kernel
theorem dX11_addProduct_62 : decode cX11_addProduct 62 = .ok (.land, 1) := by decide +kernel
theorem dX11_addProduct_63 : decode cX11_addProduct 63 = .ok (.lastore, 1) := by decide +kernel
theorem dX11_addProduct_64 : decode cX11_addProduct 64 = .ok (.lload_n 2, 1) := by decide +kernel
theorem dX11_addProduct_65 : decode cX11_addProduct 65 = .ok (.bipush 32, 2) := by decide +kernel
theorem dX11_addProduct_67 : decode cX11_addProduct 67 = .ok (.lshr, 1) := by decide +kernel
theorem dX11_addProduct_68 : decode cX11_addProduct 68 = .ok (.lstore_n 2, 1) := by decide +kernel
theorem dX11_addProduct_69 : decode cX11_addProduct 69 = .ok (.iinc 4 1, 3) := by decide +kernel
theorem dX11_addProduct_72 : decode cX11_addProduct 72 = .ok (.goto (-67), 3) := by decide +kernel
theorem dX11_addProduct_75 : decode cX11_addProduct 75 = .ok (.return_, 1) := by decide +kernel
theorem dX11_isNought_0 : decode cX11_isNought 0 = .ok (.iconst 1, 1) := by decide +kernel
theorem dX11_isNought_1 : decode cX11_isNought 1 = .ok (.istore_n 1, 1) := by decide +kernel
theorem dX11_isNought_2 : decode cX11_isNought 2 = .ok (.iconst 0, 1) := by decide +kernel
theorem dX11_isNought_3 : decode cX11_isNought 3 = .ok (.istore_n 2, 1) := by decide +kernel
theorem dX11_isNought_4 : decode cX11_isNought 4 = .ok (.iload_n 2, 1) := by decide +kernel
theorem dX11_isNought_5 : decode cX11_isNought 5 = .ok (.bipush 24, 2) := by decide +kernel
theorem dX11_isNought_7 : decode cX11_isNought 7 = .ok (.if_icmp .ge 28, 3) := by decide +kernel
theorem dX11_isNought_10 : decode cX11_isNought 10 = .ok (.iload_n 1, 1) := by decide +kernel
theorem dX11_isNought_11 : decode cX11_isNought 11 = .ok (.aload_n 0, 1) := by decide +kernel
theorem dX11_isNought_12 : decode cX11_isNought 12 = .ok (.getfield 65, 3) := by decide +kernel
theorem dX11_isNought_15 : decode cX11_isNought 15 = .ok (.iload_n 2, 1) := by decide +kernel
theorem dX11_isNought_16 : decode cX11_isNought 16 = .ok (.laload, 1) := by decide +kernel
theorem dX11_isNought_17 : decode cX11_isNought 17 = .ok (.lconst 0, 1) := by decide +kernel
theorem dX11_isNought_18 : decode cX11_isNought 18 = .ok (.lcmp, 1) := by decide +kernel
