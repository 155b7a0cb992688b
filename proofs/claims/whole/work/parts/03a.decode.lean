theorem dX0_init_0 : decode cX0_init 0 = .ok (.aload_n 0, 1) := by decide +kernel
theorem dX0_init_1 : decode cX0_init 1 = .ok (.iload_n 1, 1) := by decide +kernel
theorem dX0_init_2 : decode cX0_init 2 = .ok (.aload_n 2, 1) := by decide +kernel
theorem dX0_init_3 : decode cX0_init 3 = .ok (.iload_n 3, 1) := by decide +kernel
theorem dX0_init_4 : decode cX0_init 4 = .ok (.aload 4, 2) := by decide +kernel
theorem dX0_init_6 : decode cX0_init 6 = .ok (.invokespecial 3, 3) := by decide +kernel
theorem dX0_init_9 : decode cX0_init 9 = .ok (.aload_n 0, 1) := by decide +kernel
theorem dX0_init_10 : decode cX0_init 10 = .ok (.iload 5, 2) := by decide +kernel
theorem dX0_init_12 : decode cX0_init 12 = .ok (.putfield 9, 3) := by decide +kernel
theorem dX0_init_15 : decode cX0_init 15 = .ok (.aload_n 0, 1) := by decide +kernel
theorem dX0_init_16 : decode cX0_init 16 = .ok (.aload 6, 2) := by decide +kernel
theorem dX0_init_18 : decode cX0_init 18 = .ok (.putfield 15, 3) := by decide +kernel
theorem dX0_init_21 : decode cX0_init 21 = .ok (.return_, 1) := by decide +kernel
theorem dX0_boxNumber_0 : decode cX0_boxNumber 0 = .ok (.aload_n 0, 1) := by decide +kernel
theorem dX0_boxNumber_1 : decode cX0_boxNumber 1 = .ok (.getfield 9, 3) := by decide +kernel
theorem dX0_boxNumber_4 : decode cX0_boxNumber 4 = .ok (.ireturn, 1) := by decide +kernel
theorem dX0_pieces_0 : decode cX0_pieces 0 = .ok (.iconst 0, 1) := by decide +kernel
theorem dX0_pieces_1 : decode cX0_pieces 1 = .ok (.ireturn, 1) := by decide +kernel
theorem dX0_telling_0 : decode cX0_telling 0 = .ok (.aload_n 1, 1) := by decide +kernel
theorem dX0_telling_1 : decode cX0_telling 1 = .ok (.iconst 3, 1) := by decide +kernel
theorem dX0_telling_2 : decode cX0_telling 2 = .ok (.invokevirtual 19, 3) := by decide +kernel
theorem dX0_telling_5 : decode cX0_telling 5 = .ok (.bipush 9, 2) := by decide +kernel
theorem dX0_telling_7 : decode cX0_telling 7 = .ok (.aload_n 0, 1) := by decide +kernel
theorem dX0_telling_8 : decode cX0_telling 8 = .ok (.aload_n 1, 1) := by decide +kernel
theorem dX0_telling_9 : decode cX0_telling 9 = .ok (.invokespecial 25, 3) := by decide +kernel
theorem dX0_telling_12 : decode cX0_telling 12 = .ok (.iadd, 1) := by decide +kernel
theorem dX0_telling_13 : decode cX0_telling 13 = .ok (.ireturn, 1) := by decide +kernel
theorem dX0_costing_0 : decode cX0_costing 0 = .ok (.aload_n 1, 1) := by decide +kernel
theorem dX0_costing_1 : decode cX0_costing 1 = .ok (.bipush 6, 2) := by decide +kernel
theorem dX0_costing_3 : decode cX0_costing 3 = .ok (.invokevirtual 19, 3) := by decide +kernel
theorem dX0_costing_6 : decode cX0_costing 6 = .ok (.bipush 7, 2) := by decide +kernel
theorem dX0_costing_8 : decode cX0_costing 8 = .ok (.ireturn, 1) := by decide +kernel
theorem dX0_firstWrong_0 : decode cX0_firstWrong 0 = .ok (.aload_n 0, 1) := by decide +kernel
theorem dX0_firstWrong_1 : decode cX0_firstWrong 1 = .ok (.getfield 29, 3) := by decide +kernel
theorem dX0_firstWrong_4 : decode cX0_firstWrong 4 = .ok (.aload_n 0, 1) := by decide +kernel
theorem dX0_firstWrong_5 : decode cX0_firstWrong 5 = .ok (.getfield 15, 3) := by decide +kernel
theorem dX0_firstWrong_8 : decode cX0_firstWrong 8 = .ok (.iconst 0, 1) := by decide +kernel
theorem dX0_firstWrong_9 : decode cX0_firstWrong 9 = .ok (.aload_n 1, 1) := by decide +kernel
theorem dX0_firstWrong_10 : decode cX0_firstWrong 10 = .ok (.getfield 33, 3) := by decide +kernel
theorem dX0_firstWrong_13 : decode cX0_firstWrong 13 = .ok (.invokevirtual 37, 3) := by decide +kernel
theorem dX0_firstWrong_16 : decode cX0_firstWrong 16 = .ok (.iconst 0, 1) := by decide +kernel
theorem dX0_firstWrong_17 : decode cX0_firstWrong 17 = .ok (.istore_n 2, 1) := by decide +kernel
theorem dX0_firstWrong_18 : decode cX0_firstWrong 18 = .ok (.iload_n 2, 1) := by decide +kernel
theorem dX0_firstWrong_19 : decode cX0_firstWrong 19 = .ok (.bipush 9, 2) := by decide +kernel
theorem dX0_firstWrong_21 : decode cX0_firstWrong 21 = .ok (.if_icmp .ge 38, 3) := by decide +kernel
theorem dX0_firstWrong_24 : decode cX0_firstWrong 24 = .ok (.aload_n 0, 1) := by decide +kernel
theorem dX0_firstWrong_25 : decode cX0_firstWrong 25 = .ok (.getfield 43, 3) := by decide +kernel
theorem dX0_firstWrong_28 : decode cX0_firstWrong 28 = .ok (.iload_n 2, 1) := by decide +kernel
theorem dX0_firstWrong_29 : decode cX0_firstWrong 29 = .ok (.laload, 1) := by decide +kernel
theorem dX0_firstWrong_30 : decode cX0_firstWrong 30 = .ok (.lconst 0, 1) := by decide +kernel
theorem dX0_firstWrong_31 : decode cX0_firstWrong 31 = .ok (.lcmp, 1) := by decide +kernel
theorem dX0_firstWrong_32 : decode cX0_firstWrong 32 = .ok (.ifCond .lt 19, 3) := by decide +kernel
theorem dX0_firstWrong_35 : decode cX0_firstWrong 35 = .ok (.aload_n 0, 1) := by decide +kernel
theorem dX0_firstWrong_36 : decode cX0_firstWrong 36 = .ok (.getfield 43, 3) := by decide +kernel
theorem dX0_firstWrong_39 : decode cX0_firstWrong 39 = .ok (.iload_n 2, 1) := by decide +kernel
theorem dX0_firstWrong_40 : decode cX0_firstWrong 40 = .ok (.laload, 1) := by decide +kernel
theorem dX0_firstWrong_41 : decode cX0_firstWrong 41 = .ok (.aload_n 1, 1) := by decide +kernel
theorem dX0_firstWrong_42 : decode cX0_firstWrong 42 = .ok (.getfield 33, 3) := by decide +kernel
theorem dX0_firstWrong_45 : decode cX0_firstWrong 45 = .ok (.iload_n 2, 1) := by decide +kernel
theorem dX0_firstWrong_46 : decode cX0_firstWrong 46 = .ok (.laload, 1) := by decide +kernel
theorem dX0_firstWrong_47 : decode cX0_firstWrong 47 = .ok (.lcmp, 1) := by decide +kernel
theorem dX0_firstWrong_48 : decode cX0_firstWrong 48 = .ok (.ifCond .eq 5, 3) := by decide +kernel
theorem dX0_firstWrong_51 : decode cX0_firstWrong 51 = .ok (.iload_n 2, 1) := by decide +kernel
theorem dX0_firstWrong_52 : decode cX0_firstWrong 52 = .ok (.ireturn, 1) := by decide +kernel
theorem dX0_firstWrong_53 : decode cX0_firstWrong 53 = .ok (.iinc 2 1, 3) := by decide +kernel
theorem dX0_firstWrong_56 : decode cX0_firstWrong 56 = .ok (.goto (-38), 3) := by decide +kernel
theorem dX0_firstWrong_59 : decode cX0_firstWrong 59 = .ok (.iconst (-1), 1) := by decide +kernel
theorem dX0_firstWrong_60 : decode cX0_firstWrong 60 = .ok (.ireturn, 1) := by decide +kernel
theorem dX1_init_0 : decode cX1_init 0 = .ok (.aload_n 0, 1) := by decide +kernel
theorem dX1_init_1 : decode cX1_init 1 = .ok (.invokespecial 3, 3) := by decide +kernel
theorem dX1_init_4 : decode cX1_init 4 = .ok (.aload_n 0, 1) := by decide +kernel
theorem dX1_init_5 : decode cX1_init 5 = .ok (.bipush 9, 2) := by decide +kernel
theorem dX1_init_7 : decode cX1_init 7 = .ok (.newarray .long, 2) := by decide +kernel
theorem dX1_init_9 : decode cX1_init 9 = .ok (.putfield 9, 3) := by decide +kernel
theorem dX1_init_12 : decode cX1_init 12 = .ok (.aload_n 0, 1) := by decide +kernel
theorem dX1_init_13 : decode cX1_init 13 = .ok (.new 15, 3) := by decide +kernel
theorem dX1_init_16 : decode cX1_init 16 = .ok (.dup, 1) := by decide +kernel
theorem dX1_init_17 : decode cX1_init 17 = .ok (.invokespecial 17, 3) := by decide +kernel
theorem dX1_init_20 : decode cX1_init 20 = .ok (.putfield 18, 3) := by decide +kernel
theorem dX1_init_23 : decode cX1_init 23 = .ok (.aload_n 0, 1) := by decide +kernel
theorem dX1_init_24 : decode cX1_init 24 = .ok (.new 15, 3) := by decide +kernel
theorem dX1_init_27 : decode cX1_init 27 = .ok (.dup, 1) := by decide +kernel
theorem dX1_init_28 : decode cX1_init 28 = .ok (.invokespecial 17, 3) := by decide +kernel
theorem dX1_init_31 : decode cX1_init 31 = .ok (.putfield 22, 3) := by decide +kernel
theorem dX1_init_34 : decode cX1_init 34 = .ok (.aload_n 0, 1) := by decide +kernel
theorem dX1_init_35 : decode cX1_init 35 = .ok (.new 25, 3) := by decide +kernel
theorem dX1_init_38 : decode cX1_init 38 = .ok (.dup, 1) := by decide +kernel
theorem dX1_init_39 : decode cX1_init 39 = .ok (.invokespecial 27, 3) := by decide +kernel
theorem dX1_init_42 : decode cX1_init 42 = .ok (.putfield 28, 3) := by decide +kernel
theorem dX1_init_45 : decode cX1_init 45 = .ok (.return_, 1) := by decide +kernel
theorem dX1_begin_0 : decode cX1_begin 0 = .ok (.aload_n 0, 1) := by decide +kernel
theorem dX1_begin_1 : decode cX1_begin 1 = .ok (.bipush 31, 2) := by decide +kernel
theorem dX1_begin_3 : decode cX1_begin 3 = .ok (.aload_n 0, 1) := by decide +kernel
theorem dX1_begin_4 : decode cX1_begin 4 = .ok (.getfield 32, 3) := by decide +kernel
theorem dX1_begin_7 : decode cX1_begin 7 = .ok (.imul, 1) := by decide +kernel
theorem dX1_begin_8 : decode cX1_begin 8 = .ok (.iload_n 1, 1) := by decide +kernel
theorem dX1_begin_9 : decode cX1_begin 9 = .ok (.iadd, 1) := by decide +kernel
theorem dX1_begin_10 : decode cX1_begin 10 = .ok (.putfield 32, 3) := by decide +kernel
theorem dX1_begin_13 : decode cX1_begin 13 = .ok (.return_, 1) := by decide +kernel
theorem dX2_init_0 : decode cX2_init 0 = .ok (.aload_n 0, 1) := by decide +kernel
theorem dX2_init_1 : decode cX2_init 1 = .ok (.invokespecial 3, 3) := by decide +kernel
theorem dX2_init_4 : decode cX2_init 4 = .ok (.aload_n 0, 1) := by decide +kernel
theorem dX2_init_5 : decode cX2_init 5 = .ok (.sipush 160, 3) := by decide +kernel
theorem dX2_init_8 : decode cX2_init 8 = .ok (.newarray .int, 2) := by decide +kernel
theorem dX2_init_10 : decode cX2_init 10 = .ok (.putfield 9, 3) := by decide +kernel
theorem dX2_init_13 : decode cX2_init 13 = .ok (.aload_n 0, 1) := by decide +kernel
theorem dX2_init_14 : decode cX2_init 14 = .ok (.bipush 40, 2) := by decide +kernel
theorem dX2_init_16 : decode cX2_init 16 = .ok (.newarray .int, 2) := by decide +kernel
theorem dX2_init_18 : decode cX2_init 18 = .ok (.putfield 15, 3) := by decide +kernel
theorem dX2_init_21 : decode cX2_init 21 = .ok (.aload_n 0, 1) := by decide +kernel
theorem dX2_init_22 : decode cX2_init 22 = .ok (.bipush 9, 2) := by decide +kernel
theorem dX2_init_24 : decode cX2_init 24 = .ok (.newarray .long, 2) := by decide +kernel
theorem dX2_init_26 : decode cX2_init 26 = .ok (.putfield 18, 3) := by decide +kernel
theorem dX2_init_29 : decode cX2_init 29 = .ok (.return_, 1) := by decide +kernel
theorem dX2_begin_0 : decode cX2_begin 0 = .ok (.aload_n 0, 1) := by decide +kernel
theorem dX2_begin_1 : decode cX2_begin 1 = .ok (.aload_n 1, 1) := by decide +kernel
theorem dX2_begin_2 : decode cX2_begin 2 = .ok (.putfield 22, 3) := by decide +kernel
theorem dX2_begin_5 : decode cX2_begin 5 = .ok (.aload_n 2, 1) := by decide +kernel
theorem dX2_begin_6 : decode cX2_begin 6 = .ok (.iload_n 3, 1) := by decide +kernel
theorem dX2_begin_7 : decode cX2_begin 7 = .ok (.aload_n 0, 1) := by decide +kernel
theorem dX2_begin_8 : decode cX2_begin 8 = .ok (.getfield 9, 3) := by decide +kernel
theorem dX2_begin_11 : decode cX2_begin 11 = .ok (.iconst 0, 1) := by decide +kernel
theorem dX2_begin_12 : decode cX2_begin 12 = .ok (.iconst 4, 1) := by decide +kernel
theorem dX2_begin_13 : decode cX2_begin 13 = .ok (.invokestatic 26, 3) := by decide +kernel
theorem dX2_begin_16 : decode cX2_begin 16 = .ok (.aload_n 0, 1) := by decide +kernel
theorem dX2_begin_17 : decode cX2_begin 17 = .ok (.getfield 15, 3) := by decide +kernel
theorem dX2_begin_20 : decode cX2_begin 20 = .ok (.iconst 0, 1) := by decide +kernel
theorem dX2_begin_21 : decode cX2_begin 21 = .ok (.iconst 0, 1) := by decide +kernel
theorem dX2_begin_22 : decode cX2_begin 22 = .ok (.iastore, 1) := by decide +kernel
theorem dX2_begin_23 : decode cX2_begin 23 = .ok (.aload_n 0, 1) := by decide +kernel
theorem dX2_begin_24 : decode cX2_begin 24 = .ok (.iconst 1, 1) := by decide +kernel
theorem dX2_begin_25 : decode cX2_begin 25 = .ok (.putfield 32, 3) := by decide +kernel
theorem dX2_begin_28 : decode cX2_begin 28 = .ok (.aload_n 0, 1) := by decide +kernel
theorem dX2_begin_29 : decode cX2_begin 29 = .ok (.iconst 0, 1) := by decide +kernel
theorem dX2_begin_30 : decode cX2_begin 30 = .ok (.putfield 36, 3) := by decide +kernel
theorem dX2_begin_33 : decode cX2_begin 33 = .ok (.return_, 1) := by decide +kernel
theorem dX2_steps_0 : decode cX2_steps 0 = .ok (.aload_n 0, 1) := by decide +kernel
theorem dX2_steps_1 : decode cX2_steps 1 = .ok (.iconst 0, 1) := by decide +kernel
theorem dX2_steps_2 : decode cX2_steps 2 = .ok (.putfield 40, 3) := by decide +kernel
theorem dX2_steps_5 : decode cX2_steps 5 = .ok (.iconst 0, 1) := by decide +kernel
theorem dX2_steps_6 : decode cX2_steps 6 = .ok (.istore_n 2, 1) := by decide +kernel
theorem dX2_steps_7 : decode cX2_steps 7 = .ok (.iload_n 2, 1) := by decide +kernel
theorem dX2_steps_8 : decode cX2_steps 8 = .ok (.iload_n 1, 1) := by decide +kernel
theorem dX2_steps_9 : decode cX2_steps 9 = .ok (.if_icmp .ge 18, 3) := by decide +kernel
theorem dX2_steps_12 : decode cX2_steps 12 = .ok (.aload_n 0, 1) := by decide +kernel
theorem dX2_steps_13 : decode cX2_steps 13 = .ok (.invokevirtual 43, 3) := by decide +kernel
theorem dX2_steps_16 : decode cX2_steps 16 = .ok (.ifCond .ne 5, 3) := by decide +kernel
theorem dX2_steps_19 : decode cX2_steps 19 = .ok (.iload_n 2, 1) := by decide +kernel
theorem dX2_steps_20 : decode cX2_steps 20 = .ok (.ireturn, 1) := by decide +kernel
theorem dX2_steps_21 : decode cX2_steps 21 = .ok (.iinc 2 1, 3) := by decide +kernel
theorem dX2_steps_24 : decode cX2_steps 24 = .ok (.goto (-17), 3) := by decide +kernel
theorem dX2_steps_27 : decode cX2_steps 27 = .ok (.iload_n 1, 1) := by decide +kernel
theorem dX2_steps_28 : decode cX2_steps 28 = .ok (.ireturn, 1) := by decide +kernel
theorem dX2_step_0 : decode cX2_step 0 = .ok (.aload_n 0, 1) := by decide +kernel
theorem dX2_step_1 : decode cX2_step 1 = .ok (.getfield 36, 3) := by decide +kernel
theorem dX2_step_4 : decode cX2_step 4 = .ok (.ifCond .eq 7, 3) := by decide +kernel
theorem dX2_step_7 : decode cX2_step 7 = .ok (.iconst (-1), 1) := by decide +kernel
theorem dX2_step_8 : decode cX2_step 8 = .ok (.goto 7, 3) := by decide +kernel
theorem dX2_step_11 : decode cX2_step 11 = .ok (.aload_n 0, 1) := by decide +kernel
theorem dX2_step_12 : decode cX2_step 12 = .ok (.invokevirtual 47, 3) := by decide +kernel
theorem dX2_step_15 : decode cX2_step 15 = .ok (.istore_n 1, 1) := by decide +kernel
theorem dX2_step_16 : decode cX2_step 16 = .ok (.aload_n 0, 1) := by decide +kernel
theorem dX2_step_17 : decode cX2_step 17 = .ok (.getfield 22, 3) := by decide +kernel
theorem dX2_step_20 : decode cX2_step 20 = .ok (.ifnull 7, 3) := by decide +kernel
theorem dX2_step_23 : decode cX2_step 23 = .ok (.iload_n 1, 1) := by decide +kernel
theorem dX2_step_24 : decode cX2_step 24 = .ok (.ifCond .ge 5, 3) := by decide +kernel
theorem dX2_step_27 : decode cX2_step 27 = .ok (.iconst 0, 1) := by decide +kernel
theorem dX2_step_28 : decode cX2_step 28 = .ok (.ireturn, 1) := by decide +kernel
theorem dX2_step_29 : decode cX2_step 29 = .ok (.aload_n 0, 1) := by decide +kernel
theorem dX2_step_30 : decode cX2_step 30 = .ok (.getfield 22, 3) := by decide +kernel
theorem dX2_step_33 : decode cX2_step 33 = .ok (.aload_n 0, 1) := by decide +kernel
theorem dX2_step_34 : decode cX2_step 34 = .ok (.getfield 9, 3) := by decide +kernel
theorem dX2_step_37 : decode cX2_step 37 = .ok (.iconst 4, 1) := by decide +kernel
theorem dX2_step_38 : decode cX2_step 38 = .ok (.iload_n 1, 1) := by decide +kernel
theorem dX2_step_39 : decode cX2_step 39 = .ok (.imul, 1) := by decide +kernel
theorem dX2_step_40 : decode cX2_step 40 = .ok (.aload_n 0, 1) := by decide +kernel
theorem dX2_step_41 : decode cX2_step 41 = .ok (.getfield 18, 3) := by decide +kernel
theorem dX2_step_44 : decode cX2_step 44 = .ok (.invokevirtual 51, 3) := by decide +kernel
theorem dX2_step_47 : decode cX2_step 47 = .ok (.aload_n 0, 1) := by decide +kernel
theorem dX2_step_48 : decode cX2_step 48 = .ok (.getfield 18, 3) := by decide +kernel
theorem dX2_step_51 : decode cX2_step 51 = .ok (.invokestatic 57, 3) := by decide +kernel
theorem dX2_step_54 : decode cX2_step 54 = .ok (.lconst 0, 1) := by decide +kernel
theorem dX2_step_55 : decode cX2_step 55 = .ok (.lcmp, 1) := by decide +kernel
theorem dX2_step_56 : decode cX2_step 56 = .ok (.ifCond .lt 12, 3) := by decide +kernel
theorem dX2_step_59 : decode cX2_step 59 = .ok (.aload_n 0, 1) := by decide +kernel
theorem dX2_step_60 : decode cX2_step 60 = .ok (.getfield 15, 3) := by decide +kernel
theorem dX2_step_63 : decode cX2_step 63 = .ok (.iload_n 1, 1) := by decide +kernel
theorem dX2_step_64 : decode cX2_step 64 = .ok (.iconst 1, 1) := by decide +kernel
theorem dX2_step_65 : decode cX2_step 65 = .ok (.iastore, 1) := by decide +kernel
theorem dX2_step_66 : decode cX2_step 66 = .ok (.iconst 1, 1) := by decide +kernel
theorem dX2_step_67 : decode cX2_step 67 = .ok (.ireturn, 1) := by decide +kernel
theorem dX2_step_68 : decode cX2_step 68 = .ok (.iconst 0, 1) := by decide +kernel
theorem dX2_step_69 : decode cX2_step 69 = .ok (.istore_n 2, 1) := by decide +kernel
theorem dX2_step_70 : decode cX2_step 70 = .ok (.iload_n 2, 1) := by decide +kernel
theorem dX2_step_71 : decode cX2_step 71 = .ok (.getstatic 61, 3) := by decide +kernel
theorem dX2_step_74 : decode cX2_step 74 = .ok (.arraylength, 1) := by decide +kernel
theorem dX2_step_75 : decode cX2_step 75 = .ok (.if_icmp .ge 32, 3) := by decide +kernel
theorem dX2_step_78 : decode cX2_step 78 = .ok (.aload_n 0, 1) := by decide +kernel
theorem dX2_step_79 : decode cX2_step 79 = .ok (.getfield 18, 3) := by decide +kernel
theorem dX2_step_82 : decode cX2_step 82 = .ok (.getstatic 61, 3) := by decide +kernel
theorem dX2_step_85 : decode cX2_step 85 = .ok (.iload_n 2, 1) := by decide +kernel
theorem dX2_step_86 : decode cX2_step 86 = .ok (.iaload, 1) := by decide +kernel
theorem dX2_step_87 : decode cX2_step 87 = .ok (.laload, 1) := by decide +kernel
theorem dX2_step_88 : decode cX2_step 88 = .ok (.lconst 0, 1) := by decide +kernel
theorem dX2_step_89 : decode cX2_step 89 = .ok (.lcmp, 1) := by decide +kernel
theorem dX2_step_90 : decode cX2_step 90 = .ok (.ifCond .ge 11, 3) := by decide +kernel
theorem dX2_step_93 : decode cX2_step 93 = .ok (.aload_n 0, 1) := by decide +kernel
theorem dX2_step_94 : decode cX2_step 94 = .ok (.iload_n 1, 1) := by decide +kernel
theorem dX2_step_95 : decode cX2_step 95 = .ok (.iload_n 2, 1) := by decide +kernel
theorem dX2_step_96 : decode cX2_step 96 = .ok (.invokevirtual 64, 3) := by decide +kernel
theorem dX2_step_99 : decode cX2_step 99 = .ok (.iconst 1, 1) := by decide +kernel
theorem dX2_step_100 : decode cX2_step 100 = .ok (.ireturn, 1) := by decide +kernel
theorem dX2_step_101 : decode cX2_step 101 = .ok (.iinc 2 1, 3) := by decide +kernel
theorem dX2_step_104 : decode cX2_step 104 = .ok (.goto (-34), 3) := by decide +kernel
theorem dX2_step_107 : decode cX2_step 107 = .ok (.aload_n 0, 1) := by decide +kernel
theorem dX2_step_108 : decode cX2_step 108 = .ok (.iload_n 1, 1) := by decide +kernel
theorem dX2_step_109 : decode cX2_step 109 = .ok (.invokevirtual 68, 3) := by decide +kernel
theorem dX2_step_112 : decode cX2_step 112 = .ok (.ireturn, 1) := by decide +kernel
theorem dX2_firstOpen_0 : decode cX2_firstOpen 0 = .ok (.iconst 0, 1) := by decide +kernel
theorem dX2_firstOpen_1 : decode cX2_firstOpen 1 = .ok (.istore_n 1, 1) := by decide +kernel
theorem dX2_firstOpen_2 : decode cX2_firstOpen 2 = .ok (.iload_n 1, 1) := by decide +kernel
theorem dX2_firstOpen_3 : decode cX2_firstOpen 3 = .ok (.aload_n 0, 1) := by decide +kernel
theorem dX2_firstOpen_4 : decode cX2_firstOpen 4 = .ok (.getfield 32, 3) := by decide +kernel
theorem dX2_firstOpen_7 : decode cX2_firstOpen 7 = .ok (.if_icmp .ge 20, 3) := by decide +kernel
theorem dX2_firstOpen_10 : decode cX2_firstOpen 10 = .ok (.aload_n 0, 1) := by decide +kernel
theorem dX2_firstOpen_11 : decode cX2_firstOpen 11 = .ok (.getfield 15, 3) := by decide +kernel
theorem dX2_firstOpen_14 : decode cX2_firstOpen 14 = .ok (.iload_n 1, 1) := by decide +kernel
theorem dX2_firstOpen_15 : decode cX2_firstOpen 15 = .ok (.iaload, 1) := by decide +kernel
theorem dX2_firstOpen_16 : decode cX2_firstOpen 16 = .ok (.ifCond .ne 5, 3) := by decide +kernel
theorem dX2_firstOpen_19 : decode cX2_firstOpen 19 = .ok (.iload_n 1, 1) := by decide +kernel
theorem dX2_firstOpen_20 : decode cX2_firstOpen 20 = .ok (.ireturn, 1) := by decide +kernel
theorem dX2_firstOpen_21 : decode cX2_firstOpen 21 = .ok (.iinc 1 1, 3) := by decide +kernel
theorem dX2_firstOpen_24 : decode cX2_firstOpen 24 = .ok (.goto (-22), 3) := by decide +kernel
theorem dX2_firstOpen_27 : decode cX2_firstOpen 27 = .ok (.iconst (-1), 1) := by decide +kernel
theorem dX2_firstOpen_28 : decode cX2_firstOpen 28 = .ok (.ireturn, 1) := by decide +kernel
theorem dX2_markBelow_0 : decode cX2_markBelow 0 = .ok (.aload_n 0, 1) := by decide +kernel
theorem dX2_markBelow_1 : decode cX2_markBelow 1 = .ok (.getfield 15, 3) := by decide +kernel
theorem dX2_markBelow_4 : decode cX2_markBelow 4 = .ok (.iload_n 1, 1) := by decide +kernel
theorem dX2_markBelow_5 : decode cX2_markBelow 5 = .ok (.iconst 3, 1) := by decide +kernel
theorem dX2_markBelow_6 : decode cX2_markBelow 6 = .ok (.iastore, 1) := by decide +kernel
theorem dX2_markBelow_7 : decode cX2_markBelow 7 = .ok (.aload_n 0, 1) := by decide +kernel
theorem dX2_markBelow_8 : decode cX2_markBelow 8 = .ok (.iconst 1, 1) := by decide +kernel
theorem dX2_markBelow_9 : decode cX2_markBelow 9 = .ok (.putfield 36, 3) := by decide +kernel
theorem dX2_markBelow_12 : decode cX2_markBelow 12 = .ok (.aload_n 0, 1) := by decide +kernel
theorem dX2_markBelow_13 : decode cX2_markBelow 13 = .ok (.aload_n 0, 1) := by decide +kernel
theorem dX2_markBelow_14 : decode cX2_markBelow 14 = .ok (.getfield 9, 3) := by decide +kernel
theorem dX2_markBelow_17 : decode cX2_markBelow 17 = .ok (.iconst 4, 1) := by decide +kernel
theorem dX2_markBelow_18 : decode cX2_markBelow 18 = .ok (.iload_n 1, 1) := by decide +kernel
theorem dX2_markBelow_19 : decode cX2_markBelow 19 = .ok (.imul, 1) := by decide +kernel
theorem dX2_markBelow_20 : decode cX2_markBelow 20 = .ok (.iload_n 2, 1) := by decide +kernel
theorem dX2_markBelow_21 : decode cX2_markBelow 21 = .ok (.iconst 2, 1) := by decide +kernel
theorem dX2_markBelow_22 : decode cX2_markBelow 22 = .ok (.idiv, 1) := by decide +kernel
theorem dX2_markBelow_23 : decode cX2_markBelow 23 = .ok (.iadd, 1) := by decide +kernel
theorem dX2_markBelow_24 : decode cX2_markBelow 24 = .ok (.iaload, 1) := by decide +kernel
theorem dX2_markBelow_25 : decode cX2_markBelow 25 = .ok (.putfield 72, 3) := by decide +kernel
theorem dX2_markBelow_28 : decode cX2_markBelow 28 = .ok (.aload_n 0, 1) := by decide +kernel
theorem dX2_markBelow_29 : decode cX2_markBelow 29 = .ok (.aload_n 0, 1) := by decide +kernel
theorem dX2_markBelow_30 : decode cX2_markBelow 30 = .ok (.getfield 9, 3) := by decide +kernel
theorem dX2_markBelow_33 : decode cX2_markBelow 33 = .ok (.iconst 4, 1) := by decide +kernel
theorem dX2_markBelow_34 : decode cX2_markBelow 34 = .ok (.iload_n 1, 1) := by decide +kernel
theorem dX2_markBelow_35 : decode cX2_markBelow 35 = .ok (.imul, 1) := by decide +kernel
theorem dX2_markBelow_36 : decode cX2_markBelow 36 = .ok (.iconst 2, 1) := by decide +kernel
theorem dX2_markBelow_37 : decode cX2_markBelow 37 = .ok (.iadd, 1) := by decide +kernel
theorem dX2_markBelow_38 : decode cX2_markBelow 38 = .ok (.iload_n 2, 1) := by decide +kernel
theorem dX2_markBelow_39 : decode cX2_markBelow 39 = .ok (.iconst 2, 1) := by decide +kernel
theorem dX2_markBelow_40 : decode cX2_markBelow 40 = .ok (.irem, 1) := by decide +kernel
theorem dX2_markBelow_41 : decode cX2_markBelow 41 = .ok (.iadd, 1) := by decide +kernel
theorem dX2_markBelow_42 : decode cX2_markBelow 42 = .ok (.iaload, 1) := by decide +kernel
theorem dX2_markBelow_43 : decode cX2_markBelow 43 = .ok (.putfield 75, 3) := by decide +kernel
theorem dX2_markBelow_46 : decode cX2_markBelow 46 = .ok (.return_, 1) := by decide +kernel
theorem dX2_cutPart_0 : decode cX2_cutPart 0 = .ok (.aload_n 0, 1) := by decide +kernel
theorem dX2_cutPart_1 : decode cX2_cutPart 1 = .ok (.getfield 9, 3) := by decide +kernel
theorem dX2_cutPart_4 : decode cX2_cutPart 4 = .ok (.iconst 4, 1) := by decide +kernel
theorem dX2_cutPart_5 : decode cX2_cutPart 5 = .ok (.iload_n 1, 1) := by decide +kernel
theorem dX2_cutPart_6 : decode cX2_cutPart 6 = .ok (.imul, 1) := by decide +kernel
theorem dX2_cutPart_7 : decode cX2_cutPart 7 = .ok (.iconst 0, 1) := by decide +kernel
theorem dX2_cutPart_8 : decode cX2_cutPart 8 = .ok (.invokestatic 78, 3) := by decide +kernel
theorem dX2_cutPart_11 : decode cX2_cutPart 11 = .ok (.istore_n 2, 1) := by decide +kernel
theorem dX2_cutPart_12 : decode cX2_cutPart 12 = .ok (.aload_n 0, 1) := by decide +kernel
theorem dX2_cutPart_13 : decode cX2_cutPart 13 = .ok (.getfield 9, 3) := by decide +kernel
theorem dX2_cutPart_16 : decode cX2_cutPart 16 = .ok (.iconst 4, 1) := by decide +kernel
theorem dX2_cutPart_17 : decode cX2_cutPart 17 = .ok (.iload_n 1, 1) := by decide +kernel
theorem dX2_cutPart_18 : decode cX2_cutPart 18 = .ok (.imul, 1) := by decide +kernel
theorem dX2_cutPart_19 : decode cX2_cutPart 19 = .ok (.iconst 1, 1) := by decide +kernel
theorem dX2_cutPart_20 : decode cX2_cutPart 20 = .ok (.invokestatic 78, 3) := by decide +kernel
theorem dX2_cutPart_23 : decode cX2_cutPart 23 = .ok (.istore_n 3, 1) := by decide +kernel
theorem dX2_cutPart_24 : decode cX2_cutPart 24 = .ok (.iload_n 2, 1) := by decide +kernel
theorem dX2_cutPart_25 : decode cX2_cutPart 25 = .ok (.invokestatic 82, 3) := by decide +kernel
theorem dX2_cutPart_28 : decode cX2_cutPart 28 = .ok (.ifCond .eq 19, 3) := by decide +kernel
theorem dX2_cutPart_31 : decode cX2_cutPart 31 = .ok (.iload_n 3, 1) := by decide +kernel
theorem dX2_cutPart_32 : decode cX2_cutPart 32 = .ok (.invokestatic 82, 3) := by decide +kernel
theorem dX2_cutPart_35 : decode cX2_cutPart 35 = .ok (.ifCond .eq 12, 3) := by decide +kernel
theorem dX2_cutPart_38 : decode cX2_cutPart 38 = .ok (.aload_n 0, 1) := by decide +kernel
theorem dX2_cutPart_39 : decode cX2_cutPart 39 = .ok (.getfield 15, 3) := by decide +kernel
theorem dX2_cutPart_42 : decode cX2_cutPart 42 = .ok (.iload_n 1, 1) := by decide +kernel
theorem dX2_cutPart_43 : decode cX2_cutPart 43 = .ok (.iconst 2, 1) := by decide +kernel
theorem dX2_cutPart_44 : decode cX2_cutPart 44 = .ok (.iastore, 1) := by decide +kernel
theorem dX2_cutPart_45 : decode cX2_cutPart 45 = .ok (.iconst 1, 1) := by decide +kernel
theorem dX2_cutPart_46 : decode cX2_cutPart 46 = .ok (.ireturn, 1) := by decide +kernel
theorem dX2_cutPart_47 : decode cX2_cutPart 47 = .ok (.aload_n 0, 1) := by decide +kernel
theorem dX2_cutPart_48 : decode cX2_cutPart 48 = .ok (.getfield 32, 3) := by decide +kernel
theorem dX2_cutPart_51 : decode cX2_cutPart 51 = .ok (.bipush 40, 2) := by decide +kernel
theorem dX2_cutPart_53 : decode cX2_cutPart 53 = .ok (.if_icmp .lt 10, 3) := by decide +kernel
theorem dX2_cutPart_56 : decode cX2_cutPart 56 = .ok (.aload_n 0, 1) := by decide +kernel
theorem dX2_cutPart_57 : decode cX2_cutPart 57 = .ok (.iconst 1, 1) := by decide +kernel
theorem dX2_cutPart_58 : decode cX2_cutPart 58 = .ok (.putfield 40, 3) := by decide +kernel
theorem dX2_cutPart_61 : decode cX2_cutPart 61 = .ok (.iconst 0, 1) := by decide +kernel
theorem dX2_cutPart_62 : decode cX2_cutPart 62 = .ok (.ireturn, 1) := by decide +kernel
theorem dX2_cutPart_63 : decode cX2_cutPart 63 = .ok (.iload_n 2, 1) := by decide +kernel
theorem dX2_cutPart_64 : decode cX2_cutPart 64 = .ok (.invokestatic 82, 3) := by decide +kernel
theorem dX2_cutPart_67 : decode cX2_cutPart 67 = .ok (.ifCond .ne 19, 3) := by decide +kernel
theorem dX2_cutPart_70 : decode cX2_cutPart 70 = .ok (.iload_n 3, 1) := by decide +kernel
theorem dX2_cutPart_71 : decode cX2_cutPart 71 = .ok (.invokestatic 82, 3) := by decide +kernel
theorem dX2_cutPart_74 : decode cX2_cutPart 74 = .ok (.ifCond .ne 8, 3) := by decide +kernel
theorem dX2_cutPart_77 : decode cX2_cutPart 77 = .ok (.iload_n 3, 1) := by decide +kernel
theorem dX2_cutPart_78 : decode cX2_cutPart 78 = .ok (.iload_n 2, 1) := by decide +kernel
theorem dX2_cutPart_79 : decode cX2_cutPart 79 = .ok (.if_icmp .gt 7, 3) := by decide +kernel
theorem dX2_cutPart_82 : decode cX2_cutPart 82 = .ok (.iconst 1, 1) := by decide +kernel
theorem dX2_cutPart_83 : decode cX2_cutPart 83 = .ok (.goto 4, 3) := by decide +kernel
theorem dX2_cutPart_86 : decode cX2_cutPart 86 = .ok (.iconst 0, 1) := by decide +kernel
theorem dX2_cutPart_87 : decode cX2_cutPart 87 = .ok (.istore 4, 2) := by decide +kernel
theorem dX2_cutPart_89 : decode cX2_cutPart 89 = .ok (.aload_n 0, 1) := by decide +kernel
theorem dX2_cutPart_90 : decode cX2_cutPart 90 = .ok (.getfield 32, 3) := by decide +kernel
theorem dX2_cutPart_93 : decode cX2_cutPart 93 = .ok (.iload_n 1, 1) := by decide +kernel
theorem dX2_cutPart_94 : decode cX2_cutPart 94 = .ok (.isub, 1) := by decide +kernel
theorem dX2_cutPart_95 : decode cX2_cutPart 95 = .ok (.iconst 1, 1) := by decide +kernel
theorem dX2_cutPart_96 : decode cX2_cutPart 96 = .ok (.isub, 1) := by decide +kernel
theorem dX2_cutPart_97 : decode cX2_cutPart 97 = .ok (.istore 5, 2) := by decide +kernel
theorem dX2_cutPart_99 : decode cX2_cutPart 99 = .ok (.aload_n 0, 1) := by decide +kernel
theorem dX2_cutPart_100 : decode cX2_cutPart 100 = .ok (.getfield 9, 3) := by decide +kernel
theorem dX2_cutPart_103 : decode cX2_cutPart 103 = .ok (.iconst 4, 1) := by decide +kernel
theorem dX2_cutPart_104 : decode cX2_cutPart 104 = .ok (.iload_n 1, 1) := by decide +kernel
theorem dX2_cutPart_105 : decode cX2_cutPart 105 = .ok (.iconst 1, 1) := by decide +kernel
theorem dX2_cutPart_106 : decode cX2_cutPart 106 = .ok (.iadd, 1) := by decide +kernel
theorem dX2_cutPart_107 : decode cX2_cutPart 107 = .ok (.imul, 1) := by decide +kernel
theorem dX2_cutPart_108 : decode cX2_cutPart 108 = .ok (.aload_n 0, 1) := by decide +kernel
theorem dX2_cutPart_109 : decode cX2_cutPart 109 = .ok (.getfield 9, 3) := by decide +kernel
theorem dX2_cutPart_112 : decode cX2_cutPart 112 = .ok (.iconst 4, 1) := by decide +kernel
theorem dX2_cutPart_113 : decode cX2_cutPart 113 = .ok (.iload_n 1, 1) := by decide +kernel
theorem dX2_cutPart_114 : decode cX2_cutPart 114 = .ok (.iconst 2, 1) := by decide +kernel
theorem dX2_cutPart_115 : decode cX2_cutPart 115 = .ok (.iadd, 1) := by decide +kernel
theorem dX2_cutPart_116 : decode cX2_cutPart 116 = .ok (.imul, 1) := by decide +kernel
theorem dX2_cutPart_117 : decode cX2_cutPart 117 = .ok (.iconst 4, 1) := by decide +kernel
theorem dX2_cutPart_118 : decode cX2_cutPart 118 = .ok (.iload 5, 2) := by decide +kernel
theorem dX2_cutPart_120 : decode cX2_cutPart 120 = .ok (.imul, 1) := by decide +kernel
theorem dX2_cutPart_121 : decode cX2_cutPart 121 = .ok (.invokestatic 26, 3) := by decide +kernel
theorem dX2_cutPart_124 : decode cX2_cutPart 124 = .ok (.aload_n 0, 1) := by decide +kernel
theorem dX2_cutPart_125 : decode cX2_cutPart 125 = .ok (.getfield 15, 3) := by decide +kernel
theorem dX2_cutPart_128 : decode cX2_cutPart 128 = .ok (.iload_n 1, 1) := by decide +kernel
theorem dX2_cutPart_129 : decode cX2_cutPart 129 = .ok (.iconst 1, 1) := by decide +kernel
theorem dX2_cutPart_130 : decode cX2_cutPart 130 = .ok (.iadd, 1) := by decide +kernel
theorem dX2_cutPart_131 : decode cX2_cutPart 131 = .ok (.aload_n 0, 1) := by decide +kernel
theorem dX2_cutPart_132 : decode cX2_cutPart 132 = .ok (.getfield 15, 3) := by decide +kernel
theorem dX2_cutPart_135 : decode cX2_cutPart 135 = .ok (.iload_n 1, 1) := by decide +kernel
theorem dX2_cutPart_136 : decode cX2_cutPart 136 = .ok (.iconst 2, 1) := by decide +kernel
theorem dX2_cutPart_137 : decode cX2_cutPart 137 = .ok (.iadd, 1) := by decide +kernel
theorem dX2_cutPart_138 : decode cX2_cutPart 138 = .ok (.iload 5, 2) := by decide +kernel
theorem dX2_cutPart_140 : decode cX2_cutPart 140 = .ok (.invokestatic 26, 3) := by decide +kernel
theorem dX2_cutPart_143 : decode cX2_cutPart 143 = .ok (.aload_n 0, 1) := by decide +kernel
theorem dX2_cutPart_144 : decode cX2_cutPart 144 = .ok (.getfield 9, 3) := by decide +kernel
theorem dX2_cutPart_147 : decode cX2_cutPart 147 = .ok (.iconst 4, 1) := by decide +kernel
theorem dX2_cutPart_148 : decode cX2_cutPart 148 = .ok (.iload_n 1, 1) := by decide +kernel
theorem dX2_cutPart_149 : decode cX2_cutPart 149 = .ok (.imul, 1) := by decide +kernel
theorem dX2_cutPart_150 : decode cX2_cutPart 150 = .ok (.iload 4, 2) := by decide +kernel
theorem dX2_cutPart_152 : decode cX2_cutPart 152 = .ok (.ifCond .eq 7, 3) := by decide +kernel
theorem dX2_cutPart_155 : decode cX2_cutPart 155 = .ok (.iconst 0, 1) := by decide +kernel
theorem dX2_cutPart_156 : decode cX2_cutPart 156 = .ok (.goto 4, 3) := by decide +kernel
theorem dX2_cutPart_159 : decode cX2_cutPart 159 = .ok (.iconst 1, 1) := by decide +kernel
theorem dX2_cutPart_160 : decode cX2_cutPart 160 = .ok (.iconst 4, 1) := by decide +kernel
theorem dX2_cutPart_161 : decode cX2_cutPart 161 = .ok (.iload_n 1, 1) := by decide +kernel
theorem dX2_cutPart_162 : decode cX2_cutPart 162 = .ok (.imul, 1) := by decide +kernel
theorem dX2_cutPart_163 : decode cX2_cutPart 163 = .ok (.iconst 4, 1) := by decide +kernel
theorem dX2_cutPart_164 : decode cX2_cutPart 164 = .ok (.iload_n 1, 1) := by decide +kernel
theorem dX2_cutPart_165 : decode cX2_cutPart 165 = .ok (.iconst 1, 1) := by decide +kernel
theorem dX2_cutPart_166 : decode cX2_cutPart 166 = .ok (.iadd, 1) := by decide +kernel
theorem dX2_cutPart_167 : decode cX2_cutPart 167 = .ok (.imul, 1) := by decide +kernel
theorem dX2_cutPart_168 : decode cX2_cutPart 168 = .ok (.invokestatic 85, 3) := by decide +kernel
theorem dX2_cutPart_171 : decode cX2_cutPart 171 = .ok (.aload_n 0, 1) := by decide +kernel
theorem dX2_cutPart_172 : decode cX2_cutPart 172 = .ok (.getfield 15, 3) := by decide +kernel
theorem dX2_cutPart_175 : decode cX2_cutPart 175 = .ok (.iload_n 1, 1) := by decide +kernel
theorem dX2_cutPart_176 : decode cX2_cutPart 176 = .ok (.iconst 1, 1) := by decide +kernel
theorem dX2_cutPart_177 : decode cX2_cutPart 177 = .ok (.iadd, 1) := by decide +kernel
theorem dX2_cutPart_178 : decode cX2_cutPart 178 = .ok (.iconst 0, 1) := by decide +kernel
theorem dX2_cutPart_179 : decode cX2_cutPart 179 = .ok (.iastore, 1) := by decide +kernel
theorem dX2_cutPart_180 : decode cX2_cutPart 180 = .ok (.aload_n 0, 1) := by decide +kernel
theorem dX2_cutPart_181 : decode cX2_cutPart 181 = .ok (.dup, 1) := by decide +kernel
theorem dX2_cutPart_182 : decode cX2_cutPart 182 = .ok (.getfield 32, 3) := by decide +kernel
theorem dX2_cutPart_185 : decode cX2_cutPart 185 = .ok (.iconst 1, 1) := by decide +kernel
theorem dX2_cutPart_186 : decode cX2_cutPart 186 = .ok (.iadd, 1) := by decide +kernel
theorem dX2_cutPart_187 : decode cX2_cutPart 187 = .ok (.putfield 32, 3) := by decide +kernel
theorem dX2_cutPart_190 : decode cX2_cutPart 190 = .ok (.iconst 1, 1) := by decide +kernel
theorem dX2_cutPart_191 : decode cX2_cutPart 191 = .ok (.ireturn, 1) := by decide +kernel
theorem dX2_countOf_0 : decode cX2_countOf 0 = .ok (.iconst 0, 1) := by decide +kernel
theorem dX2_countOf_1 : decode cX2_countOf 1 = .ok (.istore_n 2, 1) := by decide +kernel
theorem dX2_countOf_2 : decode cX2_countOf 2 = .ok (.iconst 0, 1) := by decide +kernel
theorem dX2_countOf_3 : decode cX2_countOf 3 = .ok (.istore_n 3, 1) := by decide +kernel
theorem dX2_countOf_4 : decode cX2_countOf 4 = .ok (.iload_n 3, 1) := by decide +kernel
theorem dX2_countOf_5 : decode cX2_countOf 5 = .ok (.aload_n 0, 1) := by decide +kernel
theorem dX2_countOf_6 : decode cX2_countOf 6 = .ok (.getfield 32, 3) := by decide +kernel
theorem dX2_countOf_9 : decode cX2_countOf 9 = .ok (.if_icmp .ge 22, 3) := by decide +kernel
theorem dX2_countOf_12 : decode cX2_countOf 12 = .ok (.aload_n 0, 1) := by decide +kernel
theorem dX2_countOf_13 : decode cX2_countOf 13 = .ok (.getfield 15, 3) := by decide +kernel
theorem dX2_countOf_16 : decode cX2_countOf 16 = .ok (.iload_n 3, 1) := by decide +kernel
theorem dX2_countOf_17 : decode cX2_countOf 17 = .ok (.iaload, 1) := by decide +kernel
theorem dX2_countOf_18 : decode cX2_countOf 18 = .ok (.iload_n 1, 1) := by decide +kernel
theorem dX2_countOf_19 : decode cX2_countOf 19 = .ok (.if_icmp .ne 6, 3) := by decide +kernel
theorem dX2_countOf_22 : decode cX2_countOf 22 = .ok (.iinc 2 1, 3) := by decide +kernel
theorem dX2_countOf_25 : decode cX2_countOf 25 = .ok (.iinc 3 1, 3) := by decide +kernel
theorem dX2_countOf_28 : decode cX2_countOf 28 = .ok (.goto (-24), 3) := by decide +kernel
theorem dX2_countOf_31 : decode cX2_countOf 31 = .ok (.iload_n 2, 1) := by decide +kernel
theorem dX2_countOf_32 : decode cX2_countOf 32 = .ok (.ireturn, 1) := by decide +kernel
theorem dX2_leastCorner_0 : decode cX2_leastCorner 0 = .ok (.ldc2_w 91, 3) := by decide +kernel
theorem dX2_leastCorner_3 : decode cX2_leastCorner 3 = .ok (.lstore_n 1, 1) := by decide +kernel
theorem dX2_leastCorner_4 : decode cX2_leastCorner 4 = .ok (.iconst 0, 1) := by decide +kernel
theorem dX2_leastCorner_5 : decode cX2_leastCorner 5 = .ok (.istore_n 3, 1) := by decide +kernel
theorem dX2_leastCorner_6 : decode cX2_leastCorner 6 = .ok (.iload_n 3, 1) := by decide +kernel
theorem dX2_leastCorner_7 : decode cX2_leastCorner 7 = .ok (.aload_n 0, 1) := by decide +kernel
theorem dX2_leastCorner_8 : decode cX2_leastCorner 8 = .ok (.getfield 32, 3) := by decide +kernel
theorem dX2_leastCorner_11 : decode cX2_leastCorner 11 = .ok (.if_icmp .ge 46, 3) := by decide +kernel
theorem dX2_leastCorner_14 : decode cX2_leastCorner 14 = .ok (.aload_n 0, 1) := by decide +kernel
theorem dX2_leastCorner_15 : decode cX2_leastCorner 15 = .ok (.getfield 22, 3) := by decide +kernel
theorem dX2_leastCorner_18 : decode cX2_leastCorner 18 = .ok (.ifnull 39, 3) := by decide +kernel
theorem dX2_leastCorner_21 : decode cX2_leastCorner 21 = .ok (.aload_n 0, 1) := by decide +kernel
theorem dX2_leastCorner_22 : decode cX2_leastCorner 22 = .ok (.getfield 22, 3) := by decide +kernel
theorem dX2_leastCorner_25 : decode cX2_leastCorner 25 = .ok (.aload_n 0, 1) := by decide +kernel
theorem dX2_leastCorner_26 : decode cX2_leastCorner 26 = .ok (.getfield 9, 3) := by decide +kernel
theorem dX2_leastCorner_29 : decode cX2_leastCorner 29 = .ok (.iconst 4, 1) := by decide +kernel
theorem dX2_leastCorner_30 : decode cX2_leastCorner 30 = .ok (.iload_n 3, 1) := by decide +kernel
theorem dX2_leastCorner_31 : decode cX2_leastCorner 31 = .ok (.imul, 1) := by decide +kernel
theorem dX2_leastCorner_32 : decode cX2_leastCorner 32 = .ok (.aload_n 0, 1) := by decide +kernel
theorem dX2_leastCorner_33 : decode cX2_leastCorner 33 = .ok (.getfield 18, 3) := by decide +kernel
theorem dX2_leastCorner_36 : decode cX2_leastCorner 36 = .ok (.invokevirtual 51, 3) := by decide +kernel
theorem dX2_leastCorner_39 : decode cX2_leastCorner 39 = .ok (.lload_n 1, 1) := by decide +kernel
theorem dX2_leastCorner_40 : decode cX2_leastCorner 40 = .ok (.aload_n 0, 1) := by decide +kernel
theorem dX2_leastCorner_41 : decode cX2_leastCorner 41 = .ok (.getfield 18, 3) := by decide +kernel
theorem dX2_leastCorner_44 : decode cX2_leastCorner 44 = .ok (.invokestatic 57, 3) := by decide +kernel
theorem dX2_leastCorner_47 : decode cX2_leastCorner 47 = .ok (.invokestatic 93, 3) := by decide +kernel
theorem dX2_leastCorner_50 : decode cX2_leastCorner 50 = .ok (.lstore_n 1, 1) := by decide +kernel
theorem dX2_leastCorner_51 : decode cX2_leastCorner 51 = .ok (.iinc 3 1, 3) := by decide +kernel
theorem dX2_leastCorner_54 : decode cX2_leastCorner 54 = .ok (.goto (-48), 3) := by decide +kernel
theorem dX2_leastCorner_57 : decode cX2_leastCorner 57 = .ok (.lload_n 1, 1) := by decide +kernel
theorem dX2_leastCorner_58 : decode cX2_leastCorner 58 = .ok (.lreturn, 1) := by decide +kernel
theorem dX3_init_0 : decode cX3_init 0 = .ok (.aload_n 0, 1) := by decide +kernel
theorem dX3_init_1 : decode cX3_init 1 = .ok (.iconst 2, 1) := by decide +kernel
theorem dX3_init_2 : decode cX3_init 2 = .ok (.aload_n 1, 1) := by decide +kernel
theorem dX3_init_3 : decode cX3_init 3 = .ok (.iload_n 2, 1) := by decide +kernel
theorem dX3_init_4 : decode cX3_init 4 = .ok (.aload_n 3, 1) := by decide +kernel
theorem dX3_init_5 : decode cX3_init 5 = .ok (.iload 4, 2) := by decide +kernel
theorem dX3_init_7 : decode cX3_init 7 = .ok (.aload 5, 2) := by decide +kernel
theorem dX3_init_9 : decode cX3_init 9 = .ok (.invokespecial 3, 3) := by decide +kernel
theorem dX3_init_12 : decode cX3_init 12 = .ok (.return_, 1) := by decide +kernel
theorem dX3_pieces_0 : decode cX3_pieces 0 = .ok (.aload_n 0, 1) := by decide +kernel
theorem dX3_pieces_1 : decode cX3_pieces 1 = .ok (.getfield 9, 3) := by decide +kernel
theorem dX3_pieces_4 : decode cX3_pieces 4 = .ok (.arraylength, 1) := by decide +kernel
theorem dX3_pieces_5 : decode cX3_pieces 5 = .ok (.iconst 4, 1) := by decide +kernel
theorem dX3_pieces_6 : decode cX3_pieces 6 = .ok (.idiv, 1) := by decide +kernel
theorem dX3_pieces_7 : decode cX3_pieces 7 = .ok (.ireturn, 1) := by decide +kernel
theorem dX3_telling_0 : decode cX3_telling 0 = .ok (.aload_n 1, 1) := by decide +kernel
theorem dX3_telling_1 : decode cX3_telling 1 = .ok (.iconst 4, 1) := by decide +kernel
theorem dX3_telling_2 : decode cX3_telling 2 = .ok (.invokevirtual 15, 3) := by decide +kernel
theorem dX3_telling_5 : decode cX3_telling 5 = .ok (.aload_n 0, 1) := by decide +kernel
theorem dX3_telling_6 : decode cX3_telling 6 = .ok (.aload_n 1, 1) := by decide +kernel
theorem dX3_telling_7 : decode cX3_telling 7 = .ok (.invokespecial 21, 3) := by decide +kernel
theorem dX3_telling_10 : decode cX3_telling 10 = .ok (.bipush 9, 2) := by decide +kernel
theorem dX3_telling_12 : decode cX3_telling 12 = .ok (.isub, 1) := by decide +kernel
theorem dX3_telling_13 : decode cX3_telling 13 = .ok (.ireturn, 1) := by decide +kernel
theorem dX3_firstWrong_0 : decode cX3_firstWrong 0 = .ok (.aload_n 1, 1) := by decide +kernel
theorem dX3_firstWrong_1 : decode cX3_firstWrong 1 = .ok (.getfield 25, 3) := by decide +kernel
theorem dX3_firstWrong_4 : decode cX3_firstWrong 4 = .ok (.astore_n 2, 1) := by decide +kernel
theorem dX3_firstWrong_5 : decode cX3_firstWrong 5 = .ok (.aload_n 2, 1) := by decide +kernel
theorem dX3_firstWrong_6 : decode cX3_firstWrong 6 = .ok (.aload_n 0, 1) := by decide +kernel
theorem dX3_firstWrong_7 : decode cX3_firstWrong 7 = .ok (.getfield 29, 3) := by decide +kernel
theorem dX3_firstWrong_10 : decode cX3_firstWrong 10 = .ok (.aload_n 0, 1) := by decide +kernel
theorem dX3_firstWrong_11 : decode cX3_firstWrong 11 = .ok (.getfield 33, 3) := by decide +kernel
theorem dX3_firstWrong_14 : decode cX3_firstWrong 14 = .ok (.iconst 0, 1) := by decide +kernel
theorem dX3_firstWrong_15 : decode cX3_firstWrong 15 = .ok (.invokevirtual 37, 3) := by decide +kernel
theorem dX3_firstWrong_18 : decode cX3_firstWrong 18 = .ok (.aload_n 2, 1) := by decide +kernel
theorem dX3_firstWrong_19 : decode cX3_firstWrong 19 = .ok (.sipush 500, 3) := by decide +kernel
theorem dX3_firstWrong_22 : decode cX3_firstWrong 22 = .ok (.invokevirtual 42, 3) := by decide +kernel
theorem dX3_firstWrong_25 : decode cX3_firstWrong 25 = .ok (.pop, 1) := by decide +kernel
theorem dX3_firstWrong_26 : decode cX3_firstWrong 26 = .ok (.iconst 0, 1) := by decide +kernel
theorem dX3_firstWrong_27 : decode cX3_firstWrong 27 = .ok (.istore_n 3, 1) := by decide +kernel
theorem dX3_firstWrong_28 : decode cX3_firstWrong 28 = .ok (.iload_n 3, 1) := by decide +kernel
theorem dX3_firstWrong_29 : decode cX3_firstWrong 29 = .ok (.aload_n 0, 1) := by decide +kernel
theorem dX3_firstWrong_30 : decode cX3_firstWrong 30 = .ok (.getfield 9, 3) := by decide +kernel
theorem dX3_firstWrong_33 : decode cX3_firstWrong 33 = .ok (.arraylength, 1) := by decide +kernel
theorem dX3_firstWrong_34 : decode cX3_firstWrong 34 = .ok (.if_icmp .ge 30, 3) := by decide +kernel
theorem dX3_firstWrong_37 : decode cX3_firstWrong 37 = .ok (.aload_n 0, 1) := by decide +kernel
theorem dX3_firstWrong_38 : decode cX3_firstWrong 38 = .ok (.getfield 9, 3) := by decide +kernel
theorem dX3_firstWrong_41 : decode cX3_firstWrong 41 = .ok (.iload_n 3, 1) := by decide +kernel
theorem dX3_firstWrong_42 : decode cX3_firstWrong 42 = .ok (.laload, 1) := by decide +kernel
theorem dX3_firstWrong_43 : decode cX3_firstWrong 43 = .ok (.aload_n 2, 1) := by decide +kernel
theorem dX3_firstWrong_44 : decode cX3_firstWrong 44 = .ok (.getfield 46, 3) := by decide +kernel
theorem dX3_firstWrong_47 : decode cX3_firstWrong 47 = .ok (.iload_n 3, 1) := by decide +kernel
theorem dX3_firstWrong_48 : decode cX3_firstWrong 48 = .ok (.iaload, 1) := by decide +kernel
theorem dX3_firstWrong_49 : decode cX3_firstWrong 49 = .ok (.i2l, 1) := by decide +kernel
theorem dX3_firstWrong_50 : decode cX3_firstWrong 50 = .ok (.lcmp, 1) := by decide +kernel
theorem dX3_firstWrong_51 : decode cX3_firstWrong 51 = .ok (.ifCond .eq 7, 3) := by decide +kernel
theorem dX3_firstWrong_54 : decode cX3_firstWrong 54 = .ok (.iload_n 3, 1) := by decide +kernel
theorem dX3_firstWrong_55 : decode cX3_firstWrong 55 = .ok (.iconst 4, 1) := by decide +kernel
theorem dX3_firstWrong_56 : decode cX3_firstWrong 56 = .ok (.idiv, 1) := by decide +kernel
theorem dX3_firstWrong_57 : decode cX3_firstWrong 57 = .ok (.ireturn, 1) := by decide +kernel
theorem dX3_firstWrong_58 : decode cX3_firstWrong 58 = .ok (.iinc 3 1, 3) := by decide +kernel
theorem dX3_firstWrong_61 : decode cX3_firstWrong 61 = .ok (.goto (-33), 3) := by decide +kernel
theorem dX3_firstWrong_64 : decode cX3_firstWrong 64 = .ok (.iconst (-1), 1) := by decide +kernel
theorem dX3_firstWrong_65 : decode cX3_firstWrong 65 = .ok (.ireturn, 1) := by decide +kernel
theorem dX4_init_0 : decode cX4_init 0 = .ok (.aload_n 0, 1) := by decide +kernel
theorem dX4_init_1 : decode cX4_init 1 = .ok (.invokespecial 3, 3) := by decide +kernel
theorem dX4_init_4 : decode cX4_init 4 = .ok (.aload_n 0, 1) := by decide +kernel
theorem dX4_init_5 : decode cX4_init 5 = .ok (.aload_n 1, 1) := by decide +kernel
theorem dX4_init_6 : decode cX4_init 6 = .ok (.putfield 9, 3) := by decide +kernel
theorem dX4_init_9 : decode cX4_init 9 = .ok (.return_, 1) := by decide +kernel
theorem dX4_between_0 : decode cX4_between 0 = .ok (.ldc2_w 15, 3) := by decide +kernel
theorem dX4_between_3 : decode cX4_between 3 = .ok (.lload 5, 2) := by decide +kernel
theorem dX4_between_5 : decode cX4_between 5 = .ok (.lload 7, 2) := by decide +kernel
theorem dX4_between_7 : decode cX4_between 7 = .ok (.ladd, 1) := by decide +kernel
theorem dX4_between_8 : decode cX4_between 8 = .ok (.lmul, 1) := by decide +kernel
theorem dX4_between_9 : decode cX4_between 9 = .ok (.lstore 9, 2) := by decide +kernel
theorem dX4_between_11 : decode cX4_between 11 = .ok (.ldc2_w 17, 3) := by decide +kernel
theorem dX4_between_14 : decode cX4_between 14 = .ok (.lload 5, 2) := by decide +kernel
theorem dX4_between_16 : decode cX4_between 16 = .ok (.lmul, 1) := by decide +kernel
theorem dX4_between_17 : decode cX4_between 17 = .ok (.lload 7, 2) := by decide +kernel
theorem dX4_between_19 : decode cX4_between 19 = .ok (.lmul, 1) := by decide +kernel
theorem dX4_between_20 : decode cX4_between 20 = .ok (.lstore 11, 2) := by decide +kernel
theorem dX4_between_22 : decode cX4_between 22 = .ok (.aload_n 0, 1) := by decide +kernel
theorem dX4_between_23 : decode cX4_between 23 = .ok (.getfield 9, 3) := by decide +kernel
theorem dX4_between_26 : decode cX4_between 26 = .ok (.iconst 0, 1) := by decide +kernel
theorem dX4_between_27 : decode cX4_between 27 = .ok (.laload, 1) := by decide +kernel
theorem dX4_between_28 : decode cX4_between 28 = .ok (.ldc2_w 19, 3) := by decide +kernel
theorem dX4_between_31 : decode cX4_between 31 = .ok (.lmul, 1) := by decide +kernel
theorem dX4_between_32 : decode cX4_between 32 = .ok (.aload_n 0, 1) := by decide +kernel
theorem dX4_between_33 : decode cX4_between 33 = .ok (.getfield 9, 3) := by decide +kernel
theorem dX4_between_36 : decode cX4_between 36 = .ok (.iconst 1, 1) := by decide +kernel
theorem dX4_between_37 : decode cX4_between 37 = .ok (.laload, 1) := by decide +kernel
theorem dX4_between_38 : decode cX4_between 38 = .ok (.lload 9, 2) := by decide +kernel
theorem dX4_between_40 : decode cX4_between 40 = .ok (.lmul, 1) := by decide +kernel
theorem dX4_between_41 : decode cX4_between 41 = .ok (.ladd, 1) := by decide +kernel
theorem dX4_between_42 : decode cX4_between 42 = .ok (.aload_n 0, 1) := by decide +kernel
theorem dX4_between_43 : decode cX4_between 43 = .ok (.getfield 9, 3) := by decide +kernel
theorem dX4_between_46 : decode cX4_between 46 = .ok (.iconst 2, 1) := by decide +kernel
theorem dX4_between_47 : decode cX4_between 47 = .ok (.laload, 1) := by decide +kernel
theorem dX4_between_48 : decode cX4_between 48 = .ok (.lload 11, 2) := by decide +kernel
theorem dX4_between_50 : decode cX4_between 50 = .ok (.lmul, 1) := by decide +kernel
theorem dX4_between_51 : decode cX4_between 51 = .ok (.ladd, 1) := by decide +kernel
theorem dX4_between_52 : decode cX4_between 52 = .ok (.lstore 13, 2) := by decide +kernel
theorem dX4_between_54 : decode cX4_between 54 = .ok (.aload_n 0, 1) := by decide +kernel
theorem dX4_between_55 : decode cX4_between 55 = .ok (.getfield 9, 3) := by decide +kernel
theorem dX4_between_58 : decode cX4_between 58 = .ok (.iconst 3, 1) := by decide +kernel
theorem dX4_between_59 : decode cX4_between 59 = .ok (.laload, 1) := by decide +kernel
theorem dX4_between_60 : decode cX4_between 60 = .ok (.ldc2_w 19, 3) := by decide +kernel
theorem dX4_between_63 : decode cX4_between 63 = .ok (.lmul, 1) := by decide +kernel
theorem dX4_between_64 : decode cX4_between 64 = .ok (.aload_n 0, 1) := by decide +kernel
theorem dX4_between_65 : decode cX4_between 65 = .ok (.getfield 9, 3) := by decide +kernel
theorem dX4_between_68 : decode cX4_between 68 = .ok (.iconst 4, 1) := by decide +kernel
theorem dX4_between_69 : decode cX4_between 69 = .ok (.laload, 1) := by decide +kernel
theorem dX4_between_70 : decode cX4_between 70 = .ok (.lload 9, 2) := by decide +kernel
theorem dX4_between_72 : decode cX4_between 72 = .ok (.lmul, 1) := by decide +kernel
theorem dX4_between_73 : decode cX4_between 73 = .ok (.ladd, 1) := by decide +kernel
theorem dX4_between_74 : decode cX4_between 74 = .ok (.aload_n 0, 1) := by decide +kernel
theorem dX4_between_75 : decode cX4_between 75 = .ok (.getfield 9, 3) := by decide +kernel
theorem dX4_between_78 : decode cX4_between 78 = .ok (.iconst 5, 1) := by decide +kernel
theorem dX4_between_79 : decode cX4_between 79 = .ok (.laload, 1) := by decide +kernel
theorem dX4_between_80 : decode cX4_between 80 = .ok (.lload 11, 2) := by decide +kernel
theorem dX4_between_82 : decode cX4_between 82 = .ok (.lmul, 1) := by decide +kernel
theorem dX4_between_83 : decode cX4_between 83 = .ok (.ladd, 1) := by decide +kernel
theorem dX4_between_84 : decode cX4_between 84 = .ok (.lstore 15, 2) := by decide +kernel
theorem dX4_between_86 : decode cX4_between 86 = .ok (.aload_n 0, 1) := by decide +kernel
theorem dX4_between_87 : decode cX4_between 87 = .ok (.getfield 9, 3) := by decide +kernel
theorem dX4_between_90 : decode cX4_between 90 = .ok (.bipush 6, 2) := by decide +kernel
theorem dX4_between_92 : decode cX4_between 92 = .ok (.laload, 1) := by decide +kernel
theorem dX4_between_93 : decode cX4_between 93 = .ok (.ldc2_w 19, 3) := by decide +kernel
theorem dX4_between_96 : decode cX4_between 96 = .ok (.lmul, 1) := by decide +kernel
theorem dX4_between_97 : decode cX4_between 97 = .ok (.aload_n 0, 1) := by decide +kernel
theorem dX4_between_98 : decode cX4_between 98 = .ok (.getfield 9, 3) := by decide +kernel
theorem dX4_between_101 : decode cX4_between 101 = .ok (.bipush 7, 2) := by decide +kernel
theorem dX4_between_103 : decode cX4_between 103 = .ok (.laload, 1) := by decide +kernel
theorem dX4_between_104 : decode cX4_between 104 = .ok (.lload 9, 2) := by decide +kernel
theorem dX4_between_106 : decode cX4_between 106 = .ok (.lmul, 1) := by decide +kernel
theorem dX4_between_107 : decode cX4_between 107 = .ok (.ladd, 1) := by decide +kernel
theorem dX4_between_108 : decode cX4_between 108 = .ok (.aload_n 0, 1) := by decide +kernel
theorem dX4_between_109 : decode cX4_between 109 = .ok (.getfield 9, 3) := by decide +kernel
theorem dX4_between_112 : decode cX4_between 112 = .ok (.bipush 8, 2) := by decide +kernel
theorem dX4_between_114 : decode cX4_between 114 = .ok (.laload, 1) := by decide +kernel
theorem dX4_between_115 : decode cX4_between 115 = .ok (.lload 11, 2) := by decide +kernel
theorem dX4_between_117 : decode cX4_between 117 = .ok (.lmul, 1) := by decide +kernel
theorem dX4_between_118 : decode cX4_between 118 = .ok (.ladd, 1) := by decide +kernel
theorem dX4_between_119 : decode cX4_between 119 = .ok (.lstore 17, 2) := by decide +kernel
theorem dX4_between_121 : decode cX4_between 121 = .ok (.lload 13, 2) := by decide +kernel
theorem dX4_between_123 : decode cX4_between 123 = .ok (.ldc2_w 19, 3) := by decide +kernel
theorem dX4_between_126 : decode cX4_between 126 = .ok (.lmul, 1) := by decide +kernel
theorem dX4_between_127 : decode cX4_between 127 = .ok (.lload 15, 2) := by decide +kernel
theorem dX4_between_129 : decode cX4_between 129 = .ok (.ldc2_w 15, 3) := by decide +kernel
theorem dX4_between_132 : decode cX4_between 132 = .ok (.lload_n 1, 1) := by decide +kernel
theorem dX4_between_133 : decode cX4_between 133 = .ok (.lload_n 3, 1) := by decide +kernel
theorem dX4_between_134 : decode cX4_between 134 = .ok (.ladd, 1) := by decide +kernel
theorem dX4_between_135 : decode cX4_between 135 = .ok (.lmul, 1) := by decide +kernel
theorem dX4_between_136 : decode cX4_between 136 = .ok (.lmul, 1) := by decide +kernel
theorem dX4_between_137 : decode cX4_between 137 = .ok (.ladd, 1) := by decide +kernel
theorem dX4_between_138 : decode cX4_between 138 = .ok (.lload 17, 2) := by decide +kernel
theorem dX4_between_140 : decode cX4_between 140 = .ok (.ldc2_w 17, 3) := by decide +kernel
theorem dX4_between_143 : decode cX4_between 143 = .ok (.lload_n 1, 1) := by decide +kernel
theorem dX4_between_144 : decode cX4_between 144 = .ok (.lmul, 1) := by decide +kernel
theorem dX4_between_145 : decode cX4_between 145 = .ok (.lload_n 3, 1) := by decide +kernel
theorem dX4_between_146 : decode cX4_between 146 = .ok (.lmul, 1) := by decide +kernel
theorem dX4_between_147 : decode cX4_between 147 = .ok (.lmul, 1) := by decide +kernel
theorem dX4_between_148 : decode cX4_between 148 = .ok (.ladd, 1) := by decide +kernel
theorem dX4_between_149 : decode cX4_between 149 = .ok (.lreturn, 1) := by decide +kernel
theorem dX4_cornerOn_0 : decode cX4_cornerOn 0 = .ok (.iload_n 3, 1) := by decide +kernel
theorem dX4_cornerOn_1 : decode cX4_cornerOn 1 = .ok (.iconst 3, 1) := by decide +kernel
theorem dX4_cornerOn_2 : decode cX4_cornerOn 2 = .ok (.idiv, 1) := by decide +kernel
theorem dX4_cornerOn_3 : decode cX4_cornerOn 3 = .ok (.istore 4, 2) := by decide +kernel
theorem dX4_cornerOn_5 : decode cX4_cornerOn 5 = .ok (.iload_n 3, 1) := by decide +kernel
theorem dX4_cornerOn_6 : decode cX4_cornerOn 6 = .ok (.iconst 3, 1) := by decide +kernel
theorem dX4_cornerOn_7 : decode cX4_cornerOn 7 = .ok (.irem, 1) := by decide +kernel
theorem dX4_cornerOn_8 : decode cX4_cornerOn 8 = .ok (.istore 5, 2) := by decide +kernel
theorem dX4_cornerOn_10 : decode cX4_cornerOn 10 = .ok (.aload_n 1, 1) := by decide +kernel
theorem dX4_cornerOn_11 : decode cX4_cornerOn 11 = .ok (.iload 4, 2) := by decide +kernel
theorem dX4_cornerOn_13 : decode cX4_cornerOn 13 = .ok (.iconst 2, 1) := by decide +kernel
theorem dX4_cornerOn_14 : decode cX4_cornerOn 14 = .ok (.if_icmp .ne 9, 3) := by decide +kernel
theorem dX4_cornerOn_17 : decode cX4_cornerOn 17 = .ok (.iload_n 2, 1) := by decide +kernel
theorem dX4_cornerOn_18 : decode cX4_cornerOn 18 = .ok (.iconst 1, 1) := by decide +kernel
theorem dX4_cornerOn_19 : decode cX4_cornerOn 19 = .ok (.iadd, 1) := by decide +kernel
theorem dX4_cornerOn_20 : decode cX4_cornerOn 20 = .ok (.goto 4, 3) := by decide +kernel
theorem dX4_cornerOn_23 : decode cX4_cornerOn 23 = .ok (.iload_n 2, 1) := by decide +kernel
theorem dX4_cornerOn_24 : decode cX4_cornerOn 24 = .ok (.iaload, 1) := by decide +kernel
theorem dX4_cornerOn_25 : decode cX4_cornerOn 25 = .ok (.istore 6, 2) := by decide +kernel
theorem dX4_cornerOn_27 : decode cX4_cornerOn 27 = .ok (.aload_n 1, 1) := by decide +kernel
theorem dX4_cornerOn_28 : decode cX4_cornerOn 28 = .ok (.iload 4, 2) := by decide +kernel
theorem dX4_cornerOn_30 : decode cX4_cornerOn 30 = .ok (.ifCond .ne 7, 3) := by decide +kernel
theorem dX4_cornerOn_33 : decode cX4_cornerOn 33 = .ok (.iload_n 2, 1) := by decide +kernel
theorem dX4_cornerOn_34 : decode cX4_cornerOn 34 = .ok (.goto 6, 3) := by decide +kernel
theorem dX4_cornerOn_37 : decode cX4_cornerOn 37 = .ok (.iload_n 2, 1) := by decide +kernel
theorem dX4_cornerOn_38 : decode cX4_cornerOn 38 = .ok (.iconst 1, 1) := by decide +kernel
theorem dX4_cornerOn_39 : decode cX4_cornerOn 39 = .ok (.iadd, 1) := by decide +kernel
theorem dX4_cornerOn_40 : decode cX4_cornerOn 40 = .ok (.iaload, 1) := by decide +kernel
theorem dX4_cornerOn_41 : decode cX4_cornerOn 41 = .ok (.istore 7, 2) := by decide +kernel
theorem dX4_cornerOn_43 : decode cX4_cornerOn 43 = .ok (.aload_n 1, 1) := by decide +kernel
theorem dX4_cornerOn_44 : decode cX4_cornerOn 44 = .ok (.iload 5, 2) := by decide +kernel
theorem dX4_cornerOn_46 : decode cX4_cornerOn 46 = .ok (.iconst 2, 1) := by decide +kernel
theorem dX4_cornerOn_47 : decode cX4_cornerOn 47 = .ok (.if_icmp .ne 9, 3) := by decide +kernel
theorem dX4_cornerOn_50 : decode cX4_cornerOn 50 = .ok (.iload_n 2, 1) := by decide +kernel
theorem dX4_cornerOn_51 : decode cX4_cornerOn 51 = .ok (.iconst 3, 1) := by decide +kernel
theorem dX4_cornerOn_52 : decode cX4_cornerOn 52 = .ok (.iadd, 1) := by decide +kernel
theorem dX4_cornerOn_53 : decode cX4_cornerOn 53 = .ok (.goto 6, 3) := by decide +kernel
theorem dX4_cornerOn_56 : decode cX4_cornerOn 56 = .ok (.iload_n 2, 1) := by decide +kernel
theorem dX4_cornerOn_57 : decode cX4_cornerOn 57 = .ok (.iconst 2, 1) := by decide +kernel
theorem dX4_cornerOn_58 : decode cX4_cornerOn 58 = .ok (.iadd, 1) := by decide +kernel
theorem dX4_cornerOn_59 : decode cX4_cornerOn 59 = .ok (.iaload, 1) := by decide +kernel
theorem dX4_cornerOn_60 : decode cX4_cornerOn 60 = .ok (.istore 8, 2) := by decide +kernel
theorem dX4_cornerOn_62 : decode cX4_cornerOn 62 = .ok (.aload_n 1, 1) := by decide +kernel
theorem dX4_cornerOn_63 : decode cX4_cornerOn 63 = .ok (.iload 5, 2) := by decide +kernel
theorem dX4_cornerOn_65 : decode cX4_cornerOn 65 = .ok (.ifCond .ne 9, 3) := by decide +kernel
theorem dX4_cornerOn_68 : decode cX4_cornerOn 68 = .ok (.iload_n 2, 1) := by decide +kernel
theorem dX4_cornerOn_69 : decode cX4_cornerOn 69 = .ok (.iconst 2, 1) := by decide +kernel
theorem dX4_cornerOn_70 : decode cX4_cornerOn 70 = .ok (.iadd, 1) := by decide +kernel
theorem dX4_cornerOn_71 : decode cX4_cornerOn 71 = .ok (.goto 6, 3) := by decide +kernel
theorem dX4_cornerOn_74 : decode cX4_cornerOn 74 = .ok (.iload_n 2, 1) := by decide +kernel
theorem dX4_cornerOn_75 : decode cX4_cornerOn 75 = .ok (.iconst 3, 1) := by decide +kernel
theorem dX4_cornerOn_76 : decode cX4_cornerOn 76 = .ok (.iadd, 1) := by decide +kernel
theorem dX4_cornerOn_77 : decode cX4_cornerOn 77 = .ok (.iaload, 1) := by decide +kernel
theorem dX4_cornerOn_78 : decode cX4_cornerOn 78 = .ok (.istore 9, 2) := by decide +kernel
theorem dX4_cornerOn_80 : decode cX4_cornerOn 80 = .ok (.aload_n 0, 1) := by decide +kernel
theorem dX4_cornerOn_81 : decode cX4_cornerOn 81 = .ok (.iload 6, 2) := by decide +kernel
theorem dX4_cornerOn_83 : decode cX4_cornerOn 83 = .ok (.i2l, 1) := by decide +kernel
theorem dX4_cornerOn_84 : decode cX4_cornerOn 84 = .ok (.iload 7, 2) := by decide +kernel
theorem dX4_cornerOn_86 : decode cX4_cornerOn 86 = .ok (.i2l, 1) := by decide +kernel
theorem dX4_cornerOn_87 : decode cX4_cornerOn 87 = .ok (.iload 8, 2) := by decide +kernel
theorem dX4_cornerOn_89 : decode cX4_cornerOn 89 = .ok (.i2l, 1) := by decide +kernel
theorem dX4_cornerOn_90 : decode cX4_cornerOn 90 = .ok (.iload 9, 2) := by decide +kernel
theorem dX4_cornerOn_92 : decode cX4_cornerOn 92 = .ok (.i2l, 1) := by decide +kernel
theorem dX4_cornerOn_93 : decode cX4_cornerOn 93 = .ok (.invokevirtual 21, 3) := by decide +kernel
theorem dX4_cornerOn_96 : decode cX4_cornerOn 96 = .ok (.lreturn, 1) := by decide +kernel
theorem dX4_cornersOn_0 : decode cX4_cornersOn 0 = .ok (.iconst 0, 1) := by decide +kernel
theorem dX4_cornersOn_1 : decode cX4_cornersOn 1 = .ok (.istore 4, 2) := by decide +kernel
theorem dX4_cornersOn_3 : decode cX4_cornersOn 3 = .ok (.iload 4, 2) := by decide +kernel
theorem dX4_cornersOn_5 : decode cX4_cornersOn 5 = .ok (.bipush 9, 2) := by decide +kernel
theorem dX4_cornersOn_7 : decode cX4_cornersOn 7 = .ok (.if_icmp .ge 21, 3) := by decide +kernel
theorem dX4_cornersOn_10 : decode cX4_cornersOn 10 = .ok (.aload_n 3, 1) := by decide +kernel
theorem dX4_cornersOn_11 : decode cX4_cornersOn 11 = .ok (.iload 4, 2) := by decide +kernel
theorem dX4_cornersOn_13 : decode cX4_cornersOn 13 = .ok (.aload_n 0, 1) := by decide +kernel
theorem dX4_cornersOn_14 : decode cX4_cornersOn 14 = .ok (.aload_n 1, 1) := by decide +kernel
theorem dX4_cornersOn_15 : decode cX4_cornersOn 15 = .ok (.iload_n 2, 1) := by decide +kernel
theorem dX4_cornersOn_16 : decode cX4_cornersOn 16 = .ok (.iload 4, 2) := by decide +kernel
theorem dX4_cornersOn_18 : decode cX4_cornersOn 18 = .ok (.invokevirtual 25, 3) := by decide +kernel
theorem dX4_cornersOn_21 : decode cX4_cornersOn 21 = .ok (.lastore, 1) := by decide +kernel
theorem dX4_cornersOn_22 : decode cX4_cornersOn 22 = .ok (.iinc 4 1, 3) := by decide +kernel
theorem dX4_cornersOn_25 : decode cX4_cornersOn 25 = .ok (.goto (-22), 3) := by decide +kernel
theorem dX4_cornersOn_28 : decode cX4_cornersOn 28 = .ok (.return_, 1) := by decide +kernel
theorem dX4_multiplyInto_0 : decode cX4_multiplyInto 0 = .ok (.bipush 25, 2) := by decide +kernel
theorem dX4_multiplyInto_2 : decode cX4_multiplyInto 2 = .ok (.newarray .long, 2) := by decide +kernel
theorem dX4_multiplyInto_4 : decode cX4_multiplyInto 4 = .ok (.astore_n 3, 1) := by decide +kernel
theorem dX4_multiplyInto_5 : decode cX4_multiplyInto 5 = .ok (.iconst 0, 1) := by decide +kernel
theorem dX4_multiplyInto_6 : decode cX4_multiplyInto 6 = .ok (.istore 4, 2) := by decide +kernel
theorem dX4_multiplyInto_8 : decode cX4_multiplyInto 8 = .ok (.iload 4, 2) := by decide +kernel
theorem dX4_multiplyInto_10 : decode cX4_multiplyInto 10 = .ok (.bipush 9, 2) := by decide +kernel
theorem dX4_multiplyInto_12 : decode cX4_multiplyInto 12 = .ok (.if_icmp .ge 66, 3) := by decide +kernel
theorem dX4_multiplyInto_15 : decode cX4_multiplyInto 15 = .ok (.iconst 0, 1) := by decide +kernel
theorem dX4_multiplyInto_16 : decode cX4_multiplyInto 16 = .ok (.istore 5, 2) := by decide +kernel
theorem dX4_multiplyInto_18 : decode cX4_multiplyInto 18 = .ok (.iload 5, 2) := by decide +kernel
theorem dX4_multiplyInto_20 : decode cX4_multiplyInto 20 = .ok (.bipush 9, 2) := by decide +kernel
theorem dX4_multiplyInto_22 : decode cX4_multiplyInto 22 = .ok (.if_icmp .ge 50, 3) := by decide +kernel
theorem dX4_multiplyInto_25 : decode cX4_multiplyInto 25 = .ok (.aload_n 3, 1) := by decide +kernel
theorem dX4_multiplyInto_26 : decode cX4_multiplyInto 26 = .ok (.iconst 5, 1) := by decide +kernel
theorem dX4_multiplyInto_27 : decode cX4_multiplyInto 27 = .ok (.iload 4, 2) := by decide +kernel
theorem dX4_multiplyInto_29 : decode cX4_multiplyInto 29 = .ok (.iconst 3, 1) := by decide +kernel
theorem dX4_multiplyInto_30 : decode cX4_multiplyInto 30 = .ok (.idiv, 1) := by decide +kernel
theorem dX4_multiplyInto_31 : decode cX4_multiplyInto 31 = .ok (.iload 5, 2) := by decide +kernel
theorem dX4_multiplyInto_33 : decode cX4_multiplyInto 33 = .ok (.iconst 3, 1) := by decide +kernel
theorem dX4_multiplyInto_34 : decode cX4_multiplyInto 34 = .ok (.idiv, 1) := by decide +kernel
theorem dX4_multiplyInto_35 : decode cX4_multiplyInto 35 = .ok (.iadd, 1) := by decide +kernel
theorem dX4_multiplyInto_36 : decode cX4_multiplyInto 36 = .ok (.imul, 1) := by decide +kernel
theorem dX4_multiplyInto_37 : decode cX4_multiplyInto 37 = .ok (.iload 4, 2) := by decide +kernel
theorem dX4_multiplyInto_39 : decode cX4_multiplyInto 39 = .ok (.iconst 3, 1) := by decide +kernel
theorem dX4_multiplyInto_40 : decode cX4_multiplyInto 40 = .ok (.irem, 1) := by decide +kernel
theorem dX4_multiplyInto_41 : decode cX4_multiplyInto 41 = .ok (.iadd, 1) := by decide +kernel
theorem dX4_multiplyInto_42 : decode cX4_multiplyInto 42 = .ok (.iload 5, 2) := by decide +kernel
theorem dX4_multiplyInto_44 : decode cX4_multiplyInto 44 = .ok (.iconst 3, 1) := by decide +kernel
theorem dX4_multiplyInto_45 : decode cX4_multiplyInto 45 = .ok (.irem, 1) := by decide +kernel
theorem dX4_multiplyInto_46 : decode cX4_multiplyInto 46 = .ok (.iadd, 1) := by decide +kernel
theorem dX4_multiplyInto_47 : decode cX4_multiplyInto 47 = .ok (.dup2, 1) := by decide +kernel
theorem dX4_multiplyInto_48 : decode cX4_multiplyInto 48 = .ok (.laload, 1) := by decide +kernel
theorem dX4_multiplyInto_49 : decode cX4_multiplyInto 49 = .ok (.aload_n 0, 1) := by decide +kernel
theorem dX4_multiplyInto_50 : decode cX4_multiplyInto 50 = .ok (.getfield 9, 3) := by decide +kernel
theorem dX4_multiplyInto_53 : decode cX4_multiplyInto 53 = .ok (.iload 4, 2) := by decide +kernel
theorem dX4_multiplyInto_55 : decode cX4_multiplyInto 55 = .ok (.laload, 1) := by decide +kernel
theorem dX4_multiplyInto_56 : decode cX4_multiplyInto 56 = .ok (.aload_n 1, 1) := by decide +kernel
theorem dX4_multiplyInto_57 : decode cX4_multiplyInto 57 = .ok (.getfield 9, 3) := by decide +kernel
theorem dX4_multiplyInto_60 : decode cX4_multiplyInto 60 = .ok (.iload 5, 2) := by decide +kernel
theorem dX4_multiplyInto_62 : decode cX4_multiplyInto 62 = .ok (.laload, 1) := by decide +kernel
theorem dX4_multiplyInto_63 : decode cX4_multiplyInto 63 = .ok (.lmul, 1) := by decide +kernel
theorem dX4_multiplyInto_64 : decode cX4_multiplyInto 64 = .ok (.ladd, 1) := by decide +kernel
theorem dX4_multiplyInto_65 : decode cX4_multiplyInto 65 = .ok (.lastore, 1) := by decide +kernel
theorem dX4_multiplyInto_66 : decode cX4_multiplyInto 66 = .ok (.iinc 5 1, 3) := by decide +kernel
theorem dX4_multiplyInto_69 : decode cX4_multiplyInto 69 = .ok (.goto (-51), 3) := by decide +kernel
theorem dX4_multiplyInto_72 : decode cX4_multiplyInto 72 = .ok (.iinc 4 1, 3) := by decide +kernel
theorem dX4_multiplyInto_75 : decode cX4_multiplyInto 75 = .ok (.goto (-67), 3) := by decide +kernel
theorem dX4_multiplyInto_78 : decode cX4_multiplyInto 78 = .ok (.iconst 0, 1) := by decide +kernel
theorem dX4_multiplyInto_79 : decode cX4_multiplyInto 79 = .ok (.istore 4, 2) := by decide +kernel
theorem dX4_multiplyInto_81 : decode cX4_multiplyInto 81 = .ok (.iconst 0, 1) := by decide +kernel
theorem dX4_multiplyInto_82 : decode cX4_multiplyInto 82 = .ok (.istore 5, 2) := by decide +kernel
theorem dX4_multiplyInto_84 : decode cX4_multiplyInto 84 = .ok (.iload 5, 2) := by decide +kernel
theorem dX4_multiplyInto_86 : decode cX4_multiplyInto 86 = .ok (.aload_n 3, 1) := by decide +kernel
theorem dX4_multiplyInto_87 : decode cX4_multiplyInto 87 = .ok (.arraylength, 1) := by decide +kernel
theorem dX4_multiplyInto_88 : decode cX4_multiplyInto 88 = .ok (.if_icmp .ge 61, 3) := by decide +kernel
theorem dX4_multiplyInto_91 : decode cX4_multiplyInto 91 = .ok (.iload 5, 2) := by decide +kernel
theorem dX4_multiplyInto_93 : decode cX4_multiplyInto 93 = .ok (.iconst 5, 1) := by decide +kernel
theorem dX4_multiplyInto_94 : decode cX4_multiplyInto 94 = .ok (.idiv, 1) := by decide +kernel
theorem dX4_multiplyInto_95 : decode cX4_multiplyInto 95 = .ok (.istore 6, 2) := by decide +kernel
theorem dX4_multiplyInto_97 : decode cX4_multiplyInto 97 = .ok (.iload 5, 2) := by decide +kernel
theorem dX4_multiplyInto_99 : decode cX4_multiplyInto 99 = .ok (.iconst 5, 1) := by decide +kernel
theorem dX4_multiplyInto_100 : decode cX4_multiplyInto 100 = .ok (.irem, 1) := by decide +kernel
theorem dX4_multiplyInto_101 : decode cX4_multiplyInto 101 = .ok (.istore 7, 2) := by decide +kernel
theorem dX4_multiplyInto_103 : decode cX4_multiplyInto 103 = .ok (.iload 6, 2) := by decide +kernel
theorem dX4_multiplyInto_105 : decode cX4_multiplyInto 105 = .ok (.iconst 2, 1) := by decide +kernel
theorem dX4_multiplyInto_106 : decode cX4_multiplyInto 106 = .ok (.if_icmp .gt 25, 3) := by decide +kernel
theorem dX4_multiplyInto_109 : decode cX4_multiplyInto 109 = .ok (.iload 7, 2) := by decide +kernel
theorem dX4_multiplyInto_111 : decode cX4_multiplyInto 111 = .ok (.iconst 2, 1) := by decide +kernel
theorem dX4_multiplyInto_112 : decode cX4_multiplyInto 112 = .ok (.if_icmp .gt 19, 3) := by decide +kernel
theorem dX4_multiplyInto_115 : decode cX4_multiplyInto 115 = .ok (.aload_n 2, 1) := by decide +kernel
theorem dX4_multiplyInto_116 : decode cX4_multiplyInto 116 = .ok (.iconst 3, 1) := by decide +kernel
theorem dX4_multiplyInto_117 : decode cX4_multiplyInto 117 = .ok (.iload 6, 2) := by decide +kernel
theorem dX4_multiplyInto_119 : decode cX4_multiplyInto 119 = .ok (.imul, 1) := by decide +kernel
theorem dX4_multiplyInto_120 : decode cX4_multiplyInto 120 = .ok (.iload 7, 2) := by decide +kernel
theorem dX4_multiplyInto_122 : decode cX4_multiplyInto 122 = .ok (.iadd, 1) := by decide +kernel
theorem dX4_multiplyInto_123 : decode cX4_multiplyInto 123 = .ok (.aload_n 3, 1) := by decide +kernel
theorem dX4_multiplyInto_124 : decode cX4_multiplyInto 124 = .ok (.iload 5, 2) := by decide +kernel
theorem dX4_multiplyInto_126 : decode cX4_multiplyInto 126 = .ok (.laload, 1) := by decide +kernel
theorem dX4_multiplyInto_127 : decode cX4_multiplyInto 127 = .ok (.lastore, 1) := by decide +kernel
theorem dX4_multiplyInto_128 : decode cX4_multiplyInto 128 = .ok (.goto 15, 3) := by decide +kernel
theorem dX4_multiplyInto_131 : decode cX4_multiplyInto 131 = .ok (.aload_n 3, 1) := by decide +kernel
theorem dX4_multiplyInto_132 : decode cX4_multiplyInto 132 = .ok (.iload 5, 2) := by decide +kernel
theorem dX4_multiplyInto_134 : decode cX4_multiplyInto 134 = .ok (.laload, 1) := by decide +kernel
theorem dX4_multiplyInto_135 : decode cX4_multiplyInto 135 = .ok (.lconst 0, 1) := by decide +kernel
theorem dX4_multiplyInto_136 : decode cX4_multiplyInto 136 = .ok (.lcmp, 1) := by decide +kernel
theorem dX4_multiplyInto_137 : decode cX4_multiplyInto 137 = .ok (.ifCond .eq 6, 3) := by decide +kernel
theorem dX4_multiplyInto_140 : decode cX4_multiplyInto 140 = .ok (.iconst 1, 1) := by decide +kernel
theorem dX4_multiplyInto_141 : decode cX4_multiplyInto 141 = .ok (.istore 4, 2) := by decide +kernel
theorem dX4_multiplyInto_143 : decode cX4_multiplyInto 143 = .ok (.iinc 5 1, 3) := by decide +kernel
theorem dX4_multiplyInto_146 : decode cX4_multiplyInto 146 = .ok (.goto (-62), 3) := by decide +kernel
theorem dX4_multiplyInto_149 : decode cX4_multiplyInto 149 = .ok (.iload 4, 2) := by decide +kernel
theorem dX4_multiplyInto_151 : decode cX4_multiplyInto 151 = .ok (.ireturn, 1) := by decide +kernel
theorem dX4_isForm_0 : decode cX4_isForm 0 = .ok (.aload_n 0, 1) := by decide +kernel
theorem dX4_isForm_1 : decode cX4_isForm 1 = .ok (.getfield 9, 3) := by decide +kernel
theorem dX4_isForm_4 : decode cX4_isForm 4 = .ok (.iconst 5, 1) := by decide +kernel
theorem dX4_isForm_5 : decode cX4_isForm 5 = .ok (.laload, 1) := by decide +kernel
theorem dX4_isForm_6 : decode cX4_isForm 6 = .ok (.lconst 0, 1) := by decide +kernel
theorem dX4_isForm_7 : decode cX4_isForm 7 = .ok (.lcmp, 1) := by decide +kernel
theorem dX4_isForm_8 : decode cX4_isForm 8 = .ok (.ifCond .ne 31, 3) := by decide +kernel
theorem dX4_isForm_11 : decode cX4_isForm 11 = .ok (.aload_n 0, 1) := by decide +kernel
theorem dX4_isForm_12 : decode cX4_isForm 12 = .ok (.getfield 9, 3) := by decide +kernel
theorem dX4_isForm_15 : decode cX4_isForm 15 = .ok (.bipush 7, 2) := by decide +kernel
theorem dX4_isForm_17 : decode cX4_isForm 17 = .ok (.laload, 1) := by decide +kernel
theorem dX4_isForm_18 : decode cX4_isForm 18 = .ok (.lconst 0, 1) := by decide +kernel
theorem dX4_isForm_19 : decode cX4_isForm 19 = .ok (.lcmp, 1) := by decide +kernel
theorem dX4_isForm_20 : decode cX4_isForm 20 = .ok (.ifCond .ne 19, 3) := by decide +kernel
theorem dX4_isForm_23 : decode cX4_isForm 23 = .ok (.aload_n 0, 1) := by decide +kernel
theorem dX4_isForm_24 : decode cX4_isForm 24 = .ok (.getfield 9, 3) := by decide +kernel
theorem dX4_isForm_27 : decode cX4_isForm 27 = .ok (.bipush 8, 2) := by decide +kernel
theorem dX4_isForm_29 : decode cX4_isForm 29 = .ok (.laload, 1) := by decide +kernel
theorem dX4_isForm_30 : decode cX4_isForm 30 = .ok (.lconst 0, 1) := by decide +kernel
theorem dX4_isForm_31 : decode cX4_isForm 31 = .ok (.lcmp, 1) := by decide +kernel
theorem dX4_isForm_32 : decode cX4_isForm 32 = .ok (.ifCond .ne 7, 3) := by decide +kernel
theorem dX4_isForm_35 : decode cX4_isForm 35 = .ok (.iconst 1, 1) := by decide +kernel
theorem dX4_isForm_36 : decode cX4_isForm 36 = .ok (.goto 4, 3) := by decide +kernel
theorem dX4_isForm_39 : decode cX4_isForm 39 = .ok (.iconst 0, 1) := by decide +kernel
theorem dX4_isForm_40 : decode cX4_isForm 40 = .ok (.ireturn, 1) := by decide +kernel
theorem dX4_formNumber_0 : decode cX4_formNumber 0 = .ok (.aload_n 0, 1) := by decide +kernel
theorem dX4_formNumber_1 : decode cX4_formNumber 1 = .ok (.getfield 9, 3) := by decide +kernel
theorem dX4_formNumber_4 : decode cX4_formNumber 4 = .ok (.getstatic 29, 3) := by decide +kernel
theorem dX4_formNumber_7 : decode cX4_formNumber 7 = .ok (.iconst 3, 1) := by decide +kernel
theorem dX4_formNumber_8 : decode cX4_formNumber 8 = .ok (.iload_n 1, 1) := by decide +kernel
theorem dX4_formNumber_9 : decode cX4_formNumber 9 = .ok (.imul, 1) := by decide +kernel
theorem dX4_formNumber_10 : decode cX4_formNumber 10 = .ok (.iload_n 2, 1) := by decide +kernel
theorem dX4_formNumber_11 : decode cX4_formNumber 11 = .ok (.iadd, 1) := by decide +kernel
theorem dX4_formNumber_12 : decode cX4_formNumber 12 = .ok (.iaload, 1) := by decide +kernel
theorem dX4_formNumber_13 : decode cX4_formNumber 13 = .ok (.laload, 1) := by decide +kernel
theorem dX4_formNumber_14 : decode cX4_formNumber 14 = .ok (.lstore_n 3, 1) := by decide +kernel
theorem dX4_formNumber_15 : decode cX4_formNumber 15 = .ok (.iload_n 1, 1) := by decide +kernel
theorem dX4_formNumber_16 : decode cX4_formNumber 16 = .ok (.iload_n 2, 1) := by decide +kernel
theorem dX4_formNumber_17 : decode cX4_formNumber 17 = .ok (.if_icmp .ne 11, 3) := by decide +kernel
theorem dX4_formNumber_20 : decode cX4_formNumber 20 = .ok (.ldc2_w 17, 3) := by decide +kernel
theorem dX4_formNumber_23 : decode cX4_formNumber 23 = .ok (.lload_n 3, 1) := by decide +kernel
theorem dX4_formNumber_24 : decode cX4_formNumber 24 = .ok (.lmul, 1) := by decide +kernel
theorem dX4_formNumber_25 : decode cX4_formNumber 25 = .ok (.goto 4, 3) := by decide +kernel
theorem dX4_formNumber_28 : decode cX4_formNumber 28 = .ok (.lload_n 3, 1) := by decide +kernel
theorem dX4_formNumber_29 : decode cX4_formNumber 29 = .ok (.lreturn, 1) := by decide +kernel
theorem dX4_lessSpan_0 : decode cX4_lessSpan 0 = .ok (.ldc2_w 15, 3) := by decide +kernel
theorem dX4_lessSpan_3 : decode cX4_lessSpan 3 = .ok (.lload_n 3, 1) := by decide +kernel
theorem dX4_lessSpan_4 : decode cX4_lessSpan 4 = .ok (.lmul, 1) := by decide +kernel
theorem dX4_lessSpan_5 : decode cX4_lessSpan 5 = .ok (.lstore 9, 2) := by decide +kernel
theorem dX4_lessSpan_7 : decode cX4_lessSpan 7 = .ok (.ldc2_w 33, 3) := by decide +kernel
theorem dX4_lessSpan_10 : decode cX4_lessSpan 10 = .ok (.lload_n 3, 1) := by decide +kernel
theorem dX4_lessSpan_11 : decode cX4_lessSpan 11 = .ok (.lmul, 1) := by decide +kernel
theorem dX4_lessSpan_12 : decode cX4_lessSpan 12 = .ok (.lstore 11, 2) := by decide +kernel
theorem dX4_lessSpan_14 : decode cX4_lessSpan 14 = .ok (.lload_n 3, 1) := by decide +kernel
theorem dX4_lessSpan_15 : decode cX4_lessSpan 15 = .ok (.lconst 0, 1) := by decide +kernel
theorem dX4_lessSpan_16 : decode cX4_lessSpan 16 = .ok (.lcmp, 1) := by decide +kernel
theorem dX4_lessSpan_17 : decode cX4_lessSpan 17 = .ok (.ifCond .le 41, 3) := by decide +kernel
theorem dX4_lessSpan_20 : decode cX4_lessSpan 20 = .ok (.lload_n 1, 1) := by decide +kernel
theorem dX4_lessSpan_21 : decode cX4_lessSpan 21 = .ok (.lload_n 3, 1) := by decide +kernel
theorem dX4_lessSpan_22 : decode cX4_lessSpan 22 = .ok (.lrem, 1) := by decide +kernel
theorem dX4_lessSpan_23 : decode cX4_lessSpan 23 = .ok (.lconst 0, 1) := by decide +kernel
theorem dX4_lessSpan_24 : decode cX4_lessSpan 24 = .ok (.lcmp, 1) := by decide +kernel
theorem dX4_lessSpan_25 : decode cX4_lessSpan 25 = .ok (.ifCond .ne 33, 3) := by decide +kernel
theorem dX4_lessSpan_28 : decode cX4_lessSpan 28 = .ok (.lload_n 1, 1) := by decide +kernel
theorem dX4_lessSpan_29 : decode cX4_lessSpan 29 = .ok (.lload 5, 2) := by decide +kernel
theorem dX4_lessSpan_31 : decode cX4_lessSpan 31 = .ok (.lload 7, 2) := by decide +kernel
theorem dX4_lessSpan_33 : decode cX4_lessSpan 33 = .ok (.ladd, 1) := by decide +kernel
theorem dX4_lessSpan_34 : decode cX4_lessSpan 34 = .ok (.lmul, 1) := by decide +kernel
theorem dX4_lessSpan_35 : decode cX4_lessSpan 35 = .ok (.lload 9, 2) := by decide +kernel
theorem dX4_lessSpan_37 : decode cX4_lessSpan 37 = .ok (.lrem, 1) := by decide +kernel
theorem dX4_lessSpan_38 : decode cX4_lessSpan 38 = .ok (.lconst 0, 1) := by decide +kernel
theorem dX4_lessSpan_39 : decode cX4_lessSpan 39 = .ok (.lcmp, 1) := by decide +kernel
theorem dX4_lessSpan_40 : decode cX4_lessSpan 40 = .ok (.ifCond .ne 18, 3) := by decide +kernel
theorem dX4_lessSpan_43 : decode cX4_lessSpan 43 = .ok (.lload_n 1, 1) := by decide +kernel
theorem dX4_lessSpan_44 : decode cX4_lessSpan 44 = .ok (.lload 5, 2) := by decide +kernel
theorem dX4_lessSpan_46 : decode cX4_lessSpan 46 = .ok (.lmul, 1) := by decide +kernel
theorem dX4_lessSpan_47 : decode cX4_lessSpan 47 = .ok (.lload 7, 2) := by decide +kernel
theorem dX4_lessSpan_49 : decode cX4_lessSpan 49 = .ok (.lmul, 1) := by decide +kernel
theorem dX4_lessSpan_50 : decode cX4_lessSpan 50 = .ok (.lload 11, 2) := by decide +kernel
theorem dX4_lessSpan_52 : decode cX4_lessSpan 52 = .ok (.lrem, 1) := by decide +kernel
theorem dX4_lessSpan_53 : decode cX4_lessSpan 53 = .ok (.lconst 0, 1) := by decide +kernel
theorem dX4_lessSpan_54 : decode cX4_lessSpan 54 = .ok (.lcmp, 1) := by decide +kernel
theorem dX4_lessSpan_55 : decode cX4_lessSpan 55 = .ok (.ifCond .eq 5, 3) := by decide +kernel
theorem dX4_lessSpan_58 : decode cX4_lessSpan 58 = .ok (.aconst_null, 1) := by decide +kernel
theorem dX4_lessSpan_59 : decode cX4_lessSpan 59 = .ok (.areturn, 1) := by decide +kernel
theorem dX4_lessSpan_60 : decode cX4_lessSpan 60 = .ok (.aload_n 0, 1) := by decide +kernel
theorem dX4_lessSpan_61 : decode cX4_lessSpan 61 = .ok (.getfield 9, 3) := by decide +kernel
theorem dX4_lessSpan_64 : decode cX4_lessSpan 64 = .ok (.bipush 9, 2) := by decide +kernel
theorem dX4_lessSpan_66 : decode cX4_lessSpan 66 = .ok (.invokestatic 35, 3) := by decide +kernel
theorem dX4_lessSpan_69 : decode cX4_lessSpan 69 = .ok (.astore 13, 2) := by decide +kernel
theorem dX4_lessSpan_71 : decode cX4_lessSpan 71 = .ok (.aload 13, 2) := by decide +kernel
theorem dX4_lessSpan_73 : decode cX4_lessSpan 73 = .ok (.bipush 6, 2) := by decide +kernel
theorem dX4_lessSpan_75 : decode cX4_lessSpan 75 = .ok (.dup2, 1) := by decide +kernel
theorem dX4_lessSpan_76 : decode cX4_lessSpan 76 = .ok (.laload, 1) := by decide +kernel
theorem dX4_lessSpan_77 : decode cX4_lessSpan 77 = .ok (.lload_n 1, 1) := by decide +kernel
theorem dX4_lessSpan_78 : decode cX4_lessSpan 78 = .ok (.lload_n 3, 1) := by decide +kernel
theorem dX4_lessSpan_79 : decode cX4_lessSpan 79 = .ok (.ldiv, 1) := by decide +kernel
theorem dX4_lessSpan_80 : decode cX4_lessSpan 80 = .ok (.ladd, 1) := by decide +kernel
theorem dX4_lessSpan_81 : decode cX4_lessSpan 81 = .ok (.lastore, 1) := by decide +kernel
theorem dX4_lessSpan_82 : decode cX4_lessSpan 82 = .ok (.aload 13, 2) := by decide +kernel
theorem dX4_lessSpan_84 : decode cX4_lessSpan 84 = .ok (.iconst 3, 1) := by decide +kernel
theorem dX4_lessSpan_85 : decode cX4_lessSpan 85 = .ok (.dup2, 1) := by decide +kernel
theorem dX4_lessSpan_86 : decode cX4_lessSpan 86 = .ok (.laload, 1) := by decide +kernel
theorem dX4_lessSpan_87 : decode cX4_lessSpan 87 = .ok (.lload_n 1, 1) := by decide +kernel
theorem dX4_lessSpan_88 : decode cX4_lessSpan 88 = .ok (.lload 5, 2) := by decide +kernel
theorem dX4_lessSpan_90 : decode cX4_lessSpan 90 = .ok (.lload 7, 2) := by decide +kernel
theorem dX4_lessSpan_92 : decode cX4_lessSpan 92 = .ok (.ladd, 1) := by decide +kernel
theorem dX4_lessSpan_93 : decode cX4_lessSpan 93 = .ok (.lmul, 1) := by decide +kernel
theorem dX4_lessSpan_94 : decode cX4_lessSpan 94 = .ok (.lload 9, 2) := by decide +kernel
theorem dX4_lessSpan_96 : decode cX4_lessSpan 96 = .ok (.ldiv, 1) := by decide +kernel
theorem dX4_lessSpan_97 : decode cX4_lessSpan 97 = .ok (.lsub, 1) := by decide +kernel
theorem dX4_lessSpan_98 : decode cX4_lessSpan 98 = .ok (.lastore, 1) := by decide +kernel
theorem dX4_lessSpan_99 : decode cX4_lessSpan 99 = .ok (.aload 13, 2) := by decide +kernel
theorem dX4_lessSpan_101 : decode cX4_lessSpan 101 = .ok (.iconst 0, 1) := by decide +kernel
theorem dX4_lessSpan_102 : decode cX4_lessSpan 102 = .ok (.dup2, 1) := by decide +kernel
theorem dX4_lessSpan_103 : decode cX4_lessSpan 103 = .ok (.laload, 1) := by decide +kernel
theorem dX4_lessSpan_104 : decode cX4_lessSpan 104 = .ok (.lload_n 1, 1) := by decide +kernel
theorem dX4_lessSpan_105 : decode cX4_lessSpan 105 = .ok (.lload 5, 2) := by decide +kernel
theorem dX4_lessSpan_107 : decode cX4_lessSpan 107 = .ok (.lmul, 1) := by decide +kernel
theorem dX4_lessSpan_108 : decode cX4_lessSpan 108 = .ok (.lload 7, 2) := by decide +kernel
theorem dX4_lessSpan_110 : decode cX4_lessSpan 110 = .ok (.lmul, 1) := by decide +kernel
theorem dX4_lessSpan_111 : decode cX4_lessSpan 111 = .ok (.lload 11, 2) := by decide +kernel
theorem dX4_lessSpan_113 : decode cX4_lessSpan 113 = .ok (.ldiv, 1) := by decide +kernel
theorem dX4_lessSpan_114 : decode cX4_lessSpan 114 = .ok (.ladd, 1) := by decide +kernel
theorem dX4_lessSpan_115 : decode cX4_lessSpan 115 = .ok (.lastore, 1) := by decide +kernel
theorem dX4_lessSpan_116 : decode cX4_lessSpan 116 = .ok (.aload 13, 2) := by decide +kernel
theorem dX4_lessSpan_118 : decode cX4_lessSpan 118 = .ok (.invokestatic 41, 3) := by decide +kernel
theorem dX4_lessSpan_121 : decode cX4_lessSpan 121 = .ok (.ifCond .eq 15, 3) := by decide +kernel
theorem dX4_lessSpan_124 : decode cX4_lessSpan 124 = .ok (.new 10, 3) := by decide +kernel
theorem dX4_lessSpan_127 : decode cX4_lessSpan 127 = .ok (.dup, 1) := by decide +kernel
theorem dX4_lessSpan_128 : decode cX4_lessSpan 128 = .ok (.aload 13, 2) := by decide +kernel
theorem dX4_lessSpan_130 : decode cX4_lessSpan 130 = .ok (.invokespecial 45, 3) := by decide +kernel
theorem dX4_lessSpan_133 : decode cX4_lessSpan 133 = .ok (.goto 4, 3) := by decide +kernel
theorem dX4_lessSpan_136 : decode cX4_lessSpan 136 = .ok (.aconst_null, 1) := by decide +kernel
theorem dX4_lessSpan_137 : decode cX4_lessSpan 137 = .ok (.areturn, 1) := by decide +kernel
theorem dX4_squareNumbers_0 : decode cX4_squareNumbers 0 = .ok (.bipush 9, 2) := by decide +kernel
theorem dX4_squareNumbers_2 : decode cX4_squareNumbers 2 = .ok (.newarray .long, 2) := by decide +kernel
theorem dX4_squareNumbers_4 : decode cX4_squareNumbers 4 = .ok (.astore_n 2, 1) := by decide +kernel
theorem dX4_squareNumbers_5 : decode cX4_squareNumbers 5 = .ok (.iconst 0, 1) := by decide +kernel
theorem dX4_squareNumbers_6 : decode cX4_squareNumbers 6 = .ok (.istore_n 3, 1) := by decide +kernel
theorem dX4_squareNumbers_7 : decode cX4_squareNumbers 7 = .ok (.iload_n 3, 1) := by decide +kernel
theorem dX4_squareNumbers_8 : decode cX4_squareNumbers 8 = .ok (.aload_n 2, 1) := by decide +kernel
theorem dX4_squareNumbers_9 : decode cX4_squareNumbers 9 = .ok (.arraylength, 1) := by decide +kernel
theorem dX4_squareNumbers_10 : decode cX4_squareNumbers 10 = .ok (.if_icmp .ge 22, 3) := by decide +kernel
theorem dX4_squareNumbers_13 : decode cX4_squareNumbers 13 = .ok (.aload_n 2, 1) := by decide +kernel
theorem dX4_squareNumbers_14 : decode cX4_squareNumbers 14 = .ok (.iload_n 3, 1) := by decide +kernel
theorem dX4_squareNumbers_15 : decode cX4_squareNumbers 15 = .ok (.aload_n 0, 1) := by decide +kernel
theorem dX4_squareNumbers_16 : decode cX4_squareNumbers 16 = .ok (.iload_n 3, 1) := by decide +kernel
theorem dX4_squareNumbers_17 : decode cX4_squareNumbers 17 = .ok (.iconst 3, 1) := by decide +kernel
theorem dX4_squareNumbers_18 : decode cX4_squareNumbers 18 = .ok (.idiv, 1) := by decide +kernel
theorem dX4_squareNumbers_19 : decode cX4_squareNumbers 19 = .ok (.iload_n 3, 1) := by decide +kernel
theorem dX4_squareNumbers_20 : decode cX4_squareNumbers 20 = .ok (.iconst 3, 1) := by decide +kernel
theorem dX4_squareNumbers_21 : decode cX4_squareNumbers 21 = .ok (.irem, 1) := by decide +kernel
theorem dX4_squareNumbers_22 : decode cX4_squareNumbers 22 = .ok (.invokevirtual 48, 3) := by decide +kernel
theorem dX4_squareNumbers_25 : decode cX4_squareNumbers 25 = .ok (.lastore, 1) := by decide +kernel
theorem dX4_squareNumbers_26 : decode cX4_squareNumbers 26 = .ok (.iinc 3 1, 3) := by decide +kernel
theorem dX4_squareNumbers_29 : decode cX4_squareNumbers 29 = .ok (.goto (-22), 3) := by decide +kernel
theorem dX4_squareNumbers_32 : decode cX4_squareNumbers 32 = .ok (.bipush 15, 2) := by decide +kernel
theorem dX4_squareNumbers_34 : decode cX4_squareNumbers 34 = .ok (.newarray .long, 2) := by decide +kernel
theorem dX4_squareNumbers_36 : decode cX4_squareNumbers 36 = .ok (.astore_n 3, 1) := by decide +kernel
theorem dX4_squareNumbers_37 : decode cX4_squareNumbers 37 = .ok (.iconst 0, 1) := by decide +kernel
theorem dX4_squareNumbers_38 : decode cX4_squareNumbers 38 = .ok (.istore 4, 2) := by decide +kernel
theorem dX4_squareNumbers_40 : decode cX4_squareNumbers 40 = .ok (.lconst 1, 1) := by decide +kernel
theorem dX4_squareNumbers_41 : decode cX4_squareNumbers 41 = .ok (.lstore 5, 2) := by decide +kernel
theorem dX4_squareNumbers_43 : decode cX4_squareNumbers 43 = .ok (.iconst 0, 1) := by decide +kernel
theorem dX4_squareNumbers_44 : decode cX4_squareNumbers 44 = .ok (.istore 7, 2) := by decide +kernel
theorem dX4_squareNumbers_46 : decode cX4_squareNumbers 46 = .ok (.iload 7, 2) := by decide +kernel
theorem dX4_squareNumbers_48 : decode cX4_squareNumbers 48 = .ok (.iconst 3, 1) := by decide +kernel
theorem dX4_squareNumbers_49 : decode cX4_squareNumbers 49 = .ok (.if_icmp .ge 111, 3) := by decide +kernel
theorem dX4_squareNumbers_52 : decode cX4_squareNumbers 52 = .ok (.aload_n 2, 1) := by decide +kernel
theorem dX4_squareNumbers_53 : decode cX4_squareNumbers 53 = .ok (.iconst 4, 1) := by decide +kernel
theorem dX4_squareNumbers_54 : decode cX4_squareNumbers 54 = .ok (.iload 7, 2) := by decide +kernel
theorem dX4_squareNumbers_56 : decode cX4_squareNumbers 56 = .ok (.imul, 1) := by decide +kernel
theorem dX4_squareNumbers_57 : decode cX4_squareNumbers 57 = .ok (.laload, 1) := by decide +kernel
theorem dX4_squareNumbers_58 : decode cX4_squareNumbers 58 = .ok (.lstore 8, 2) := by decide +kernel
theorem dX4_squareNumbers_60 : decode cX4_squareNumbers 60 = .ok (.lload 8, 2) := by decide +kernel
theorem dX4_squareNumbers_62 : decode cX4_squareNumbers 62 = .ok (.lconst 0, 1) := by decide +kernel
theorem dX4_squareNumbers_63 : decode cX4_squareNumbers 63 = .ok (.lcmp, 1) := by decide +kernel
theorem dX4_squareNumbers_64 : decode cX4_squareNumbers 64 = .ok (.ifCond .lt 19, 3) := by decide +kernel
theorem dX4_squareNumbers_67 : decode cX4_squareNumbers 67 = .ok (.lload 8, 2) := by decide +kernel
theorem dX4_squareNumbers_69 : decode cX4_squareNumbers 69 = .ok (.lconst 0, 1) := by decide +kernel
theorem dX4_squareNumbers_70 : decode cX4_squareNumbers 70 = .ok (.lcmp, 1) := by decide +kernel
theorem dX4_squareNumbers_71 : decode cX4_squareNumbers 71 = .ok (.ifCond .ne 14, 3) := by decide +kernel
theorem dX4_squareNumbers_74 : decode cX4_squareNumbers 74 = .ok (.aload_n 2, 1) := by decide +kernel
theorem dX4_squareNumbers_75 : decode cX4_squareNumbers 75 = .ok (.iload 7, 2) := by decide +kernel
theorem dX4_squareNumbers_77 : decode cX4_squareNumbers 77 = .ok (.invokestatic 52, 3) := by decide +kernel
theorem dX4_squareNumbers_80 : decode cX4_squareNumbers 80 = .ok (.ifCond .eq 5, 3) := by decide +kernel
theorem dX4_squareNumbers_83 : decode cX4_squareNumbers 83 = .ok (.aconst_null, 1) := by decide +kernel
theorem dX4_squareNumbers_84 : decode cX4_squareNumbers 84 = .ok (.areturn, 1) := by decide +kernel
theorem dX4_squareNumbers_85 : decode cX4_squareNumbers 85 = .ok (.lload 8, 2) := by decide +kernel
theorem dX4_squareNumbers_87 : decode cX4_squareNumbers 87 = .ok (.lconst 0, 1) := by decide +kernel
theorem dX4_squareNumbers_88 : decode cX4_squareNumbers 88 = .ok (.lcmp, 1) := by decide +kernel
theorem dX4_squareNumbers_89 : decode cX4_squareNumbers 89 = .ok (.ifCond .le 65, 3) := by decide +kernel
theorem dX4_squareNumbers_92 : decode cX4_squareNumbers 92 = .ok (.lload 5, 2) := by decide +kernel
theorem dX4_squareNumbers_94 : decode cX4_squareNumbers 94 = .ok (.lconst 0, 1) := by decide +kernel
theorem dX4_squareNumbers_95 : decode cX4_squareNumbers 95 = .ok (.lcmp, 1) := by decide +kernel
theorem dX4_squareNumbers_96 : decode cX4_squareNumbers 96 = .ok (.ifCond .le 58, 3) := by decide +kernel
theorem dX4_squareNumbers_99 : decode cX4_squareNumbers 99 = .ok (.aload_n 3, 1) := by decide +kernel
theorem dX4_squareNumbers_100 : decode cX4_squareNumbers 100 = .ok (.iload 4, 2) := by decide +kernel
theorem dX4_squareNumbers_102 : decode cX4_squareNumbers 102 = .ok (.lconst 1, 1) := by decide +kernel
theorem dX4_squareNumbers_103 : decode cX4_squareNumbers 103 = .ok (.lastore, 1) := by decide +kernel
theorem dX4_squareNumbers_104 : decode cX4_squareNumbers 104 = .ok (.aload_n 3, 1) := by decide +kernel
theorem dX4_squareNumbers_105 : decode cX4_squareNumbers 105 = .ok (.iload 4, 2) := by decide +kernel
theorem dX4_squareNumbers_107 : decode cX4_squareNumbers 107 = .ok (.iconst 1, 1) := by decide +kernel
theorem dX4_squareNumbers_108 : decode cX4_squareNumbers 108 = .ok (.iadd, 1) := by decide +kernel
theorem dX4_squareNumbers_109 : decode cX4_squareNumbers 109 = .ok (.ldc2_w 17, 3) := by decide +kernel
theorem dX4_squareNumbers_112 : decode cX4_squareNumbers 112 = .ok (.lload 5, 2) := by decide +kernel
theorem dX4_squareNumbers_114 : decode cX4_squareNumbers 114 = .ok (.lmul, 1) := by decide +kernel
theorem dX4_squareNumbers_115 : decode cX4_squareNumbers 115 = .ok (.lload 8, 2) := by decide +kernel
theorem dX4_squareNumbers_117 : decode cX4_squareNumbers 117 = .ok (.lmul, 1) := by decide +kernel
theorem dX4_squareNumbers_118 : decode cX4_squareNumbers 118 = .ok (.lastore, 1) := by decide +kernel
theorem dX4_squareNumbers_119 : decode cX4_squareNumbers 119 = .ok (.aload_n 2, 1) := by decide +kernel
theorem dX4_squareNumbers_120 : decode cX4_squareNumbers 120 = .ok (.iconst 4, 1) := by decide +kernel
theorem dX4_squareNumbers_121 : decode cX4_squareNumbers 121 = .ok (.iload 7, 2) := by decide +kernel
theorem dX4_squareNumbers_123 : decode cX4_squareNumbers 123 = .ok (.imul, 1) := by decide +kernel
theorem dX4_squareNumbers_124 : decode cX4_squareNumbers 124 = .ok (.aload_n 3, 1) := by decide +kernel
theorem dX4_squareNumbers_125 : decode cX4_squareNumbers 125 = .ok (.iload 4, 2) := by decide +kernel
theorem dX4_squareNumbers_127 : decode cX4_squareNumbers 127 = .ok (.iconst 2, 1) := by decide +kernel
theorem dX4_squareNumbers_128 : decode cX4_squareNumbers 128 = .ok (.iadd, 1) := by decide +kernel
theorem dX4_squareNumbers_129 : decode cX4_squareNumbers 129 = .ok (.iload 7, 2) := by decide +kernel
theorem dX4_squareNumbers_131 : decode cX4_squareNumbers 131 = .ok (.iadd, 1) := by decide +kernel
theorem dX4_squareNumbers_132 : decode cX4_squareNumbers 132 = .ok (.iconst 3, 1) := by decide +kernel
theorem dX4_squareNumbers_133 : decode cX4_squareNumbers 133 = .ok (.iload 7, 2) := by decide +kernel
theorem dX4_squareNumbers_135 : decode cX4_squareNumbers 135 = .ok (.isub, 1) := by decide +kernel
theorem dX4_squareNumbers_136 : decode cX4_squareNumbers 136 = .ok (.invokestatic 56, 3) := by decide +kernel
theorem dX4_squareNumbers_139 : decode cX4_squareNumbers 139 = .ok (.iinc 4 5, 3) := by decide +kernel
theorem dX4_squareNumbers_142 : decode cX4_squareNumbers 142 = .ok (.aload_n 2, 1) := by decide +kernel
theorem dX4_squareNumbers_143 : decode cX4_squareNumbers 143 = .ok (.iload 7, 2) := by decide +kernel
theorem dX4_squareNumbers_145 : decode cX4_squareNumbers 145 = .ok (.lload 5, 2) := by decide +kernel
theorem dX4_squareNumbers_147 : decode cX4_squareNumbers 147 = .ok (.invokestatic 62, 3) := by decide +kernel
theorem dX4_squareNumbers_150 : decode cX4_squareNumbers 150 = .ok (.lload 8, 2) := by decide +kernel
theorem dX4_squareNumbers_152 : decode cX4_squareNumbers 152 = .ok (.lstore 5, 2) := by decide +kernel
theorem dX4_squareNumbers_154 : decode cX4_squareNumbers 154 = .ok (.iinc 7 1, 3) := by decide +kernel
theorem dX4_squareNumbers_157 : decode cX4_squareNumbers 157 = .ok (.goto (-111), 3) := by decide +kernel
theorem dX4_squareNumbers_160 : decode cX4_squareNumbers 160 = .ok (.aload_n 3, 1) := by decide +kernel
theorem dX4_squareNumbers_161 : decode cX4_squareNumbers 161 = .ok (.iload 4, 2) := by decide +kernel
theorem dX4_squareNumbers_163 : decode cX4_squareNumbers 163 = .ok (.iload_n 1, 1) := by decide +kernel
theorem dX4_squareNumbers_164 : decode cX4_squareNumbers 164 = .ok (.iadd, 1) := by decide +kernel
theorem dX4_squareNumbers_165 : decode cX4_squareNumbers 165 = .ok (.invokestatic 35, 3) := by decide +kernel
theorem dX4_squareNumbers_168 : decode cX4_squareNumbers 168 = .ok (.areturn, 1) := by decide +kernel
theorem dX4_hasBehind_0 : decode cX4_hasBehind 0 = .ok (.iload_n 1, 1) := by decide +kernel
theorem dX4_hasBehind_1 : decode cX4_hasBehind 1 = .ok (.iconst 1, 1) := by decide +kernel
theorem dX4_hasBehind_2 : decode cX4_hasBehind 2 = .ok (.iadd, 1) := by decide +kernel
theorem dX4_hasBehind_3 : decode cX4_hasBehind 3 = .ok (.istore_n 2, 1) := by decide +kernel
theorem dX4_hasBehind_4 : decode cX4_hasBehind 4 = .ok (.iload_n 2, 1) := by decide +kernel
theorem dX4_hasBehind_5 : decode cX4_hasBehind 5 = .ok (.iconst 3, 1) := by decide +kernel
theorem dX4_hasBehind_6 : decode cX4_hasBehind 6 = .ok (.if_icmp .ge 23, 3) := by decide +kernel
theorem dX4_hasBehind_9 : decode cX4_hasBehind 9 = .ok (.aload_n 0, 1) := by decide +kernel
theorem dX4_hasBehind_10 : decode cX4_hasBehind 10 = .ok (.iconst 3, 1) := by decide +kernel
theorem dX4_hasBehind_11 : decode cX4_hasBehind 11 = .ok (.iload_n 1, 1) := by decide +kernel
theorem dX4_hasBehind_12 : decode cX4_hasBehind 12 = .ok (.imul, 1) := by decide +kernel
theorem dX4_hasBehind_13 : decode cX4_hasBehind 13 = .ok (.iload_n 2, 1) := by decide +kernel
theorem dX4_hasBehind_14 : decode cX4_hasBehind 14 = .ok (.iadd, 1) := by decide +kernel
theorem dX4_hasBehind_15 : decode cX4_hasBehind 15 = .ok (.laload, 1) := by decide +kernel
theorem dX4_hasBehind_16 : decode cX4_hasBehind 16 = .ok (.lconst 0, 1) := by decide +kernel
theorem dX4_hasBehind_17 : decode cX4_hasBehind 17 = .ok (.lcmp, 1) := by decide +kernel
theorem dX4_hasBehind_18 : decode cX4_hasBehind 18 = .ok (.ifCond .eq 5, 3) := by decide +kernel
theorem dX4_hasBehind_21 : decode cX4_hasBehind 21 = .ok (.iconst 1, 1) := by decide +kernel
theorem dX4_hasBehind_22 : decode cX4_hasBehind 22 = .ok (.ireturn, 1) := by decide +kernel
theorem dX4_hasBehind_23 : decode cX4_hasBehind 23 = .ok (.iinc 2 1, 3) := by decide +kernel
theorem dX4_hasBehind_26 : decode cX4_hasBehind 26 = .ok (.goto (-22), 3) := by decide +kernel
theorem dX4_hasBehind_29 : decode cX4_hasBehind 29 = .ok (.iconst 0, 1) := by decide +kernel
theorem dX4_hasBehind_30 : decode cX4_hasBehind 30 = .ok (.ireturn, 1) := by decide +kernel
theorem dX4_clearBehind_0 : decode cX4_clearBehind 0 = .ok (.aload_n 0, 1) := by decide +kernel
theorem dX4_clearBehind_1 : decode cX4_clearBehind 1 = .ok (.iconst 4, 1) := by decide +kernel
theorem dX4_clearBehind_2 : decode cX4_clearBehind 2 = .ok (.iload_n 1, 1) := by decide +kernel
theorem dX4_clearBehind_3 : decode cX4_clearBehind 3 = .ok (.imul, 1) := by decide +kernel
theorem dX4_clearBehind_4 : decode cX4_clearBehind 4 = .ok (.laload, 1) := by decide +kernel
theorem dX4_clearBehind_5 : decode cX4_clearBehind 5 = .ok (.lstore 4, 2) := by decide +kernel
theorem dX4_clearBehind_7 : decode cX4_clearBehind 7 = .ok (.iload_n 1, 1) := by decide +kernel
theorem dX4_clearBehind_8 : decode cX4_clearBehind 8 = .ok (.iconst 1, 1) := by decide +kernel
theorem dX4_clearBehind_9 : decode cX4_clearBehind 9 = .ok (.iadd, 1) := by decide +kernel
theorem dX4_clearBehind_10 : decode cX4_clearBehind 10 = .ok (.istore 6, 2) := by decide +kernel
theorem dX4_clearBehind_12 : decode cX4_clearBehind 12 = .ok (.iload 6, 2) := by decide +kernel
theorem dX4_clearBehind_14 : decode cX4_clearBehind 14 = .ok (.iconst 3, 1) := by decide +kernel
theorem dX4_clearBehind_15 : decode cX4_clearBehind 15 = .ok (.if_icmp .ge 67, 3) := by decide +kernel
theorem dX4_clearBehind_18 : decode cX4_clearBehind 18 = .ok (.iload_n 1, 1) := by decide +kernel
theorem dX4_clearBehind_19 : decode cX4_clearBehind 19 = .ok (.iconst 1, 1) := by decide +kernel
theorem dX4_clearBehind_20 : decode cX4_clearBehind 20 = .ok (.iadd, 1) := by decide +kernel
theorem dX4_clearBehind_21 : decode cX4_clearBehind 21 = .ok (.istore 7, 2) := by decide +kernel
theorem dX4_clearBehind_23 : decode cX4_clearBehind 23 = .ok (.iload 7, 2) := by decide +kernel
theorem dX4_clearBehind_25 : decode cX4_clearBehind 25 = .ok (.iconst 3, 1) := by decide +kernel
theorem dX4_clearBehind_26 : decode cX4_clearBehind 26 = .ok (.if_icmp .ge 50, 3) := by decide +kernel
theorem dX4_clearBehind_29 : decode cX4_clearBehind 29 = .ok (.aload_n 0, 1) := by decide +kernel
theorem dX4_clearBehind_30 : decode cX4_clearBehind 30 = .ok (.iconst 3, 1) := by decide +kernel
theorem dX4_clearBehind_31 : decode cX4_clearBehind 31 = .ok (.iload 6, 2) := by decide +kernel
theorem dX4_clearBehind_33 : decode cX4_clearBehind 33 = .ok (.imul, 1) := by decide +kernel
theorem dX4_clearBehind_34 : decode cX4_clearBehind 34 = .ok (.iload 7, 2) := by decide +kernel
theorem dX4_clearBehind_36 : decode cX4_clearBehind 36 = .ok (.iadd, 1) := by decide +kernel
theorem dX4_clearBehind_37 : decode cX4_clearBehind 37 = .ok (.aload_n 0, 1) := by decide +kernel
theorem dX4_clearBehind_38 : decode cX4_clearBehind 38 = .ok (.iconst 3, 1) := by decide +kernel
theorem dX4_clearBehind_39 : decode cX4_clearBehind 39 = .ok (.iload 6, 2) := by decide +kernel
theorem dX4_clearBehind_41 : decode cX4_clearBehind 41 = .ok (.imul, 1) := by decide +kernel
theorem dX4_clearBehind_42 : decode cX4_clearBehind 42 = .ok (.iload 7, 2) := by decide +kernel
theorem dX4_clearBehind_44 : decode cX4_clearBehind 44 = .ok (.iadd, 1) := by decide +kernel
theorem dX4_clearBehind_45 : decode cX4_clearBehind 45 = .ok (.laload, 1) := by decide +kernel
theorem dX4_clearBehind_46 : decode cX4_clearBehind 46 = .ok (.lload 4, 2) := by decide +kernel
theorem dX4_clearBehind_48 : decode cX4_clearBehind 48 = .ok (.lmul, 1) := by decide +kernel
theorem dX4_clearBehind_49 : decode cX4_clearBehind 49 = .ok (.aload_n 0, 1) := by decide +kernel
theorem dX4_clearBehind_50 : decode cX4_clearBehind 50 = .ok (.iconst 3, 1) := by decide +kernel
theorem dX4_clearBehind_51 : decode cX4_clearBehind 51 = .ok (.iload 6, 2) := by decide +kernel
theorem dX4_clearBehind_53 : decode cX4_clearBehind 53 = .ok (.imul, 1) := by decide +kernel
theorem dX4_clearBehind_54 : decode cX4_clearBehind 54 = .ok (.iload_n 1, 1) := by decide +kernel
theorem dX4_clearBehind_55 : decode cX4_clearBehind 55 = .ok (.iadd, 1) := by decide +kernel
theorem dX4_clearBehind_56 : decode cX4_clearBehind 56 = .ok (.laload, 1) := by decide +kernel
theorem dX4_clearBehind_57 : decode cX4_clearBehind 57 = .ok (.aload_n 0, 1) := by decide +kernel
theorem dX4_clearBehind_58 : decode cX4_clearBehind 58 = .ok (.iconst 3, 1) := by decide +kernel
theorem dX4_clearBehind_59 : decode cX4_clearBehind 59 = .ok (.iload_n 1, 1) := by decide +kernel
theorem dX4_clearBehind_60 : decode cX4_clearBehind 60 = .ok (.imul, 1) := by decide +kernel
theorem dX4_clearBehind_61 : decode cX4_clearBehind 61 = .ok (.iload 7, 2) := by decide +kernel
theorem dX4_clearBehind_63 : decode cX4_clearBehind 63 = .ok (.iadd, 1) := by decide +kernel
theorem dX4_clearBehind_64 : decode cX4_clearBehind 64 = .ok (.laload, 1) := by decide +kernel
theorem dX4_clearBehind_65 : decode cX4_clearBehind 65 = .ok (.lmul, 1) := by decide +kernel
theorem dX4_clearBehind_66 : decode cX4_clearBehind 66 = .ok (.lsub, 1) := by decide +kernel
theorem dX4_clearBehind_67 : decode cX4_clearBehind 67 = .ok (.lload_n 2, 1) := by decide +kernel
theorem dX4_clearBehind_68 : decode cX4_clearBehind 68 = .ok (.ldiv, 1) := by decide +kernel
theorem dX4_clearBehind_69 : decode cX4_clearBehind 69 = .ok (.lastore, 1) := by decide +kernel
theorem dX4_clearBehind_70 : decode cX4_clearBehind 70 = .ok (.iinc 7 1, 3) := by decide +kernel
theorem dX4_clearBehind_73 : decode cX4_clearBehind 73 = .ok (.goto (-50), 3) := by decide +kernel
theorem dX4_clearBehind_76 : decode cX4_clearBehind 76 = .ok (.iinc 6 1, 3) := by decide +kernel
theorem dX4_clearBehind_79 : decode cX4_clearBehind 79 = .ok (.goto (-67), 3) := by decide +kernel
theorem dX4_clearBehind_82 : decode cX4_clearBehind 82 = .ok (.return_, 1) := by decide +kernel
theorem dX5_init_0 : decode cX5_init 0 = .ok (.aload_n 0, 1) := by decide +kernel
theorem dX5_init_1 : decode cX5_init 1 = .ok (.invokespecial 3, 3) := by decide +kernel
theorem dX5_init_4 : decode cX5_init 4 = .ok (.aload_n 0, 1) := by decide +kernel
theorem dX5_init_5 : decode cX5_init 5 = .ok (.iload_n 1, 1) := by decide +kernel
theorem dX5_init_6 : decode cX5_init 6 = .ok (.putfield 9, 3) := by decide +kernel
theorem dX5_init_9 : decode cX5_init 9 = .ok (.aload_n 0, 1) := by decide +kernel
theorem dX5_init_10 : decode cX5_init 10 = .ok (.aload_n 2, 1) := by decide +kernel
theorem dX5_init_11 : decode cX5_init 11 = .ok (.putfield 15, 3) := by decide +kernel
theorem dX5_init_14 : decode cX5_init 14 = .ok (.aload_n 0, 1) := by decide +kernel
theorem dX5_init_15 : decode cX5_init 15 = .ok (.iload_n 3, 1) := by decide +kernel
theorem dX5_init_16 : decode cX5_init 16 = .ok (.putfield 19, 3) := by decide +kernel
theorem dX5_init_19 : decode cX5_init 19 = .ok (.aload_n 0, 1) := by decide +kernel
theorem dX5_init_20 : decode cX5_init 20 = .ok (.aload 4, 2) := by decide +kernel
theorem dX5_init_22 : decode cX5_init 22 = .ok (.putfield 22, 3) := by decide +kernel
theorem dX5_init_25 : decode cX5_init 25 = .ok (.return_, 1) := by decide +kernel
theorem dX5_has_0 : decode cX5_has 0 = .ok (.iload_n 1, 1) := by decide +kernel
theorem dX5_has_1 : decode cX5_has 1 = .ok (.ifCond .lt 16, 3) := by decide +kernel
theorem dX5_has_4 : decode cX5_has 4 = .ok (.iload_n 1, 1) := by decide +kernel
theorem dX5_has_5 : decode cX5_has 5 = .ok (.aload_n 0, 1) := by decide +kernel
theorem dX5_has_6 : decode cX5_has 6 = .ok (.getfield 22, 3) := by decide +kernel
theorem dX5_has_9 : decode cX5_has 9 = .ok (.arraylength, 1) := by decide +kernel
theorem dX5_has_10 : decode cX5_has 10 = .ok (.if_icmp .ge 7, 3) := by decide +kernel
theorem dX5_has_13 : decode cX5_has 13 = .ok (.iconst 1, 1) := by decide +kernel
theorem dX5_has_14 : decode cX5_has 14 = .ok (.goto 4, 3) := by decide +kernel
theorem dX5_has_17 : decode cX5_has 17 = .ok (.iconst 0, 1) := by decide +kernel
theorem dX5_has_18 : decode cX5_has 18 = .ok (.ireturn, 1) := by decide +kernel
theorem dX5_telling_0 : decode cX5_telling 0 = .ok (.aload_n 1, 1) := by decide +kernel
theorem dX5_telling_1 : decode cX5_telling 1 = .ok (.iconst 1, 1) := by decide +kernel
theorem dX5_telling_2 : decode cX5_telling 2 = .ok (.invokevirtual 26, 3) := by decide +kernel
theorem dX5_telling_5 : decode cX5_telling 5 = .ok (.aload_n 0, 1) := by decide +kernel
theorem dX5_telling_6 : decode cX5_telling 6 = .ok (.getfield 22, 3) := by decide +kernel
theorem dX5_telling_9 : decode cX5_telling 9 = .ok (.arraylength, 1) := by decide +kernel
theorem dX5_telling_10 : decode cX5_telling 10 = .ok (.ireturn, 1) := by decide +kernel
theorem dX5_costing_0 : decode cX5_costing 0 = .ok (.aload_n 1, 1) := by decide +kernel
theorem dX5_costing_1 : decode cX5_costing 1 = .ok (.iconst 5, 1) := by decide +kernel
theorem dX5_costing_2 : decode cX5_costing 2 = .ok (.invokevirtual 26, 3) := by decide +kernel
theorem dX5_costing_5 : decode cX5_costing 5 = .ok (.bipush 100, 2) := by decide +kernel
theorem dX5_costing_7 : decode cX5_costing 7 = .ok (.aload_n 0, 1) := by decide +kernel
theorem dX5_costing_8 : decode cX5_costing 8 = .ok (.getfield 22, 3) := by decide +kernel
theorem dX5_costing_11 : decode cX5_costing 11 = .ok (.arraylength, 1) := by decide +kernel
theorem dX5_costing_12 : decode cX5_costing 12 = .ok (.iadd, 1) := by decide +kernel
theorem dX5_costing_13 : decode cX5_costing 13 = .ok (.ireturn, 1) := by decide +kernel
theorem dX5_boxNumber_0 : decode cX5_boxNumber 0 = .ok (.bipush (-9), 2) := by decide +kernel
theorem dX5_boxNumber_2 : decode cX5_boxNumber 2 = .ok (.ireturn, 1) := by decide +kernel
theorem dX6_init_0 : decode cX6_init 0 = .ok (.aload_n 0, 1) := by decide +kernel
theorem dX6_init_1 : decode cX6_init 1 = .ok (.invokespecial 1, 3) := by decide +kernel
theorem dX6_init_4 : decode cX6_init 4 = .ok (.aload_n 0, 1) := by decide +kernel
theorem dX6_init_5 : decode cX6_init 5 = .ok (.iload_n 1, 1) := by decide +kernel
theorem dX6_init_6 : decode cX6_init 6 = .ok (.putfield 7, 3) := by decide +kernel
theorem dX6_init_9 : decode cX6_init 9 = .ok (.aload_n 0, 1) := by decide +kernel
theorem dX6_init_10 : decode cX6_init 10 = .ok (.iconst 0, 1) := by decide +kernel
theorem dX6_init_11 : decode cX6_init 11 = .ok (.iload_n 2, 1) := by decide +kernel
theorem dX6_init_12 : decode cX6_init 12 = .ok (.invokestatic 13, 3) := by decide +kernel
theorem dX6_init_15 : decode cX6_init 15 = .ok (.newarray .long, 2) := by decide +kernel
theorem dX6_init_17 : decode cX6_init 17 = .ok (.putfield 19, 3) := by decide +kernel
theorem dX6_init_20 : decode cX6_init 20 = .ok (.return_, 1) := by decide +kernel
theorem dX6_has_0 : decode cX6_has 0 = .ok (.iload_n 1, 1) := by decide +kernel
theorem dX6_has_1 : decode cX6_has 1 = .ok (.ifCond .lt 16, 3) := by decide +kernel
theorem dX6_has_4 : decode cX6_has 4 = .ok (.iload_n 1, 1) := by decide +kernel
theorem dX6_has_5 : decode cX6_has 5 = .ok (.aload_n 0, 1) := by decide +kernel
theorem dX6_has_6 : decode cX6_has 6 = .ok (.getfield 19, 3) := by decide +kernel
theorem dX6_has_9 : decode cX6_has 9 = .ok (.arraylength, 1) := by decide +kernel
theorem dX6_has_10 : decode cX6_has 10 = .ok (.if_icmp .ge 7, 3) := by decide +kernel
theorem dX6_has_13 : decode cX6_has 13 = .ok (.iconst 1, 1) := by decide +kernel
theorem dX6_has_14 : decode cX6_has 14 = .ok (.goto 4, 3) := by decide +kernel
theorem dX6_has_17 : decode cX6_has 17 = .ok (.iconst 0, 1) := by decide +kernel
theorem dX6_has_18 : decode cX6_has 18 = .ok (.ireturn, 1) := by decide +kernel
theorem dX6_cutToLane_0 : decode cX6_cutToLane 0 = .ok (.aload_n 0, 1) := by decide +kernel
theorem dX6_cutToLane_1 : decode cX6_cutToLane 1 = .ok (.getfield 7, 3) := by decide +kernel
theorem dX6_cutToLane_4 : decode cX6_cutToLane 4 = .ok (.lookupswitch 37 #[(0, 28), (1, 33)], 28) := by decide +kernel
theorem dX6_cutToLane_32 : decode cX6_cutToLane 32 = .ok (.lload_n 1, 1) := by decide +kernel
theorem dX6_cutToLane_33 : decode cX6_cutToLane 33 = .ok (.l2i, 1) := by decide +kernel
theorem dX6_cutToLane_34 : decode cX6_cutToLane 34 = .ok (.i2b, 1) := by decide +kernel
theorem dX6_cutToLane_35 : decode cX6_cutToLane 35 = .ok (.i2l, 1) := by decide +kernel
theorem dX6_cutToLane_36 : decode cX6_cutToLane 36 = .ok (.lreturn, 1) := by decide +kernel
theorem dX6_cutToLane_37 : decode cX6_cutToLane 37 = .ok (.lload_n 1, 1) := by decide +kernel
theorem dX6_cutToLane_38 : decode cX6_cutToLane 38 = .ok (.l2i, 1) := by decide +kernel
theorem dX6_cutToLane_39 : decode cX6_cutToLane 39 = .ok (.i2l, 1) := by decide +kernel
theorem dX6_cutToLane_40 : decode cX6_cutToLane 40 = .ok (.lreturn, 1) := by decide +kernel
theorem dX6_cutToLane_41 : decode cX6_cutToLane 41 = .ok (.lload_n 1, 1) := by decide +kernel
theorem dX6_cutToLane_42 : decode cX6_cutToLane 42 = .ok (.lreturn, 1) := by decide +kernel
theorem dX7_init_0 : decode cX7_init 0 = .ok (.aload_n 0, 1) := by decide +kernel
theorem dX7_init_1 : decode cX7_init 1 = .ok (.iconst 3, 1) := by decide +kernel
theorem dX7_init_2 : decode cX7_init 2 = .ok (.aload_n 1, 1) := by decide +kernel
theorem dX7_init_3 : decode cX7_init 3 = .ok (.iload_n 2, 1) := by decide +kernel
theorem dX7_init_4 : decode cX7_init 4 = .ok (.aload_n 3, 1) := by decide +kernel
theorem dX7_init_5 : decode cX7_init 5 = .ok (.invokespecial 3, 3) := by decide +kernel
theorem dX7_init_8 : decode cX7_init 8 = .ok (.return_, 1) := by decide +kernel
theorem dX7_spanFrom_0 : decode cX7_spanFrom 0 = .ok (.aload_n 0, 1) := by decide +kernel
theorem dX7_spanFrom_1 : decode cX7_spanFrom 1 = .ok (.getfield 9, 3) := by decide +kernel
theorem dX7_spanFrom_4 : decode cX7_spanFrom 4 = .ok (.arraylength, 1) := by decide +kernel
theorem dX7_spanFrom_5 : decode cX7_spanFrom 5 = .ok (.iconst 4, 1) := by decide +kernel
theorem dX7_spanFrom_6 : decode cX7_spanFrom 6 = .ok (.isub, 1) := by decide +kernel
theorem dX7_spanFrom_7 : decode cX7_spanFrom 7 = .ok (.ireturn, 1) := by decide +kernel
theorem dX7_pieces_0 : decode cX7_pieces 0 = .ok (.aload_n 0, 1) := by decide +kernel
theorem dX7_pieces_1 : decode cX7_pieces 1 = .ok (.invokevirtual 15, 3) := by decide +kernel
theorem dX7_pieces_4 : decode cX7_pieces 4 = .ok (.iconst 5, 1) := by decide +kernel
theorem dX7_pieces_5 : decode cX7_pieces 5 = .ok (.idiv, 1) := by decide +kernel
theorem dX7_pieces_6 : decode cX7_pieces 6 = .ok (.ireturn, 1) := by decide +kernel
theorem dX7_telling_0 : decode cX7_telling 0 = .ok (.aload_n 1, 1) := by decide +kernel
theorem dX7_telling_1 : decode cX7_telling 1 = .ok (.iconst 2, 1) := by decide +kernel
theorem dX7_telling_2 : decode cX7_telling 2 = .ok (.invokevirtual 19, 3) := by decide +kernel
theorem dX7_telling_5 : decode cX7_telling 5 = .ok (.iconst 2, 1) := by decide +kernel
theorem dX7_telling_6 : decode cX7_telling 6 = .ok (.aload_n 0, 1) := by decide +kernel
theorem dX7_telling_7 : decode cX7_telling 7 = .ok (.aload_n 1, 1) := by decide +kernel
theorem dX7_telling_8 : decode cX7_telling 8 = .ok (.invokespecial 25, 3) := by decide +kernel
theorem dX7_telling_11 : decode cX7_telling 11 = .ok (.imul, 1) := by decide +kernel
theorem dX7_telling_12 : decode cX7_telling 12 = .ok (.ireturn, 1) := by decide +kernel
theorem dX7_hasWeightsAbove_0 : decode cX7_hasWeightsAbove 0 = .ok (.aload_n 0, 1) := by decide +kernel
theorem dX7_hasWeightsAbove_1 : decode cX7_hasWeightsAbove 1 = .ok (.invokespecial 29, 3) := by decide +kernel
theorem dX7_hasWeightsAbove_4 : decode cX7_hasWeightsAbove 4 = .ok (.ifCond .eq 18, 3) := by decide +kernel
theorem dX7_hasWeightsAbove_7 : decode cX7_hasWeightsAbove 7 = .ok (.aload_n 0, 1) := by decide +kernel
theorem dX7_hasWeightsAbove_8 : decode cX7_hasWeightsAbove 8 = .ok (.aload_n 0, 1) := by decide +kernel
theorem dX7_hasWeightsAbove_9 : decode cX7_hasWeightsAbove 9 = .ok (.invokevirtual 15, 3) := by decide +kernel
theorem dX7_hasWeightsAbove_12 : decode cX7_hasWeightsAbove 12 = .ok (.invokevirtual 33, 3) := by decide +kernel
theorem dX7_hasWeightsAbove_15 : decode cX7_hasWeightsAbove 15 = .ok (.ifCond .eq 7, 3) := by decide +kernel
theorem dX7_hasWeightsAbove_18 : decode cX7_hasWeightsAbove 18 = .ok (.iconst 1, 1) := by decide +kernel
theorem dX7_hasWeightsAbove_19 : decode cX7_hasWeightsAbove 19 = .ok (.goto 4, 3) := by decide +kernel
theorem dX7_hasWeightsAbove_22 : decode cX7_hasWeightsAbove 22 = .ok (.iconst 0, 1) := by decide +kernel
theorem dX7_hasWeightsAbove_23 : decode cX7_hasWeightsAbove 23 = .ok (.ireturn, 1) := by decide +kernel
theorem dX7_spanDivisor_0 : decode cX7_spanDivisor 0 = .ok (.ldc2_w 37, 3) := by decide +kernel
theorem dX7_spanDivisor_3 : decode cX7_spanDivisor 3 = .ok (.aload_n 0, 1) := by decide +kernel
theorem dX7_spanDivisor_4 : decode cX7_spanDivisor 4 = .ok (.getfield 9, 3) := by decide +kernel
theorem dX7_spanDivisor_7 : decode cX7_spanDivisor 7 = .ok (.aload_n 0, 1) := by decide +kernel
theorem dX7_spanDivisor_8 : decode cX7_spanDivisor 8 = .ok (.invokevirtual 15, 3) := by decide +kernel
theorem dX7_spanDivisor_11 : decode cX7_spanDivisor 11 = .ok (.iconst 1, 1) := by decide +kernel
theorem dX7_spanDivisor_12 : decode cX7_spanDivisor 12 = .ok (.iadd, 1) := by decide +kernel
theorem dX7_spanDivisor_13 : decode cX7_spanDivisor 13 = .ok (.laload, 1) := by decide +kernel
theorem dX7_spanDivisor_14 : decode cX7_spanDivisor 14 = .ok (.lmul, 1) := by decide +kernel
theorem dX7_spanDivisor_15 : decode cX7_spanDivisor 15 = .ok (.lreturn, 1) := by decide +kernel
theorem dX7_spanShare_0 : decode cX7_spanShare 0 = .ok (.aload_n 2, 1) := by decide +kernel
theorem dX7_spanShare_1 : decode cX7_spanShare 1 = .ok (.aload_n 0, 1) := by decide +kernel
theorem dX7_spanShare_2 : decode cX7_spanShare 2 = .ok (.getfield 9, 3) := by decide +kernel
theorem dX7_spanShare_5 : decode cX7_spanShare 5 = .ok (.aload_n 0, 1) := by decide +kernel
theorem dX7_spanShare_6 : decode cX7_spanShare 6 = .ok (.invokevirtual 15, 3) := by decide +kernel
theorem dX7_spanShare_9 : decode cX7_spanShare 9 = .ok (.laload, 1) := by decide +kernel
theorem dX7_spanShare_10 : decode cX7_spanShare 10 = .ok (.invokevirtual 39, 3) := by decide +kernel
theorem dX7_spanShare_13 : decode cX7_spanShare 13 = .ok (.aload_n 2, 1) := by decide +kernel
theorem dX7_spanShare_14 : decode cX7_spanShare 14 = .ok (.aload_n 0, 1) := by decide +kernel
theorem dX7_spanShare_15 : decode cX7_spanShare 15 = .ok (.iload_n 1, 1) := by decide +kernel
theorem dX7_spanShare_16 : decode cX7_spanShare 16 = .ok (.invokevirtual 45, 3) := by decide +kernel
theorem dX7_spanShare_19 : decode cX7_spanShare 19 = .ok (.invokevirtual 49, 3) := by decide +kernel
theorem dX7_spanShare_22 : decode cX7_spanShare 22 = .ok (.aload_n 0, 1) := by decide +kernel
theorem dX7_spanShare_23 : decode cX7_spanShare 23 = .ok (.aload_n 2, 1) := by decide +kernel
theorem dX7_spanShare_24 : decode cX7_spanShare 24 = .ok (.iconst (-1), 1) := by decide +kernel
theorem dX7_spanShare_25 : decode cX7_spanShare 25 = .ok (.invokevirtual 52, 3) := by decide +kernel
theorem dX7_spanShare_28 : decode cX7_spanShare 28 = .ok (.return_, 1) := by decide +kernel
theorem dX7_spanTerm_0 : decode cX7_spanTerm 0 = .ok (.aload_n 0, 1) := by decide +kernel
theorem dX7_spanTerm_1 : decode cX7_spanTerm 1 = .ok (.getfield 9, 3) := by decide +kernel
theorem dX7_spanTerm_4 : decode cX7_spanTerm 4 = .ok (.aload_n 0, 1) := by decide +kernel
theorem dX7_spanTerm_5 : decode cX7_spanTerm 5 = .ok (.invokevirtual 15, 3) := by decide +kernel
theorem dX7_spanTerm_8 : decode cX7_spanTerm 8 = .ok (.iconst 2, 1) := by decide +kernel
theorem dX7_spanTerm_9 : decode cX7_spanTerm 9 = .ok (.iadd, 1) := by decide +kernel
theorem dX7_spanTerm_10 : decode cX7_spanTerm 10 = .ok (.laload, 1) := by decide +kernel
theorem dX7_spanTerm_11 : decode cX7_spanTerm 11 = .ok (.lstore_n 2, 1) := by decide +kernel
theorem dX7_spanTerm_12 : decode cX7_spanTerm 12 = .ok (.aload_n 0, 1) := by decide +kernel
theorem dX7_spanTerm_13 : decode cX7_spanTerm 13 = .ok (.getfield 9, 3) := by decide +kernel
theorem dX7_spanTerm_16 : decode cX7_spanTerm 16 = .ok (.aload_n 0, 1) := by decide +kernel
theorem dX7_spanTerm_17 : decode cX7_spanTerm 17 = .ok (.invokevirtual 15, 3) := by decide +kernel
theorem dX7_spanTerm_20 : decode cX7_spanTerm 20 = .ok (.iconst 3, 1) := by decide +kernel
theorem dX7_spanTerm_21 : decode cX7_spanTerm 21 = .ok (.iadd, 1) := by decide +kernel
theorem dX7_spanTerm_22 : decode cX7_spanTerm 22 = .ok (.laload, 1) := by decide +kernel
theorem dX7_spanTerm_23 : decode cX7_spanTerm 23 = .ok (.lstore 4, 2) := by decide +kernel
theorem dX7_spanTerm_25 : decode cX7_spanTerm 25 = .ok (.iload_n 1, 1) := by decide +kernel
theorem dX7_spanTerm_26 : decode cX7_spanTerm 26 = .ok (.lookupswitch 53 #[(0, 34), (3, 40), (6, 49)], 34) := by decide +kernel
theorem dX7_spanTerm_60 : decode cX7_spanTerm 60 = .ok (.lload_n 2, 1) := by decide +kernel
theorem dX7_spanTerm_61 : decode cX7_spanTerm 61 = .ok (.lneg, 1) := by decide +kernel
theorem dX7_spanTerm_62 : decode cX7_spanTerm 62 = .ok (.lload 4, 2) := by decide +kernel
theorem dX7_spanTerm_64 : decode cX7_spanTerm 64 = .ok (.lmul, 1) := by decide +kernel
theorem dX7_spanTerm_65 : decode cX7_spanTerm 65 = .ok (.lreturn, 1) := by decide +kernel
theorem dX7_spanTerm_66 : decode cX7_spanTerm 66 = .ok (.ldc2_w 56, 3) := by decide +kernel
theorem dX7_spanTerm_69 : decode cX7_spanTerm 69 = .ok (.lload_n 2, 1) := by decide +kernel
theorem dX7_spanTerm_70 : decode cX7_spanTerm 70 = .ok (.lload 4, 2) := by decide +kernel
theorem dX7_spanTerm_72 : decode cX7_spanTerm 72 = .ok (.ladd, 1) := by decide +kernel
theorem dX7_spanTerm_73 : decode cX7_spanTerm 73 = .ok (.lmul, 1) := by decide +kernel
theorem dX7_spanTerm_74 : decode cX7_spanTerm 74 = .ok (.lreturn, 1) := by decide +kernel
theorem dX7_spanTerm_75 : decode cX7_spanTerm 75 = .ok (.ldc2_w 58, 3) := by decide +kernel
theorem dX7_spanTerm_78 : decode cX7_spanTerm 78 = .ok (.lreturn, 1) := by decide +kernel
theorem dX7_spanTerm_79 : decode cX7_spanTerm 79 = .ok (.lconst 0, 1) := by decide +kernel
theorem dX7_spanTerm_80 : decode cX7_spanTerm 80 = .ok (.lreturn, 1) := by decide +kernel
theorem dX8_init_0 : decode cX8_init 0 = .ok (.aload_n 0, 1) := by decide +kernel
theorem dX8_init_1 : decode cX8_init 1 = .ok (.iload_n 1, 1) := by decide +kernel
theorem dX8_init_2 : decode cX8_init 2 = .ok (.aload_n 2, 1) := by decide +kernel
theorem dX8_init_3 : decode cX8_init 3 = .ok (.iload_n 3, 1) := by decide +kernel
theorem dX8_init_4 : decode cX8_init 4 = .ok (.aload 4, 2) := by decide +kernel
theorem dX8_init_6 : decode cX8_init 6 = .ok (.invokespecial 3, 3) := by decide +kernel
theorem dX8_init_9 : decode cX8_init 9 = .ok (.return_, 1) := by decide +kernel
theorem dX8_pieces_0 : decode cX8_pieces 0 = .ok (.aload_n 0, 1) := by decide +kernel
theorem dX8_pieces_1 : decode cX8_pieces 1 = .ok (.getfield 9, 3) := by decide +kernel
theorem dX8_pieces_4 : decode cX8_pieces 4 = .ok (.arraylength, 1) := by decide +kernel
theorem dX8_pieces_5 : decode cX8_pieces 5 = .ok (.iconst 5, 1) := by decide +kernel
theorem dX8_pieces_6 : decode cX8_pieces 6 = .ok (.idiv, 1) := by decide +kernel
theorem dX8_pieces_7 : decode cX8_pieces 7 = .ok (.ireturn, 1) := by decide +kernel
theorem dX8_firstWrong_0 : decode cX8_firstWrong 0 = .ok (.aload_n 0, 1) := by decide +kernel
theorem dX8_firstWrong_1 : decode cX8_firstWrong 1 = .ok (.invokevirtual 15, 3) := by decide +kernel
theorem dX8_firstWrong_4 : decode cX8_firstWrong 4 = .ok (.ifCond .ne 6, 3) := by decide +kernel
theorem dX8_firstWrong_7 : decode cX8_firstWrong 7 = .ok (.bipush 9, 2) := by decide +kernel
theorem dX8_firstWrong_9 : decode cX8_firstWrong 9 = .ok (.ireturn, 1) := by decide +kernel
theorem dX8_firstWrong_10 : decode cX8_firstWrong 10 = .ok (.iconst 0, 1) := by decide +kernel
theorem dX8_firstWrong_11 : decode cX8_firstWrong 11 = .ok (.istore_n 2, 1) := by decide +kernel
theorem dX8_firstWrong_12 : decode cX8_firstWrong 12 = .ok (.iload_n 2, 1) := by decide +kernel
theorem dX8_firstWrong_13 : decode cX8_firstWrong 13 = .ok (.bipush 9, 2) := by decide +kernel
theorem dX8_firstWrong_15 : decode cX8_firstWrong 15 = .ok (.if_icmp .ge 27, 3) := by decide +kernel
theorem dX8_firstWrong_18 : decode cX8_firstWrong 18 = .ok (.aload_n 0, 1) := by decide +kernel
theorem dX8_firstWrong_19 : decode cX8_firstWrong 19 = .ok (.iload_n 2, 1) := by decide +kernel
theorem dX8_firstWrong_20 : decode cX8_firstWrong 20 = .ok (.aload_n 1, 1) := by decide +kernel
theorem dX8_firstWrong_21 : decode cX8_firstWrong 21 = .ok (.getfield 19, 3) := by decide +kernel
theorem dX8_firstWrong_24 : decode cX8_firstWrong 24 = .ok (.aload_n 1, 1) := by decide +kernel
theorem dX8_firstWrong_25 : decode cX8_firstWrong 25 = .ok (.getfield 25, 3) := by decide +kernel
theorem dX8_firstWrong_28 : decode cX8_firstWrong 28 = .ok (.invokevirtual 28, 3) := by decide +kernel
theorem dX8_firstWrong_31 : decode cX8_firstWrong 31 = .ok (.ifCond .ne 5, 3) := by decide +kernel
theorem dX8_firstWrong_34 : decode cX8_firstWrong 34 = .ok (.iload_n 2, 1) := by decide +kernel
theorem dX8_firstWrong_35 : decode cX8_firstWrong 35 = .ok (.ireturn, 1) := by decide +kernel
theorem dX8_firstWrong_36 : decode cX8_firstWrong 36 = .ok (.iinc 2 1, 3) := by decide +kernel
theorem dX8_firstWrong_39 : decode cX8_firstWrong 39 = .ok (.goto (-27), 3) := by decide +kernel
theorem dX8_firstWrong_42 : decode cX8_firstWrong 42 = .ok (.iconst (-1), 1) := by decide +kernel
theorem dX8_firstWrong_43 : decode cX8_firstWrong 43 = .ok (.ireturn, 1) := by decide +kernel
theorem dX8_hasWeightsAbove_0 : decode cX8_hasWeightsAbove 0 = .ok (.iconst 0, 1) := by decide +kernel
theorem dX8_hasWeightsAbove_1 : decode cX8_hasWeightsAbove 1 = .ok (.istore_n 1, 1) := by decide +kernel
theorem dX8_hasWeightsAbove_2 : decode cX8_hasWeightsAbove 2 = .ok (.iload_n 1, 1) := by decide +kernel
theorem dX8_hasWeightsAbove_3 : decode cX8_hasWeightsAbove 3 = .ok (.aload_n 0, 1) := by decide +kernel
theorem dX8_hasWeightsAbove_4 : decode cX8_hasWeightsAbove 4 = .ok (.invokevirtual 32, 3) := by decide +kernel
theorem dX8_hasWeightsAbove_7 : decode cX8_hasWeightsAbove 7 = .ok (.if_icmp .ge 21, 3) := by decide +kernel
theorem dX8_hasWeightsAbove_10 : decode cX8_hasWeightsAbove 10 = .ok (.aload_n 0, 1) := by decide +kernel
theorem dX8_hasWeightsAbove_11 : decode cX8_hasWeightsAbove 11 = .ok (.iconst 5, 1) := by decide +kernel
theorem dX8_hasWeightsAbove_12 : decode cX8_hasWeightsAbove 12 = .ok (.iload_n 1, 1) := by decide +kernel
theorem dX8_hasWeightsAbove_13 : decode cX8_hasWeightsAbove 13 = .ok (.imul, 1) := by decide +kernel
theorem dX8_hasWeightsAbove_14 : decode cX8_hasWeightsAbove 14 = .ok (.invokevirtual 36, 3) := by decide +kernel
theorem dX8_hasWeightsAbove_17 : decode cX8_hasWeightsAbove 17 = .ok (.ifCond .ne 5, 3) := by decide +kernel
theorem dX8_hasWeightsAbove_20 : decode cX8_hasWeightsAbove 20 = .ok (.iconst 0, 1) := by decide +kernel
theorem dX8_hasWeightsAbove_21 : decode cX8_hasWeightsAbove 21 = .ok (.ireturn, 1) := by decide +kernel
theorem dX8_hasWeightsAbove_22 : decode cX8_hasWeightsAbove 22 = .ok (.iinc 1 1, 3) := by decide +kernel
theorem dX8_hasWeightsAbove_25 : decode cX8_hasWeightsAbove 25 = .ok (.goto (-23), 3) := by decide +kernel
theorem dX8_hasWeightsAbove_28 : decode cX8_hasWeightsAbove 28 = .ok (.iconst 1, 1) := by decide +kernel
theorem dX8_hasWeightsAbove_29 : decode cX8_hasWeightsAbove 29 = .ok (.ireturn, 1) := by decide +kernel
theorem dX8_isWeightAbove_0 : decode cX8_isWeightAbove 0 = .ok (.aload_n 0, 1) := by decide +kernel
theorem dX8_isWeightAbove_1 : decode cX8_isWeightAbove 1 = .ok (.getfield 9, 3) := by decide +kernel
theorem dX8_isWeightAbove_4 : decode cX8_isWeightAbove 4 = .ok (.iload_n 1, 1) := by decide +kernel
theorem dX8_isWeightAbove_5 : decode cX8_isWeightAbove 5 = .ok (.laload, 1) := by decide +kernel
theorem dX8_isWeightAbove_6 : decode cX8_isWeightAbove 6 = .ok (.lconst 0, 1) := by decide +kernel
theorem dX8_isWeightAbove_7 : decode cX8_isWeightAbove 7 = .ok (.lcmp, 1) := by decide +kernel
theorem dX8_isWeightAbove_8 : decode cX8_isWeightAbove 8 = .ok (.ifCond .le 20, 3) := by decide +kernel
theorem dX8_isWeightAbove_11 : decode cX8_isWeightAbove 11 = .ok (.aload_n 0, 1) := by decide +kernel
theorem dX8_isWeightAbove_12 : decode cX8_isWeightAbove 12 = .ok (.getfield 9, 3) := by decide +kernel
theorem dX8_isWeightAbove_15 : decode cX8_isWeightAbove 15 = .ok (.iload_n 1, 1) := by decide +kernel
theorem dX8_isWeightAbove_16 : decode cX8_isWeightAbove 16 = .ok (.iconst 1, 1) := by decide +kernel
theorem dX8_isWeightAbove_17 : decode cX8_isWeightAbove 17 = .ok (.iadd, 1) := by decide +kernel
theorem dX8_isWeightAbove_18 : decode cX8_isWeightAbove 18 = .ok (.laload, 1) := by decide +kernel
theorem dX8_isWeightAbove_19 : decode cX8_isWeightAbove 19 = .ok (.lconst 0, 1) := by decide +kernel
theorem dX8_isWeightAbove_20 : decode cX8_isWeightAbove 20 = .ok (.lcmp, 1) := by decide +kernel
theorem dX8_isWeightAbove_21 : decode cX8_isWeightAbove 21 = .ok (.ifCond .le 7, 3) := by decide +kernel
theorem dX8_isWeightAbove_24 : decode cX8_isWeightAbove 24 = .ok (.iconst 1, 1) := by decide +kernel
theorem dX8_isWeightAbove_25 : decode cX8_isWeightAbove 25 = .ok (.goto 4, 3) := by decide +kernel
theorem dX8_isWeightAbove_28 : decode cX8_isWeightAbove 28 = .ok (.iconst 0, 1) := by decide +kernel
theorem dX8_isWeightAbove_29 : decode cX8_isWeightAbove 29 = .ok (.ireturn, 1) := by decide +kernel
theorem dX8_holds_0 : decode cX8_holds 0 = .ok (.aload_n 3, 1) := by decide +kernel
theorem dX8_holds_1 : decode cX8_holds 1 = .ok (.aload_n 0, 1) := by decide +kernel
theorem dX8_holds_2 : decode cX8_holds 2 = .ok (.getfield 40, 3) := by decide +kernel
theorem dX8_holds_5 : decode cX8_holds 5 = .ok (.getfield 44, 3) := by decide +kernel
theorem dX8_holds_8 : decode cX8_holds 8 = .ok (.iload_n 1, 1) := by decide +kernel
theorem dX8_holds_9 : decode cX8_holds 9 = .ok (.laload, 1) := by decide +kernel
theorem dX8_holds_10 : decode cX8_holds 10 = .ok (.lneg, 1) := by decide +kernel
theorem dX8_holds_11 : decode cX8_holds 11 = .ok (.invokevirtual 49, 3) := by decide +kernel
theorem dX8_holds_14 : decode cX8_holds 14 = .ok (.aload_n 0, 1) := by decide +kernel
theorem dX8_holds_15 : decode cX8_holds 15 = .ok (.aload_n 3, 1) := by decide +kernel
theorem dX8_holds_16 : decode cX8_holds 16 = .ok (.iconst (-1), 1) := by decide +kernel
theorem dX8_holds_17 : decode cX8_holds 17 = .ok (.invokevirtual 55, 3) := by decide +kernel
theorem dX8_holds_20 : decode cX8_holds 20 = .ok (.aload_n 3, 1) := by decide +kernel
theorem dX8_holds_21 : decode cX8_holds 21 = .ok (.aload_n 0, 1) := by decide +kernel
theorem dX8_holds_22 : decode cX8_holds 22 = .ok (.invokevirtual 59, 3) := by decide +kernel
theorem dX8_holds_25 : decode cX8_holds 25 = .ok (.invokevirtual 63, 3) := by decide +kernel
theorem dX8_holds_28 : decode cX8_holds 28 = .ok (.aload_n 2, 1) := by decide +kernel
theorem dX8_holds_29 : decode cX8_holds 29 = .ok (.lconst 0, 1) := by decide +kernel
theorem dX8_holds_30 : decode cX8_holds 30 = .ok (.invokevirtual 49, 3) := by decide +kernel
theorem dX8_holds_33 : decode cX8_holds 33 = .ok (.aload_n 2, 1) := by decide +kernel
theorem dX8_holds_34 : decode cX8_holds 34 = .ok (.aload_n 3, 1) := by decide +kernel
theorem dX8_holds_35 : decode cX8_holds 35 = .ok (.invokevirtual 66, 3) := by decide +kernel
theorem dX8_holds_38 : decode cX8_holds 38 = .ok (.iconst 0, 1) := by decide +kernel
theorem dX8_holds_39 : decode cX8_holds 39 = .ok (.istore 4, 2) := by decide +kernel
theorem dX8_holds_41 : decode cX8_holds 41 = .ok (.iload 4, 2) := by decide +kernel
theorem dX8_holds_43 : decode cX8_holds 43 = .ok (.aload_n 0, 1) := by decide +kernel
theorem dX8_holds_44 : decode cX8_holds 44 = .ok (.invokevirtual 32, 3) := by decide +kernel
theorem dX8_holds_47 : decode cX8_holds 47 = .ok (.if_icmp .ge 30, 3) := by decide +kernel
theorem dX8_holds_50 : decode cX8_holds 50 = .ok (.getstatic 70, 3) := by decide +kernel
theorem dX8_holds_53 : decode cX8_holds 53 = .ok (.iload_n 1, 1) := by decide +kernel
theorem dX8_holds_54 : decode cX8_holds 54 = .ok (.iaload, 1) := by decide +kernel
theorem dX8_holds_55 : decode cX8_holds 55 = .ok (.ifCond .lt 22, 3) := by decide +kernel
theorem dX8_holds_58 : decode cX8_holds 58 = .ok (.aload_n 0, 1) := by decide +kernel
theorem dX8_holds_59 : decode cX8_holds 59 = .ok (.iload_n 1, 1) := by decide +kernel
theorem dX8_holds_60 : decode cX8_holds 60 = .ok (.iload 4, 2) := by decide +kernel
theorem dX8_holds_62 : decode cX8_holds 62 = .ok (.aload_n 3, 1) := by decide +kernel
theorem dX8_holds_63 : decode cX8_holds 63 = .ok (.invokevirtual 74, 3) := by decide +kernel
theorem dX8_holds_66 : decode cX8_holds 66 = .ok (.aload_n 2, 1) := by decide +kernel
theorem dX8_holds_67 : decode cX8_holds 67 = .ok (.aload_n 3, 1) := by decide +kernel
theorem dX8_holds_68 : decode cX8_holds 68 = .ok (.invokevirtual 66, 3) := by decide +kernel
theorem dX8_holds_71 : decode cX8_holds 71 = .ok (.iinc 4 1, 3) := by decide +kernel
theorem dX8_holds_74 : decode cX8_holds 74 = .ok (.goto (-33), 3) := by decide +kernel
theorem dX8_holds_77 : decode cX8_holds 77 = .ok (.aload_n 0, 1) := by decide +kernel
theorem dX8_holds_78 : decode cX8_holds 78 = .ok (.iload_n 1, 1) := by decide +kernel
theorem dX8_holds_79 : decode cX8_holds 79 = .ok (.aload_n 3, 1) := by decide +kernel
theorem dX8_holds_80 : decode cX8_holds 80 = .ok (.invokevirtual 78, 3) := by decide +kernel
theorem dX8_holds_83 : decode cX8_holds 83 = .ok (.aload_n 2, 1) := by decide +kernel
theorem dX8_holds_84 : decode cX8_holds 84 = .ok (.aload_n 3, 1) := by decide +kernel
theorem dX8_holds_85 : decode cX8_holds 85 = .ok (.invokevirtual 66, 3) := by decide +kernel
theorem dX8_holds_88 : decode cX8_holds 88 = .ok (.aload_n 2, 1) := by decide +kernel
theorem dX8_holds_89 : decode cX8_holds 89 = .ok (.invokevirtual 82, 3) := by decide +kernel
theorem dX8_holds_92 : decode cX8_holds 92 = .ok (.ireturn, 1) := by decide +kernel
theorem dX8_squareShare_0 : decode cX8_squareShare 0 = .ok (.iconst 5, 1) := by decide +kernel
theorem dX8_squareShare_1 : decode cX8_squareShare 1 = .ok (.iload_n 2, 1) := by decide +kernel
theorem dX8_squareShare_2 : decode cX8_squareShare 2 = .ok (.imul, 1) := by decide +kernel
theorem dX8_squareShare_3 : decode cX8_squareShare 3 = .ok (.istore 4, 2) := by decide +kernel
theorem dX8_squareShare_5 : decode cX8_squareShare 5 = .ok (.getstatic 70, 3) := by decide +kernel
theorem dX8_squareShare_8 : decode cX8_squareShare 8 = .ok (.iload_n 1, 1) := by decide +kernel
theorem dX8_squareShare_9 : decode cX8_squareShare 9 = .ok (.iaload, 1) := by decide +kernel
theorem dX8_squareShare_10 : decode cX8_squareShare 10 = .ok (.istore 5, 2) := by decide +kernel
theorem dX8_squareShare_12 : decode cX8_squareShare 12 = .ok (.getstatic 85, 3) := by decide +kernel
theorem dX8_squareShare_15 : decode cX8_squareShare 15 = .ok (.iload_n 1, 1) := by decide +kernel
theorem dX8_squareShare_16 : decode cX8_squareShare 16 = .ok (.iaload, 1) := by decide +kernel
theorem dX8_squareShare_17 : decode cX8_squareShare 17 = .ok (.istore 6, 2) := by decide +kernel
theorem dX8_squareShare_19 : decode cX8_squareShare 19 = .ok (.aload_n 3, 1) := by decide +kernel
theorem dX8_squareShare_20 : decode cX8_squareShare 20 = .ok (.aload_n 0, 1) := by decide +kernel
theorem dX8_squareShare_21 : decode cX8_squareShare 21 = .ok (.getfield 9, 3) := by decide +kernel
theorem dX8_squareShare_24 : decode cX8_squareShare 24 = .ok (.iload 4, 2) := by decide +kernel
theorem dX8_squareShare_26 : decode cX8_squareShare 26 = .ok (.laload, 1) := by decide +kernel
theorem dX8_squareShare_27 : decode cX8_squareShare 27 = .ok (.invokevirtual 49, 3) := by decide +kernel
theorem dX8_squareShare_30 : decode cX8_squareShare 30 = .ok (.aload_n 3, 1) := by decide +kernel
theorem dX8_squareShare_31 : decode cX8_squareShare 31 = .ok (.aload_n 0, 1) := by decide +kernel
theorem dX8_squareShare_32 : decode cX8_squareShare 32 = .ok (.getfield 9, 3) := by decide +kernel
theorem dX8_squareShare_35 : decode cX8_squareShare 35 = .ok (.iload 4, 2) := by decide +kernel
theorem dX8_squareShare_37 : decode cX8_squareShare 37 = .ok (.iconst 2, 1) := by decide +kernel
theorem dX8_squareShare_38 : decode cX8_squareShare 38 = .ok (.iadd, 1) := by decide +kernel
theorem dX8_squareShare_39 : decode cX8_squareShare 39 = .ok (.iload 5, 2) := by decide +kernel
theorem dX8_squareShare_41 : decode cX8_squareShare 41 = .ok (.iadd, 1) := by decide +kernel
theorem dX8_squareShare_42 : decode cX8_squareShare 42 = .ok (.laload, 1) := by decide +kernel
theorem dX8_squareShare_43 : decode cX8_squareShare 43 = .ok (.invokevirtual 63, 3) := by decide +kernel
theorem dX8_squareShare_46 : decode cX8_squareShare 46 = .ok (.aload_n 3, 1) := by decide +kernel
theorem dX8_squareShare_47 : decode cX8_squareShare 47 = .ok (.aload_n 0, 1) := by decide +kernel
theorem dX8_squareShare_48 : decode cX8_squareShare 48 = .ok (.getfield 9, 3) := by decide +kernel
theorem dX8_squareShare_51 : decode cX8_squareShare 51 = .ok (.iload 4, 2) := by decide +kernel
theorem dX8_squareShare_53 : decode cX8_squareShare 53 = .ok (.iconst 2, 1) := by decide +kernel
theorem dX8_squareShare_54 : decode cX8_squareShare 54 = .ok (.iadd, 1) := by decide +kernel
theorem dX8_squareShare_55 : decode cX8_squareShare 55 = .ok (.iload 6, 2) := by decide +kernel
theorem dX8_squareShare_57 : decode cX8_squareShare 57 = .ok (.iadd, 1) := by decide +kernel
theorem dX8_squareShare_58 : decode cX8_squareShare 58 = .ok (.laload, 1) := by decide +kernel
theorem dX8_squareShare_59 : decode cX8_squareShare 59 = .ok (.invokevirtual 63, 3) := by decide +kernel
theorem dX8_squareShare_62 : decode cX8_squareShare 62 = .ok (.aload_n 3, 1) := by decide +kernel
theorem dX8_squareShare_63 : decode cX8_squareShare 63 = .ok (.iload 5, 2) := by decide +kernel
theorem dX8_squareShare_65 : decode cX8_squareShare 65 = .ok (.iload 6, 2) := by decide +kernel
theorem dX8_squareShare_67 : decode cX8_squareShare 67 = .ok (.if_icmp .ne 7, 3) := by decide +kernel
theorem dX8_squareShare_70 : decode cX8_squareShare 70 = .ok (.lconst 1, 1) := by decide +kernel
theorem dX8_squareShare_71 : decode cX8_squareShare 71 = .ok (.goto 6, 3) := by decide +kernel
theorem dX8_squareShare_74 : decode cX8_squareShare 74 = .ok (.ldc2_w 88, 3) := by decide +kernel
theorem dX8_squareShare_77 : decode cX8_squareShare 77 = .ok (.invokevirtual 63, 3) := by decide +kernel
theorem dX8_squareShare_80 : decode cX8_squareShare 80 = .ok (.aload_n 0, 1) := by decide +kernel
theorem dX8_squareShare_81 : decode cX8_squareShare 81 = .ok (.aload_n 3, 1) := by decide +kernel
theorem dX8_squareShare_82 : decode cX8_squareShare 82 = .ok (.iload_n 2, 1) := by decide +kernel
theorem dX8_squareShare_83 : decode cX8_squareShare 83 = .ok (.invokevirtual 55, 3) := by decide +kernel
theorem dX8_squareShare_86 : decode cX8_squareShare 86 = .ok (.aload_n 3, 1) := by decide +kernel
theorem dX8_squareShare_87 : decode cX8_squareShare 87 = .ok (.aload_n 0, 1) := by decide +kernel
theorem dX8_squareShare_88 : decode cX8_squareShare 88 = .ok (.invokevirtual 59, 3) := by decide +kernel
theorem dX8_squareShare_91 : decode cX8_squareShare 91 = .ok (.invokevirtual 63, 3) := by decide +kernel
theorem dX8_squareShare_94 : decode cX8_squareShare 94 = .ok (.return_, 1) := by decide +kernel
theorem dX8_multiplyByOthers_0 : decode cX8_multiplyByOthers 0 = .ok (.iconst 0, 1) := by decide +kernel
theorem dX8_multiplyByOthers_1 : decode cX8_multiplyByOthers 1 = .ok (.istore_n 3, 1) := by decide +kernel
theorem dX8_multiplyByOthers_2 : decode cX8_multiplyByOthers 2 = .ok (.iload_n 3, 1) := by decide +kernel
theorem dX8_multiplyByOthers_3 : decode cX8_multiplyByOthers 3 = .ok (.aload_n 0, 1) := by decide +kernel
theorem dX8_multiplyByOthers_4 : decode cX8_multiplyByOthers 4 = .ok (.invokevirtual 32, 3) := by decide +kernel
theorem dX8_multiplyByOthers_7 : decode cX8_multiplyByOthers 7 = .ok (.if_icmp .ge 28, 3) := by decide +kernel
theorem dX8_multiplyByOthers_10 : decode cX8_multiplyByOthers 10 = .ok (.iload_n 3, 1) := by decide +kernel
theorem dX8_multiplyByOthers_11 : decode cX8_multiplyByOthers 11 = .ok (.iload_n 2, 1) := by decide +kernel
theorem dX8_multiplyByOthers_12 : decode cX8_multiplyByOthers 12 = .ok (.if_icmp .eq 17, 3) := by decide +kernel
theorem dX8_multiplyByOthers_15 : decode cX8_multiplyByOthers 15 = .ok (.aload_n 1, 1) := by decide +kernel
theorem dX8_multiplyByOthers_16 : decode cX8_multiplyByOthers 16 = .ok (.aload_n 0, 1) := by decide +kernel
theorem dX8_multiplyByOthers_17 : decode cX8_multiplyByOthers 17 = .ok (.getfield 9, 3) := by decide +kernel
theorem dX8_multiplyByOthers_20 : decode cX8_multiplyByOthers 20 = .ok (.iconst 5, 1) := by decide +kernel
theorem dX8_multiplyByOthers_21 : decode cX8_multiplyByOthers 21 = .ok (.iload_n 3, 1) := by decide +kernel
theorem dX8_multiplyByOthers_22 : decode cX8_multiplyByOthers 22 = .ok (.imul, 1) := by decide +kernel
theorem dX8_multiplyByOthers_23 : decode cX8_multiplyByOthers 23 = .ok (.iconst 1, 1) := by decide +kernel
theorem dX8_multiplyByOthers_24 : decode cX8_multiplyByOthers 24 = .ok (.iadd, 1) := by decide +kernel
theorem dX8_multiplyByOthers_25 : decode cX8_multiplyByOthers 25 = .ok (.laload, 1) := by decide +kernel
theorem dX8_multiplyByOthers_26 : decode cX8_multiplyByOthers 26 = .ok (.invokevirtual 63, 3) := by decide +kernel
theorem dX8_multiplyByOthers_29 : decode cX8_multiplyByOthers 29 = .ok (.iinc 3 1, 3) := by decide +kernel
theorem dX8_multiplyByOthers_32 : decode cX8_multiplyByOthers 32 = .ok (.goto (-30), 3) := by decide +kernel
theorem dX8_multiplyByOthers_35 : decode cX8_multiplyByOthers 35 = .ok (.return_, 1) := by decide +kernel
theorem dX8_spanDivisor_0 : decode cX8_spanDivisor 0 = .ok (.lconst 1, 1) := by decide +kernel
theorem dX8_spanDivisor_1 : decode cX8_spanDivisor 1 = .ok (.lreturn, 1) := by decide +kernel
theorem dX8_spanShare_0 : decode cX8_spanShare 0 = .ok (.aload_n 2, 1) := by decide +kernel
theorem dX8_spanShare_1 : decode cX8_spanShare 1 = .ok (.lconst 0, 1) := by decide +kernel
theorem dX8_spanShare_2 : decode cX8_spanShare 2 = .ok (.invokevirtual 49, 3) := by decide +kernel
theorem dX8_spanShare_5 : decode cX8_spanShare 5 = .ok (.return_, 1) := by decide +kernel
theorem dX9_init_0 : decode cX9_init 0 = .ok (.aload_n 0, 1) := by decide +kernel
theorem dX9_init_1 : decode cX9_init 1 = .ok (.invokespecial 1, 3) := by decide +kernel
theorem dX9_init_4 : decode cX9_init 4 = .ok (.aload_n 0, 1) := by decide +kernel
theorem dX9_init_5 : decode cX9_init 5 = .ok (.bipush 12, 2) := by decide +kernel
theorem dX9_init_7 : decode cX9_init 7 = .ok (.newarray .int, 2) := by decide +kernel
theorem dX9_init_9 : decode cX9_init 9 = .ok (.putfield 7, 3) := by decide +kernel
theorem dX9_init_12 : decode cX9_init 12 = .ok (.return_, 1) := by decide +kernel
theorem dX9_become_0 : decode cX9_become 0 = .ok (.aload_n 0, 1) := by decide +kernel
theorem dX9_become_1 : decode cX9_become 1 = .ok (.getfield 7, 3) := by decide +kernel
theorem dX9_become_4 : decode cX9_become 4 = .ok (.iconst 0, 1) := by decide +kernel
theorem dX9_become_5 : decode cX9_become 5 = .ok (.lload_n 1, 1) := by decide +kernel
theorem dX9_become_6 : decode cX9_become 6 = .ok (.l2i, 1) := by decide +kernel
theorem dX9_become_7 : decode cX9_become 7 = .ok (.iastore, 1) := by decide +kernel
theorem dX9_become_8 : decode cX9_become 8 = .ok (.aload_n 0, 1) := by decide +kernel
theorem dX9_become_9 : decode cX9_become 9 = .ok (.getfield 7, 3) := by decide +kernel
theorem dX9_become_12 : decode cX9_become 12 = .ok (.iconst 1, 1) := by decide +kernel
theorem dX9_become_13 : decode cX9_become 13 = .ok (.lload_n 1, 1) := by decide +kernel
theorem dX9_become_14 : decode cX9_become 14 = .ok (.bipush 32, 2) := by decide +kernel
theorem dX9_become_16 : decode cX9_become 16 = .ok (.lshr, 1) := by decide +kernel
theorem dX9_become_17 : decode cX9_become 17 = .ok (.l2i, 1) := by decide +kernel
theorem dX9_become_18 : decode cX9_become 18 = .ok (.iastore, 1) := by decide +kernel
theorem dX9_become_19 : decode cX9_become 19 = .ok (.aload_n 0, 1) := by decide +kernel
theorem dX9_become_20 : decode cX9_become 20 = .ok (.getfield 7, 3) := by decide +kernel
theorem dX9_become_23 : decode cX9_become 23 = .ok (.iconst 2, 1) := by decide +kernel
theorem dX9_become_24 : decode cX9_become 24 = .ok (.aload_n 0, 1) := by decide +kernel
theorem dX9_become_25 : decode cX9_become 25 = .ok (.getfield 7, 3) := by decide +kernel
theorem dX9_become_28 : decode cX9_become 28 = .ok (.arraylength, 1) := by decide +kernel
theorem dX9_become_29 : decode cX9_become 29 = .ok (.lload_n 1, 1) := by decide +kernel
theorem dX9_become_30 : decode cX9_become 30 = .ok (.lconst 0, 1) := by decide +kernel
theorem dX9_become_31 : decode cX9_become 31 = .ok (.lcmp, 1) := by decide +kernel
theorem dX9_become_32 : decode cX9_become 32 = .ok (.ifCond .ge 7, 3) := by decide +kernel
theorem dX9_become_35 : decode cX9_become 35 = .ok (.iconst (-1), 1) := by decide +kernel
theorem dX9_become_36 : decode cX9_become 36 = .ok (.goto 4, 3) := by decide +kernel
theorem dX9_become_39 : decode cX9_become 39 = .ok (.iconst 0, 1) := by decide +kernel
theorem dX9_become_40 : decode cX9_become 40 = .ok (.invokestatic 13, 3) := by decide +kernel
theorem dX9_become_43 : decode cX9_become 43 = .ok (.return_, 1) := by decide +kernel
theorem dX9_multiplyBy_0 : decode cX9_multiplyBy 0 = .ok (.lload_n 1, 1) := by decide +kernel
theorem dX9_multiplyBy_1 : decode cX9_multiplyBy 1 = .ok (.invokestatic 19, 3) := by decide +kernel
theorem dX9_multiplyBy_4 : decode cX9_multiplyBy 4 = .ok (.lstore_n 3, 1) := by decide +kernel
theorem dX9_multiplyBy_5 : decode cX9_multiplyBy 5 = .ok (.lload_n 3, 1) := by decide +kernel
theorem dX9_multiplyBy_6 : decode cX9_multiplyBy 6 = .ok (.ldc2_w 25, 3) := by decide +kernel
theorem dX9_multiplyBy_9 : decode cX9_multiplyBy 9 = .ok (.land, 1) := by decide +kernel
theorem dX9_multiplyBy_10 : decode cX9_multiplyBy 10 = .ok (.lstore 5, 2) := by decide +kernel
theorem dX9_multiplyBy_12 : decode cX9_multiplyBy 12 = .ok (.lload_n 3, 1) := by decide +kernel
theorem dX9_multiplyBy_13 : decode cX9_multiplyBy 13 = .ok (.bipush 32, 2) := by decide +kernel
theorem dX9_multiplyBy_15 : decode cX9_multiplyBy 15 = .ok (.lushr, 1) := by decide +kernel
theorem dX9_multiplyBy_16 : decode cX9_multiplyBy 16 = .ok (.lstore 7, 2) := by decide +kernel
theorem dX9_multiplyBy_18 : decode cX9_multiplyBy 18 = .ok (.lconst 0, 1) := by decide +kernel
theorem dX9_multiplyBy_19 : decode cX9_multiplyBy 19 = .ok (.lstore 9, 2) := by decide +kernel
theorem dX9_multiplyBy_21 : decode cX9_multiplyBy 21 = .ok (.lconst 0, 1) := by decide +kernel
theorem dX9_multiplyBy_22 : decode cX9_multiplyBy 22 = .ok (.lstore 11, 2) := by decide +kernel
theorem dX9_multiplyBy_24 : decode cX9_multiplyBy 24 = .ok (.lconst 0, 1) := by decide +kernel
theorem dX9_multiplyBy_25 : decode cX9_multiplyBy 25 = .ok (.lstore 13, 2) := by decide +kernel
theorem dX9_multiplyBy_27 : decode cX9_multiplyBy 27 = .ok (.iconst 0, 1) := by decide +kernel
theorem dX9_multiplyBy_28 : decode cX9_multiplyBy 28 = .ok (.istore 15, 2) := by decide +kernel
theorem dX9_multiplyBy_30 : decode cX9_multiplyBy 30 = .ok (.iload 15, 2) := by decide +kernel
theorem dX9_multiplyBy_32 : decode cX9_multiplyBy 32 = .ok (.aload_n 0, 1) := by decide +kernel
theorem dX9_multiplyBy_33 : decode cX9_multiplyBy 33 = .ok (.getfield 7, 3) := by decide +kernel
theorem dX9_multiplyBy_36 : decode cX9_multiplyBy 36 = .ok (.arraylength, 1) := by decide +kernel
theorem dX9_multiplyBy_37 : decode cX9_multiplyBy 37 = .ok (.if_icmp .ge 78, 3) := by decide +kernel
theorem dX9_multiplyBy_40 : decode cX9_multiplyBy 40 = .ok (.aload_n 0, 1) := by decide +kernel
theorem dX9_multiplyBy_41 : decode cX9_multiplyBy 41 = .ok (.getfield 7, 3) := by decide +kernel
theorem dX9_multiplyBy_44 : decode cX9_multiplyBy 44 = .ok (.iload 15, 2) := by decide +kernel
theorem dX9_multiplyBy_46 : decode cX9_multiplyBy 46 = .ok (.iaload, 1) := by decide +kernel
theorem dX9_multiplyBy_47 : decode cX9_multiplyBy 47 = .ok (.i2l, 1) := by decide +kernel
theorem dX9_multiplyBy_48 : decode cX9_multiplyBy 48 = .ok (.ldc2_w 25, 3) := by decide +kernel
theorem dX9_multiplyBy_51 : decode cX9_multiplyBy 51 = .ok (.land, 1) := by decide +kernel
theorem dX9_multiplyBy_52 : decode cX9_multiplyBy 52 = .ok (.lstore 16, 2) := by decide +kernel
theorem dX9_multiplyBy_54 : decode cX9_multiplyBy 54 = .ok (.lload 16, 2) := by decide +kernel
theorem dX9_multiplyBy_56 : decode cX9_multiplyBy 56 = .ok (.lload 5, 2) := by decide +kernel
theorem dX9_multiplyBy_58 : decode cX9_multiplyBy 58 = .ok (.lmul, 1) := by decide +kernel
theorem dX9_multiplyBy_59 : decode cX9_multiplyBy 59 = .ok (.lload 9, 2) := by decide +kernel
theorem dX9_multiplyBy_61 : decode cX9_multiplyBy 61 = .ok (.ladd, 1) := by decide +kernel
theorem dX9_multiplyBy_62 : decode cX9_multiplyBy 62 = .ok (.lstore 18, 2) := by decide +kernel
theorem dX9_multiplyBy_64 : decode cX9_multiplyBy 64 = .ok (.lload 13, 2) := by decide +kernel
theorem dX9_multiplyBy_66 : decode cX9_multiplyBy 66 = .ok (.lload 7, 2) := by decide +kernel
theorem dX9_multiplyBy_68 : decode cX9_multiplyBy 68 = .ok (.lmul, 1) := by decide +kernel
theorem dX9_multiplyBy_69 : decode cX9_multiplyBy 69 = .ok (.lload 18, 2) := by decide +kernel
theorem dX9_multiplyBy_71 : decode cX9_multiplyBy 71 = .ok (.ldc2_w 25, 3) := by decide +kernel
theorem dX9_multiplyBy_74 : decode cX9_multiplyBy 74 = .ok (.land, 1) := by decide +kernel
theorem dX9_multiplyBy_75 : decode cX9_multiplyBy 75 = .ok (.ladd, 1) := by decide +kernel
theorem dX9_multiplyBy_76 : decode cX9_multiplyBy 76 = .ok (.lload 11, 2) := by decide +kernel
theorem dX9_multiplyBy_78 : decode cX9_multiplyBy 78 = .ok (.ladd, 1) := by decide +kernel
theorem dX9_multiplyBy_79 : decode cX9_multiplyBy 79 = .ok (.lstore 20, 2) := by decide +kernel
theorem dX9_multiplyBy_81 : decode cX9_multiplyBy 81 = .ok (.aload_n 0, 1) := by decide +kernel
theorem dX9_multiplyBy_82 : decode cX9_multiplyBy 82 = .ok (.getfield 7, 3) := by decide +kernel
theorem dX9_multiplyBy_85 : decode cX9_multiplyBy 85 = .ok (.iload 15, 2) := by decide +kernel
theorem dX9_multiplyBy_87 : decode cX9_multiplyBy 87 = .ok (.lload 20, 2) := by decide +kernel
theorem dX9_multiplyBy_89 : decode cX9_multiplyBy 89 = .ok (.l2i, 1) := by decide +kernel
theorem dX9_multiplyBy_90 : decode cX9_multiplyBy 90 = .ok (.iastore, 1) := by decide +kernel
theorem dX9_multiplyBy_91 : decode cX9_multiplyBy 91 = .ok (.lload 18, 2) := by decide +kernel
theorem dX9_multiplyBy_93 : decode cX9_multiplyBy 93 = .ok (.bipush 32, 2) := by decide +kernel
theorem dX9_multiplyBy_95 : decode cX9_multiplyBy 95 = .ok (.lushr, 1) := by decide +kernel
theorem dX9_multiplyBy_96 : decode cX9_multiplyBy 96 = .ok (.lstore 9, 2) := by decide +kernel
theorem dX9_multiplyBy_98 : decode cX9_multiplyBy 98 = .ok (.lload 20, 2) := by decide +kernel
theorem dX9_multiplyBy_100 : decode cX9_multiplyBy 100 = .ok (.bipush 32, 2) := by decide +kernel
theorem dX9_multiplyBy_102 : decode cX9_multiplyBy 102 = .ok (.lushr, 1) := by decide +kernel
theorem dX9_multiplyBy_103 : decode cX9_multiplyBy 103 = .ok (.lstore 11, 2) := by decide +kernel
theorem dX9_multiplyBy_105 : decode cX9_multiplyBy 105 = .ok (.lload 16, 2) := by decide +kernel
theorem dX9_multiplyBy_107 : decode cX9_multiplyBy 107 = .ok (.lstore 13, 2) := by decide +kernel
theorem dX9_multiplyBy_109 : decode cX9_multiplyBy 109 = .ok (.iinc 15 1, 3) := by decide +kernel
theorem dX9_multiplyBy_112 : decode cX9_multiplyBy 112 = .ok (.goto (-82), 3) := by decide +kernel
theorem dX9_multiplyBy_115 : decode cX9_multiplyBy 115 = .ok (.lload_n 1, 1) := by decide +kernel
theorem dX9_multiplyBy_116 : decode cX9_multiplyBy 116 = .ok (.lconst 0, 1) := by decide +kernel
theorem dX9_multiplyBy_117 : decode cX9_multiplyBy 117 = .ok (.lcmp, 1) := by decide +kernel
theorem dX9_multiplyBy_118 : decode cX9_multiplyBy 118 = .ok (.ifCond .ge 7, 3) := by decide +kernel
theorem dX9_multiplyBy_121 : decode cX9_multiplyBy 121 = .ok (.aload_n 0, 1) := by decide +kernel
theorem dX9_multiplyBy_122 : decode cX9_multiplyBy 122 = .ok (.invokevirtual 27, 3) := by decide +kernel
theorem dX9_multiplyBy_125 : decode cX9_multiplyBy 125 = .ok (.return_, 1) := by decide +kernel
theorem dX9_turnSign_0 : decode cX9_turnSign 0 = .ok (.lconst 1, 1) := by decide +kernel
theorem dX9_turnSign_1 : decode cX9_turnSign 1 = .ok (.lstore_n 1, 1) := by decide +kernel
theorem dX9_turnSign_2 : decode cX9_turnSign 2 = .ok (.iconst 0, 1) := by decide +kernel
theorem dX9_turnSign_3 : decode cX9_turnSign 3 = .ok (.istore_n 3, 1) := by decide +kernel
theorem dX9_turnSign_4 : decode cX9_turnSign 4 = .ok (.iload_n 3, 1) := by decide +kernel
theorem dX9_turnSign_5 : decode cX9_turnSign 5 = .ok (.aload_n 0, 1) := by decide +kernel
theorem dX9_turnSign_6 : decode cX9_turnSign 6 = .ok (.getfield 7, 3) := by decide +kernel
theorem dX9_turnSign_9 : decode cX9_turnSign 9 = .ok (.arraylength, 1) := by decide +kernel
theorem dX9_turnSign_10 : decode cX9_turnSign 10 = .ok (.if_icmp .ge 38, 3) := by decide +kernel
theorem dX9_turnSign_13 : decode cX9_turnSign 13 = .ok (.lload_n 1, 1) := by decide +kernel
theorem dX9_turnSign_14 : decode cX9_turnSign 14 = .ok (.aload_n 0, 1) := by decide +kernel
theorem dX9_turnSign_15 : decode cX9_turnSign 15 = .ok (.getfield 7, 3) := by decide +kernel
theorem dX9_turnSign_18 : decode cX9_turnSign 18 = .ok (.iload_n 3, 1) := by decide +kernel
theorem dX9_turnSign_19 : decode cX9_turnSign 19 = .ok (.iaload, 1) := by decide +kernel
theorem dX9_turnSign_20 : decode cX9_turnSign 20 = .ok (.iconst (-1), 1) := by decide +kernel
theorem dX9_turnSign_21 : decode cX9_turnSign 21 = .ok (.ixor, 1) := by decide +kernel
theorem dX9_turnSign_22 : decode cX9_turnSign 22 = .ok (.i2l, 1) := by decide +kernel
theorem dX9_turnSign_23 : decode cX9_turnSign 23 = .ok (.ldc2_w 25, 3) := by decide +kernel
theorem dX9_turnSign_26 : decode cX9_turnSign 26 = .ok (.land, 1) := by decide +kernel
theorem dX9_turnSign_27 : decode cX9_turnSign 27 = .ok (.ladd, 1) := by decide +kernel
theorem dX9_turnSign_28 : decode cX9_turnSign 28 = .ok (.lstore_n 1, 1) := by decide +kernel
theorem dX9_turnSign_29 : decode cX9_turnSign 29 = .ok (.aload_n 0, 1) := by decide +kernel
theorem dX9_turnSign_30 : decode cX9_turnSign 30 = .ok (.getfield 7, 3) := by decide +kernel
theorem dX9_turnSign_33 : decode cX9_turnSign 33 = .ok (.iload_n 3, 1) := by decide +kernel
theorem dX9_turnSign_34 : decode cX9_turnSign 34 = .ok (.lload_n 1, 1) := by decide +kernel
theorem dX9_turnSign_35 : decode cX9_turnSign 35 = .ok (.l2i, 1) := by decide +kernel
theorem dX9_turnSign_36 : decode cX9_turnSign 36 = .ok (.iastore, 1) := by decide +kernel
theorem dX9_turnSign_37 : decode cX9_turnSign 37 = .ok (.lload_n 1, 1) := by decide +kernel
theorem dX9_turnSign_38 : decode cX9_turnSign 38 = .ok (.bipush 32, 2) := by decide +kernel
theorem dX9_turnSign_40 : decode cX9_turnSign 40 = .ok (.lushr, 1) := by decide +kernel
theorem dX9_turnSign_41 : decode cX9_turnSign 41 = .ok (.lstore_n 1, 1) := by decide +kernel
theorem dX9_turnSign_42 : decode cX9_turnSign 42 = .ok (.iinc 3 1, 3) := by decide +kernel
theorem dX9_turnSign_45 : decode cX9_turnSign 45 = .ok (.goto (-41), 3) := by decide +kernel
theorem dX9_turnSign_48 : decode cX9_turnSign 48 = .ok (.return_, 1) := by decide +kernel
theorem dX9_take_0 : decode cX9_take 0 = .ok (.lconst 0, 1) := by decide +kernel
theorem dX9_take_1 : decode cX9_take 1 = .ok (.lstore_n 2, 1) := by decide +kernel
theorem dX9_take_2 : decode cX9_take 2 = .ok (.iconst 0, 1) := by decide +kernel
theorem dX9_take_3 : decode cX9_take 3 = .ok (.istore 4, 2) := by decide +kernel
theorem dX9_take_5 : decode cX9_take 5 = .ok (.iload 4, 2) := by decide +kernel
theorem dX9_take_7 : decode cX9_take 7 = .ok (.aload_n 0, 1) := by decide +kernel
theorem dX9_take_8 : decode cX9_take 8 = .ok (.getfield 7, 3) := by decide +kernel
theorem dX9_take_11 : decode cX9_take 11 = .ok (.arraylength, 1) := by decide +kernel
theorem dX9_take_12 : decode cX9_take 12 = .ok (.if_icmp .ge 51, 3) := by decide +kernel
theorem dX9_take_15 : decode cX9_take 15 = .ok (.lload_n 2, 1) := by decide +kernel
theorem dX9_take_16 : decode cX9_take 16 = .ok (.aload_n 0, 1) := by decide +kernel
theorem dX9_take_17 : decode cX9_take 17 = .ok (.getfield 7, 3) := by decide +kernel
theorem dX9_take_20 : decode cX9_take 20 = .ok (.iload 4, 2) := by decide +kernel
theorem dX9_take_22 : decode cX9_take 22 = .ok (.iaload, 1) := by decide +kernel
theorem dX9_take_23 : decode cX9_take 23 = .ok (.i2l, 1) := by decide +kernel
theorem dX9_take_24 : decode cX9_take 24 = .ok (.ldc2_w 25, 3) := by decide +kernel
theorem dX9_take_27 : decode cX9_take 27 = .ok (.land, 1) := by decide +kernel
theorem dX9_take_28 : decode cX9_take 28 = .ok (.aload_n 1, 1) := by decide +kernel
theorem dX9_take_29 : decode cX9_take 29 = .ok (.getfield 7, 3) := by decide +kernel
theorem dX9_take_32 : decode cX9_take 32 = .ok (.iload 4, 2) := by decide +kernel
theorem dX9_take_34 : decode cX9_take 34 = .ok (.iaload, 1) := by decide +kernel
theorem dX9_take_35 : decode cX9_take 35 = .ok (.i2l, 1) := by decide +kernel
theorem dX9_take_36 : decode cX9_take 36 = .ok (.ldc2_w 25, 3) := by decide +kernel
theorem dX9_take_39 : decode cX9_take 39 = .ok (.land, 1) := by decide +kernel
theorem dX9_take_40 : decode cX9_take 40 = .ok (.ladd, 1) := by decide +kernel
theorem dX9_take_41 : decode cX9_take 41 = .ok (.ladd, 1) := by decide +kernel
theorem dX9_take_42 : decode cX9_take 42 = .ok (.lstore_n 2, 1) := by decide +kernel
theorem dX9_take_43 : decode cX9_take 43 = .ok (.aload_n 0, 1) := by decide +kernel
theorem dX9_take_44 : decode cX9_take 44 = .ok (.getfield 7, 3) := by decide +kernel
theorem dX9_take_47 : decode cX9_take 47 = .ok (.iload 4, 2) := by decide +kernel
theorem dX9_take_49 : decode cX9_take 49 = .ok (.lload_n 2, 1) := by decide +kernel
theorem dX9_take_50 : decode cX9_take 50 = .ok (.l2i, 1) := by decide +kernel
theorem dX9_take_51 : decode cX9_take 51 = .ok (.iastore, 1) := by decide +kernel
theorem dX9_take_52 : decode cX9_take 52 = .ok (.lload_n 2, 1) := by decide +kernel
theorem dX9_take_53 : decode cX9_take 53 = .ok (.bipush 32, 2) := by decide +kernel
theorem dX9_take_55 : decode cX9_take 55 = .ok (.lushr, 1) := by decide +kernel
theorem dX9_take_56 : decode cX9_take 56 = .ok (.lstore_n 2, 1) := by decide +kernel
theorem dX9_take_57 : decode cX9_take 57 = .ok (.iinc 4 1, 3) := by decide +kernel
theorem dX9_take_60 : decode cX9_take 60 = .ok (.goto (-55), 3) := by decide +kernel
theorem dX9_take_63 : decode cX9_take 63 = .ok (.return_, 1) := by decide +kernel
theorem dX9_isNought_0 : decode cX9_isNought 0 = .ok (.iconst 0, 1) := by decide +kernel
theorem dX9_isNought_1 : decode cX9_isNought 1 = .ok (.istore_n 1, 1) := by decide +kernel
theorem dX9_isNought_2 : decode cX9_isNought 2 = .ok (.iload_n 1, 1) := by decide +kernel
theorem dX9_isNought_3 : decode cX9_isNought 3 = .ok (.aload_n 0, 1) := by decide +kernel
theorem dX9_isNought_4 : decode cX9_isNought 4 = .ok (.getfield 7, 3) := by decide +kernel
theorem dX9_isNought_7 : decode cX9_isNought 7 = .ok (.arraylength, 1) := by decide +kernel
theorem dX9_isNought_8 : decode cX9_isNought 8 = .ok (.if_icmp .ge 20, 3) := by decide +kernel
theorem dX9_isNought_11 : decode cX9_isNought 11 = .ok (.aload_n 0, 1) := by decide +kernel
theorem dX9_isNought_12 : decode cX9_isNought 12 = .ok (.getfield 7, 3) := by decide +kernel
theorem dX9_isNought_15 : decode cX9_isNought 15 = .ok (.iload_n 1, 1) := by decide +kernel
theorem dX9_isNought_16 : decode cX9_isNought 16 = .ok (.iaload, 1) := by decide +kernel
theorem dX9_isNought_17 : decode cX9_isNought 17 = .ok (.ifCond .eq 5, 3) := by decide +kernel
theorem dX9_isNought_20 : decode cX9_isNought 20 = .ok (.iconst 0, 1) := by decide +kernel
theorem dX9_isNought_21 : decode cX9_isNought 21 = .ok (.ireturn, 1) := by decide +kernel
theorem dX9_isNought_22 : decode cX9_isNought 22 = .ok (.iinc 1 1, 3) := by decide +kernel
theorem dX9_isNought_25 : decode cX9_isNought 25 = .ok (.goto (-23), 3) := by decide +kernel
theorem dX9_isNought_28 : decode cX9_isNought 28 = .ok (.iconst 1, 1) := by decide +kernel
theorem dX9_isNought_29 : decode cX9_isNought 29 = .ok (.ireturn, 1) := by decide +kernel
theorem dX10_init_0 : decode cX10_init 0 = .ok (.aload_n 0, 1) := by decide +kernel
theorem dX10_init_1 : decode cX10_init 1 = .ok (.invokespecial 3, 3) := by decide +kernel
theorem dX10_init_4 : decode cX10_init 4 = .ok (.aload_n 0, 1) := by decide +kernel
theorem dX10_init_5 : decode cX10_init 5 = .ok (.iconst 4, 1) := by decide +kernel
theorem dX10_init_6 : decode cX10_init 6 = .ok (.anewarray 11, 3) := by decide +kernel
theorem dX10_init_9 : decode cX10_init 9 = .ok (.putfield 13, 3) := by decide +kernel
theorem dX10_init_12 : decode cX10_init 12 = .ok (.aload_n 0, 1) := by decide +kernel
theorem dX10_init_13 : decode cX10_init 13 = .ok (.bipush 30, 2) := by decide +kernel
theorem dX10_init_15 : decode cX10_init 15 = .ok (.anewarray 17, 3) := by decide +kernel
theorem dX10_init_18 : decode cX10_init 18 = .ok (.putfield 19, 3) := by decide +kernel
theorem dX10_init_21 : decode cX10_init 21 = .ok (.aload_n 0, 1) := by decide +kernel
theorem dX10_init_22 : decode cX10_init 22 = .ok (.bipush 120, 2) := by decide +kernel
theorem dX10_init_24 : decode cX10_init 24 = .ok (.newarray .int, 2) := by decide +kernel
theorem dX10_init_26 : decode cX10_init 26 = .ok (.putfield 23, 3) := by decide +kernel
theorem dX10_init_29 : decode cX10_init 29 = .ok (.aload_n 0, 1) := by decide +kernel
theorem dX10_init_30 : decode cX10_init 30 = .ok (.bipush 40, 2) := by decide +kernel
theorem dX10_init_32 : decode cX10_init 32 = .ok (.anewarray 27, 3) := by decide +kernel
theorem dX10_init_35 : decode cX10_init 35 = .ok (.putfield 29, 3) := by decide +kernel
theorem dX10_init_38 : decode cX10_init 38 = .ok (.aload_n 0, 1) := by decide +kernel
theorem dX10_init_39 : decode cX10_init 39 = .ok (.new 33, 3) := by decide +kernel
theorem dX10_init_42 : decode cX10_init 42 = .ok (.dup, 1) := by decide +kernel
theorem dX10_init_43 : decode cX10_init 43 = .ok (.invokespecial 35, 3) := by decide +kernel
theorem dX10_init_46 : decode cX10_init 46 = .ok (.putfield 36, 3) := by decide +kernel
theorem dX10_init_49 : decode cX10_init 49 = .ok (.aload_n 0, 1) := by decide +kernel
theorem dX10_init_50 : decode cX10_init 50 = .ok (.new 40, 3) := by decide +kernel
theorem dX10_init_53 : decode cX10_init 53 = .ok (.dup, 1) := by decide +kernel
theorem dX10_init_54 : decode cX10_init 54 = .ok (.invokespecial 42, 3) := by decide +kernel
theorem dX10_init_57 : decode cX10_init 57 = .ok (.putfield 43, 3) := by decide +kernel
theorem dX10_init_60 : decode cX10_init 60 = .ok (.return_, 1) := by decide +kernel
theorem dX10_sheet_0 : decode cX10_sheet 0 = .ok (.aload_n 0, 1) := by decide +kernel
theorem dX10_sheet_1 : decode cX10_sheet 1 = .ok (.iconst 0, 1) := by decide +kernel
theorem dX10_sheet_2 : decode cX10_sheet 2 = .ok (.putfield 47, 3) := by decide +kernel
theorem dX10_sheet_5 : decode cX10_sheet 5 = .ok (.iload_n 1, 1) := by decide +kernel
theorem dX10_sheet_6 : decode cX10_sheet 6 = .ok (.invokestatic 51, 3) := by decide +kernel
theorem dX10_sheet_9 : decode cX10_sheet 9 = .ok (.ifCond .ne 5, 3) := by decide +kernel
theorem dX10_sheet_12 : decode cX10_sheet 12 = .ok (.iconst (-1), 1) := by decide +kernel
theorem dX10_sheet_13 : decode cX10_sheet 13 = .ok (.ireturn, 1) := by decide +kernel
theorem dX10_sheet_14 : decode cX10_sheet 14 = .ok (.iload_n 2, 1) := by decide +kernel
theorem dX10_sheet_15 : decode cX10_sheet 15 = .ok (.invokestatic 55, 3) := by decide +kernel
theorem dX10_sheet_18 : decode cX10_sheet 18 = .ok (.ifCond .eq 9, 3) := by decide +kernel
theorem dX10_sheet_21 : decode cX10_sheet 21 = .ok (.iload_n 3, 1) := by decide +kernel
theorem dX10_sheet_22 : decode cX10_sheet 22 = .ok (.bipush 30, 2) := by decide +kernel
theorem dX10_sheet_24 : decode cX10_sheet 24 = .ok (.if_icmp .le 6, 3) := by decide +kernel
theorem dX10_sheet_27 : decode cX10_sheet 27 = .ok (.bipush (-2), 2) := by decide +kernel
theorem dX10_sheet_29 : decode cX10_sheet 29 = .ok (.ireturn, 1) := by decide +kernel
theorem dX10_sheet_30 : decode cX10_sheet 30 = .ok (.iload_n 3, 1) := by decide +kernel
theorem dX10_sheet_31 : decode cX10_sheet 31 = .ok (.ifCond .ge 9, 3) := by decide +kernel
theorem dX10_sheet_34 : decode cX10_sheet 34 = .ok (.aload_n 0, 1) := by decide +kernel
theorem dX10_sheet_35 : decode cX10_sheet 35 = .ok (.iconst 4, 1) := by decide +kernel
theorem dX10_sheet_36 : decode cX10_sheet 36 = .ok (.invokevirtual 58, 3) := by decide +kernel
theorem dX10_sheet_39 : decode cX10_sheet 39 = .ok (.ireturn, 1) := by decide +kernel
theorem dX10_sheet_40 : decode cX10_sheet 40 = .ok (.aload_n 0, 1) := by decide +kernel
theorem dX10_sheet_41 : decode cX10_sheet 41 = .ok (.getfield 13, 3) := by decide +kernel
theorem dX10_sheet_44 : decode cX10_sheet 44 = .ok (.iload_n 1, 1) := by decide +kernel
theorem dX10_sheet_45 : decode cX10_sheet 45 = .ok (.new 11, 3) := by decide +kernel
theorem dX10_sheet_48 : decode cX10_sheet 48 = .ok (.dup, 1) := by decide +kernel
theorem dX10_sheet_49 : decode cX10_sheet 49 = .ok (.iload_n 2, 1) := by decide +kernel
theorem dX10_sheet_50 : decode cX10_sheet 50 = .ok (.iload_n 3, 1) := by decide +kernel
theorem dX10_sheet_51 : decode cX10_sheet 51 = .ok (.invokespecial 62, 3) := by decide +kernel
theorem dX10_sheet_54 : decode cX10_sheet 54 = .ok (.aastore, 1) := by decide +kernel
theorem dX10_sheet_55 : decode cX10_sheet 55 = .ok (.iconst 1, 1) := by decide +kernel
theorem dX10_sheet_56 : decode cX10_sheet 56 = .ok (.ireturn, 1) := by decide +kernel
theorem dX10_lose_0 : decode cX10_lose 0 = .ok (.iload_n 1, 1) := by decide +kernel
theorem dX10_lose_1 : decode cX10_lose 1 = .ok (.invokestatic 51, 3) := by decide +kernel
theorem dX10_lose_4 : decode cX10_lose 4 = .ok (.ifCond .ne 5, 3) := by decide +kernel
theorem dX10_lose_7 : decode cX10_lose 7 = .ok (.iconst (-1), 1) := by decide +kernel
theorem dX10_lose_8 : decode cX10_lose 8 = .ok (.ireturn, 1) := by decide +kernel
theorem dX10_lose_9 : decode cX10_lose 9 = .ok (.aload_n 0, 1) := by decide +kernel
theorem dX10_lose_10 : decode cX10_lose 10 = .ok (.getfield 13, 3) := by decide +kernel
theorem dX10_lose_13 : decode cX10_lose 13 = .ok (.iload_n 1, 1) := by decide +kernel
theorem dX10_lose_14 : decode cX10_lose 14 = .ok (.aaload, 1) := by decide +kernel
theorem dX10_lose_15 : decode cX10_lose 15 = .ok (.ifnull 7, 3) := by decide +kernel
theorem dX10_lose_18 : decode cX10_lose 18 = .ok (.iconst 1, 1) := by decide +kernel
theorem dX10_lose_19 : decode cX10_lose 19 = .ok (.goto 4, 3) := by decide +kernel
theorem dX10_lose_22 : decode cX10_lose 22 = .ok (.iconst 0, 1) := by decide +kernel
theorem dX10_lose_23 : decode cX10_lose 23 = .ok (.istore_n 2, 1) := by decide +kernel
theorem dX10_lose_24 : decode cX10_lose 24 = .ok (.aload_n 0, 1) := by decide +kernel
theorem dX10_lose_25 : decode cX10_lose 25 = .ok (.getfield 13, 3) := by decide +kernel
theorem dX10_lose_28 : decode cX10_lose 28 = .ok (.iload_n 1, 1) := by decide +kernel
theorem dX10_lose_29 : decode cX10_lose 29 = .ok (.aconst_null, 1) := by decide +kernel
theorem dX10_lose_30 : decode cX10_lose 30 = .ok (.aastore, 1) := by decide +kernel
theorem dX10_lose_31 : decode cX10_lose 31 = .ok (.iload_n 2, 1) := by decide +kernel
theorem dX10_lose_32 : decode cX10_lose 32 = .ok (.ifCond .eq 7, 3) := by decide +kernel
theorem dX10_lose_35 : decode cX10_lose 35 = .ok (.iconst 1, 1) := by decide +kernel
theorem dX10_lose_36 : decode cX10_lose 36 = .ok (.goto 4, 3) := by decide +kernel
theorem dX10_lose_39 : decode cX10_lose 39 = .ok (.iconst 0, 1) := by decide +kernel
theorem dX10_lose_40 : decode cX10_lose 40 = .ok (.ireturn, 1) := by decide +kernel
theorem dX10_put_0 : decode cX10_put 0 = .ok (.aload_n 0, 1) := by decide +kernel
theorem dX10_put_1 : decode cX10_put 1 = .ok (.iconst 0, 1) := by decide +kernel
theorem dX10_put_2 : decode cX10_put 2 = .ok (.putfield 47, 3) := by decide +kernel
theorem dX10_put_5 : decode cX10_put 5 = .ok (.iload_n 1, 1) := by decide +kernel
theorem dX10_put_6 : decode cX10_put 6 = .ok (.invokestatic 51, 3) := by decide +kernel
theorem dX10_put_9 : decode cX10_put 9 = .ok (.ifCond .ne 5, 3) := by decide +kernel
theorem dX10_put_12 : decode cX10_put 12 = .ok (.iconst (-1), 1) := by decide +kernel
theorem dX10_put_13 : decode cX10_put 13 = .ok (.ireturn, 1) := by decide +kernel
theorem dX10_put_14 : decode cX10_put 14 = .ok (.aload_n 0, 1) := by decide +kernel
theorem dX10_put_15 : decode cX10_put 15 = .ok (.getfield 13, 3) := by decide +kernel
theorem dX10_put_18 : decode cX10_put 18 = .ok (.iload_n 1, 1) := by decide +kernel
theorem dX10_put_19 : decode cX10_put 19 = .ok (.aaload, 1) := by decide +kernel
theorem dX10_put_20 : decode cX10_put 20 = .ok (.astore 5, 2) := by decide +kernel
theorem dX10_put_22 : decode cX10_put 22 = .ok (.aload 5, 2) := by decide +kernel
theorem dX10_put_24 : decode cX10_put 24 = .ok (.ifnonnull 9, 3) := by decide +kernel
theorem dX10_put_27 : decode cX10_put 27 = .ok (.aload_n 0, 1) := by decide +kernel
theorem dX10_put_28 : decode cX10_put 28 = .ok (.iconst 1, 1) := by decide +kernel
theorem dX10_put_29 : decode cX10_put 29 = .ok (.invokevirtual 58, 3) := by decide +kernel
theorem dX10_put_32 : decode cX10_put 32 = .ok (.ireturn, 1) := by decide +kernel
theorem dX10_put_33 : decode cX10_put 33 = .ok (.aload 5, 2) := by decide +kernel
theorem dX10_put_35 : decode cX10_put 35 = .ok (.iload_n 2, 1) := by decide +kernel
theorem dX10_put_36 : decode cX10_put 36 = .ok (.invokevirtual 65, 3) := by decide +kernel
theorem dX10_put_39 : decode cX10_put 39 = .ok (.ifCond .ne 9, 3) := by decide +kernel
theorem dX10_put_42 : decode cX10_put 42 = .ok (.aload_n 0, 1) := by decide +kernel
theorem dX10_put_43 : decode cX10_put 43 = .ok (.iconst 3, 1) := by decide +kernel
theorem dX10_put_44 : decode cX10_put 44 = .ok (.invokevirtual 58, 3) := by decide +kernel
theorem dX10_put_47 : decode cX10_put 47 = .ok (.ireturn, 1) := by decide +kernel
theorem dX10_put_48 : decode cX10_put 48 = .ok (.aload 5, 2) := by decide +kernel
theorem dX10_put_50 : decode cX10_put 50 = .ok (.getfield 68, 3) := by decide +kernel
theorem dX10_put_53 : decode cX10_put 53 = .ok (.iload_n 2, 1) := by decide +kernel
theorem dX10_put_54 : decode cX10_put 54 = .ok (.aload 5, 2) := by decide +kernel
theorem dX10_put_56 : decode cX10_put 56 = .ok (.lload_n 3, 1) := by decide +kernel
theorem dX10_put_57 : decode cX10_put 57 = .ok (.invokevirtual 72, 3) := by decide +kernel
theorem dX10_put_60 : decode cX10_put 60 = .ok (.lastore, 1) := by decide +kernel
theorem dX10_put_61 : decode cX10_put 61 = .ok (.iconst 1, 1) := by decide +kernel
theorem dX10_put_62 : decode cX10_put 62 = .ok (.ireturn, 1) := by decide +kernel
theorem dX10_at_0 : decode cX10_at 0 = .ok (.aload_n 0, 1) := by decide +kernel
theorem dX10_at_1 : decode cX10_at 1 = .ok (.iconst 0, 1) := by decide +kernel
theorem dX10_at_2 : decode cX10_at 2 = .ok (.putfield 47, 3) := by decide +kernel
theorem dX10_at_5 : decode cX10_at 5 = .ok (.iload_n 1, 1) := by decide +kernel
theorem dX10_at_6 : decode cX10_at 6 = .ok (.invokestatic 51, 3) := by decide +kernel
theorem dX10_at_9 : decode cX10_at 9 = .ok (.ifCond .eq 10, 3) := by decide +kernel
theorem dX10_at_12 : decode cX10_at 12 = .ok (.iload_n 3, 1) := by decide +kernel
theorem dX10_at_13 : decode cX10_at 13 = .ok (.invokestatic 55, 3) := by decide +kernel
theorem dX10_at_16 : decode cX10_at 16 = .ok (.ifCond .ne 7, 3) := by decide +kernel
theorem dX10_at_19 : decode cX10_at 19 = .ok (.ldc2_w 76, 3) := by decide +kernel
theorem dX10_at_22 : decode cX10_at 22 = .ok (.lreturn, 1) := by decide +kernel
theorem dX10_at_23 : decode cX10_at 23 = .ok (.aload_n 0, 1) := by decide +kernel
theorem dX10_at_24 : decode cX10_at 24 = .ok (.getfield 13, 3) := by decide +kernel
theorem dX10_at_27 : decode cX10_at 27 = .ok (.iload_n 1, 1) := by decide +kernel
theorem dX10_at_28 : decode cX10_at 28 = .ok (.aaload, 1) := by decide +kernel
theorem dX10_at_29 : decode cX10_at 29 = .ok (.astore 4, 2) := by decide +kernel
theorem dX10_at_31 : decode cX10_at 31 = .ok (.aload 4, 2) := by decide +kernel
theorem dX10_at_33 : decode cX10_at 33 = .ok (.ifnull 18, 3) := by decide +kernel
theorem dX10_at_36 : decode cX10_at 36 = .ok (.aload 4, 2) := by decide +kernel
theorem dX10_at_38 : decode cX10_at 38 = .ok (.getfield 78, 3) := by decide +kernel
theorem dX10_at_41 : decode cX10_at 41 = .ok (.iload_n 3, 1) := by decide +kernel
theorem dX10_at_42 : decode cX10_at 42 = .ok (.if_icmp .eq 9, 3) := by decide +kernel
theorem dX10_at_45 : decode cX10_at 45 = .ok (.aload_n 0, 1) := by decide +kernel
theorem dX10_at_46 : decode cX10_at 46 = .ok (.iconst 2, 1) := by decide +kernel
theorem dX10_at_47 : decode cX10_at 47 = .ok (.invokevirtual 81, 3) := by decide +kernel
theorem dX10_at_50 : decode cX10_at 50 = .ok (.lreturn, 1) := by decide +kernel
theorem dX10_at_51 : decode cX10_at 51 = .ok (.aload 4, 2) := by decide +kernel
theorem dX10_at_53 : decode cX10_at 53 = .ok (.ifnonnull 9, 3) := by decide +kernel
theorem dX10_at_56 : decode cX10_at 56 = .ok (.aload_n 0, 1) := by decide +kernel
theorem dX10_at_57 : decode cX10_at 57 = .ok (.iconst 1, 1) := by decide +kernel
theorem dX10_at_58 : decode cX10_at 58 = .ok (.invokevirtual 81, 3) := by decide +kernel
theorem dX10_at_61 : decode cX10_at 61 = .ok (.lreturn, 1) := by decide +kernel
theorem dX10_at_62 : decode cX10_at 62 = .ok (.aload 4, 2) := by decide +kernel
theorem dX10_at_64 : decode cX10_at 64 = .ok (.iload_n 2, 1) := by decide +kernel
theorem dX10_at_65 : decode cX10_at 65 = .ok (.invokevirtual 65, 3) := by decide +kernel
theorem dX10_at_68 : decode cX10_at 68 = .ok (.ifCond .ne 9, 3) := by decide +kernel
theorem dX10_at_71 : decode cX10_at 71 = .ok (.aload_n 0, 1) := by decide +kernel
theorem dX10_at_72 : decode cX10_at 72 = .ok (.iconst 3, 1) := by decide +kernel
theorem dX10_at_73 : decode cX10_at 73 = .ok (.invokevirtual 81, 3) := by decide +kernel
theorem dX10_at_76 : decode cX10_at 76 = .ok (.lreturn, 1) := by decide +kernel
theorem dX10_at_77 : decode cX10_at 77 = .ok (.aload 4, 2) := by decide +kernel
theorem dX10_at_79 : decode cX10_at 79 = .ok (.getfield 68, 3) := by decide +kernel
theorem dX10_at_82 : decode cX10_at 82 = .ok (.iload_n 2, 1) := by decide +kernel
theorem dX10_at_83 : decode cX10_at 83 = .ok (.laload, 1) := by decide +kernel
theorem dX10_at_84 : decode cX10_at 84 = .ok (.lreturn, 1) := by decide +kernel
theorem dX10_poly_0 : decode cX10_poly 0 = .ok (.aload_n 0, 1) := by decide +kernel
theorem dX10_poly_1 : decode cX10_poly 1 = .ok (.iconst 0, 1) := by decide +kernel
theorem dX10_poly_2 : decode cX10_poly 2 = .ok (.putfield 47, 3) := by decide +kernel
theorem dX10_poly_5 : decode cX10_poly 5 = .ok (.iload_n 1, 1) := by decide +kernel
theorem dX10_poly_6 : decode cX10_poly 6 = .ok (.invokestatic 51, 3) := by decide +kernel
theorem dX10_poly_9 : decode cX10_poly 9 = .ok (.ifCond .ne 5, 3) := by decide +kernel
theorem dX10_poly_12 : decode cX10_poly 12 = .ok (.iconst (-1), 1) := by decide +kernel
theorem dX10_poly_13 : decode cX10_poly 13 = .ok (.ireturn, 1) := by decide +kernel
theorem dX10_poly_14 : decode cX10_poly 14 = .ok (.iload_n 2, 1) := by decide +kernel
theorem dX10_poly_15 : decode cX10_poly 15 = .ok (.invokestatic 55, 3) := by decide +kernel
theorem dX10_poly_18 : decode cX10_poly 18 = .ok (.ifCond .eq 10, 3) := by decide +kernel
theorem dX10_poly_21 : decode cX10_poly 21 = .ok (.iload 4, 2) := by decide +kernel
theorem dX10_poly_23 : decode cX10_poly 23 = .ok (.bipush 9, 2) := by decide +kernel
theorem dX10_poly_25 : decode cX10_poly 25 = .ok (.if_icmp .le 6, 3) := by decide +kernel
theorem dX10_poly_28 : decode cX10_poly 28 = .ok (.bipush (-2), 2) := by decide +kernel
theorem dX10_poly_30 : decode cX10_poly 30 = .ok (.ireturn, 1) := by decide +kernel
theorem dX10_poly_31 : decode cX10_poly 31 = .ok (.aload_n 0, 1) := by decide +kernel
theorem dX10_poly_32 : decode cX10_poly 32 = .ok (.getfield 13, 3) := by decide +kernel
theorem dX10_poly_35 : decode cX10_poly 35 = .ok (.iload_n 1, 1) := by decide +kernel
theorem dX10_poly_36 : decode cX10_poly 36 = .ok (.aaload, 1) := by decide +kernel
theorem dX10_poly_37 : decode cX10_poly 37 = .ok (.astore 5, 2) := by decide +kernel
theorem dX10_poly_39 : decode cX10_poly 39 = .ok (.aload 5, 2) := by decide +kernel
theorem dX10_poly_41 : decode cX10_poly 41 = .ok (.ifnull 18, 3) := by decide +kernel
theorem dX10_poly_44 : decode cX10_poly 44 = .ok (.aload 5, 2) := by decide +kernel
theorem dX10_poly_46 : decode cX10_poly 46 = .ok (.getfield 78, 3) := by decide +kernel
theorem dX10_poly_49 : decode cX10_poly 49 = .ok (.iload_n 2, 1) := by decide +kernel
theorem dX10_poly_50 : decode cX10_poly 50 = .ok (.if_icmp .eq 9, 3) := by decide +kernel
theorem dX10_poly_53 : decode cX10_poly 53 = .ok (.aload_n 0, 1) := by decide +kernel
theorem dX10_poly_54 : decode cX10_poly 54 = .ok (.iconst 2, 1) := by decide +kernel
theorem dX10_poly_55 : decode cX10_poly 55 = .ok (.invokevirtual 58, 3) := by decide +kernel
theorem dX10_poly_58 : decode cX10_poly 58 = .ok (.ireturn, 1) := by decide +kernel
theorem dX10_poly_59 : decode cX10_poly 59 = .ok (.aload 5, 2) := by decide +kernel
theorem dX10_poly_61 : decode cX10_poly 61 = .ok (.ifnonnull 9, 3) := by decide +kernel
theorem dX10_poly_64 : decode cX10_poly 64 = .ok (.aload_n 0, 1) := by decide +kernel
theorem dX10_poly_65 : decode cX10_poly 65 = .ok (.iconst 1, 1) := by decide +kernel
theorem dX10_poly_66 : decode cX10_poly 66 = .ok (.invokevirtual 58, 3) := by decide +kernel
theorem dX10_poly_69 : decode cX10_poly 69 = .ok (.ireturn, 1) := by decide +kernel
theorem dX10_poly_70 : decode cX10_poly 70 = .ok (.iload 4, 2) := by decide +kernel
theorem dX10_poly_72 : decode cX10_poly 72 = .ok (.ifCond .ge 9, 3) := by decide +kernel
theorem dX10_poly_75 : decode cX10_poly 75 = .ok (.aload_n 0, 1) := by decide +kernel
theorem dX10_poly_76 : decode cX10_poly 76 = .ok (.iconst 4, 1) := by decide +kernel
theorem dX10_poly_77 : decode cX10_poly 77 = .ok (.invokevirtual 58, 3) := by decide +kernel
theorem dX10_poly_80 : decode cX10_poly 80 = .ok (.ireturn, 1) := by decide +kernel
theorem dX10_poly_81 : decode cX10_poly 81 = .ok (.iload_n 3, 1) := by decide +kernel
theorem dX10_poly_82 : decode cX10_poly 82 = .ok (.ifCond .lt 16, 3) := by decide +kernel
theorem dX10_poly_85 : decode cX10_poly 85 = .ok (.iload_n 3, 1) := by decide +kernel
theorem dX10_poly_86 : decode cX10_poly 86 = .ok (.aload 5, 2) := by decide +kernel
theorem dX10_poly_88 : decode cX10_poly 88 = .ok (.getfield 68, 3) := by decide +kernel
theorem dX10_poly_91 : decode cX10_poly 91 = .ok (.arraylength, 1) := by decide +kernel
theorem dX10_poly_92 : decode cX10_poly 92 = .ok (.iload 4, 2) := by decide +kernel
theorem dX10_poly_94 : decode cX10_poly 94 = .ok (.isub, 1) := by decide +kernel
theorem dX10_poly_95 : decode cX10_poly 95 = .ok (.if_icmp .le 9, 3) := by decide +kernel
theorem dX10_poly_98 : decode cX10_poly 98 = .ok (.aload_n 0, 1) := by decide +kernel
theorem dX10_poly_99 : decode cX10_poly 99 = .ok (.iconst 3, 1) := by decide +kernel
theorem dX10_poly_100 : decode cX10_poly 100 = .ok (.invokevirtual 58, 3) := by decide +kernel
theorem dX10_poly_103 : decode cX10_poly 103 = .ok (.ireturn, 1) := by decide +kernel
theorem dX10_poly_104 : decode cX10_poly 104 = .ok (.bipush 9, 2) := by decide +kernel
theorem dX10_poly_106 : decode cX10_poly 106 = .ok (.newarray .long, 2) := by decide +kernel
theorem dX10_poly_108 : decode cX10_poly 108 = .ok (.astore 6, 2) := by decide +kernel
theorem dX10_poly_110 : decode cX10_poly 110 = .ok (.aload 5, 2) := by decide +kernel
theorem dX10_poly_112 : decode cX10_poly 112 = .ok (.getfield 68, 3) := by decide +kernel
theorem dX10_poly_115 : decode cX10_poly 115 = .ok (.iload_n 3, 1) := by decide +kernel
theorem dX10_poly_116 : decode cX10_poly 116 = .ok (.aload 6, 2) := by decide +kernel
theorem dX10_poly_118 : decode cX10_poly 118 = .ok (.iconst 0, 1) := by decide +kernel
theorem dX10_poly_119 : decode cX10_poly 119 = .ok (.iload 4, 2) := by decide +kernel
theorem dX10_poly_121 : decode cX10_poly 121 = .ok (.invokestatic 85, 3) := by decide +kernel
theorem dX10_poly_124 : decode cX10_poly 124 = .ok (.aload_n 0, 1) := by decide +kernel
theorem dX10_poly_125 : decode cX10_poly 125 = .ok (.aload 6, 2) := by decide +kernel
theorem dX10_poly_127 : decode cX10_poly 127 = .ok (.invokevirtual 91, 3) := by decide +kernel
theorem dX10_poly_130 : decode cX10_poly 130 = .ok (.ireturn, 1) := by decide +kernel
theorem dX10_add_0 : decode cX10_add 0 = .ok (.aload_n 0, 1) := by decide +kernel
theorem dX10_add_1 : decode cX10_add 1 = .ok (.iload_n 1, 1) := by decide +kernel
theorem dX10_add_2 : decode cX10_add 2 = .ok (.invokevirtual 95, 3) := by decide +kernel
theorem dX10_add_5 : decode cX10_add 5 = .ok (.astore 4, 2) := by decide +kernel
theorem dX10_add_7 : decode cX10_add 7 = .ok (.aload_n 0, 1) := by decide +kernel
theorem dX10_add_8 : decode cX10_add 8 = .ok (.iload_n 2, 1) := by decide +kernel
theorem dX10_add_9 : decode cX10_add 9 = .ok (.invokevirtual 95, 3) := by decide +kernel
theorem dX10_add_12 : decode cX10_add 12 = .ok (.astore 5, 2) := by decide +kernel
theorem dX10_add_14 : decode cX10_add 14 = .ok (.aload 4, 2) := by decide +kernel
theorem dX10_add_16 : decode cX10_add 16 = .ok (.ifnull 8, 3) := by decide +kernel
theorem dX10_add_19 : decode cX10_add 19 = .ok (.aload 5, 2) := by decide +kernel
theorem dX10_add_21 : decode cX10_add 21 = .ok (.ifnonnull 5, 3) := by decide +kernel
theorem dX10_add_24 : decode cX10_add 24 = .ok (.iconst (-1), 1) := by decide +kernel
theorem dX10_add_25 : decode cX10_add 25 = .ok (.ireturn, 1) := by decide +kernel
theorem dX10_add_26 : decode cX10_add 26 = .ok (.iload_n 3, 1) := by decide +kernel
theorem dX10_add_27 : decode cX10_add 27 = .ok (.i2l, 1) := by decide +kernel
theorem dX10_add_28 : decode cX10_add 28 = .ok (.ldc2_w 99, 3) := by decide +kernel
theorem dX10_add_31 : decode cX10_add 31 = .ok (.invokestatic 101, 3) := by decide +kernel
theorem dX10_add_34 : decode cX10_add 34 = .ok (.ifCond .ne 6, 3) := by decide +kernel
theorem dX10_add_37 : decode cX10_add 37 = .ok (.bipush (-2), 2) := by decide +kernel
theorem dX10_add_39 : decode cX10_add 39 = .ok (.ireturn, 1) := by decide +kernel
theorem dX10_add_40 : decode cX10_add 40 = .ok (.bipush 9, 2) := by decide +kernel
theorem dX10_add_42 : decode cX10_add 42 = .ok (.newarray .long, 2) := by decide +kernel
theorem dX10_add_44 : decode cX10_add 44 = .ok (.astore 6, 2) := by decide +kernel
theorem dX10_add_46 : decode cX10_add 46 = .ok (.iconst 0, 1) := by decide +kernel
theorem dX10_add_47 : decode cX10_add 47 = .ok (.istore 7, 2) := by decide +kernel
theorem dX10_add_49 : decode cX10_add 49 = .ok (.iload 7, 2) := by decide +kernel
theorem dX10_add_51 : decode cX10_add 51 = .ok (.bipush 9, 2) := by decide +kernel
theorem dX10_add_53 : decode cX10_add 53 = .ok (.if_icmp .ge 34, 3) := by decide +kernel
theorem dX10_add_56 : decode cX10_add 56 = .ok (.aload 6, 2) := by decide +kernel
theorem dX10_add_58 : decode cX10_add 58 = .ok (.iload 7, 2) := by decide +kernel
theorem dX10_add_60 : decode cX10_add 60 = .ok (.aload 4, 2) := by decide +kernel
theorem dX10_add_62 : decode cX10_add 62 = .ok (.getfield 105, 3) := by decide +kernel
theorem dX10_add_65 : decode cX10_add 65 = .ok (.iload 7, 2) := by decide +kernel
theorem dX10_add_67 : decode cX10_add 67 = .ok (.laload, 1) := by decide +kernel
theorem dX10_add_68 : decode cX10_add 68 = .ok (.iload_n 3, 1) := by decide +kernel
theorem dX10_add_69 : decode cX10_add 69 = .ok (.i2l, 1) := by decide +kernel
theorem dX10_add_70 : decode cX10_add 70 = .ok (.aload 5, 2) := by decide +kernel
theorem dX10_add_72 : decode cX10_add 72 = .ok (.getfield 105, 3) := by decide +kernel
theorem dX10_add_75 : decode cX10_add 75 = .ok (.iload 7, 2) := by decide +kernel
theorem dX10_add_77 : decode cX10_add 77 = .ok (.laload, 1) := by decide +kernel
theorem dX10_add_78 : decode cX10_add 78 = .ok (.lmul, 1) := by decide +kernel
theorem dX10_add_79 : decode cX10_add 79 = .ok (.ladd, 1) := by decide +kernel
theorem dX10_add_80 : decode cX10_add 80 = .ok (.lastore, 1) := by decide +kernel
theorem dX10_add_81 : decode cX10_add 81 = .ok (.iinc 7 1, 3) := by decide +kernel
theorem dX10_add_84 : decode cX10_add 84 = .ok (.goto (-35), 3) := by decide +kernel
theorem dX10_add_87 : decode cX10_add 87 = .ok (.aload_n 0, 1) := by decide +kernel
theorem dX10_add_88 : decode cX10_add 88 = .ok (.aload 6, 2) := by decide +kernel
theorem dX10_add_90 : decode cX10_add 90 = .ok (.invokevirtual 91, 3) := by decide +kernel
theorem dX10_add_93 : decode cX10_add 93 = .ok (.ireturn, 1) := by decide +kernel
theorem dX10_times_0 : decode cX10_times 0 = .ok (.aload_n 0, 1) := by decide +kernel
theorem dX10_times_1 : decode cX10_times 1 = .ok (.iload_n 1, 1) := by decide +kernel
theorem dX10_times_2 : decode cX10_times 2 = .ok (.invokevirtual 95, 3) := by decide +kernel
theorem dX10_times_5 : decode cX10_times 5 = .ok (.astore_n 3, 1) := by decide +kernel
theorem dX10_times_6 : decode cX10_times 6 = .ok (.aload_n 0, 1) := by decide +kernel
theorem dX10_times_7 : decode cX10_times 7 = .ok (.iload_n 2, 1) := by decide +kernel
theorem dX10_times_8 : decode cX10_times 8 = .ok (.invokevirtual 95, 3) := by decide +kernel
theorem dX10_times_11 : decode cX10_times 11 = .ok (.astore 4, 2) := by decide +kernel
theorem dX10_times_13 : decode cX10_times 13 = .ok (.aload_n 3, 1) := by decide +kernel
theorem dX10_times_14 : decode cX10_times 14 = .ok (.ifnull 8, 3) := by decide +kernel
theorem dX10_times_17 : decode cX10_times 17 = .ok (.aload 4, 2) := by decide +kernel
theorem dX10_times_19 : decode cX10_times 19 = .ok (.ifnonnull 5, 3) := by decide +kernel
theorem dX10_times_22 : decode cX10_times 22 = .ok (.iconst (-1), 1) := by decide +kernel
theorem dX10_times_23 : decode cX10_times 23 = .ok (.ireturn, 1) := by decide +kernel
theorem dX10_times_24 : decode cX10_times 24 = .ok (.bipush 9, 2) := by decide +kernel
theorem dX10_times_26 : decode cX10_times 26 = .ok (.newarray .long, 2) := by decide +kernel
theorem dX10_times_28 : decode cX10_times 28 = .ok (.astore 5, 2) := by decide +kernel
theorem dX10_times_30 : decode cX10_times 30 = .ok (.aload_n 3, 1) := by decide +kernel
theorem dX10_times_31 : decode cX10_times 31 = .ok (.aload 4, 2) := by decide +kernel
theorem dX10_times_33 : decode cX10_times 33 = .ok (.aload 5, 2) := by decide +kernel
theorem dX10_times_35 : decode cX10_times 35 = .ok (.invokevirtual 108, 3) := by decide +kernel
theorem dX10_times_38 : decode cX10_times 38 = .ok (.istore 6, 2) := by decide +kernel
theorem dX10_times_40 : decode cX10_times 40 = .ok (.aload 5, 2) := by decide +kernel
theorem dX10_times_42 : decode cX10_times 42 = .ok (.invokestatic 112, 3) := by decide +kernel
theorem dX10_times_45 : decode cX10_times 45 = .ok (.ifCond .ne 6, 3) := by decide +kernel
theorem dX10_times_48 : decode cX10_times 48 = .ok (.bipush (-2), 2) := by decide +kernel
theorem dX10_times_50 : decode cX10_times 50 = .ok (.ireturn, 1) := by decide +kernel
theorem dX10_times_51 : decode cX10_times 51 = .ok (.iload 6, 2) := by decide +kernel
theorem dX10_times_53 : decode cX10_times 53 = .ok (.ifCond .eq 8, 3) := by decide +kernel
theorem dX10_times_56 : decode cX10_times 56 = .ok (.bipush (-3), 2) := by decide +kernel
theorem dX10_times_58 : decode cX10_times 58 = .ok (.goto 9, 3) := by decide +kernel
theorem dX10_times_61 : decode cX10_times 61 = .ok (.aload_n 0, 1) := by decide +kernel
theorem dX10_times_62 : decode cX10_times 62 = .ok (.aload 5, 2) := by decide +kernel
theorem dX10_times_64 : decode cX10_times 64 = .ok (.invokevirtual 91, 3) := by decide +kernel
theorem dX10_times_67 : decode cX10_times 67 = .ok (.ireturn, 1) := by decide +kernel
theorem dX10_slope_0 : decode cX10_slope 0 = .ok (.aload_n 0, 1) := by decide +kernel
theorem dX10_slope_1 : decode cX10_slope 1 = .ok (.iload_n 1, 1) := by decide +kernel
theorem dX10_slope_2 : decode cX10_slope 2 = .ok (.invokevirtual 95, 3) := by decide +kernel
theorem dX10_slope_5 : decode cX10_slope 5 = .ok (.astore_n 3, 1) := by decide +kernel
theorem dX10_slope_6 : decode cX10_slope 6 = .ok (.aload_n 3, 1) := by decide +kernel
theorem dX10_slope_7 : decode cX10_slope 7 = .ok (.ifnonnull 5, 3) := by decide +kernel
theorem dX10_slope_10 : decode cX10_slope 10 = .ok (.iconst (-1), 1) := by decide +kernel
theorem dX10_slope_11 : decode cX10_slope 11 = .ok (.ireturn, 1) := by decide +kernel
theorem dX10_slope_12 : decode cX10_slope 12 = .ok (.iload_n 2, 1) := by decide +kernel
theorem dX10_slope_13 : decode cX10_slope 13 = .ok (.invokestatic 116, 3) := by decide +kernel
theorem dX10_slope_16 : decode cX10_slope 16 = .ok (.ifCond .ne 6, 3) := by decide +kernel
theorem dX10_slope_19 : decode cX10_slope 19 = .ok (.bipush (-2), 2) := by decide +kernel
theorem dX10_slope_21 : decode cX10_slope 21 = .ok (.ireturn, 1) := by decide +kernel
theorem dX10_slope_22 : decode cX10_slope 22 = .ok (.bipush 9, 2) := by decide +kernel
theorem dX10_slope_24 : decode cX10_slope 24 = .ok (.newarray .long, 2) := by decide +kernel
theorem dX10_slope_26 : decode cX10_slope 26 = .ok (.astore 4, 2) := by decide +kernel
theorem dX10_slope_28 : decode cX10_slope 28 = .ok (.iconst 0, 1) := by decide +kernel
theorem dX10_slope_29 : decode cX10_slope 29 = .ok (.istore 5, 2) := by decide +kernel
theorem dX10_slope_31 : decode cX10_slope 31 = .ok (.iload 5, 2) := by decide +kernel
theorem dX10_slope_33 : decode cX10_slope 33 = .ok (.bipush 9, 2) := by decide +kernel
theorem dX10_slope_35 : decode cX10_slope 35 = .ok (.if_icmp .ge 60, 3) := by decide +kernel
theorem dX10_slope_38 : decode cX10_slope 38 = .ok (.iload_n 2, 1) := by decide +kernel
theorem dX10_slope_39 : decode cX10_slope 39 = .ok (.ifCond .ne 10, 3) := by decide +kernel
theorem dX10_slope_42 : decode cX10_slope 42 = .ok (.iload 5, 2) := by decide +kernel
theorem dX10_slope_44 : decode cX10_slope 44 = .ok (.iconst 3, 1) := by decide +kernel
theorem dX10_slope_45 : decode cX10_slope 45 = .ok (.idiv, 1) := by decide +kernel
theorem dX10_slope_46 : decode cX10_slope 46 = .ok (.goto 7, 3) := by decide +kernel
theorem dX10_slope_49 : decode cX10_slope 49 = .ok (.iload 5, 2) := by decide +kernel
theorem dX10_slope_51 : decode cX10_slope 51 = .ok (.iconst 3, 1) := by decide +kernel
theorem dX10_slope_52 : decode cX10_slope 52 = .ok (.irem, 1) := by decide +kernel
theorem dX10_slope_53 : decode cX10_slope 53 = .ok (.istore 6, 2) := by decide +kernel
theorem dX10_slope_55 : decode cX10_slope 55 = .ok (.iload 6, 2) := by decide +kernel
theorem dX10_slope_57 : decode cX10_slope 57 = .ok (.ifCond .le 32, 3) := by decide +kernel
theorem dX10_slope_60 : decode cX10_slope 60 = .ok (.aload 4, 2) := by decide +kernel
theorem dX10_slope_62 : decode cX10_slope 62 = .ok (.iload_n 2, 1) := by decide +kernel
theorem dX10_slope_63 : decode cX10_slope 63 = .ok (.ifCond .ne 10, 3) := by decide +kernel
theorem dX10_slope_66 : decode cX10_slope 66 = .ok (.iload 5, 2) := by decide +kernel
theorem dX10_slope_68 : decode cX10_slope 68 = .ok (.iconst 3, 1) := by decide +kernel
theorem dX10_slope_69 : decode cX10_slope 69 = .ok (.isub, 1) := by decide +kernel
theorem dX10_slope_70 : decode cX10_slope 70 = .ok (.goto 7, 3) := by decide +kernel
theorem dX10_slope_73 : decode cX10_slope 73 = .ok (.iload 5, 2) := by decide +kernel
theorem dX10_slope_75 : decode cX10_slope 75 = .ok (.iconst 1, 1) := by decide +kernel
theorem dX10_slope_76 : decode cX10_slope 76 = .ok (.isub, 1) := by decide +kernel
theorem dX10_slope_77 : decode cX10_slope 77 = .ok (.iload 6, 2) := by decide +kernel
theorem dX10_slope_79 : decode cX10_slope 79 = .ok (.i2l, 1) := by decide +kernel
theorem dX10_slope_80 : decode cX10_slope 80 = .ok (.aload_n 3, 1) := by decide +kernel
theorem dX10_slope_81 : decode cX10_slope 81 = .ok (.getfield 105, 3) := by decide +kernel
theorem dX10_slope_84 : decode cX10_slope 84 = .ok (.iload 5, 2) := by decide +kernel
theorem dX10_slope_86 : decode cX10_slope 86 = .ok (.laload, 1) := by decide +kernel
theorem dX10_slope_87 : decode cX10_slope 87 = .ok (.lmul, 1) := by decide +kernel
theorem dX10_slope_88 : decode cX10_slope 88 = .ok (.lastore, 1) := by decide +kernel
theorem dX10_slope_89 : decode cX10_slope 89 = .ok (.iinc 5 1, 3) := by decide +kernel
theorem dX10_slope_92 : decode cX10_slope 92 = .ok (.goto (-61), 3) := by decide +kernel
theorem dX10_slope_95 : decode cX10_slope 95 = .ok (.aload_n 0, 1) := by decide +kernel
theorem dX10_slope_96 : decode cX10_slope 96 = .ok (.aload 4, 2) := by decide +kernel
theorem dX10_slope_98 : decode cX10_slope 98 = .ok (.invokevirtual 91, 3) := by decide +kernel
theorem dX10_slope_101 : decode cX10_slope 101 = .ok (.ireturn, 1) := by decide +kernel
theorem dX10_term_0 : decode cX10_term 0 = .ok (.aload_n 0, 1) := by decide +kernel
theorem dX10_term_1 : decode cX10_term 1 = .ok (.iload_n 1, 1) := by decide +kernel
theorem dX10_term_2 : decode cX10_term 2 = .ok (.invokevirtual 95, 3) := by decide +kernel
theorem dX10_term_5 : decode cX10_term 5 = .ok (.astore_n 3, 1) := by decide +kernel
theorem dX10_term_6 : decode cX10_term 6 = .ok (.aload_n 3, 1) := by decide +kernel
theorem dX10_term_7 : decode cX10_term 7 = .ok (.ifnull 10, 3) := by decide +kernel
theorem dX10_term_10 : decode cX10_term 10 = .ok (.iload_n 2, 1) := by decide +kernel
theorem dX10_term_11 : decode cX10_term 11 = .ok (.invokestatic 119, 3) := by decide +kernel
theorem dX10_term_14 : decode cX10_term 14 = .ok (.ifCond .ne 9, 3) := by decide +kernel
theorem dX10_term_17 : decode cX10_term 17 = .ok (.ldc2_w 76, 3) := by decide +kernel
theorem dX10_term_20 : decode cX10_term 20 = .ok (.goto 9, 3) := by decide +kernel
theorem dX10_term_23 : decode cX10_term 23 = .ok (.aload_n 3, 1) := by decide +kernel
theorem dX10_term_24 : decode cX10_term 24 = .ok (.getfield 105, 3) := by decide +kernel
theorem dX10_term_27 : decode cX10_term 27 = .ok (.iload_n 2, 1) := by decide +kernel
theorem dX10_term_28 : decode cX10_term 28 = .ok (.laload, 1) := by decide +kernel
theorem dX10_term_29 : decode cX10_term 29 = .ok (.lreturn, 1) := by decide +kernel
theorem dX10_value_0 : decode cX10_value 0 = .ok (.aload_n 0, 1) := by decide +kernel
theorem dX10_value_1 : decode cX10_value 1 = .ok (.iload_n 1, 1) := by decide +kernel
theorem dX10_value_2 : decode cX10_value 2 = .ok (.invokevirtual 95, 3) := by decide +kernel
theorem dX10_value_5 : decode cX10_value 5 = .ok (.astore 4, 2) := by decide +kernel
theorem dX10_value_7 : decode cX10_value 7 = .ok (.aload 4, 2) := by decide +kernel
theorem dX10_value_9 : decode cX10_value 9 = .ok (.ifnull 25, 3) := by decide +kernel
theorem dX10_value_12 : decode cX10_value 12 = .ok (.iload_n 2, 1) := by decide +kernel
theorem dX10_value_13 : decode cX10_value 13 = .ok (.i2l, 1) := by decide +kernel
theorem dX10_value_14 : decode cX10_value 14 = .ok (.ldc2_w 122, 3) := by decide +kernel
theorem dX10_value_17 : decode cX10_value 17 = .ok (.invokestatic 101, 3) := by decide +kernel
