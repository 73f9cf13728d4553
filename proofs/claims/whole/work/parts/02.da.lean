/-! rows that decode: printed -/
theorem dX0_init_0 : decode cX0_init 0 = .ok (.aload_n 0, 1) := by decide +kernel
theorem dX0_init_1 : decode cX0_init 1 = .ok (.invokespecial 3, 3) := by decide +kernel
theorem dX0_init_4 : decode cX0_init 4 = .ok (.aload_n 0, 1) := by decide +kernel
theorem dX0_init_5 : decode cX0_init 5 = .ok (.bipush 9, 2) := by decide +kernel
theorem dX0_init_7 : decode cX0_init 7 = .ok (.newarray .int, 2) := by decide +kernel
theorem dX0_init_9 : decode cX0_init 9 = .ok (.putfield 9, 3) := by decide +kernel
theorem dX0_init_12 : decode cX0_init 12 = .ok (.aload_n 0, 1) := by decide +kernel
theorem dX0_init_13 : decode cX0_init 13 = .ok (.sipush 300, 3) := by decide +kernel
theorem dX0_init_16 : decode cX0_init 16 = .ok (.newarray .int, 2) := by decide +kernel
theorem dX0_init_18 : decode cX0_init 18 = .ok (.putfield 15, 3) := by decide +kernel
theorem dX0_init_21 : decode cX0_init 21 = .ok (.return_, 1) := by decide +kernel
theorem dX0_clear_0 : decode cX0_clear 0 = .ok (.aload_n 0, 1) := by decide +kernel
theorem dX0_clear_1 : decode cX0_clear 1 = .ok (.getfield 9, 3) := by decide +kernel
theorem dX0_clear_4 : decode cX0_clear 4 = .ok (.iconst 0, 1) := by decide +kernel
theorem dX0_clear_5 : decode cX0_clear 5 = .ok (.invokestatic 18, 3) := by decide +kernel
theorem dX0_clear_8 : decode cX0_clear 8 = .ok (.aload_n 0, 1) := by decide +kernel
theorem dX0_clear_9 : decode cX0_clear 9 = .ok (.iconst 0, 1) := by decide +kernel
theorem dX0_clear_10 : decode cX0_clear 10 = .ok (.putfield 24, 3) := by decide +kernel
theorem dX0_clear_13 : decode cX0_clear 13 = .ok (.aload_n 0, 1) := by decide +kernel
theorem dX0_clear_14 : decode cX0_clear 14 = .ok (.iconst 0, 1) := by decide +kernel
theorem dX0_clear_15 : decode cX0_clear 15 = .ok (.putfield 28, 3) := by decide +kernel
theorem dX0_clear_18 : decode cX0_clear 18 = .ok (.return_, 1) := by decide +kernel
theorem dX0_copyFrom_0 : decode cX0_copyFrom 0 = .ok (.aload_n 1, 1) := by decide +kernel
theorem dX0_copyFrom_1 : decode cX0_copyFrom 1 = .ok (.getfield 9, 3) := by decide +kernel
theorem dX0_copyFrom_4 : decode cX0_copyFrom 4 = .ok (.iconst 0, 1) := by decide +kernel
theorem dX0_copyFrom_5 : decode cX0_copyFrom 5 = .ok (.aload_n 0, 1) := by decide +kernel
theorem dX0_copyFrom_6 : decode cX0_copyFrom 6 = .ok (.getfield 9, 3) := by decide +kernel
theorem dX0_copyFrom_9 : decode cX0_copyFrom 9 = .ok (.iconst 0, 1) := by decide +kernel
theorem dX0_copyFrom_10 : decode cX0_copyFrom 10 = .ok (.aload_n 0, 1) := by decide +kernel
theorem dX0_copyFrom_11 : decode cX0_copyFrom 11 = .ok (.getfield 9, 3) := by decide +kernel
theorem dX0_copyFrom_14 : decode cX0_copyFrom 14 = .ok (.arraylength, 1) := by decide +kernel
theorem dX0_copyFrom_15 : decode cX0_copyFrom 15 = .ok (.invokestatic 31, 3) := by decide +kernel
theorem dX0_copyFrom_18 : decode cX0_copyFrom 18 = .ok (.aload_n 1, 1) := by decide +kernel
theorem dX0_copyFrom_19 : decode cX0_copyFrom 19 = .ok (.getfield 15, 3) := by decide +kernel
theorem dX0_copyFrom_22 : decode cX0_copyFrom 22 = .ok (.iconst 0, 1) := by decide +kernel
theorem dX0_copyFrom_23 : decode cX0_copyFrom 23 = .ok (.aload_n 0, 1) := by decide +kernel
theorem dX0_copyFrom_24 : decode cX0_copyFrom 24 = .ok (.getfield 15, 3) := by decide +kernel
theorem dX0_copyFrom_27 : decode cX0_copyFrom 27 = .ok (.iconst 0, 1) := by decide +kernel
theorem dX0_copyFrom_28 : decode cX0_copyFrom 28 = .ok (.aload_n 0, 1) := by decide +kernel
theorem dX0_copyFrom_29 : decode cX0_copyFrom 29 = .ok (.getfield 15, 3) := by decide +kernel
theorem dX0_copyFrom_32 : decode cX0_copyFrom 32 = .ok (.arraylength, 1) := by decide +kernel
theorem dX0_copyFrom_33 : decode cX0_copyFrom 33 = .ok (.invokestatic 31, 3) := by decide +kernel
theorem dX0_copyFrom_36 : decode cX0_copyFrom 36 = .ok (.aload_n 0, 1) := by decide +kernel
theorem dX0_copyFrom_37 : decode cX0_copyFrom 37 = .ok (.aload_n 1, 1) := by decide +kernel
theorem dX0_copyFrom_38 : decode cX0_copyFrom 38 = .ok (.getfield 24, 3) := by decide +kernel
theorem dX0_copyFrom_41 : decode cX0_copyFrom 41 = .ok (.putfield 24, 3) := by decide +kernel
theorem dX0_copyFrom_44 : decode cX0_copyFrom 44 = .ok (.aload_n 0, 1) := by decide +kernel
theorem dX0_copyFrom_45 : decode cX0_copyFrom 45 = .ok (.aload_n 1, 1) := by decide +kernel
theorem dX0_copyFrom_46 : decode cX0_copyFrom 46 = .ok (.getfield 28, 3) := by decide +kernel
theorem dX0_copyFrom_49 : decode cX0_copyFrom 49 = .ok (.putfield 28, 3) := by decide +kernel
theorem dX0_copyFrom_52 : decode cX0_copyFrom 52 = .ok (.return_, 1) := by decide +kernel
theorem dX0_write_0 : decode cX0_write 0 = .ok (.aload_n 0, 1) := by decide +kernel
theorem dX0_write_1 : decode cX0_write 1 = .ok (.getfield 24, 3) := by decide +kernel
theorem dX0_write_4 : decode cX0_write 4 = .ok (.aload_n 0, 1) := by decide +kernel
theorem dX0_write_5 : decode cX0_write 5 = .ok (.getfield 28, 3) := by decide +kernel
theorem dX0_write_8 : decode cX0_write 8 = .ok (.iadd, 1) := by decide +kernel
theorem dX0_write_9 : decode cX0_write 9 = .ok (.bipush 60, 2) := by decide +kernel
theorem dX0_write_11 : decode cX0_write 11 = .ok (.irem, 1) := by decide +kernel
theorem dX0_write_12 : decode cX0_write 12 = .ok (.iconst 5, 1) := by decide +kernel
theorem dX0_write_13 : decode cX0_write 13 = .ok (.imul, 1) := by decide +kernel
theorem dX0_write_14 : decode cX0_write 14 = .ok (.istore 5, 2) := by decide +kernel
theorem dX0_write_16 : decode cX0_write 16 = .ok (.aload_n 0, 1) := by decide +kernel
theorem dX0_write_17 : decode cX0_write 17 = .ok (.getfield 15, 3) := by decide +kernel
theorem dX0_write_20 : decode cX0_write 20 = .ok (.iload 5, 2) := by decide +kernel
theorem dX0_write_22 : decode cX0_write 22 = .ok (.iload_n 1, 1) := by decide +kernel
theorem dX0_write_23 : decode cX0_write 23 = .ok (.iastore, 1) := by decide +kernel
theorem dX0_write_24 : decode cX0_write 24 = .ok (.aload_n 0, 1) := by decide +kernel
theorem dX0_write_25 : decode cX0_write 25 = .ok (.getfield 15, 3) := by decide +kernel
theorem dX0_write_28 : decode cX0_write 28 = .ok (.iload 5, 2) := by decide +kernel
theorem dX0_write_30 : decode cX0_write 30 = .ok (.iconst 1, 1) := by decide +kernel
theorem dX0_write_31 : decode cX0_write 31 = .ok (.iadd, 1) := by decide +kernel
theorem dX0_write_32 : decode cX0_write 32 = .ok (.iload_n 2, 1) := by decide +kernel
theorem dX0_write_33 : decode cX0_write 33 = .ok (.iastore, 1) := by decide +kernel
theorem dX0_write_34 : decode cX0_write 34 = .ok (.aload_n 0, 1) := by decide +kernel
theorem dX0_write_35 : decode cX0_write 35 = .ok (.getfield 15, 3) := by decide +kernel
theorem dX0_write_38 : decode cX0_write 38 = .ok (.iload 5, 2) := by decide +kernel
theorem dX0_write_40 : decode cX0_write 40 = .ok (.iconst 2, 1) := by decide +kernel
theorem dX0_write_41 : decode cX0_write 41 = .ok (.iadd, 1) := by decide +kernel
theorem dX0_write_42 : decode cX0_write 42 = .ok (.aload_n 3, 1) := by decide +kernel
theorem dX0_write_43 : decode cX0_write 43 = .ok (.getfield 37, 3) := by decide +kernel
theorem dX0_write_46 : decode cX0_write 46 = .ok (.iastore, 1) := by decide +kernel
theorem dX0_write_47 : decode cX0_write 47 = .ok (.aload_n 0, 1) := by decide +kernel
theorem dX0_write_48 : decode cX0_write 48 = .ok (.getfield 15, 3) := by decide +kernel
theorem dX0_write_51 : decode cX0_write 51 = .ok (.iload 5, 2) := by decide +kernel
theorem dX0_write_53 : decode cX0_write 53 = .ok (.iconst 3, 1) := by decide +kernel
theorem dX0_write_54 : decode cX0_write 54 = .ok (.iadd, 1) := by decide +kernel
theorem dX0_write_55 : decode cX0_write 55 = .ok (.iload 4, 2) := by decide +kernel
theorem dX0_write_57 : decode cX0_write 57 = .ok (.iastore, 1) := by decide +kernel
theorem dX0_write_58 : decode cX0_write 58 = .ok (.aload_n 0, 1) := by decide +kernel
theorem dX0_write_59 : decode cX0_write 59 = .ok (.getfield 15, 3) := by decide +kernel
theorem dX0_write_62 : decode cX0_write 62 = .ok (.iload 5, 2) := by decide +kernel
theorem dX0_write_64 : decode cX0_write 64 = .ok (.iconst 4, 1) := by decide +kernel
theorem dX0_write_65 : decode cX0_write 65 = .ok (.iadd, 1) := by decide +kernel
theorem dX0_write_66 : decode cX0_write 66 = .ok (.aload_n 3, 1) := by decide +kernel
theorem dX0_write_67 : decode cX0_write 67 = .ok (.getfield 42, 3) := by decide +kernel
theorem dX0_write_70 : decode cX0_write 70 = .ok (.iastore, 1) := by decide +kernel
theorem dX0_write_71 : decode cX0_write 71 = .ok (.aload_n 0, 1) := by decide +kernel
theorem dX0_write_72 : decode cX0_write 72 = .ok (.getfield 9, 3) := by decide +kernel
theorem dX0_write_75 : decode cX0_write 75 = .ok (.iload_n 1, 1) := by decide +kernel
theorem dX0_write_76 : decode cX0_write 76 = .ok (.dup2, 1) := by decide +kernel
theorem dX0_write_77 : decode cX0_write 77 = .ok (.iaload, 1) := by decide +kernel
theorem dX0_write_78 : decode cX0_write 78 = .ok (.iconst 1, 1) := by decide +kernel
theorem dX0_write_79 : decode cX0_write 79 = .ok (.iadd, 1) := by decide +kernel
theorem dX0_write_80 : decode cX0_write 80 = .ok (.iastore, 1) := by decide +kernel
theorem dX0_write_81 : decode cX0_write 81 = .ok (.aload_n 0, 1) := by decide +kernel
theorem dX0_write_82 : decode cX0_write 82 = .ok (.getfield 28, 3) := by decide +kernel
theorem dX0_write_85 : decode cX0_write 85 = .ok (.bipush 60, 2) := by decide +kernel
theorem dX0_write_87 : decode cX0_write 87 = .ok (.if_icmp .ge 16, 3) := by decide +kernel
theorem dX0_write_90 : decode cX0_write 90 = .ok (.aload_n 0, 1) := by decide +kernel
theorem dX0_write_91 : decode cX0_write 91 = .ok (.dup, 1) := by decide +kernel
theorem dX0_write_92 : decode cX0_write 92 = .ok (.getfield 28, 3) := by decide +kernel
theorem dX0_write_95 : decode cX0_write 95 = .ok (.iconst 1, 1) := by decide +kernel
theorem dX0_write_96 : decode cX0_write 96 = .ok (.iadd, 1) := by decide +kernel
theorem dX0_write_97 : decode cX0_write 97 = .ok (.putfield 28, 3) := by decide +kernel
theorem dX0_write_100 : decode cX0_write 100 = .ok (.goto 16, 3) := by decide +kernel
theorem dX0_write_103 : decode cX0_write 103 = .ok (.aload_n 0, 1) := by decide +kernel
theorem dX0_write_104 : decode cX0_write 104 = .ok (.aload_n 0, 1) := by decide +kernel
theorem dX0_write_105 : decode cX0_write 105 = .ok (.getfield 24, 3) := by decide +kernel
theorem dX0_write_108 : decode cX0_write 108 = .ok (.iconst 1, 1) := by decide +kernel
theorem dX0_write_109 : decode cX0_write 109 = .ok (.iadd, 1) := by decide +kernel
theorem dX0_write_110 : decode cX0_write 110 = .ok (.bipush 60, 2) := by decide +kernel
theorem dX0_write_112 : decode cX0_write 112 = .ok (.irem, 1) := by decide +kernel
theorem dX0_write_113 : decode cX0_write 113 = .ok (.putfield 24, 3) := by decide +kernel
theorem dX0_write_116 : decode cX0_write 116 = .ok (.return_, 1) := by decide +kernel
theorem dX0_answer_0 : decode cX0_answer 0 = .ok (.aload_n 0, 1) := by decide +kernel
theorem dX0_answer_1 : decode cX0_answer 1 = .ok (.getfield 15, 3) := by decide +kernel
theorem dX0_answer_4 : decode cX0_answer 4 = .ok (.aload_n 0, 1) := by decide +kernel
theorem dX0_answer_5 : decode cX0_answer 5 = .ok (.getfield 24, 3) := by decide +kernel
theorem dX0_answer_8 : decode cX0_answer 8 = .ok (.iload_n 1, 1) := by decide +kernel
theorem dX0_answer_9 : decode cX0_answer 9 = .ok (.iadd, 1) := by decide +kernel
theorem dX0_answer_10 : decode cX0_answer 10 = .ok (.bipush 60, 2) := by decide +kernel
theorem dX0_answer_12 : decode cX0_answer 12 = .ok (.irem, 1) := by decide +kernel
theorem dX0_answer_13 : decode cX0_answer 13 = .ok (.iconst 5, 1) := by decide +kernel
theorem dX0_answer_14 : decode cX0_answer 14 = .ok (.imul, 1) := by decide +kernel
theorem dX0_answer_15 : decode cX0_answer 15 = .ok (.iload_n 2, 1) := by decide +kernel
theorem dX0_answer_16 : decode cX0_answer 16 = .ok (.iadd, 1) := by decide +kernel
theorem dX0_answer_17 : decode cX0_answer 17 = .ok (.iaload, 1) := by decide +kernel
theorem dX0_answer_18 : decode cX0_answer 18 = .ok (.ireturn, 1) := by decide +kernel
theorem dX1_init_0 : decode cX1_init 0 = .ok (.aload_n 0, 1) := by decide +kernel
theorem dX1_init_1 : decode cX1_init 1 = .ok (.invokespecial 3, 3) := by decide +kernel
theorem dX1_init_4 : decode cX1_init 4 = .ok (.aload_n 0, 1) := by decide +kernel
theorem dX1_init_5 : decode cX1_init 5 = .ok (.bipush 32, 2) := by decide +kernel
theorem dX1_init_7 : decode cX1_init 7 = .ok (.newarray .int, 2) := by decide +kernel
theorem dX1_init_9 : decode cX1_init 9 = .ok (.putfield 9, 3) := by decide +kernel
theorem dX1_init_12 : decode cX1_init 12 = .ok (.aload_n 0, 1) := by decide +kernel
theorem dX1_init_13 : decode cX1_init 13 = .ok (.bipush 32, 2) := by decide +kernel
theorem dX1_init_15 : decode cX1_init 15 = .ok (.newarray .int, 2) := by decide +kernel
theorem dX1_init_17 : decode cX1_init 17 = .ok (.putfield 15, 3) := by decide +kernel
theorem dX1_init_20 : decode cX1_init 20 = .ok (.aload_n 0, 1) := by decide +kernel
theorem dX1_init_21 : decode cX1_init 21 = .ok (.sipush 256, 3) := by decide +kernel
theorem dX1_init_24 : decode cX1_init 24 = .ok (.newarray .int, 2) := by decide +kernel
theorem dX1_init_26 : decode cX1_init 26 = .ok (.putfield 18, 3) := by decide +kernel
theorem dX1_init_29 : decode cX1_init 29 = .ok (.return_, 1) := by decide +kernel
theorem dX1_clear_0 : decode cX1_clear 0 = .ok (.aload_n 0, 1) := by decide +kernel
theorem dX1_clear_1 : decode cX1_clear 1 = .ok (.getfield 9, 3) := by decide +kernel
theorem dX1_clear_4 : decode cX1_clear 4 = .ok (.iconst 0, 1) := by decide +kernel
theorem dX1_clear_5 : decode cX1_clear 5 = .ok (.invokestatic 21, 3) := by decide +kernel
theorem dX1_clear_8 : decode cX1_clear 8 = .ok (.return_, 1) := by decide +kernel
theorem dX1_copyFrom_0 : decode cX1_copyFrom 0 = .ok (.aload_n 1, 1) := by decide +kernel
theorem dX1_copyFrom_1 : decode cX1_copyFrom 1 = .ok (.getfield 9, 3) := by decide +kernel
theorem dX1_copyFrom_4 : decode cX1_copyFrom 4 = .ok (.iconst 0, 1) := by decide +kernel
theorem dX1_copyFrom_5 : decode cX1_copyFrom 5 = .ok (.aload_n 0, 1) := by decide +kernel
theorem dX1_copyFrom_6 : decode cX1_copyFrom 6 = .ok (.getfield 9, 3) := by decide +kernel
theorem dX1_copyFrom_9 : decode cX1_copyFrom 9 = .ok (.iconst 0, 1) := by decide +kernel
theorem dX1_copyFrom_10 : decode cX1_copyFrom 10 = .ok (.aload_n 0, 1) := by decide +kernel
theorem dX1_copyFrom_11 : decode cX1_copyFrom 11 = .ok (.getfield 9, 3) := by decide +kernel
theorem dX1_copyFrom_14 : decode cX1_copyFrom 14 = .ok (.arraylength, 1) := by decide +kernel
theorem dX1_copyFrom_15 : decode cX1_copyFrom 15 = .ok (.invokestatic 27, 3) := by decide +kernel
theorem dX1_copyFrom_18 : decode cX1_copyFrom 18 = .ok (.aload_n 1, 1) := by decide +kernel
theorem dX1_copyFrom_19 : decode cX1_copyFrom 19 = .ok (.getfield 15, 3) := by decide +kernel
theorem dX1_copyFrom_22 : decode cX1_copyFrom 22 = .ok (.iconst 0, 1) := by decide +kernel
theorem dX1_copyFrom_23 : decode cX1_copyFrom 23 = .ok (.aload_n 0, 1) := by decide +kernel
theorem dX1_copyFrom_24 : decode cX1_copyFrom 24 = .ok (.getfield 15, 3) := by decide +kernel
theorem dX1_copyFrom_27 : decode cX1_copyFrom 27 = .ok (.iconst 0, 1) := by decide +kernel
theorem dX1_copyFrom_28 : decode cX1_copyFrom 28 = .ok (.aload_n 0, 1) := by decide +kernel
theorem dX1_copyFrom_29 : decode cX1_copyFrom 29 = .ok (.getfield 15, 3) := by decide +kernel
theorem dX1_copyFrom_32 : decode cX1_copyFrom 32 = .ok (.arraylength, 1) := by decide +kernel
theorem dX1_copyFrom_33 : decode cX1_copyFrom 33 = .ok (.invokestatic 27, 3) := by decide +kernel
theorem dX1_copyFrom_36 : decode cX1_copyFrom 36 = .ok (.aload_n 1, 1) := by decide +kernel
theorem dX1_copyFrom_37 : decode cX1_copyFrom 37 = .ok (.getfield 18, 3) := by decide +kernel
theorem dX1_copyFrom_40 : decode cX1_copyFrom 40 = .ok (.iconst 0, 1) := by decide +kernel
theorem dX1_copyFrom_41 : decode cX1_copyFrom 41 = .ok (.aload_n 0, 1) := by decide +kernel
theorem dX1_copyFrom_42 : decode cX1_copyFrom 42 = .ok (.getfield 18, 3) := by decide +kernel
theorem dX1_copyFrom_45 : decode cX1_copyFrom 45 = .ok (.iconst 0, 1) := by decide +kernel
theorem dX1_copyFrom_46 : decode cX1_copyFrom 46 = .ok (.aload_n 0, 1) := by decide +kernel
theorem dX1_copyFrom_47 : decode cX1_copyFrom 47 = .ok (.getfield 18, 3) := by decide +kernel
theorem dX1_copyFrom_50 : decode cX1_copyFrom 50 = .ok (.arraylength, 1) := by decide +kernel
theorem dX1_copyFrom_51 : decode cX1_copyFrom 51 = .ok (.invokestatic 27, 3) := by decide +kernel
theorem dX1_copyFrom_54 : decode cX1_copyFrom 54 = .ok (.return_, 1) := by decide +kernel
theorem dX1_answer_0 : decode cX1_answer 0 = .ok (.iload_n 2, 1) := by decide +kernel
theorem dX1_answer_1 : decode cX1_answer 1 = .ok (.iconst 1, 1) := by decide +kernel
theorem dX1_answer_2 : decode cX1_answer 2 = .ok (.if_icmp .ne 10, 3) := by decide +kernel
theorem dX1_answer_5 : decode cX1_answer 5 = .ok (.aload_n 0, 1) := by decide +kernel
theorem dX1_answer_6 : decode cX1_answer 6 = .ok (.getfield 9, 3) := by decide +kernel
theorem dX1_answer_9 : decode cX1_answer 9 = .ok (.iload_n 1, 1) := by decide +kernel
theorem dX1_answer_10 : decode cX1_answer 10 = .ok (.iaload, 1) := by decide +kernel
theorem dX1_answer_11 : decode cX1_answer 11 = .ok (.ireturn, 1) := by decide +kernel
theorem dX1_answer_12 : decode cX1_answer 12 = .ok (.aload_n 0, 1) := by decide +kernel
theorem dX1_answer_13 : decode cX1_answer 13 = .ok (.getfield 9, 3) := by decide +kernel
theorem dX1_answer_16 : decode cX1_answer 16 = .ok (.iload_n 1, 1) := by decide +kernel
theorem dX1_answer_17 : decode cX1_answer 17 = .ok (.iaload, 1) := by decide +kernel
theorem dX1_answer_18 : decode cX1_answer 18 = .ok (.ifCond .ne 6, 3) := by decide +kernel
theorem dX1_answer_21 : decode cX1_answer 21 = .ok (.bipush (-4), 2) := by decide +kernel
theorem dX1_answer_23 : decode cX1_answer 23 = .ok (.ireturn, 1) := by decide +kernel
theorem dX1_answer_24 : decode cX1_answer 24 = .ok (.iload_n 2, 1) := by decide +kernel
theorem dX1_answer_25 : decode cX1_answer 25 = .ok (.iconst 2, 1) := by decide +kernel
theorem dX1_answer_26 : decode cX1_answer 26 = .ok (.if_icmp .ne 27, 3) := by decide +kernel
theorem dX1_answer_29 : decode cX1_answer 29 = .ok (.aload_n 0, 1) := by decide +kernel
theorem dX1_answer_30 : decode cX1_answer 30 = .ok (.getfield 18, 3) := by decide +kernel
theorem dX1_answer_33 : decode cX1_answer 33 = .ok (.iload_n 1, 1) := by decide +kernel
theorem dX1_answer_34 : decode cX1_answer 34 = .ok (.bipush 8, 2) := by decide +kernel
theorem dX1_answer_36 : decode cX1_answer 36 = .ok (.imul, 1) := by decide +kernel
theorem dX1_answer_37 : decode cX1_answer 37 = .ok (.aload_n 0, 1) := by decide +kernel
theorem dX1_answer_38 : decode cX1_answer 38 = .ok (.getfield 9, 3) := by decide +kernel
theorem dX1_answer_41 : decode cX1_answer 41 = .ok (.iload_n 1, 1) := by decide +kernel
theorem dX1_answer_42 : decode cX1_answer 42 = .ok (.iaload, 1) := by decide +kernel
theorem dX1_answer_43 : decode cX1_answer 43 = .ok (.iconst 1, 1) := by decide +kernel
theorem dX1_answer_44 : decode cX1_answer 44 = .ok (.isub, 1) := by decide +kernel
theorem dX1_answer_45 : decode cX1_answer 45 = .ok (.bipush 8, 2) := by decide +kernel
theorem dX1_answer_47 : decode cX1_answer 47 = .ok (.irem, 1) := by decide +kernel
theorem dX1_answer_48 : decode cX1_answer 48 = .ok (.iadd, 1) := by decide +kernel
theorem dX1_answer_49 : decode cX1_answer 49 = .ok (.iaload, 1) := by decide +kernel
theorem dX1_answer_50 : decode cX1_answer 50 = .ok (.goto 9, 3) := by decide +kernel
theorem dX1_answer_53 : decode cX1_answer 53 = .ok (.aload_n 0, 1) := by decide +kernel
theorem dX1_answer_54 : decode cX1_answer 54 = .ok (.getfield 15, 3) := by decide +kernel
theorem dX1_answer_57 : decode cX1_answer 57 = .ok (.iload_n 1, 1) := by decide +kernel
theorem dX1_answer_58 : decode cX1_answer 58 = .ok (.iaload, 1) := by decide +kernel
theorem dX1_answer_59 : decode cX1_answer 59 = .ok (.ireturn, 1) := by decide +kernel
theorem dX1_knows_0 : decode cX1_knows 0 = .ok (.aload_n 0, 1) := by decide +kernel
theorem dX1_knows_1 : decode cX1_knows 1 = .ok (.getfield 9, 3) := by decide +kernel
theorem dX1_knows_4 : decode cX1_knows 4 = .ok (.iload_n 1, 1) := by decide +kernel
theorem dX1_knows_5 : decode cX1_knows 5 = .ok (.iaload, 1) := by decide +kernel
theorem dX1_knows_6 : decode cX1_knows 6 = .ok (.bipush 8, 2) := by decide +kernel
theorem dX1_knows_8 : decode cX1_knows 8 = .ok (.invokestatic 33, 3) := by decide +kernel
theorem dX1_knows_11 : decode cX1_knows 11 = .ok (.istore_n 3, 1) := by decide +kernel
theorem dX1_knows_12 : decode cX1_knows 12 = .ok (.iconst 0, 1) := by decide +kernel
theorem dX1_knows_13 : decode cX1_knows 13 = .ok (.istore 4, 2) := by decide +kernel
theorem dX1_knows_15 : decode cX1_knows 15 = .ok (.iload 4, 2) := by decide +kernel
theorem dX1_knows_17 : decode cX1_knows 17 = .ok (.iload_n 3, 1) := by decide +kernel
theorem dX1_knows_18 : decode cX1_knows 18 = .ok (.if_icmp .ge 27, 3) := by decide +kernel
theorem dX1_knows_21 : decode cX1_knows 21 = .ok (.aload_n 0, 1) := by decide +kernel
theorem dX1_knows_22 : decode cX1_knows 22 = .ok (.getfield 18, 3) := by decide +kernel
theorem dX1_knows_25 : decode cX1_knows 25 = .ok (.iload_n 1, 1) := by decide +kernel
theorem dX1_knows_26 : decode cX1_knows 26 = .ok (.bipush 8, 2) := by decide +kernel
theorem dX1_knows_28 : decode cX1_knows 28 = .ok (.imul, 1) := by decide +kernel
theorem dX1_knows_29 : decode cX1_knows 29 = .ok (.iload 4, 2) := by decide +kernel
theorem dX1_knows_31 : decode cX1_knows 31 = .ok (.iadd, 1) := by decide +kernel
theorem dX1_knows_32 : decode cX1_knows 32 = .ok (.iaload, 1) := by decide +kernel
theorem dX1_knows_33 : decode cX1_knows 33 = .ok (.iload_n 2, 1) := by decide +kernel
theorem dX1_knows_34 : decode cX1_knows 34 = .ok (.if_icmp .ne 5, 3) := by decide +kernel
theorem dX1_knows_37 : decode cX1_knows 37 = .ok (.iconst 1, 1) := by decide +kernel
theorem dX1_knows_38 : decode cX1_knows 38 = .ok (.ireturn, 1) := by decide +kernel
theorem dX1_knows_39 : decode cX1_knows 39 = .ok (.iinc 4 1, 3) := by decide +kernel
theorem dX1_knows_42 : decode cX1_knows 42 = .ok (.goto (-27), 3) := by decide +kernel
theorem dX1_knows_45 : decode cX1_knows 45 = .ok (.iconst 0, 1) := by decide +kernel
theorem dX1_knows_46 : decode cX1_knows 46 = .ok (.ireturn, 1) := by decide +kernel
theorem dX1_put_0 : decode cX1_put 0 = .ok (.aload_n 0, 1) := by decide +kernel
theorem dX1_put_1 : decode cX1_put 1 = .ok (.getfield 18, 3) := by decide +kernel
theorem dX1_put_4 : decode cX1_put 4 = .ok (.iload_n 1, 1) := by decide +kernel
theorem dX1_put_5 : decode cX1_put 5 = .ok (.bipush 8, 2) := by decide +kernel
theorem dX1_put_7 : decode cX1_put 7 = .ok (.imul, 1) := by decide +kernel
theorem dX1_put_8 : decode cX1_put 8 = .ok (.aload_n 0, 1) := by decide +kernel
theorem dX1_put_9 : decode cX1_put 9 = .ok (.getfield 9, 3) := by decide +kernel
theorem dX1_put_12 : decode cX1_put 12 = .ok (.iload_n 1, 1) := by decide +kernel
theorem dX1_put_13 : decode cX1_put 13 = .ok (.iaload, 1) := by decide +kernel
theorem dX1_put_14 : decode cX1_put 14 = .ok (.bipush 8, 2) := by decide +kernel
theorem dX1_put_16 : decode cX1_put 16 = .ok (.irem, 1) := by decide +kernel
theorem dX1_put_17 : decode cX1_put 17 = .ok (.iadd, 1) := by decide +kernel
theorem dX1_put_18 : decode cX1_put 18 = .ok (.iload_n 2, 1) := by decide +kernel
theorem dX1_put_19 : decode cX1_put 19 = .ok (.iastore, 1) := by decide +kernel
theorem dX1_put_20 : decode cX1_put 20 = .ok (.aload_n 0, 1) := by decide +kernel
theorem dX1_put_21 : decode cX1_put 21 = .ok (.getfield 15, 3) := by decide +kernel
theorem dX1_put_24 : decode cX1_put 24 = .ok (.iload_n 1, 1) := by decide +kernel
theorem dX1_put_25 : decode cX1_put 25 = .ok (.iload_n 3, 1) := by decide +kernel
theorem dX1_put_26 : decode cX1_put 26 = .ok (.iastore, 1) := by decide +kernel
theorem dX1_put_27 : decode cX1_put 27 = .ok (.aload_n 0, 1) := by decide +kernel
theorem dX1_put_28 : decode cX1_put 28 = .ok (.getfield 9, 3) := by decide +kernel
theorem dX1_put_31 : decode cX1_put 31 = .ok (.iload_n 1, 1) := by decide +kernel
theorem dX1_put_32 : decode cX1_put 32 = .ok (.dup2, 1) := by decide +kernel
theorem dX1_put_33 : decode cX1_put 33 = .ok (.iaload, 1) := by decide +kernel
theorem dX1_put_34 : decode cX1_put 34 = .ok (.iconst 1, 1) := by decide +kernel
theorem dX1_put_35 : decode cX1_put 35 = .ok (.iadd, 1) := by decide +kernel
theorem dX1_put_36 : decode cX1_put 36 = .ok (.iastore, 1) := by decide +kernel
theorem dX1_put_37 : decode cX1_put 37 = .ok (.return_, 1) := by decide +kernel
theorem dX2_init_0 : decode cX2_init 0 = .ok (.aload_n 0, 1) := by decide +kernel
theorem dX2_init_1 : decode cX2_init 1 = .ok (.invokespecial 3, 3) := by decide +kernel
theorem dX2_init_4 : decode cX2_init 4 = .ok (.aload_n 0, 1) := by decide +kernel
theorem dX2_init_5 : decode cX2_init 5 = .ok (.aload_n 1, 1) := by decide +kernel
theorem dX2_init_6 : decode cX2_init 6 = .ok (.putfield 9, 3) := by decide +kernel
theorem dX2_init_9 : decode cX2_init 9 = .ok (.aload_n 0, 1) := by decide +kernel
theorem dX2_init_10 : decode cX2_init 10 = .ok (.aload_n 2, 1) := by decide +kernel
theorem dX2_init_11 : decode cX2_init 11 = .ok (.putfield 15, 3) := by decide +kernel
theorem dX2_init_14 : decode cX2_init 14 = .ok (.return_, 1) := by decide +kernel
theorem dX2_refusal_0 : decode cX2_refusal 0 = .ok (.iload_n 1, 1) := by decide +kernel
theorem dX2_refusal_1 : decode cX2_refusal 1 = .ok (.ifCond .lt 28, 3) := by decide +kernel
theorem dX2_refusal_4 : decode cX2_refusal 4 = .ok (.iload_n 1, 1) := by decide +kernel
theorem dX2_refusal_5 : decode cX2_refusal 5 = .ok (.aload_n 0, 1) := by decide +kernel
theorem dX2_refusal_6 : decode cX2_refusal 6 = .ok (.getfield 9, 3) := by decide +kernel
theorem dX2_refusal_9 : decode cX2_refusal 9 = .ok (.getfield 19, 3) := by decide +kernel
theorem dX2_refusal_12 : decode cX2_refusal 12 = .ok (.if_icmp .ge 17, 3) := by decide +kernel
theorem dX2_refusal_15 : decode cX2_refusal 15 = .ok (.iload_n 2, 1) := by decide +kernel
theorem dX2_refusal_16 : decode cX2_refusal 16 = .ok (.invokestatic 25, 3) := by decide +kernel
theorem dX2_refusal_19 : decode cX2_refusal 19 = .ok (.ifCond .eq 10, 3) := by decide +kernel
theorem dX2_refusal_22 : decode cX2_refusal 22 = .ok (.iload_n 3, 1) := by decide +kernel
theorem dX2_refusal_23 : decode cX2_refusal 23 = .ok (.invokestatic 25, 3) := by decide +kernel
theorem dX2_refusal_26 : decode cX2_refusal 26 = .ok (.ifCond .ne 5, 3) := by decide +kernel
theorem dX2_refusal_29 : decode cX2_refusal 29 = .ok (.iconst (-1), 1) := by decide +kernel
theorem dX2_refusal_30 : decode cX2_refusal 30 = .ok (.ireturn, 1) := by decide +kernel
theorem dX2_refusal_31 : decode cX2_refusal 31 = .ok (.aload_n 0, 1) := by decide +kernel
theorem dX2_refusal_32 : decode cX2_refusal 32 = .ok (.getfield 15, 3) := by decide +kernel
theorem dX2_refusal_35 : decode cX2_refusal 35 = .ok (.getfield 29, 3) := by decide +kernel
theorem dX2_refusal_38 : decode cX2_refusal 38 = .ok (.getfield 35, 3) := by decide +kernel
theorem dX2_refusal_41 : decode cX2_refusal 41 = .ok (.iload 4, 2) := by decide +kernel
theorem dX2_refusal_43 : decode cX2_refusal 43 = .ok (.iadd, 1) := by decide +kernel
theorem dX2_refusal_44 : decode cX2_refusal 44 = .ok (.bipush 60, 2) := by decide +kernel
theorem dX2_refusal_46 : decode cX2_refusal 46 = .ok (.if_icmp .lt 8, 3) := by decide +kernel
theorem dX2_refusal_49 : decode cX2_refusal 49 = .ok (.bipush (-3), 2) := by decide +kernel
theorem dX2_refusal_51 : decode cX2_refusal 51 = .ok (.goto 4, 3) := by decide +kernel
theorem dX2_refusal_54 : decode cX2_refusal 54 = .ok (.iconst 0, 1) := by decide +kernel
theorem dX2_refusal_55 : decode cX2_refusal 55 = .ok (.ireturn, 1) := by decide +kernel
theorem dX2_takeLetter_0 : decode cX2_takeLetter 0 = .ok (.aload_n 0, 1) := by decide +kernel
theorem dX2_takeLetter_1 : decode cX2_takeLetter 1 = .ok (.iload_n 1, 1) := by decide +kernel
theorem dX2_takeLetter_2 : decode cX2_takeLetter 2 = .ok (.iload_n 2, 1) := by decide +kernel
theorem dX2_takeLetter_3 : decode cX2_takeLetter 3 = .ok (.iload_n 3, 1) := by decide +kernel
theorem dX2_takeLetter_4 : decode cX2_takeLetter 4 = .ok (.iconst 0, 1) := by decide +kernel
theorem dX2_takeLetter_5 : decode cX2_takeLetter 5 = .ok (.invokevirtual 40, 3) := by decide +kernel
theorem dX2_takeLetter_8 : decode cX2_takeLetter 8 = .ok (.istore 4, 2) := by decide +kernel
theorem dX2_takeLetter_10 : decode cX2_takeLetter 10 = .ok (.iload 4, 2) := by decide +kernel
theorem dX2_takeLetter_12 : decode cX2_takeLetter 12 = .ok (.ifCond .eq 6, 3) := by decide +kernel
theorem dX2_takeLetter_15 : decode cX2_takeLetter 15 = .ok (.iload 4, 2) := by decide +kernel
theorem dX2_takeLetter_17 : decode cX2_takeLetter 17 = .ok (.ireturn, 1) := by decide +kernel
theorem dX2_takeLetter_18 : decode cX2_takeLetter 18 = .ok (.aload_n 0, 1) := by decide +kernel
theorem dX2_takeLetter_19 : decode cX2_takeLetter 19 = .ok (.getfield 15, 3) := by decide +kernel
theorem dX2_takeLetter_22 : decode cX2_takeLetter 22 = .ok (.getfield 44, 3) := by decide +kernel
theorem dX2_takeLetter_25 : decode cX2_takeLetter 25 = .ok (.istore 5, 2) := by decide +kernel
theorem dX2_takeLetter_27 : decode cX2_takeLetter 27 = .ok (.aload_n 0, 1) := by decide +kernel
theorem dX2_takeLetter_28 : decode cX2_takeLetter 28 = .ok (.getfield 15, 3) := by decide +kernel
theorem dX2_takeLetter_31 : decode cX2_takeLetter 31 = .ok (.dup, 1) := by decide +kernel
theorem dX2_takeLetter_32 : decode cX2_takeLetter 32 = .ok (.getfield 44, 3) := by decide +kernel
theorem dX2_takeLetter_35 : decode cX2_takeLetter 35 = .ok (.iconst 1, 1) := by decide +kernel
theorem dX2_takeLetter_36 : decode cX2_takeLetter 36 = .ok (.iadd, 1) := by decide +kernel
theorem dX2_takeLetter_37 : decode cX2_takeLetter 37 = .ok (.putfield 44, 3) := by decide +kernel
theorem dX2_takeLetter_40 : decode cX2_takeLetter 40 = .ok (.aload_n 0, 1) := by decide +kernel
theorem dX2_takeLetter_41 : decode cX2_takeLetter 41 = .ok (.getfield 15, 3) := by decide +kernel
theorem dX2_takeLetter_44 : decode cX2_takeLetter 44 = .ok (.getfield 29, 3) := by decide +kernel
theorem dX2_takeLetter_47 : decode cX2_takeLetter 47 = .ok (.iload_n 1, 1) := by decide +kernel
theorem dX2_takeLetter_48 : decode cX2_takeLetter 48 = .ok (.iload 5, 2) := by decide +kernel
theorem dX2_takeLetter_50 : decode cX2_takeLetter 50 = .ok (.iload_n 2, 1) := by decide +kernel
theorem dX2_takeLetter_51 : decode cX2_takeLetter 51 = .ok (.iload_n 3, 1) := by decide +kernel
theorem dX2_takeLetter_52 : decode cX2_takeLetter 52 = .ok (.aload_n 0, 1) := by decide +kernel
theorem dX2_takeLetter_53 : decode cX2_takeLetter 53 = .ok (.getfield 15, 3) := by decide +kernel
theorem dX2_takeLetter_56 : decode cX2_takeLetter 56 = .ok (.getfield 47, 3) := by decide +kernel
theorem dX2_takeLetter_59 : decode cX2_takeLetter 59 = .ok (.iconst 1, 1) := by decide +kernel
theorem dX2_takeLetter_60 : decode cX2_takeLetter 60 = .ok (.iadd, 1) := by decide +kernel
theorem dX2_takeLetter_61 : decode cX2_takeLetter 61 = .ok (.invokevirtual 50, 3) := by decide +kernel
theorem dX2_takeLetter_64 : decode cX2_takeLetter 64 = .ok (.astore 6, 2) := by decide +kernel
theorem dX2_takeLetter_66 : decode cX2_takeLetter 66 = .ok (.aload_n 0, 1) := by decide +kernel
theorem dX2_takeLetter_67 : decode cX2_takeLetter 67 = .ok (.getfield 15, 3) := by decide +kernel
theorem dX2_takeLetter_70 : decode cX2_takeLetter 70 = .ok (.getfield 54, 3) := by decide +kernel
theorem dX2_takeLetter_73 : decode cX2_takeLetter 73 = .ok (.iconst 0, 1) := by decide +kernel
theorem dX2_takeLetter_74 : decode cX2_takeLetter 74 = .ok (.aload_n 0, 1) := by decide +kernel
theorem dX2_takeLetter_75 : decode cX2_takeLetter 75 = .ok (.getfield 15, 3) := by decide +kernel
theorem dX2_takeLetter_78 : decode cX2_takeLetter 78 = .ok (.getfield 47, 3) := by decide +kernel
theorem dX2_takeLetter_81 : decode cX2_takeLetter 81 = .ok (.aload 6, 2) := by decide +kernel
theorem dX2_takeLetter_83 : decode cX2_takeLetter 83 = .ok (.iload_n 1, 1) := by decide +kernel
theorem dX2_takeLetter_84 : decode cX2_takeLetter 84 = .ok (.invokevirtual 58, 3) := by decide +kernel
theorem dX2_takeLetter_87 : decode cX2_takeLetter 87 = .ok (.iload 5, 2) := by decide +kernel
theorem dX2_takeLetter_89 : decode cX2_takeLetter 89 = .ok (.ireturn, 1) := by decide +kernel
theorem dX2_takeAll_0 : decode cX2_takeAll 0 = .ok (.iconst 0, 1) := by decide +kernel
theorem dX2_takeAll_1 : decode cX2_takeAll 1 = .ok (.istore_n 3, 1) := by decide +kernel
theorem dX2_takeAll_2 : decode cX2_takeAll 2 = .ok (.iload_n 3, 1) := by decide +kernel
theorem dX2_takeAll_3 : decode cX2_takeAll 3 = .ok (.iload_n 2, 1) := by decide +kernel
theorem dX2_takeAll_4 : decode cX2_takeAll 4 = .ok (.if_icmp .ge 47, 3) := by decide +kernel
theorem dX2_takeAll_7 : decode cX2_takeAll 7 = .ok (.aload_n 0, 1) := by decide +kernel
theorem dX2_takeAll_8 : decode cX2_takeAll 8 = .ok (.aload_n 1, 1) := by decide +kernel
theorem dX2_takeAll_9 : decode cX2_takeAll 9 = .ok (.iconst 3, 1) := by decide +kernel
theorem dX2_takeAll_10 : decode cX2_takeAll 10 = .ok (.iload_n 3, 1) := by decide +kernel
theorem dX2_takeAll_11 : decode cX2_takeAll 11 = .ok (.imul, 1) := by decide +kernel
theorem dX2_takeAll_12 : decode cX2_takeAll 12 = .ok (.invokevirtual 64, 3) := by decide +kernel
theorem dX2_takeAll_15 : decode cX2_takeAll 15 = .ok (.aload_n 1, 1) := by decide +kernel
theorem dX2_takeAll_16 : decode cX2_takeAll 16 = .ok (.iconst 3, 1) := by decide +kernel
theorem dX2_takeAll_17 : decode cX2_takeAll 17 = .ok (.iload_n 3, 1) := by decide +kernel
theorem dX2_takeAll_18 : decode cX2_takeAll 18 = .ok (.imul, 1) := by decide +kernel
theorem dX2_takeAll_19 : decode cX2_takeAll 19 = .ok (.iconst 1, 1) := by decide +kernel
theorem dX2_takeAll_20 : decode cX2_takeAll 20 = .ok (.iadd, 1) := by decide +kernel
theorem dX2_takeAll_21 : decode cX2_takeAll 21 = .ok (.invokevirtual 64, 3) := by decide +kernel
theorem dX2_takeAll_24 : decode cX2_takeAll 24 = .ok (.aload_n 1, 1) := by decide +kernel
theorem dX2_takeAll_25 : decode cX2_takeAll 25 = .ok (.iconst 3, 1) := by decide +kernel
theorem dX2_takeAll_26 : decode cX2_takeAll 26 = .ok (.iload_n 3, 1) := by decide +kernel
theorem dX2_takeAll_27 : decode cX2_takeAll 27 = .ok (.imul, 1) := by decide +kernel
theorem dX2_takeAll_28 : decode cX2_takeAll 28 = .ok (.iconst 2, 1) := by decide +kernel
theorem dX2_takeAll_29 : decode cX2_takeAll 29 = .ok (.iadd, 1) := by decide +kernel
theorem dX2_takeAll_30 : decode cX2_takeAll 30 = .ok (.invokevirtual 64, 3) := by decide +kernel
theorem dX2_takeAll_33 : decode cX2_takeAll 33 = .ok (.iload_n 3, 1) := by decide +kernel
theorem dX2_takeAll_34 : decode cX2_takeAll 34 = .ok (.invokevirtual 40, 3) := by decide +kernel
theorem dX2_takeAll_37 : decode cX2_takeAll 37 = .ok (.ifCond .eq 8, 3) := by decide +kernel
theorem dX2_takeAll_40 : decode cX2_takeAll 40 = .ok (.bipush (-20), 2) := by decide +kernel
theorem dX2_takeAll_42 : decode cX2_takeAll 42 = .ok (.iload_n 3, 1) := by decide +kernel
theorem dX2_takeAll_43 : decode cX2_takeAll 43 = .ok (.isub, 1) := by decide +kernel
theorem dX2_takeAll_44 : decode cX2_takeAll 44 = .ok (.ireturn, 1) := by decide +kernel
theorem dX2_takeAll_45 : decode cX2_takeAll 45 = .ok (.iinc 3 1, 3) := by decide +kernel
theorem dX2_takeAll_48 : decode cX2_takeAll 48 = .ok (.goto (-46), 3) := by decide +kernel
theorem dX2_takeAll_51 : decode cX2_takeAll 51 = .ok (.iconst 0, 1) := by decide +kernel
theorem dX2_takeAll_52 : decode cX2_takeAll 52 = .ok (.istore_n 3, 1) := by decide +kernel
theorem dX2_takeAll_53 : decode cX2_takeAll 53 = .ok (.iload_n 3, 1) := by decide +kernel
theorem dX2_takeAll_54 : decode cX2_takeAll 54 = .ok (.iload_n 2, 1) := by decide +kernel
theorem dX2_takeAll_55 : decode cX2_takeAll 55 = .ok (.if_icmp .ge 39, 3) := by decide +kernel
theorem dX2_takeAll_58 : decode cX2_takeAll 58 = .ok (.aload_n 0, 1) := by decide +kernel
theorem dX2_takeAll_59 : decode cX2_takeAll 59 = .ok (.aload_n 1, 1) := by decide +kernel
theorem dX2_takeAll_60 : decode cX2_takeAll 60 = .ok (.iconst 3, 1) := by decide +kernel
theorem dX2_takeAll_61 : decode cX2_takeAll 61 = .ok (.iload_n 3, 1) := by decide +kernel
theorem dX2_takeAll_62 : decode cX2_takeAll 62 = .ok (.imul, 1) := by decide +kernel
theorem dX2_takeAll_63 : decode cX2_takeAll 63 = .ok (.invokevirtual 64, 3) := by decide +kernel
theorem dX2_takeAll_66 : decode cX2_takeAll 66 = .ok (.aload_n 1, 1) := by decide +kernel
theorem dX2_takeAll_67 : decode cX2_takeAll 67 = .ok (.iconst 3, 1) := by decide +kernel
theorem dX2_takeAll_68 : decode cX2_takeAll 68 = .ok (.iload_n 3, 1) := by decide +kernel
theorem dX2_takeAll_69 : decode cX2_takeAll 69 = .ok (.imul, 1) := by decide +kernel
theorem dX2_takeAll_70 : decode cX2_takeAll 70 = .ok (.iconst 1, 1) := by decide +kernel
theorem dX2_takeAll_71 : decode cX2_takeAll 71 = .ok (.iadd, 1) := by decide +kernel
theorem dX2_takeAll_72 : decode cX2_takeAll 72 = .ok (.invokevirtual 64, 3) := by decide +kernel
theorem dX2_takeAll_75 : decode cX2_takeAll 75 = .ok (.aload_n 1, 1) := by decide +kernel
theorem dX2_takeAll_76 : decode cX2_takeAll 76 = .ok (.iconst 3, 1) := by decide +kernel
theorem dX2_takeAll_77 : decode cX2_takeAll 77 = .ok (.iload_n 3, 1) := by decide +kernel
theorem dX2_takeAll_78 : decode cX2_takeAll 78 = .ok (.imul, 1) := by decide +kernel
theorem dX2_takeAll_79 : decode cX2_takeAll 79 = .ok (.iconst 2, 1) := by decide +kernel
theorem dX2_takeAll_80 : decode cX2_takeAll 80 = .ok (.iadd, 1) := by decide +kernel
theorem dX2_takeAll_81 : decode cX2_takeAll 81 = .ok (.invokevirtual 64, 3) := by decide +kernel
theorem dX2_takeAll_84 : decode cX2_takeAll 84 = .ok (.invokevirtual 70, 3) := by decide +kernel
theorem dX2_takeAll_87 : decode cX2_takeAll 87 = .ok (.pop, 1) := by decide +kernel
theorem dX2_takeAll_88 : decode cX2_takeAll 88 = .ok (.iinc 3 1, 3) := by decide +kernel
theorem dX2_takeAll_91 : decode cX2_takeAll 91 = .ok (.goto (-38), 3) := by decide +kernel
theorem dX2_takeAll_94 : decode cX2_takeAll 94 = .ok (.iload_n 2, 1) := by decide +kernel
theorem dX2_takeAll_95 : decode cX2_takeAll 95 = .ok (.ireturn, 1) := by decide +kernel
theorem dX2_passTick_0 : decode cX2_passTick 0 = .ok (.aload_n 0, 1) := by decide +kernel
theorem dX2_passTick_1 : decode cX2_passTick 1 = .ok (.getfield 15, 3) := by decide +kernel
theorem dX2_passTick_4 : decode cX2_passTick 4 = .ok (.dup, 1) := by decide +kernel
theorem dX2_passTick_5 : decode cX2_passTick 5 = .ok (.getfield 47, 3) := by decide +kernel
theorem dX2_passTick_8 : decode cX2_passTick 8 = .ok (.iconst 1, 1) := by decide +kernel
theorem dX2_passTick_9 : decode cX2_passTick 9 = .ok (.iadd, 1) := by decide +kernel
theorem dX2_passTick_10 : decode cX2_passTick 10 = .ok (.putfield 47, 3) := by decide +kernel
theorem dX2_passTick_13 : decode cX2_passTick 13 = .ok (.iconst 0, 1) := by decide +kernel
theorem dX2_passTick_14 : decode cX2_passTick 14 = .ok (.istore_n 1, 1) := by decide +kernel
theorem dX2_passTick_15 : decode cX2_passTick 15 = .ok (.iload_n 1, 1) := by decide +kernel
theorem dX2_passTick_16 : decode cX2_passTick 16 = .ok (.aload_n 0, 1) := by decide +kernel
theorem dX2_passTick_17 : decode cX2_passTick 17 = .ok (.getfield 9, 3) := by decide +kernel
theorem dX2_passTick_20 : decode cX2_passTick 20 = .ok (.getfield 19, 3) := by decide +kernel
theorem dX2_passTick_23 : decode cX2_passTick 23 = .ok (.if_icmp .ge 27, 3) := by decide +kernel
theorem dX2_passTick_26 : decode cX2_passTick 26 = .ok (.aload_n 0, 1) := by decide +kernel
theorem dX2_passTick_27 : decode cX2_passTick 27 = .ok (.getfield 15, 3) := by decide +kernel
theorem dX2_passTick_30 : decode cX2_passTick 30 = .ok (.getfield 74, 3) := by decide +kernel
theorem dX2_passTick_33 : decode cX2_passTick 33 = .ok (.iload_n 1, 1) := by decide +kernel
theorem dX2_passTick_34 : decode cX2_passTick 34 = .ok (.iaload, 1) := by decide +kernel
theorem dX2_passTick_35 : decode cX2_passTick 35 = .ok (.iconst 1, 1) := by decide +kernel
theorem dX2_passTick_36 : decode cX2_passTick 36 = .ok (.if_icmp .ne 8, 3) := by decide +kernel
theorem dX2_passTick_39 : decode cX2_passTick 39 = .ok (.aload_n 0, 1) := by decide +kernel
theorem dX2_passTick_40 : decode cX2_passTick 40 = .ok (.iload_n 1, 1) := by decide +kernel
theorem dX2_passTick_41 : decode cX2_passTick 41 = .ok (.invokevirtual 78, 3) := by decide +kernel
theorem dX2_passTick_44 : decode cX2_passTick 44 = .ok (.iinc 1 1, 3) := by decide +kernel
theorem dX2_passTick_47 : decode cX2_passTick 47 = .ok (.goto (-32), 3) := by decide +kernel
theorem dX2_passTick_50 : decode cX2_passTick 50 = .ok (.return_, 1) := by decide +kernel
theorem dX2_takeTurn_0 : decode cX2_takeTurn 0 = .ok (.aload_n 0, 1) := by decide +kernel
theorem dX2_takeTurn_1 : decode cX2_takeTurn 1 = .ok (.getfield 15, 3) := by decide +kernel
theorem dX2_takeTurn_4 : decode cX2_takeTurn 4 = .ok (.getfield 29, 3) := by decide +kernel
theorem dX2_takeTurn_7 : decode cX2_takeTurn 7 = .ok (.getfield 82, 3) := by decide +kernel
theorem dX2_takeTurn_10 : decode cX2_takeTurn 10 = .ok (.istore_n 2, 1) := by decide +kernel
theorem dX2_takeTurn_11 : decode cX2_takeTurn 11 = .ok (.iconst 0, 1) := by decide +kernel
theorem dX2_takeTurn_12 : decode cX2_takeTurn 12 = .ok (.istore_n 3, 1) := by decide +kernel
theorem dX2_takeTurn_13 : decode cX2_takeTurn 13 = .ok (.iload_n 3, 1) := by decide +kernel
theorem dX2_takeTurn_14 : decode cX2_takeTurn 14 = .ok (.iload_n 2, 1) := by decide +kernel
theorem dX2_takeTurn_15 : decode cX2_takeTurn 15 = .ok (.if_icmp .ge 53, 3) := by decide +kernel
theorem dX2_takeTurn_18 : decode cX2_takeTurn 18 = .ok (.aload_n 0, 1) := by decide +kernel
theorem dX2_takeTurn_19 : decode cX2_takeTurn 19 = .ok (.getfield 15, 3) := by decide +kernel
theorem dX2_takeTurn_22 : decode cX2_takeTurn 22 = .ok (.getfield 29, 3) := by decide +kernel
theorem dX2_takeTurn_25 : decode cX2_takeTurn 25 = .ok (.getfield 85, 3) := by decide +kernel
theorem dX2_takeTurn_28 : decode cX2_takeTurn 28 = .ok (.iload_n 3, 1) := by decide +kernel
theorem dX2_takeTurn_29 : decode cX2_takeTurn 29 = .ok (.aaload, 1) := by decide +kernel
theorem dX2_takeTurn_30 : decode cX2_takeTurn 30 = .ok (.astore 4, 2) := by decide +kernel
theorem dX2_takeTurn_32 : decode cX2_takeTurn 32 = .ok (.aload 4, 2) := by decide +kernel
theorem dX2_takeTurn_34 : decode cX2_takeTurn 34 = .ok (.getfield 89, 3) := by decide +kernel
theorem dX2_takeTurn_37 : decode cX2_takeTurn 37 = .ok (.iload_n 1, 1) := by decide +kernel
theorem dX2_takeTurn_38 : decode cX2_takeTurn 38 = .ok (.if_icmp .ne 24, 3) := by decide +kernel
theorem dX2_takeTurn_41 : decode cX2_takeTurn 41 = .ok (.aload 4, 2) := by decide +kernel
theorem dX2_takeTurn_43 : decode cX2_takeTurn 43 = .ok (.getfield 94, 3) := by decide +kernel
theorem dX2_takeTurn_46 : decode cX2_takeTurn 46 = .ok (.aload_n 0, 1) := by decide +kernel
theorem dX2_takeTurn_47 : decode cX2_takeTurn 47 = .ok (.getfield 15, 3) := by decide +kernel
theorem dX2_takeTurn_50 : decode cX2_takeTurn 50 = .ok (.getfield 47, 3) := by decide +kernel
theorem dX2_takeTurn_53 : decode cX2_takeTurn 53 = .ok (.if_icmp .gt 9, 3) := by decide +kernel
theorem dX2_takeTurn_56 : decode cX2_takeTurn 56 = .ok (.aload_n 0, 1) := by decide +kernel
theorem dX2_takeTurn_57 : decode cX2_takeTurn 57 = .ok (.aload 4, 2) := by decide +kernel
theorem dX2_takeTurn_59 : decode cX2_takeTurn 59 = .ok (.invokevirtual 97, 3) := by decide +kernel
theorem dX2_takeTurn_62 : decode cX2_takeTurn 62 = .ok (.iinc 3 1, 3) := by decide +kernel
theorem dX2_takeTurn_65 : decode cX2_takeTurn 65 = .ok (.goto (-52), 3) := by decide +kernel
theorem dX2_takeTurn_68 : decode cX2_takeTurn 68 = .ok (.aload_n 0, 1) := by decide +kernel
theorem dX2_takeTurn_69 : decode cX2_takeTurn 69 = .ok (.getfield 15, 3) := by decide +kernel
theorem dX2_takeTurn_72 : decode cX2_takeTurn 72 = .ok (.getfield 29, 3) := by decide +kernel
theorem dX2_takeTurn_75 : decode cX2_takeTurn 75 = .ok (.invokevirtual 101, 3) := by decide +kernel
theorem dX2_takeTurn_78 : decode cX2_takeTurn 78 = .ok (.return_, 1) := by decide +kernel
theorem dX2_handle_0 : decode cX2_handle 0 = .ok (.aload_n 1, 1) := by decide +kernel
theorem dX2_handle_1 : decode cX2_handle 1 = .ok (.getfield 104, 3) := by decide +kernel
theorem dX2_handle_4 : decode cX2_handle 4 = .ok (.bipush 8, 2) := by decide +kernel
theorem dX2_handle_6 : decode cX2_handle 6 = .ok (.idiv, 1) := by decide +kernel
theorem dX2_handle_7 : decode cX2_handle 7 = .ok (.istore_n 2, 1) := by decide +kernel
theorem dX2_handle_8 : decode cX2_handle 8 = .ok (.aload_n 1, 1) := by decide +kernel
theorem dX2_handle_9 : decode cX2_handle 9 = .ok (.getfield 107, 3) := by decide +kernel
theorem dX2_handle_12 : decode cX2_handle 12 = .ok (.bipush 8, 2) := by decide +kernel
theorem dX2_handle_14 : decode cX2_handle 14 = .ok (.if_icmp .ge 14, 3) := by decide +kernel
theorem dX2_handle_17 : decode cX2_handle 17 = .ok (.aload_n 0, 1) := by decide +kernel
theorem dX2_handle_18 : decode cX2_handle 18 = .ok (.getfield 9, 3) := by decide +kernel
theorem dX2_handle_21 : decode cX2_handle 21 = .ok (.iload_n 2, 1) := by decide +kernel
theorem dX2_handle_22 : decode cX2_handle 22 = .ok (.invokevirtual 110, 3) := by decide +kernel
theorem dX2_handle_25 : decode cX2_handle 25 = .ok (.ifCond .ne 9, 3) := by decide +kernel
theorem dX2_handle_28 : decode cX2_handle 28 = .ok (.aload_n 0, 1) := by decide +kernel
theorem dX2_handle_29 : decode cX2_handle 29 = .ok (.aload_n 1, 1) := by decide +kernel
theorem dX2_handle_30 : decode cX2_handle 30 = .ok (.invokevirtual 113, 3) := by decide +kernel
theorem dX2_handle_33 : decode cX2_handle 33 = .ok (.return_, 1) := by decide +kernel
theorem dX2_handle_34 : decode cX2_handle 34 = .ok (.aload_n 0, 1) := by decide +kernel
theorem dX2_handle_35 : decode cX2_handle 35 = .ok (.getfield 9, 3) := by decide +kernel
theorem dX2_handle_38 : decode cX2_handle 38 = .ok (.aload_n 1, 1) := by decide +kernel
theorem dX2_handle_39 : decode cX2_handle 39 = .ok (.getfield 89, 3) := by decide +kernel
theorem dX2_handle_42 : decode cX2_handle 42 = .ok (.iload_n 2, 1) := by decide +kernel
theorem dX2_handle_43 : decode cX2_handle 43 = .ok (.invokevirtual 116, 3) := by decide +kernel
theorem dX2_handle_46 : decode cX2_handle 46 = .ok (.ifCond .ne 18, 3) := by decide +kernel
theorem dX2_handle_49 : decode cX2_handle 49 = .ok (.aload_n 0, 1) := by decide +kernel
theorem dX2_handle_50 : decode cX2_handle 50 = .ok (.aload_n 1, 1) := by decide +kernel
theorem dX2_handle_51 : decode cX2_handle 51 = .ok (.iload_n 2, 1) := by decide +kernel
theorem dX2_handle_52 : decode cX2_handle 52 = .ok (.invokevirtual 120, 3) := by decide +kernel
theorem dX2_handle_55 : decode cX2_handle 55 = .ok (.ifCond .ne 8, 3) := by decide +kernel
theorem dX2_handle_58 : decode cX2_handle 58 = .ok (.aload_n 0, 1) := by decide +kernel
theorem dX2_handle_59 : decode cX2_handle 59 = .ok (.aload_n 1, 1) := by decide +kernel
theorem dX2_handle_60 : decode cX2_handle 60 = .ok (.invokevirtual 124, 3) := by decide +kernel
theorem dX2_handle_63 : decode cX2_handle 63 = .ok (.return_, 1) := by decide +kernel
theorem dX2_handle_64 : decode cX2_handle 64 = .ok (.aload_n 0, 1) := by decide +kernel
theorem dX2_handle_65 : decode cX2_handle 65 = .ok (.getfield 9, 3) := by decide +kernel
theorem dX2_handle_68 : decode cX2_handle 68 = .ok (.getfield 127, 3) := by decide +kernel
theorem dX2_handle_71 : decode cX2_handle 71 = .ok (.aload_n 1, 1) := by decide +kernel
theorem dX2_handle_72 : decode cX2_handle 72 = .ok (.getfield 104, 3) := by decide +kernel
theorem dX2_handle_75 : decode cX2_handle 75 = .ok (.iaload, 1) := by decide +kernel
theorem dX2_handle_76 : decode cX2_handle 76 = .ok (.tableswitch 52 1 3 #[28, 36, 44], 28) := by decide +kernel
theorem dX2_handle_104 : decode cX2_handle 104 = .ok (.aload_n 0, 1) := by decide +kernel
theorem dX2_handle_105 : decode cX2_handle 105 = .ok (.aload_n 1, 1) := by decide +kernel
theorem dX2_handle_106 : decode cX2_handle 106 = .ok (.invokevirtual 130, 3) := by decide +kernel
theorem dX2_handle_109 : decode cX2_handle 109 = .ok (.goto 24, 3) := by decide +kernel
theorem dX2_handle_112 : decode cX2_handle 112 = .ok (.aload_n 0, 1) := by decide +kernel
theorem dX2_handle_113 : decode cX2_handle 113 = .ok (.aload_n 1, 1) := by decide +kernel
theorem dX2_handle_114 : decode cX2_handle 114 = .ok (.invokevirtual 133, 3) := by decide +kernel
theorem dX2_handle_117 : decode cX2_handle 117 = .ok (.goto 16, 3) := by decide +kernel
theorem dX2_handle_120 : decode cX2_handle 120 = .ok (.aload_n 0, 1) := by decide +kernel
theorem dX2_handle_121 : decode cX2_handle 121 = .ok (.aload_n 1, 1) := by decide +kernel
theorem dX2_handle_122 : decode cX2_handle 122 = .ok (.invokevirtual 136, 3) := by decide +kernel
theorem dX2_handle_125 : decode cX2_handle 125 = .ok (.goto 8, 3) := by decide +kernel
theorem dX2_handle_128 : decode cX2_handle 128 = .ok (.aload_n 0, 1) := by decide +kernel
theorem dX2_handle_129 : decode cX2_handle 129 = .ok (.aload_n 1, 1) := by decide +kernel
theorem dX2_handle_130 : decode cX2_handle 130 = .ok (.invokevirtual 113, 3) := by decide +kernel
theorem dX2_handle_133 : decode cX2_handle 133 = .ok (.return_, 1) := by decide +kernel
theorem dX2_give_0 : decode cX2_give 0 = .ok (.aload_n 0, 1) := by decide +kernel
theorem dX2_give_1 : decode cX2_give 1 = .ok (.getfield 15, 3) := by decide +kernel
theorem dX2_give_4 : decode cX2_give 4 = .ok (.getfield 139, 3) := by decide +kernel
theorem dX2_give_7 : decode cX2_give 7 = .ok (.aload_n 1, 1) := by decide +kernel
theorem dX2_give_8 : decode cX2_give 8 = .ok (.getfield 104, 3) := by decide +kernel
theorem dX2_give_11 : decode cX2_give 11 = .ok (.aload_n 1, 1) := by decide +kernel
theorem dX2_give_12 : decode cX2_give 12 = .ok (.getfield 143, 3) := by decide +kernel
theorem dX2_give_15 : decode cX2_give 15 = .ok (.invokevirtual 146, 3) := by decide +kernel
theorem dX2_give_18 : decode cX2_give 18 = .ok (.ifCond .eq 29, 3) := by decide +kernel
theorem dX2_give_21 : decode cX2_give 21 = .ok (.aload_n 0, 1) := by decide +kernel
theorem dX2_give_22 : decode cX2_give 22 = .ok (.getfield 15, 3) := by decide +kernel
theorem dX2_give_25 : decode cX2_give 25 = .ok (.getfield 54, 3) := by decide +kernel
theorem dX2_give_28 : decode cX2_give 28 = .ok (.iconst 3, 1) := by decide +kernel
theorem dX2_give_29 : decode cX2_give 29 = .ok (.aload_n 0, 1) := by decide +kernel
theorem dX2_give_30 : decode cX2_give 30 = .ok (.getfield 15, 3) := by decide +kernel
theorem dX2_give_33 : decode cX2_give 33 = .ok (.getfield 47, 3) := by decide +kernel
theorem dX2_give_36 : decode cX2_give 36 = .ok (.aload_n 1, 1) := by decide +kernel
theorem dX2_give_37 : decode cX2_give 37 = .ok (.aload_n 1, 1) := by decide +kernel
theorem dX2_give_38 : decode cX2_give 38 = .ok (.getfield 89, 3) := by decide +kernel
theorem dX2_give_41 : decode cX2_give 41 = .ok (.invokevirtual 58, 3) := by decide +kernel
theorem dX2_give_44 : decode cX2_give 44 = .ok (.goto 48, 3) := by decide +kernel
theorem dX2_give_47 : decode cX2_give 47 = .ok (.aload_n 0, 1) := by decide +kernel
theorem dX2_give_48 : decode cX2_give 48 = .ok (.getfield 15, 3) := by decide +kernel
theorem dX2_give_51 : decode cX2_give 51 = .ok (.getfield 139, 3) := by decide +kernel
theorem dX2_give_54 : decode cX2_give 54 = .ok (.aload_n 1, 1) := by decide +kernel
theorem dX2_give_55 : decode cX2_give 55 = .ok (.getfield 104, 3) := by decide +kernel
theorem dX2_give_58 : decode cX2_give 58 = .ok (.aload_n 1, 1) := by decide +kernel
theorem dX2_give_59 : decode cX2_give 59 = .ok (.getfield 143, 3) := by decide +kernel
theorem dX2_give_62 : decode cX2_give 62 = .ok (.aload_n 1, 1) := by decide +kernel
theorem dX2_give_63 : decode cX2_give 63 = .ok (.getfield 151, 3) := by decide +kernel
theorem dX2_give_66 : decode cX2_give 66 = .ok (.invokevirtual 154, 3) := by decide +kernel
theorem dX2_give_69 : decode cX2_give 69 = .ok (.aload_n 0, 1) := by decide +kernel
theorem dX2_give_70 : decode cX2_give 70 = .ok (.getfield 15, 3) := by decide +kernel
theorem dX2_give_73 : decode cX2_give 73 = .ok (.getfield 54, 3) := by decide +kernel
theorem dX2_give_76 : decode cX2_give 76 = .ok (.iconst 2, 1) := by decide +kernel
theorem dX2_give_77 : decode cX2_give 77 = .ok (.aload_n 0, 1) := by decide +kernel
theorem dX2_give_78 : decode cX2_give 78 = .ok (.getfield 15, 3) := by decide +kernel
theorem dX2_give_81 : decode cX2_give 81 = .ok (.getfield 47, 3) := by decide +kernel
theorem dX2_give_84 : decode cX2_give 84 = .ok (.aload_n 1, 1) := by decide +kernel
theorem dX2_give_85 : decode cX2_give 85 = .ok (.aload_n 1, 1) := by decide +kernel
theorem dX2_give_86 : decode cX2_give 86 = .ok (.getfield 89, 3) := by decide +kernel
theorem dX2_give_89 : decode cX2_give 89 = .ok (.invokevirtual 58, 3) := by decide +kernel
theorem dX2_give_92 : decode cX2_give 92 = .ok (.aload_n 0, 1) := by decide +kernel
theorem dX2_give_93 : decode cX2_give 93 = .ok (.getfield 15, 3) := by decide +kernel
theorem dX2_give_96 : decode cX2_give 96 = .ok (.getfield 29, 3) := by decide +kernel
theorem dX2_give_99 : decode cX2_give 99 = .ok (.aload_n 1, 1) := by decide +kernel
theorem dX2_give_100 : decode cX2_give 100 = .ok (.invokevirtual 158, 3) := by decide +kernel
theorem dX2_give_103 : decode cX2_give 103 = .ok (.return_, 1) := by decide +kernel
theorem dX2_followAlias_0 : decode cX2_followAlias 0 = .ok (.aload_n 0, 1) := by decide +kernel
theorem dX2_followAlias_1 : decode cX2_followAlias 1 = .ok (.getfield 15, 3) := by decide +kernel
theorem dX2_followAlias_4 : decode cX2_followAlias 4 = .ok (.getfield 54, 3) := by decide +kernel
theorem dX2_followAlias_7 : decode cX2_followAlias 7 = .ok (.iconst 4, 1) := by decide +kernel
theorem dX2_followAlias_8 : decode cX2_followAlias 8 = .ok (.aload_n 0, 1) := by decide +kernel
theorem dX2_followAlias_9 : decode cX2_followAlias 9 = .ok (.getfield 15, 3) := by decide +kernel
theorem dX2_followAlias_12 : decode cX2_followAlias 12 = .ok (.getfield 47, 3) := by decide +kernel
theorem dX2_followAlias_15 : decode cX2_followAlias 15 = .ok (.aload_n 1, 1) := by decide +kernel
theorem dX2_followAlias_16 : decode cX2_followAlias 16 = .ok (.aload_n 1, 1) := by decide +kernel
theorem dX2_followAlias_17 : decode cX2_followAlias 17 = .ok (.getfield 89, 3) := by decide +kernel
theorem dX2_followAlias_20 : decode cX2_followAlias 20 = .ok (.invokevirtual 58, 3) := by decide +kernel
theorem dX2_followAlias_23 : decode cX2_followAlias 23 = .ok (.aload_n 1, 1) := by decide +kernel
theorem dX2_followAlias_24 : decode cX2_followAlias 24 = .ok (.aload_n 0, 1) := by decide +kernel
theorem dX2_followAlias_25 : decode cX2_followAlias 25 = .ok (.getfield 9, 3) := by decide +kernel
theorem dX2_followAlias_28 : decode cX2_followAlias 28 = .ok (.aload_n 1, 1) := by decide +kernel
theorem dX2_followAlias_29 : decode cX2_followAlias 29 = .ok (.getfield 104, 3) := by decide +kernel
theorem dX2_followAlias_32 : decode cX2_followAlias 32 = .ok (.iconst 0, 1) := by decide +kernel
theorem dX2_followAlias_33 : decode cX2_followAlias 33 = .ok (.invokevirtual 161, 3) := by decide +kernel
theorem dX2_followAlias_36 : decode cX2_followAlias 36 = .ok (.putfield 104, 3) := by decide +kernel
theorem dX2_followAlias_39 : decode cX2_followAlias 39 = .ok (.aload_n 1, 1) := by decide +kernel
theorem dX2_followAlias_40 : decode cX2_followAlias 40 = .ok (.dup, 1) := by decide +kernel
theorem dX2_followAlias_41 : decode cX2_followAlias 41 = .ok (.getfield 107, 3) := by decide +kernel
theorem dX2_followAlias_44 : decode cX2_followAlias 44 = .ok (.iconst 1, 1) := by decide +kernel
theorem dX2_followAlias_45 : decode cX2_followAlias 45 = .ok (.iadd, 1) := by decide +kernel
theorem dX2_followAlias_46 : decode cX2_followAlias 46 = .ok (.putfield 107, 3) := by decide +kernel
theorem dX2_followAlias_49 : decode cX2_followAlias 49 = .ok (.aload_n 1, 1) := by decide +kernel
theorem dX2_followAlias_50 : decode cX2_followAlias 50 = .ok (.iconst 0, 1) := by decide +kernel
theorem dX2_followAlias_51 : decode cX2_followAlias 51 = .ok (.putfield 165, 3) := by decide +kernel
theorem dX2_followAlias_54 : decode cX2_followAlias 54 = .ok (.aload_n 1, 1) := by decide +kernel
theorem dX2_followAlias_55 : decode cX2_followAlias 55 = .ok (.aload_n 0, 1) := by decide +kernel
theorem dX2_followAlias_56 : decode cX2_followAlias 56 = .ok (.getfield 15, 3) := by decide +kernel
theorem dX2_followAlias_59 : decode cX2_followAlias 59 = .ok (.getfield 47, 3) := by decide +kernel
theorem dX2_followAlias_62 : decode cX2_followAlias 62 = .ok (.iconst 1, 1) := by decide +kernel
theorem dX2_followAlias_63 : decode cX2_followAlias 63 = .ok (.iadd, 1) := by decide +kernel
theorem dX2_followAlias_64 : decode cX2_followAlias 64 = .ok (.putfield 94, 3) := by decide +kernel
theorem dX2_followAlias_67 : decode cX2_followAlias 67 = .ok (.return_, 1) := by decide +kernel
theorem dX2_openList_0 : decode cX2_openList 0 = .ok (.aload_n 1, 1) := by decide +kernel
theorem dX2_openList_1 : decode cX2_openList 1 = .ok (.getfield 151, 3) := by decide +kernel
theorem dX2_openList_4 : decode cX2_openList 4 = .ok (.bipush (-4), 2) := by decide +kernel
theorem dX2_openList_6 : decode cX2_openList 6 = .ok (.if_icmp .ne 39, 3) := by decide +kernel
theorem dX2_openList_9 : decode cX2_openList 9 = .ok (.aload_n 0, 1) := by decide +kernel
theorem dX2_openList_10 : decode cX2_openList 10 = .ok (.getfield 15, 3) := by decide +kernel
theorem dX2_openList_13 : decode cX2_openList 13 = .ok (.getfield 54, 3) := by decide +kernel
theorem dX2_openList_16 : decode cX2_openList 16 = .ok (.bipush 8, 2) := by decide +kernel
theorem dX2_openList_18 : decode cX2_openList 18 = .ok (.aload_n 0, 1) := by decide +kernel
theorem dX2_openList_19 : decode cX2_openList 19 = .ok (.getfield 15, 3) := by decide +kernel
theorem dX2_openList_22 : decode cX2_openList 22 = .ok (.getfield 47, 3) := by decide +kernel
theorem dX2_openList_25 : decode cX2_openList 25 = .ok (.aload_n 1, 1) := by decide +kernel
theorem dX2_openList_26 : decode cX2_openList 26 = .ok (.aload_n 1, 1) := by decide +kernel
theorem dX2_openList_27 : decode cX2_openList 27 = .ok (.getfield 89, 3) := by decide +kernel
theorem dX2_openList_30 : decode cX2_openList 30 = .ok (.invokevirtual 58, 3) := by decide +kernel
theorem dX2_openList_33 : decode cX2_openList 33 = .ok (.aload_n 0, 1) := by decide +kernel
theorem dX2_openList_34 : decode cX2_openList 34 = .ok (.getfield 15, 3) := by decide +kernel
theorem dX2_openList_37 : decode cX2_openList 37 = .ok (.getfield 29, 3) := by decide +kernel
theorem dX2_openList_40 : decode cX2_openList 40 = .ok (.aload_n 1, 1) := by decide +kernel
theorem dX2_openList_41 : decode cX2_openList 41 = .ok (.invokevirtual 158, 3) := by decide +kernel
theorem dX2_openList_44 : decode cX2_openList 44 = .ok (.return_, 1) := by decide +kernel
theorem dX2_openList_45 : decode cX2_openList 45 = .ok (.aload_n 1, 1) := by decide +kernel
theorem dX2_openList_46 : decode cX2_openList 46 = .ok (.getfield 104, 3) := by decide +kernel
theorem dX2_openList_49 : decode cX2_openList 49 = .ok (.istore_n 2, 1) := by decide +kernel
theorem dX2_openList_50 : decode cX2_openList 50 = .ok (.aload_n 1, 1) := by decide +kernel
theorem dX2_openList_51 : decode cX2_openList 51 = .ok (.getfield 168, 3) := by decide +kernel
theorem dX2_openList_54 : decode cX2_openList 54 = .ok (.iconst 1, 1) := by decide +kernel
theorem dX2_openList_55 : decode cX2_openList 55 = .ok (.iload_n 2, 1) := by decide +kernel
theorem dX2_openList_56 : decode cX2_openList 56 = .ok (.ishl, 1) := by decide +kernel
theorem dX2_openList_57 : decode cX2_openList 57 = .ok (.ior, 1) := by decide +kernel
theorem dX2_openList_58 : decode cX2_openList 58 = .ok (.istore_n 3, 1) := by decide +kernel
theorem dX2_openList_59 : decode cX2_openList 59 = .ok (.aload_n 0, 1) := by decide +kernel
theorem dX2_openList_60 : decode cX2_openList 60 = .ok (.iload_n 2, 1) := by decide +kernel
theorem dX2_openList_61 : decode cX2_openList 61 = .ok (.iload_n 3, 1) := by decide +kernel
theorem dX2_openList_62 : decode cX2_openList 62 = .ok (.invokevirtual 171, 3) := by decide +kernel
theorem dX2_openList_65 : decode cX2_openList 65 = .ok (.istore 4, 2) := by decide +kernel
theorem dX2_openList_67 : decode cX2_openList 67 = .ok (.aload_n 0, 1) := by decide +kernel
theorem dX2_openList_68 : decode cX2_openList 68 = .ok (.getfield 15, 3) := by decide +kernel
theorem dX2_openList_71 : decode cX2_openList 71 = .ok (.getfield 29, 3) := by decide +kernel
theorem dX2_openList_74 : decode cX2_openList 74 = .ok (.getfield 35, 3) := by decide +kernel
theorem dX2_openList_77 : decode cX2_openList 77 = .ok (.iconst 1, 1) := by decide +kernel
theorem dX2_openList_78 : decode cX2_openList 78 = .ok (.isub, 1) := by decide +kernel
theorem dX2_openList_79 : decode cX2_openList 79 = .ok (.iload 4, 2) := by decide +kernel
theorem dX2_openList_81 : decode cX2_openList 81 = .ok (.iadd, 1) := by decide +kernel
theorem dX2_openList_82 : decode cX2_openList 82 = .ok (.bipush 60, 2) := by decide +kernel
theorem dX2_openList_84 : decode cX2_openList 84 = .ok (.if_icmp .le 17, 3) := by decide +kernel
theorem dX2_openList_87 : decode cX2_openList 87 = .ok (.aload_n 1, 1) := by decide +kernel
theorem dX2_openList_88 : decode cX2_openList 88 = .ok (.aload_n 0, 1) := by decide +kernel
theorem dX2_openList_89 : decode cX2_openList 89 = .ok (.getfield 15, 3) := by decide +kernel
theorem dX2_openList_92 : decode cX2_openList 92 = .ok (.getfield 47, 3) := by decide +kernel
theorem dX2_openList_95 : decode cX2_openList 95 = .ok (.iconst 1, 1) := by decide +kernel
theorem dX2_openList_96 : decode cX2_openList 96 = .ok (.iadd, 1) := by decide +kernel
theorem dX2_openList_97 : decode cX2_openList 97 = .ok (.putfield 94, 3) := by decide +kernel
theorem dX2_openList_100 : decode cX2_openList 100 = .ok (.return_, 1) := by decide +kernel
theorem dX2_openList_101 : decode cX2_openList 101 = .ok (.aload_n 0, 1) := by decide +kernel
theorem dX2_openList_102 : decode cX2_openList 102 = .ok (.getfield 15, 3) := by decide +kernel
theorem dX2_openList_105 : decode cX2_openList 105 = .ok (.getfield 54, 3) := by decide +kernel
theorem dX2_openList_108 : decode cX2_openList 108 = .ok (.iconst 5, 1) := by decide +kernel
theorem dX2_openList_109 : decode cX2_openList 109 = .ok (.aload_n 0, 1) := by decide +kernel
theorem dX2_openList_110 : decode cX2_openList 110 = .ok (.getfield 15, 3) := by decide +kernel
theorem dX2_openList_113 : decode cX2_openList 113 = .ok (.getfield 47, 3) := by decide +kernel
theorem dX2_openList_116 : decode cX2_openList 116 = .ok (.aload_n 1, 1) := by decide +kernel
theorem dX2_openList_117 : decode cX2_openList 117 = .ok (.aload_n 1, 1) := by decide +kernel
theorem dX2_openList_118 : decode cX2_openList 118 = .ok (.getfield 89, 3) := by decide +kernel
theorem dX2_openList_121 : decode cX2_openList 121 = .ok (.invokevirtual 58, 3) := by decide +kernel
theorem dX2_openList_124 : decode cX2_openList 124 = .ok (.iconst 0, 1) := by decide +kernel
theorem dX2_openList_125 : decode cX2_openList 125 = .ok (.istore 5, 2) := by decide +kernel
theorem dX2_openList_127 : decode cX2_openList 127 = .ok (.iload 5, 2) := by decide +kernel
theorem dX2_openList_129 : decode cX2_openList 129 = .ok (.aload_n 0, 1) := by decide +kernel
theorem dX2_openList_130 : decode cX2_openList 130 = .ok (.getfield 9, 3) := by decide +kernel
theorem dX2_openList_133 : decode cX2_openList 133 = .ok (.getfield 174, 3) := by decide +kernel
theorem dX2_openList_136 : decode cX2_openList 136 = .ok (.iload_n 2, 1) := by decide +kernel
theorem dX2_openList_137 : decode cX2_openList 137 = .ok (.iaload, 1) := by decide +kernel
theorem dX2_openList_138 : decode cX2_openList 138 = .ok (.if_icmp .ge 57, 3) := by decide +kernel
theorem dX2_openList_141 : decode cX2_openList 141 = .ok (.aload_n 0, 1) := by decide +kernel
theorem dX2_openList_142 : decode cX2_openList 142 = .ok (.getfield 9, 3) := by decide +kernel
theorem dX2_openList_145 : decode cX2_openList 145 = .ok (.iload_n 2, 1) := by decide +kernel
theorem dX2_openList_146 : decode cX2_openList 146 = .ok (.iload 5, 2) := by decide +kernel
theorem dX2_openList_148 : decode cX2_openList 148 = .ok (.invokevirtual 161, 3) := by decide +kernel
theorem dX2_openList_151 : decode cX2_openList 151 = .ok (.istore 6, 2) := by decide +kernel
theorem dX2_openList_153 : decode cX2_openList 153 = .ok (.iload_n 3, 1) := by decide +kernel
theorem dX2_openList_154 : decode cX2_openList 154 = .ok (.iload 6, 2) := by decide +kernel
theorem dX2_openList_156 : decode cX2_openList 156 = .ok (.iushr, 1) := by decide +kernel
theorem dX2_openList_157 : decode cX2_openList 157 = .ok (.iconst 1, 1) := by decide +kernel
theorem dX2_openList_158 : decode cX2_openList 158 = .ok (.iand, 1) := by decide +kernel
theorem dX2_openList_159 : decode cX2_openList 159 = .ok (.ifCond .ne 30, 3) := by decide +kernel
theorem dX2_openList_162 : decode cX2_openList 162 = .ok (.aload_n 0, 1) := by decide +kernel
theorem dX2_openList_163 : decode cX2_openList 163 = .ok (.getfield 15, 3) := by decide +kernel
theorem dX2_openList_166 : decode cX2_openList 166 = .ok (.getfield 29, 3) := by decide +kernel
theorem dX2_openList_169 : decode cX2_openList 169 = .ok (.aload_n 1, 1) := by decide +kernel
theorem dX2_openList_170 : decode cX2_openList 170 = .ok (.aload_n 1, 1) := by decide +kernel
theorem dX2_openList_171 : decode cX2_openList 171 = .ok (.getfield 89, 3) := by decide +kernel
theorem dX2_openList_174 : decode cX2_openList 174 = .ok (.iload 6, 2) := by decide +kernel
theorem dX2_openList_176 : decode cX2_openList 176 = .ok (.iload_n 3, 1) := by decide +kernel
theorem dX2_openList_177 : decode cX2_openList 177 = .ok (.aload_n 0, 1) := by decide +kernel
theorem dX2_openList_178 : decode cX2_openList 178 = .ok (.getfield 15, 3) := by decide +kernel
theorem dX2_openList_181 : decode cX2_openList 181 = .ok (.getfield 47, 3) := by decide +kernel
theorem dX2_openList_184 : decode cX2_openList 184 = .ok (.iconst 1, 1) := by decide +kernel
theorem dX2_openList_185 : decode cX2_openList 185 = .ok (.iadd, 1) := by decide +kernel
theorem dX2_openList_186 : decode cX2_openList 186 = .ok (.invokevirtual 177, 3) := by decide +kernel
theorem dX2_openList_189 : decode cX2_openList 189 = .ok (.iinc 5 1, 3) := by decide +kernel
theorem dX2_openList_192 : decode cX2_openList 192 = .ok (.goto (-65), 3) := by decide +kernel
theorem dX2_openList_195 : decode cX2_openList 195 = .ok (.aload_n 0, 1) := by decide +kernel
theorem dX2_openList_196 : decode cX2_openList 196 = .ok (.getfield 15, 3) := by decide +kernel
theorem dX2_openList_199 : decode cX2_openList 199 = .ok (.dup, 1) := by decide +kernel
theorem dX2_openList_200 : decode cX2_openList 200 = .ok (.getfield 181, 3) := by decide +kernel
theorem dX2_openList_203 : decode cX2_openList 203 = .ok (.iload 4, 2) := by decide +kernel
theorem dX2_openList_205 : decode cX2_openList 205 = .ok (.iadd, 1) := by decide +kernel
theorem dX2_openList_206 : decode cX2_openList 206 = .ok (.putfield 181, 3) := by decide +kernel
theorem dX2_openList_209 : decode cX2_openList 209 = .ok (.aload_n 0, 1) := by decide +kernel
theorem dX2_openList_210 : decode cX2_openList 210 = .ok (.getfield 15, 3) := by decide +kernel
theorem dX2_openList_213 : decode cX2_openList 213 = .ok (.getfield 29, 3) := by decide +kernel
theorem dX2_openList_216 : decode cX2_openList 216 = .ok (.aload_n 1, 1) := by decide +kernel
theorem dX2_openList_217 : decode cX2_openList 217 = .ok (.invokevirtual 158, 3) := by decide +kernel
theorem dX2_openList_220 : decode cX2_openList 220 = .ok (.return_, 1) := by decide +kernel
theorem dX2_unmarked_0 : decode cX2_unmarked 0 = .ok (.iconst 0, 1) := by decide +kernel
theorem dX2_unmarked_1 : decode cX2_unmarked 1 = .ok (.istore_n 3, 1) := by decide +kernel
theorem dX2_unmarked_2 : decode cX2_unmarked 2 = .ok (.iconst 0, 1) := by decide +kernel
theorem dX2_unmarked_3 : decode cX2_unmarked 3 = .ok (.istore 4, 2) := by decide +kernel
theorem dX2_unmarked_5 : decode cX2_unmarked 5 = .ok (.iload 4, 2) := by decide +kernel
theorem dX2_unmarked_7 : decode cX2_unmarked 7 = .ok (.aload_n 0, 1) := by decide +kernel
theorem dX2_unmarked_8 : decode cX2_unmarked 8 = .ok (.getfield 9, 3) := by decide +kernel
theorem dX2_unmarked_11 : decode cX2_unmarked 11 = .ok (.getfield 174, 3) := by decide +kernel
theorem dX2_unmarked_14 : decode cX2_unmarked 14 = .ok (.iload_n 1, 1) := by decide +kernel
theorem dX2_unmarked_15 : decode cX2_unmarked 15 = .ok (.iaload, 1) := by decide +kernel
theorem dX2_unmarked_16 : decode cX2_unmarked 16 = .ok (.if_icmp .ge 29, 3) := by decide +kernel
theorem dX2_unmarked_19 : decode cX2_unmarked 19 = .ok (.iload_n 2, 1) := by decide +kernel
theorem dX2_unmarked_20 : decode cX2_unmarked 20 = .ok (.aload_n 0, 1) := by decide +kernel
theorem dX2_unmarked_21 : decode cX2_unmarked 21 = .ok (.getfield 9, 3) := by decide +kernel
theorem dX2_unmarked_24 : decode cX2_unmarked 24 = .ok (.iload_n 1, 1) := by decide +kernel
theorem dX2_unmarked_25 : decode cX2_unmarked 25 = .ok (.iload 4, 2) := by decide +kernel
theorem dX2_unmarked_27 : decode cX2_unmarked 27 = .ok (.invokevirtual 161, 3) := by decide +kernel
theorem dX2_unmarked_30 : decode cX2_unmarked 30 = .ok (.iushr, 1) := by decide +kernel
theorem dX2_unmarked_31 : decode cX2_unmarked 31 = .ok (.iconst 1, 1) := by decide +kernel
theorem dX2_unmarked_32 : decode cX2_unmarked 32 = .ok (.iand, 1) := by decide +kernel
theorem dX2_unmarked_33 : decode cX2_unmarked 33 = .ok (.ifCond .ne 6, 3) := by decide +kernel
theorem dX2_unmarked_36 : decode cX2_unmarked 36 = .ok (.iinc 3 1, 3) := by decide +kernel
theorem dX2_unmarked_39 : decode cX2_unmarked 39 = .ok (.iinc 4 1, 3) := by decide +kernel
theorem dX2_unmarked_42 : decode cX2_unmarked 42 = .ok (.goto (-37), 3) := by decide +kernel
theorem dX2_unmarked_45 : decode cX2_unmarked 45 = .ok (.iload_n 3, 1) := by decide +kernel
theorem dX2_unmarked_46 : decode cX2_unmarked 46 = .ok (.ireturn, 1) := by decide +kernel
theorem dX2_passOn_0 : decode cX2_passOn 0 = .ok (.iconst 0, 1) := by decide +kernel
theorem dX2_passOn_1 : decode cX2_passOn 1 = .ok (.istore_n 3, 1) := by decide +kernel
theorem dX2_passOn_2 : decode cX2_passOn 2 = .ok (.iload_n 3, 1) := by decide +kernel
theorem dX2_passOn_3 : decode cX2_passOn 3 = .ok (.iconst 3, 1) := by decide +kernel
theorem dX2_passOn_4 : decode cX2_passOn 4 = .ok (.if_icmp .ge 159, 3) := by decide +kernel
theorem dX2_passOn_7 : decode cX2_passOn 7 = .ok (.aload_n 0, 1) := by decide +kernel
theorem dX2_passOn_8 : decode cX2_passOn 8 = .ok (.getfield 9, 3) := by decide +kernel
theorem dX2_passOn_11 : decode cX2_passOn 11 = .ok (.aload_n 1, 1) := by decide +kernel
theorem dX2_passOn_12 : decode cX2_passOn 12 = .ok (.getfield 89, 3) := by decide +kernel
theorem dX2_passOn_15 : decode cX2_passOn 15 = .ok (.iload_n 2, 1) := by decide +kernel
theorem dX2_passOn_16 : decode cX2_passOn 16 = .ok (.iload_n 3, 1) := by decide +kernel
theorem dX2_passOn_17 : decode cX2_passOn 17 = .ok (.invokevirtual 184, 3) := by decide +kernel
theorem dX2_passOn_20 : decode cX2_passOn 20 = .ok (.istore 4, 2) := by decide +kernel
theorem dX2_passOn_22 : decode cX2_passOn 22 = .ok (.iload 4, 2) := by decide +kernel
theorem dX2_passOn_24 : decode cX2_passOn 24 = .ok (.bipush (-4), 2) := by decide +kernel
theorem dX2_passOn_26 : decode cX2_passOn 26 = .ok (.if_icmp .ne 5, 3) := by decide +kernel
theorem dX2_passOn_29 : decode cX2_passOn 29 = .ok (.iconst 0, 1) := by decide +kernel
theorem dX2_passOn_30 : decode cX2_passOn 30 = .ok (.ireturn, 1) := by decide +kernel
theorem dX2_passOn_31 : decode cX2_passOn 31 = .ok (.aload_n 0, 1) := by decide +kernel
theorem dX2_passOn_32 : decode cX2_passOn 32 = .ok (.getfield 15, 3) := by decide +kernel
theorem dX2_passOn_35 : decode cX2_passOn 35 = .ok (.getfield 74, 3) := by decide +kernel
theorem dX2_passOn_38 : decode cX2_passOn 38 = .ok (.iload 4, 2) := by decide +kernel
theorem dX2_passOn_40 : decode cX2_passOn 40 = .ok (.iaload, 1) := by decide +kernel
theorem dX2_passOn_41 : decode cX2_passOn 41 = .ok (.iconst 1, 1) := by decide +kernel
theorem dX2_passOn_42 : decode cX2_passOn 42 = .ok (.if_icmp .ne 115, 3) := by decide +kernel
theorem dX2_passOn_45 : decode cX2_passOn 45 = .ok (.aload_n 0, 1) := by decide +kernel
theorem dX2_passOn_46 : decode cX2_passOn 46 = .ok (.getfield 9, 3) := by decide +kernel
theorem dX2_passOn_49 : decode cX2_passOn 49 = .ok (.getfield 187, 3) := by decide +kernel
theorem dX2_passOn_52 : decode cX2_passOn 52 = .ok (.iload 4, 2) := by decide +kernel
theorem dX2_passOn_54 : decode cX2_passOn 54 = .ok (.iaload, 1) := by decide +kernel
theorem dX2_passOn_55 : decode cX2_passOn 55 = .ok (.ifCond .eq 38, 3) := by decide +kernel
theorem dX2_passOn_58 : decode cX2_passOn 58 = .ok (.aload_n 0, 1) := by decide +kernel
theorem dX2_passOn_59 : decode cX2_passOn 59 = .ok (.getfield 15, 3) := by decide +kernel
theorem dX2_passOn_62 : decode cX2_passOn 62 = .ok (.getfield 190, 3) := by decide +kernel
theorem dX2_passOn_65 : decode cX2_passOn 65 = .ok (.iload 4, 2) := by decide +kernel
theorem dX2_passOn_67 : decode cX2_passOn 67 = .ok (.aaload, 1) := by decide +kernel
theorem dX2_passOn_68 : decode cX2_passOn 68 = .ok (.aload_n 1, 1) := by decide +kernel
theorem dX2_passOn_69 : decode cX2_passOn 69 = .ok (.getfield 89, 3) := by decide +kernel
theorem dX2_passOn_72 : decode cX2_passOn 72 = .ok (.aload_n 1, 1) := by decide +kernel
theorem dX2_passOn_73 : decode cX2_passOn 73 = .ok (.getfield 151, 3) := by decide +kernel
theorem dX2_passOn_76 : decode cX2_passOn 76 = .ok (.aload_n 1, 1) := by decide +kernel
theorem dX2_passOn_77 : decode cX2_passOn 77 = .ok (.getfield 104, 3) := by decide +kernel
theorem dX2_passOn_80 : decode cX2_passOn 80 = .ok (.aload_n 0, 1) := by decide +kernel
theorem dX2_passOn_81 : decode cX2_passOn 81 = .ok (.getfield 15, 3) := by decide +kernel
theorem dX2_passOn_84 : decode cX2_passOn 84 = .ok (.getfield 47, 3) := by decide +kernel
theorem dX2_passOn_87 : decode cX2_passOn 87 = .ok (.invokevirtual 194, 3) := by decide +kernel
theorem dX2_passOn_90 : decode cX2_passOn 90 = .ok (.ifCond .eq 67, 3) := by decide +kernel
theorem dX2_passOn_93 : decode cX2_passOn 93 = .ok (.aload_n 0, 1) := by decide +kernel
theorem dX2_passOn_94 : decode cX2_passOn 94 = .ok (.getfield 15, 3) := by decide +kernel
theorem dX2_passOn_97 : decode cX2_passOn 97 = .ok (.getfield 54, 3) := by decide +kernel
theorem dX2_passOn_100 : decode cX2_passOn 100 = .ok (.iconst 1, 1) := by decide +kernel
theorem dX2_passOn_101 : decode cX2_passOn 101 = .ok (.aload_n 0, 1) := by decide +kernel
theorem dX2_passOn_102 : decode cX2_passOn 102 = .ok (.getfield 15, 3) := by decide +kernel
theorem dX2_passOn_105 : decode cX2_passOn 105 = .ok (.getfield 47, 3) := by decide +kernel
theorem dX2_passOn_108 : decode cX2_passOn 108 = .ok (.aload_n 1, 1) := by decide +kernel
theorem dX2_passOn_109 : decode cX2_passOn 109 = .ok (.iload 4, 2) := by decide +kernel
theorem dX2_passOn_111 : decode cX2_passOn 111 = .ok (.invokevirtual 58, 3) := by decide +kernel
theorem dX2_passOn_114 : decode cX2_passOn 114 = .ok (.aload_n 0, 1) := by decide +kernel
theorem dX2_passOn_115 : decode cX2_passOn 115 = .ok (.getfield 15, 3) := by decide +kernel
theorem dX2_passOn_118 : decode cX2_passOn 118 = .ok (.getfield 29, 3) := by decide +kernel
theorem dX2_passOn_121 : decode cX2_passOn 121 = .ok (.aload_n 1, 1) := by decide +kernel
theorem dX2_passOn_122 : decode cX2_passOn 122 = .ok (.iload 4, 2) := by decide +kernel
theorem dX2_passOn_124 : decode cX2_passOn 124 = .ok (.aload_n 1, 1) := by decide +kernel
theorem dX2_passOn_125 : decode cX2_passOn 125 = .ok (.getfield 104, 3) := by decide +kernel
theorem dX2_passOn_128 : decode cX2_passOn 128 = .ok (.aload_n 1, 1) := by decide +kernel
theorem dX2_passOn_129 : decode cX2_passOn 129 = .ok (.getfield 168, 3) := by decide +kernel
theorem dX2_passOn_132 : decode cX2_passOn 132 = .ok (.aload_n 0, 1) := by decide +kernel
theorem dX2_passOn_133 : decode cX2_passOn 133 = .ok (.getfield 15, 3) := by decide +kernel
theorem dX2_passOn_136 : decode cX2_passOn 136 = .ok (.getfield 47, 3) := by decide +kernel
theorem dX2_passOn_139 : decode cX2_passOn 139 = .ok (.iconst 1, 1) := by decide +kernel
theorem dX2_passOn_140 : decode cX2_passOn 140 = .ok (.iadd, 1) := by decide +kernel
theorem dX2_passOn_141 : decode cX2_passOn 141 = .ok (.invokevirtual 177, 3) := by decide +kernel
theorem dX2_passOn_144 : decode cX2_passOn 144 = .ok (.aload_n 0, 1) := by decide +kernel
theorem dX2_passOn_145 : decode cX2_passOn 145 = .ok (.getfield 15, 3) := by decide +kernel
theorem dX2_passOn_148 : decode cX2_passOn 148 = .ok (.getfield 29, 3) := by decide +kernel
theorem dX2_passOn_151 : decode cX2_passOn 151 = .ok (.aload_n 1, 1) := by decide +kernel
theorem dX2_passOn_152 : decode cX2_passOn 152 = .ok (.invokevirtual 158, 3) := by decide +kernel
theorem dX2_passOn_155 : decode cX2_passOn 155 = .ok (.iconst 1, 1) := by decide +kernel
theorem dX2_passOn_156 : decode cX2_passOn 156 = .ok (.ireturn, 1) := by decide +kernel
theorem dX2_passOn_157 : decode cX2_passOn 157 = .ok (.iinc 3 1, 3) := by decide +kernel
theorem dX2_passOn_160 : decode cX2_passOn 160 = .ok (.goto (-158), 3) := by decide +kernel
theorem dX2_passOn_163 : decode cX2_passOn 163 = .ok (.iconst 0, 1) := by decide +kernel
theorem dX2_passOn_164 : decode cX2_passOn 164 = .ok (.ireturn, 1) := by decide +kernel
theorem dX2_tryLater_0 : decode cX2_tryLater 0 = .ok (.aload_n 1, 1) := by decide +kernel
theorem dX2_tryLater_1 : decode cX2_tryLater 1 = .ok (.dup, 1) := by decide +kernel
theorem dX2_tryLater_2 : decode cX2_tryLater 2 = .ok (.getfield 165, 3) := by decide +kernel
theorem dX2_tryLater_5 : decode cX2_tryLater 5 = .ok (.iconst 1, 1) := by decide +kernel
theorem dX2_tryLater_6 : decode cX2_tryLater 6 = .ok (.iadd, 1) := by decide +kernel
theorem dX2_tryLater_7 : decode cX2_tryLater 7 = .ok (.putfield 165, 3) := by decide +kernel
theorem dX2_tryLater_10 : decode cX2_tryLater 10 = .ok (.aload_n 1, 1) := by decide +kernel
theorem dX2_tryLater_11 : decode cX2_tryLater 11 = .ok (.getfield 165, 3) := by decide +kernel
theorem dX2_tryLater_14 : decode cX2_tryLater 14 = .ok (.iconst 5, 1) := by decide +kernel
theorem dX2_tryLater_15 : decode cX2_tryLater 15 = .ok (.if_icmp .lt 9, 3) := by decide +kernel
theorem dX2_tryLater_18 : decode cX2_tryLater 18 = .ok (.aload_n 0, 1) := by decide +kernel
theorem dX2_tryLater_19 : decode cX2_tryLater 19 = .ok (.aload_n 1, 1) := by decide +kernel
theorem dX2_tryLater_20 : decode cX2_tryLater 20 = .ok (.invokevirtual 113, 3) := by decide +kernel
theorem dX2_tryLater_23 : decode cX2_tryLater 23 = .ok (.return_, 1) := by decide +kernel
theorem dX2_tryLater_24 : decode cX2_tryLater 24 = .ok (.aload_n 0, 1) := by decide +kernel
theorem dX2_tryLater_25 : decode cX2_tryLater 25 = .ok (.getfield 15, 3) := by decide +kernel
theorem dX2_tryLater_28 : decode cX2_tryLater 28 = .ok (.getfield 54, 3) := by decide +kernel
theorem dX2_tryLater_31 : decode cX2_tryLater 31 = .ok (.bipush 6, 2) := by decide +kernel
theorem dX2_tryLater_33 : decode cX2_tryLater 33 = .ok (.aload_n 0, 1) := by decide +kernel
theorem dX2_tryLater_34 : decode cX2_tryLater 34 = .ok (.getfield 15, 3) := by decide +kernel
theorem dX2_tryLater_37 : decode cX2_tryLater 37 = .ok (.getfield 47, 3) := by decide +kernel
theorem dX2_tryLater_40 : decode cX2_tryLater 40 = .ok (.aload_n 1, 1) := by decide +kernel
theorem dX2_tryLater_41 : decode cX2_tryLater 41 = .ok (.aload_n 1, 1) := by decide +kernel
theorem dX2_tryLater_42 : decode cX2_tryLater 42 = .ok (.getfield 89, 3) := by decide +kernel
theorem dX2_tryLater_45 : decode cX2_tryLater 45 = .ok (.invokevirtual 58, 3) := by decide +kernel
theorem dX2_tryLater_48 : decode cX2_tryLater 48 = .ok (.aload_n 1, 1) := by decide +kernel
theorem dX2_tryLater_49 : decode cX2_tryLater 49 = .ok (.aload_n 0, 1) := by decide +kernel
theorem dX2_tryLater_50 : decode cX2_tryLater 50 = .ok (.getfield 15, 3) := by decide +kernel
theorem dX2_tryLater_53 : decode cX2_tryLater 53 = .ok (.getfield 47, 3) := by decide +kernel
theorem dX2_tryLater_56 : decode cX2_tryLater 56 = .ok (.iconst 1, 1) := by decide +kernel
theorem dX2_tryLater_57 : decode cX2_tryLater 57 = .ok (.aload_n 1, 1) := by decide +kernel
theorem dX2_tryLater_58 : decode cX2_tryLater 58 = .ok (.getfield 165, 3) := by decide +kernel
theorem dX2_tryLater_61 : decode cX2_tryLater 61 = .ok (.iconst 1, 1) := by decide +kernel
theorem dX2_tryLater_62 : decode cX2_tryLater 62 = .ok (.isub, 1) := by decide +kernel
theorem dX2_tryLater_63 : decode cX2_tryLater 63 = .ok (.ishl, 1) := by decide +kernel
theorem dX2_tryLater_64 : decode cX2_tryLater 64 = .ok (.iadd, 1) := by decide +kernel
theorem dX2_tryLater_65 : decode cX2_tryLater 65 = .ok (.putfield 94, 3) := by decide +kernel
theorem dX2_tryLater_68 : decode cX2_tryLater 68 = .ok (.return_, 1) := by decide +kernel
theorem dX2_bounce_0 : decode cX2_bounce 0 = .ok (.aload_n 1, 1) := by decide +kernel
theorem dX2_bounce_1 : decode cX2_bounce 1 = .ok (.getfield 151, 3) := by decide +kernel
theorem dX2_bounce_4 : decode cX2_bounce 4 = .ok (.bipush (-4), 2) := by decide +kernel
theorem dX2_bounce_6 : decode cX2_bounce 6 = .ok (.if_icmp .ne 30, 3) := by decide +kernel
theorem dX2_bounce_9 : decode cX2_bounce 9 = .ok (.aload_n 0, 1) := by decide +kernel
theorem dX2_bounce_10 : decode cX2_bounce 10 = .ok (.getfield 15, 3) := by decide +kernel
theorem dX2_bounce_13 : decode cX2_bounce 13 = .ok (.getfield 54, 3) := by decide +kernel
theorem dX2_bounce_16 : decode cX2_bounce 16 = .ok (.bipush 8, 2) := by decide +kernel
theorem dX2_bounce_18 : decode cX2_bounce 18 = .ok (.aload_n 0, 1) := by decide +kernel
theorem dX2_bounce_19 : decode cX2_bounce 19 = .ok (.getfield 15, 3) := by decide +kernel
theorem dX2_bounce_22 : decode cX2_bounce 22 = .ok (.getfield 47, 3) := by decide +kernel
theorem dX2_bounce_25 : decode cX2_bounce 25 = .ok (.aload_n 1, 1) := by decide +kernel
theorem dX2_bounce_26 : decode cX2_bounce 26 = .ok (.aload_n 1, 1) := by decide +kernel
theorem dX2_bounce_27 : decode cX2_bounce 27 = .ok (.getfield 89, 3) := by decide +kernel
theorem dX2_bounce_30 : decode cX2_bounce 30 = .ok (.invokevirtual 58, 3) := by decide +kernel
theorem dX2_bounce_33 : decode cX2_bounce 33 = .ok (.goto 77, 3) := by decide +kernel
theorem dX2_bounce_36 : decode cX2_bounce 36 = .ok (.aload_n 0, 1) := by decide +kernel
theorem dX2_bounce_37 : decode cX2_bounce 37 = .ok (.getfield 15, 3) := by decide +kernel
theorem dX2_bounce_40 : decode cX2_bounce 40 = .ok (.getfield 54, 3) := by decide +kernel
theorem dX2_bounce_43 : decode cX2_bounce 43 = .ok (.bipush 7, 2) := by decide +kernel
theorem dX2_bounce_45 : decode cX2_bounce 45 = .ok (.aload_n 0, 1) := by decide +kernel
theorem dX2_bounce_46 : decode cX2_bounce 46 = .ok (.getfield 15, 3) := by decide +kernel
theorem dX2_bounce_49 : decode cX2_bounce 49 = .ok (.getfield 47, 3) := by decide +kernel
theorem dX2_bounce_52 : decode cX2_bounce 52 = .ok (.aload_n 1, 1) := by decide +kernel
theorem dX2_bounce_53 : decode cX2_bounce 53 = .ok (.aload_n 1, 1) := by decide +kernel
theorem dX2_bounce_54 : decode cX2_bounce 54 = .ok (.getfield 89, 3) := by decide +kernel
theorem dX2_bounce_57 : decode cX2_bounce 57 = .ok (.invokevirtual 58, 3) := by decide +kernel
theorem dX2_bounce_60 : decode cX2_bounce 60 = .ok (.aload_n 0, 1) := by decide +kernel
theorem dX2_bounce_61 : decode cX2_bounce 61 = .ok (.getfield 15, 3) := by decide +kernel
theorem dX2_bounce_64 : decode cX2_bounce 64 = .ok (.getfield 29, 3) := by decide +kernel
theorem dX2_bounce_67 : decode cX2_bounce 67 = .ok (.aload_n 1, 1) := by decide +kernel
theorem dX2_bounce_68 : decode cX2_bounce 68 = .ok (.getfield 89, 3) := by decide +kernel
theorem dX2_bounce_71 : decode cX2_bounce 71 = .ok (.aload_n 0, 1) := by decide +kernel
theorem dX2_bounce_72 : decode cX2_bounce 72 = .ok (.getfield 15, 3) := by decide +kernel
theorem dX2_bounce_75 : decode cX2_bounce 75 = .ok (.getfield 44, 3) := by decide +kernel
theorem dX2_bounce_78 : decode cX2_bounce 78 = .ok (.bipush (-4), 2) := by decide +kernel
theorem dX2_bounce_80 : decode cX2_bounce 80 = .ok (.aload_n 1, 1) := by decide +kernel
theorem dX2_bounce_81 : decode cX2_bounce 81 = .ok (.getfield 151, 3) := by decide +kernel
theorem dX2_bounce_84 : decode cX2_bounce 84 = .ok (.aload_n 0, 1) := by decide +kernel
theorem dX2_bounce_85 : decode cX2_bounce 85 = .ok (.getfield 15, 3) := by decide +kernel
theorem dX2_bounce_88 : decode cX2_bounce 88 = .ok (.getfield 47, 3) := by decide +kernel
theorem dX2_bounce_91 : decode cX2_bounce 91 = .ok (.iconst 1, 1) := by decide +kernel
theorem dX2_bounce_92 : decode cX2_bounce 92 = .ok (.iadd, 1) := by decide +kernel
theorem dX2_bounce_93 : decode cX2_bounce 93 = .ok (.invokevirtual 50, 3) := by decide +kernel
theorem dX2_bounce_96 : decode cX2_bounce 96 = .ok (.pop, 1) := by decide +kernel
theorem dX2_bounce_97 : decode cX2_bounce 97 = .ok (.aload_n 0, 1) := by decide +kernel
theorem dX2_bounce_98 : decode cX2_bounce 98 = .ok (.getfield 15, 3) := by decide +kernel
theorem dX2_bounce_101 : decode cX2_bounce 101 = .ok (.dup, 1) := by decide +kernel
theorem dX2_bounce_102 : decode cX2_bounce 102 = .ok (.getfield 44, 3) := by decide +kernel
theorem dX2_bounce_105 : decode cX2_bounce 105 = .ok (.iconst 1, 1) := by decide +kernel
theorem dX2_bounce_106 : decode cX2_bounce 106 = .ok (.iadd, 1) := by decide +kernel
theorem dX2_bounce_107 : decode cX2_bounce 107 = .ok (.putfield 44, 3) := by decide +kernel
theorem dX2_bounce_110 : decode cX2_bounce 110 = .ok (.aload_n 0, 1) := by decide +kernel
theorem dX2_bounce_111 : decode cX2_bounce 111 = .ok (.getfield 15, 3) := by decide +kernel
theorem dX2_bounce_114 : decode cX2_bounce 114 = .ok (.getfield 29, 3) := by decide +kernel
theorem dX2_bounce_117 : decode cX2_bounce 117 = .ok (.aload_n 1, 1) := by decide +kernel
theorem dX2_bounce_118 : decode cX2_bounce 118 = .ok (.invokevirtual 158, 3) := by decide +kernel
theorem dX2_bounce_121 : decode cX2_bounce 121 = .ok (.return_, 1) := by decide +kernel
theorem dX3_init_0 : decode cX3_init 0 = .ok (.aload_n 0, 1) := by decide +kernel
theorem dX3_init_1 : decode cX3_init 1 = .ok (.invokespecial 1, 3) := by decide +kernel
theorem dX3_init_4 : decode cX3_init 4 = .ok (.return_, 1) := by decide +kernel
theorem dX3_answer_0 : decode cX3_answer 0 = .ok (.iload_n 1, 1) := by decide +kernel
theorem dX3_answer_1 : decode cX3_answer 1 = .ok (.tableswitch 69 0 5 #[39, 44, 49, 54, 59, 64], 39) := by decide +kernel
theorem dX3_answer_40 : decode cX3_answer 40 = .ok (.aload_n 0, 1) := by decide +kernel
theorem dX3_answer_41 : decode cX3_answer 41 = .ok (.getfield 7, 3) := by decide +kernel
theorem dX3_answer_44 : decode cX3_answer 44 = .ok (.ireturn, 1) := by decide +kernel
theorem dX3_answer_45 : decode cX3_answer 45 = .ok (.aload_n 0, 1) := by decide +kernel
theorem dX3_answer_46 : decode cX3_answer 46 = .ok (.getfield 13, 3) := by decide +kernel
theorem dX3_answer_49 : decode cX3_answer 49 = .ok (.ireturn, 1) := by decide +kernel
theorem dX3_answer_50 : decode cX3_answer 50 = .ok (.aload_n 0, 1) := by decide +kernel
theorem dX3_answer_51 : decode cX3_answer 51 = .ok (.getfield 16, 3) := by decide +kernel
theorem dX3_answer_54 : decode cX3_answer 54 = .ok (.ireturn, 1) := by decide +kernel
theorem dX3_answer_55 : decode cX3_answer 55 = .ok (.aload_n 0, 1) := by decide +kernel
theorem dX3_answer_56 : decode cX3_answer 56 = .ok (.getfield 19, 3) := by decide +kernel
theorem dX3_answer_59 : decode cX3_answer 59 = .ok (.ireturn, 1) := by decide +kernel
theorem dX3_answer_60 : decode cX3_answer 60 = .ok (.aload_n 0, 1) := by decide +kernel
theorem dX3_answer_61 : decode cX3_answer 61 = .ok (.getfield 22, 3) := by decide +kernel
theorem dX3_answer_64 : decode cX3_answer 64 = .ok (.ireturn, 1) := by decide +kernel
theorem dX3_answer_65 : decode cX3_answer 65 = .ok (.aload_n 0, 1) := by decide +kernel
theorem dX3_answer_66 : decode cX3_answer 66 = .ok (.getfield 25, 3) := by decide +kernel
theorem dX3_answer_69 : decode cX3_answer 69 = .ok (.ireturn, 1) := by decide +kernel
theorem dX3_answer_70 : decode cX3_answer 70 = .ok (.aload_n 0, 1) := by decide +kernel
theorem dX3_answer_71 : decode cX3_answer 71 = .ok (.getfield 28, 3) := by decide +kernel
theorem dX3_answer_74 : decode cX3_answer 74 = .ok (.invokestatic 31, 3) := by decide +kernel
theorem dX3_answer_77 : decode cX3_answer 77 = .ok (.ireturn, 1) := by decide +kernel
theorem dX3_copyFrom_0 : decode cX3_copyFrom 0 = .ok (.aload_n 0, 1) := by decide +kernel
theorem dX3_copyFrom_1 : decode cX3_copyFrom 1 = .ok (.aload_n 1, 1) := by decide +kernel
theorem dX3_copyFrom_2 : decode cX3_copyFrom 2 = .ok (.getfield 37, 3) := by decide +kernel
theorem dX3_copyFrom_5 : decode cX3_copyFrom 5 = .ok (.putfield 37, 3) := by decide +kernel
theorem dX3_copyFrom_8 : decode cX3_copyFrom 8 = .ok (.aload_n 0, 1) := by decide +kernel
theorem dX3_copyFrom_9 : decode cX3_copyFrom 9 = .ok (.aload_n 1, 1) := by decide +kernel
theorem dX3_copyFrom_10 : decode cX3_copyFrom 10 = .ok (.getfield 7, 3) := by decide +kernel
theorem dX3_copyFrom_13 : decode cX3_copyFrom 13 = .ok (.putfield 7, 3) := by decide +kernel
theorem dX3_copyFrom_16 : decode cX3_copyFrom 16 = .ok (.aload_n 0, 1) := by decide +kernel
theorem dX3_copyFrom_17 : decode cX3_copyFrom 17 = .ok (.aload_n 1, 1) := by decide +kernel
theorem dX3_copyFrom_18 : decode cX3_copyFrom 18 = .ok (.getfield 13, 3) := by decide +kernel
theorem dX3_copyFrom_21 : decode cX3_copyFrom 21 = .ok (.putfield 13, 3) := by decide +kernel
theorem dX3_copyFrom_24 : decode cX3_copyFrom 24 = .ok (.aload_n 0, 1) := by decide +kernel
theorem dX3_copyFrom_25 : decode cX3_copyFrom 25 = .ok (.aload_n 1, 1) := by decide +kernel
theorem dX3_copyFrom_26 : decode cX3_copyFrom 26 = .ok (.getfield 16, 3) := by decide +kernel
theorem dX3_copyFrom_29 : decode cX3_copyFrom 29 = .ok (.putfield 16, 3) := by decide +kernel
theorem dX3_copyFrom_32 : decode cX3_copyFrom 32 = .ok (.aload_n 0, 1) := by decide +kernel
theorem dX3_copyFrom_33 : decode cX3_copyFrom 33 = .ok (.aload_n 1, 1) := by decide +kernel
theorem dX3_copyFrom_34 : decode cX3_copyFrom 34 = .ok (.getfield 19, 3) := by decide +kernel
theorem dX3_copyFrom_37 : decode cX3_copyFrom 37 = .ok (.putfield 19, 3) := by decide +kernel
theorem dX3_copyFrom_40 : decode cX3_copyFrom 40 = .ok (.aload_n 0, 1) := by decide +kernel
theorem dX3_copyFrom_41 : decode cX3_copyFrom 41 = .ok (.aload_n 1, 1) := by decide +kernel
theorem dX3_copyFrom_42 : decode cX3_copyFrom 42 = .ok (.getfield 22, 3) := by decide +kernel
theorem dX3_copyFrom_45 : decode cX3_copyFrom 45 = .ok (.putfield 22, 3) := by decide +kernel
theorem dX3_copyFrom_48 : decode cX3_copyFrom 48 = .ok (.aload_n 0, 1) := by decide +kernel
theorem dX3_copyFrom_49 : decode cX3_copyFrom 49 = .ok (.aload_n 1, 1) := by decide +kernel
theorem dX3_copyFrom_50 : decode cX3_copyFrom 50 = .ok (.getfield 25, 3) := by decide +kernel
theorem dX3_copyFrom_53 : decode cX3_copyFrom 53 = .ok (.putfield 25, 3) := by decide +kernel
theorem dX3_copyFrom_56 : decode cX3_copyFrom 56 = .ok (.aload_n 0, 1) := by decide +kernel
theorem dX3_copyFrom_57 : decode cX3_copyFrom 57 = .ok (.aload_n 1, 1) := by decide +kernel
theorem dX3_copyFrom_58 : decode cX3_copyFrom 58 = .ok (.getfield 28, 3) := by decide +kernel
theorem dX3_copyFrom_61 : decode cX3_copyFrom 61 = .ok (.putfield 28, 3) := by decide +kernel
theorem dX3_copyFrom_64 : decode cX3_copyFrom 64 = .ok (.return_, 1) := by decide +kernel
theorem dX4_init_0 : decode cX4_init 0 = .ok (.aload_n 0, 1) := by decide +kernel
theorem dX4_init_1 : decode cX4_init 1 = .ok (.invokespecial 3, 3) := by decide +kernel
theorem dX4_init_4 : decode cX4_init 4 = .ok (.aload_n 0, 1) := by decide +kernel
theorem dX4_init_5 : decode cX4_init 5 = .ok (.bipush 120, 2) := by decide +kernel
theorem dX4_init_7 : decode cX4_init 7 = .ok (.anewarray 9, 3) := by decide +kernel
theorem dX4_init_10 : decode cX4_init 10 = .ok (.putfield 11, 3) := by decide +kernel
theorem dX4_init_13 : decode cX4_init 13 = .ok (.iconst 0, 1) := by decide +kernel
theorem dX4_init_14 : decode cX4_init 14 = .ok (.istore_n 1, 1) := by decide +kernel
theorem dX4_init_15 : decode cX4_init 15 = .ok (.iload_n 1, 1) := by decide +kernel
theorem dX4_init_16 : decode cX4_init 16 = .ok (.aload_n 0, 1) := by decide +kernel
theorem dX4_init_17 : decode cX4_init 17 = .ok (.getfield 11, 3) := by decide +kernel
theorem dX4_init_20 : decode cX4_init 20 = .ok (.arraylength, 1) := by decide +kernel
theorem dX4_init_21 : decode cX4_init 21 = .ok (.if_icmp .ge 22, 3) := by decide +kernel
theorem dX4_init_24 : decode cX4_init 24 = .ok (.aload_n 0, 1) := by decide +kernel
theorem dX4_init_25 : decode cX4_init 25 = .ok (.getfield 11, 3) := by decide +kernel
theorem dX4_init_28 : decode cX4_init 28 = .ok (.iload_n 1, 1) := by decide +kernel
theorem dX4_init_29 : decode cX4_init 29 = .ok (.new 9, 3) := by decide +kernel
theorem dX4_init_32 : decode cX4_init 32 = .ok (.dup, 1) := by decide +kernel
theorem dX4_init_33 : decode cX4_init 33 = .ok (.invokespecial 17, 3) := by decide +kernel
theorem dX4_init_36 : decode cX4_init 36 = .ok (.aastore, 1) := by decide +kernel
theorem dX4_init_37 : decode cX4_init 37 = .ok (.iinc 1 1, 3) := by decide +kernel
theorem dX4_init_40 : decode cX4_init 40 = .ok (.goto (-25), 3) := by decide +kernel
theorem dX4_init_43 : decode cX4_init 43 = .ok (.return_, 1) := by decide +kernel
theorem dX4_clear_0 : decode cX4_clear 0 = .ok (.aload_n 0, 1) := by decide +kernel
theorem dX4_clear_1 : decode cX4_clear 1 = .ok (.iconst 0, 1) := by decide +kernel
theorem dX4_clear_2 : decode cX4_clear 2 = .ok (.putfield 18, 3) := by decide +kernel
theorem dX4_clear_5 : decode cX4_clear 5 = .ok (.aload_n 0, 1) := by decide +kernel
theorem dX4_clear_6 : decode cX4_clear 6 = .ok (.iconst 0, 1) := by decide +kernel
theorem dX4_clear_7 : decode cX4_clear 7 = .ok (.putfield 22, 3) := by decide +kernel
theorem dX4_clear_10 : decode cX4_clear 10 = .ok (.return_, 1) := by decide +kernel
theorem dX4_copyFrom_0 : decode cX4_copyFrom 0 = .ok (.iconst 0, 1) := by decide +kernel
theorem dX4_copyFrom_1 : decode cX4_copyFrom 1 = .ok (.istore_n 2, 1) := by decide +kernel
theorem dX4_copyFrom_2 : decode cX4_copyFrom 2 = .ok (.iload_n 2, 1) := by decide +kernel
theorem dX4_copyFrom_3 : decode cX4_copyFrom 3 = .ok (.aload_n 1, 1) := by decide +kernel
theorem dX4_copyFrom_4 : decode cX4_copyFrom 4 = .ok (.getfield 18, 3) := by decide +kernel
theorem dX4_copyFrom_7 : decode cX4_copyFrom 7 = .ok (.if_icmp .ge 24, 3) := by decide +kernel
theorem dX4_copyFrom_10 : decode cX4_copyFrom 10 = .ok (.aload_n 0, 1) := by decide +kernel
theorem dX4_copyFrom_11 : decode cX4_copyFrom 11 = .ok (.getfield 11, 3) := by decide +kernel
theorem dX4_copyFrom_14 : decode cX4_copyFrom 14 = .ok (.iload_n 2, 1) := by decide +kernel
theorem dX4_copyFrom_15 : decode cX4_copyFrom 15 = .ok (.aaload, 1) := by decide +kernel
theorem dX4_copyFrom_16 : decode cX4_copyFrom 16 = .ok (.aload_n 1, 1) := by decide +kernel
theorem dX4_copyFrom_17 : decode cX4_copyFrom 17 = .ok (.getfield 11, 3) := by decide +kernel
theorem dX4_copyFrom_20 : decode cX4_copyFrom 20 = .ok (.iload_n 2, 1) := by decide +kernel
theorem dX4_copyFrom_21 : decode cX4_copyFrom 21 = .ok (.aaload, 1) := by decide +kernel
theorem dX4_copyFrom_22 : decode cX4_copyFrom 22 = .ok (.invokevirtual 25, 3) := by decide +kernel
theorem dX4_copyFrom_25 : decode cX4_copyFrom 25 = .ok (.iinc 2 1, 3) := by decide +kernel
theorem dX4_copyFrom_28 : decode cX4_copyFrom 28 = .ok (.goto (-26), 3) := by decide +kernel
theorem dX4_copyFrom_31 : decode cX4_copyFrom 31 = .ok (.aload_n 0, 1) := by decide +kernel
theorem dX4_copyFrom_32 : decode cX4_copyFrom 32 = .ok (.aload_n 1, 1) := by decide +kernel
theorem dX4_copyFrom_33 : decode cX4_copyFrom 33 = .ok (.getfield 18, 3) := by decide +kernel
theorem dX4_copyFrom_36 : decode cX4_copyFrom 36 = .ok (.putfield 18, 3) := by decide +kernel
theorem dX4_copyFrom_39 : decode cX4_copyFrom 39 = .ok (.aload_n 0, 1) := by decide +kernel
theorem dX4_copyFrom_40 : decode cX4_copyFrom 40 = .ok (.aload_n 1, 1) := by decide +kernel
theorem dX4_copyFrom_41 : decode cX4_copyFrom 41 = .ok (.getfield 22, 3) := by decide +kernel
theorem dX4_copyFrom_44 : decode cX4_copyFrom 44 = .ok (.putfield 22, 3) := by decide +kernel
theorem dX4_copyFrom_47 : decode cX4_copyFrom 47 = .ok (.return_, 1) := by decide +kernel
theorem dX4_add_0 : decode cX4_add 0 = .ok (.aload_n 0, 1) := by decide +kernel
theorem dX4_add_1 : decode cX4_add 1 = .ok (.getfield 18, 3) := by decide +kernel
theorem dX4_add_4 : decode cX4_add 4 = .ok (.aload_n 0, 1) := by decide +kernel
theorem dX4_add_5 : decode cX4_add 5 = .ok (.getfield 11, 3) := by decide +kernel
theorem dX4_add_8 : decode cX4_add 8 = .ok (.arraylength, 1) := by decide +kernel
theorem dX4_add_9 : decode cX4_add 9 = .ok (.if_icmp .ge 10, 3) := by decide +kernel
theorem dX4_add_12 : decode cX4_add 12 = .ok (.aload_n 0, 1) := by decide +kernel
theorem dX4_add_13 : decode cX4_add 13 = .ok (.getfield 18, 3) := by decide +kernel
theorem dX4_add_16 : decode cX4_add 16 = .ok (.goto 10, 3) := by decide +kernel
theorem dX4_add_19 : decode cX4_add 19 = .ok (.aload_n 0, 1) := by decide +kernel
theorem dX4_add_20 : decode cX4_add 20 = .ok (.getfield 11, 3) := by decide +kernel
theorem dX4_add_23 : decode cX4_add 23 = .ok (.arraylength, 1) := by decide +kernel
theorem dX4_add_24 : decode cX4_add 24 = .ok (.iconst 1, 1) := by decide +kernel
theorem dX4_add_25 : decode cX4_add 25 = .ok (.isub, 1) := by decide +kernel
theorem dX4_add_26 : decode cX4_add 26 = .ok (.istore 6, 2) := by decide +kernel
theorem dX4_add_28 : decode cX4_add 28 = .ok (.aload_n 0, 1) := by decide +kernel
theorem dX4_add_29 : decode cX4_add 29 = .ok (.getfield 11, 3) := by decide +kernel
theorem dX4_add_32 : decode cX4_add 32 = .ok (.iload 6, 2) := by decide +kernel
theorem dX4_add_34 : decode cX4_add 34 = .ok (.aaload, 1) := by decide +kernel
theorem dX4_add_35 : decode cX4_add 35 = .ok (.astore 7, 2) := by decide +kernel
theorem dX4_add_37 : decode cX4_add 37 = .ok (.aload 7, 2) := by decide +kernel
theorem dX4_add_39 : decode cX4_add 39 = .ok (.iload_n 1, 1) := by decide +kernel
theorem dX4_add_40 : decode cX4_add 40 = .ok (.putfield 29, 3) := by decide +kernel
theorem dX4_add_43 : decode cX4_add 43 = .ok (.aload 7, 2) := by decide +kernel
theorem dX4_add_45 : decode cX4_add 45 = .ok (.iload_n 2, 1) := by decide +kernel
theorem dX4_add_46 : decode cX4_add 46 = .ok (.putfield 32, 3) := by decide +kernel
theorem dX4_add_49 : decode cX4_add 49 = .ok (.aload 7, 2) := by decide +kernel
theorem dX4_add_51 : decode cX4_add 51 = .ok (.iload_n 3, 1) := by decide +kernel
theorem dX4_add_52 : decode cX4_add 52 = .ok (.putfield 35, 3) := by decide +kernel
theorem dX4_add_55 : decode cX4_add 55 = .ok (.aload 7, 2) := by decide +kernel
theorem dX4_add_57 : decode cX4_add 57 = .ok (.iload 4, 2) := by decide +kernel
theorem dX4_add_59 : decode cX4_add 59 = .ok (.putfield 38, 3) := by decide +kernel
theorem dX4_add_62 : decode cX4_add 62 = .ok (.aload 7, 2) := by decide +kernel
theorem dX4_add_64 : decode cX4_add 64 = .ok (.iconst 0, 1) := by decide +kernel
theorem dX4_add_65 : decode cX4_add 65 = .ok (.putfield 41, 3) := by decide +kernel
theorem dX4_add_68 : decode cX4_add 68 = .ok (.aload 7, 2) := by decide +kernel
theorem dX4_add_70 : decode cX4_add 70 = .ok (.iconst 0, 1) := by decide +kernel
theorem dX4_add_71 : decode cX4_add 71 = .ok (.putfield 44, 3) := by decide +kernel
theorem dX4_add_74 : decode cX4_add 74 = .ok (.aload 7, 2) := by decide +kernel
theorem dX4_add_76 : decode cX4_add 76 = .ok (.iload 5, 2) := by decide +kernel
theorem dX4_add_78 : decode cX4_add 78 = .ok (.putfield 47, 3) := by decide +kernel
theorem dX4_add_81 : decode cX4_add 81 = .ok (.aload 7, 2) := by decide +kernel
theorem dX4_add_83 : decode cX4_add 83 = .ok (.iconst 0, 1) := by decide +kernel
theorem dX4_add_84 : decode cX4_add 84 = .ok (.putfield 50, 3) := by decide +kernel
theorem dX4_add_87 : decode cX4_add 87 = .ok (.aload_n 0, 1) := by decide +kernel
theorem dX4_add_88 : decode cX4_add 88 = .ok (.iload 6, 2) := by decide +kernel
theorem dX4_add_90 : decode cX4_add 90 = .ok (.iconst 1, 1) := by decide +kernel
theorem dX4_add_91 : decode cX4_add 91 = .ok (.iadd, 1) := by decide +kernel
theorem dX4_add_92 : decode cX4_add 92 = .ok (.putfield 18, 3) := by decide +kernel
theorem dX4_add_95 : decode cX4_add 95 = .ok (.aload_n 0, 1) := by decide +kernel
theorem dX4_add_96 : decode cX4_add 96 = .ok (.dup, 1) := by decide +kernel
theorem dX4_add_97 : decode cX4_add 97 = .ok (.getfield 22, 3) := by decide +kernel
theorem dX4_add_100 : decode cX4_add 100 = .ok (.iconst 1, 1) := by decide +kernel
theorem dX4_add_101 : decode cX4_add 101 = .ok (.iadd, 1) := by decide +kernel
theorem dX4_add_102 : decode cX4_add 102 = .ok (.putfield 22, 3) := by decide +kernel
theorem dX4_add_105 : decode cX4_add 105 = .ok (.aload 7, 2) := by decide +kernel
theorem dX4_add_107 : decode cX4_add 107 = .ok (.areturn, 1) := by decide +kernel
theorem dX4_addOnward_0 : decode cX4_addOnward 0 = .ok (.aload_n 0, 1) := by decide +kernel
theorem dX4_addOnward_1 : decode cX4_addOnward 1 = .ok (.iload_n 2, 1) := by decide +kernel
theorem dX4_addOnward_2 : decode cX4_addOnward 2 = .ok (.aload_n 1, 1) := by decide +kernel
theorem dX4_addOnward_3 : decode cX4_addOnward 3 = .ok (.getfield 32, 3) := by decide +kernel
theorem dX4_addOnward_6 : decode cX4_addOnward 6 = .ok (.aload_n 1, 1) := by decide +kernel
theorem dX4_addOnward_7 : decode cX4_addOnward 7 = .ok (.getfield 35, 3) := by decide +kernel
theorem dX4_addOnward_10 : decode cX4_addOnward 10 = .ok (.iload_n 3, 1) := by decide +kernel
theorem dX4_addOnward_11 : decode cX4_addOnward 11 = .ok (.iload 5, 2) := by decide +kernel
theorem dX4_addOnward_13 : decode cX4_addOnward 13 = .ok (.invokevirtual 53, 3) := by decide +kernel
theorem dX4_addOnward_16 : decode cX4_addOnward 16 = .ok (.astore 6, 2) := by decide +kernel
theorem dX4_addOnward_18 : decode cX4_addOnward 18 = .ok (.aload 6, 2) := by decide +kernel
theorem dX4_addOnward_20 : decode cX4_addOnward 20 = .ok (.aload_n 1, 1) := by decide +kernel
theorem dX4_addOnward_21 : decode cX4_addOnward 21 = .ok (.getfield 44, 3) := by decide +kernel
theorem dX4_addOnward_24 : decode cX4_addOnward 24 = .ok (.iconst 1, 1) := by decide +kernel
theorem dX4_addOnward_25 : decode cX4_addOnward 25 = .ok (.iadd, 1) := by decide +kernel
theorem dX4_addOnward_26 : decode cX4_addOnward 26 = .ok (.putfield 44, 3) := by decide +kernel
theorem dX4_addOnward_29 : decode cX4_addOnward 29 = .ok (.aload 6, 2) := by decide +kernel
theorem dX4_addOnward_31 : decode cX4_addOnward 31 = .ok (.iload 4, 2) := by decide +kernel
theorem dX4_addOnward_33 : decode cX4_addOnward 33 = .ok (.putfield 50, 3) := by decide +kernel
theorem dX4_addOnward_36 : decode cX4_addOnward 36 = .ok (.return_, 1) := by decide +kernel
theorem dX4_remove_0 : decode cX4_remove 0 = .ok (.aload_n 1, 1) := by decide +kernel
theorem dX4_remove_1 : decode cX4_remove 1 = .ok (.iconst (-1), 1) := by decide +kernel
theorem dX4_remove_2 : decode cX4_remove 2 = .ok (.putfield 29, 3) := by decide +kernel
theorem dX4_remove_5 : decode cX4_remove 5 = .ok (.aload_n 0, 1) := by decide +kernel
theorem dX4_remove_6 : decode cX4_remove 6 = .ok (.dup, 1) := by decide +kernel
theorem dX4_remove_7 : decode cX4_remove 7 = .ok (.getfield 22, 3) := by decide +kernel
theorem dX4_remove_10 : decode cX4_remove 10 = .ok (.iconst 1, 1) := by decide +kernel
theorem dX4_remove_11 : decode cX4_remove 11 = .ok (.isub, 1) := by decide +kernel
theorem dX4_remove_12 : decode cX4_remove 12 = .ok (.putfield 22, 3) := by decide +kernel
theorem dX4_remove_15 : decode cX4_remove 15 = .ok (.return_, 1) := by decide +kernel
theorem dX4_closeGaps_0 : decode cX4_closeGaps 0 = .ok (.iconst 0, 1) := by decide +kernel
theorem dX4_closeGaps_1 : decode cX4_closeGaps 1 = .ok (.istore_n 1, 1) := by decide +kernel
theorem dX4_closeGaps_2 : decode cX4_closeGaps 2 = .ok (.iconst 0, 1) := by decide +kernel
theorem dX4_closeGaps_3 : decode cX4_closeGaps 3 = .ok (.istore_n 2, 1) := by decide +kernel
theorem dX4_closeGaps_4 : decode cX4_closeGaps 4 = .ok (.iload_n 2, 1) := by decide +kernel
theorem dX4_closeGaps_5 : decode cX4_closeGaps 5 = .ok (.aload_n 0, 1) := by decide +kernel
theorem dX4_closeGaps_6 : decode cX4_closeGaps 6 = .ok (.getfield 18, 3) := by decide +kernel
theorem dX4_closeGaps_9 : decode cX4_closeGaps 9 = .ok (.if_icmp .ge 46, 3) := by decide +kernel
theorem dX4_closeGaps_12 : decode cX4_closeGaps 12 = .ok (.aload_n 0, 1) := by decide +kernel
theorem dX4_closeGaps_13 : decode cX4_closeGaps 13 = .ok (.getfield 11, 3) := by decide +kernel
theorem dX4_closeGaps_16 : decode cX4_closeGaps 16 = .ok (.iload_n 2, 1) := by decide +kernel
theorem dX4_closeGaps_17 : decode cX4_closeGaps 17 = .ok (.aaload, 1) := by decide +kernel
theorem dX4_closeGaps_18 : decode cX4_closeGaps 18 = .ok (.astore_n 3, 1) := by decide +kernel
theorem dX4_closeGaps_19 : decode cX4_closeGaps 19 = .ok (.aload_n 3, 1) := by decide +kernel
theorem dX4_closeGaps_20 : decode cX4_closeGaps 20 = .ok (.getfield 29, 3) := by decide +kernel
theorem dX4_closeGaps_23 : decode cX4_closeGaps 23 = .ok (.iconst (-1), 1) := by decide +kernel
theorem dX4_closeGaps_24 : decode cX4_closeGaps 24 = .ok (.if_icmp .eq 25, 3) := by decide +kernel
theorem dX4_closeGaps_27 : decode cX4_closeGaps 27 = .ok (.aload_n 0, 1) := by decide +kernel
theorem dX4_closeGaps_28 : decode cX4_closeGaps 28 = .ok (.getfield 11, 3) := by decide +kernel
theorem dX4_closeGaps_31 : decode cX4_closeGaps 31 = .ok (.iload_n 2, 1) := by decide +kernel
theorem dX4_closeGaps_32 : decode cX4_closeGaps 32 = .ok (.aload_n 0, 1) := by decide +kernel
theorem dX4_closeGaps_33 : decode cX4_closeGaps 33 = .ok (.getfield 11, 3) := by decide +kernel
theorem dX4_closeGaps_36 : decode cX4_closeGaps 36 = .ok (.iload_n 1, 1) := by decide +kernel
theorem dX4_closeGaps_37 : decode cX4_closeGaps 37 = .ok (.aaload, 1) := by decide +kernel
theorem dX4_closeGaps_38 : decode cX4_closeGaps 38 = .ok (.aastore, 1) := by decide +kernel
theorem dX4_closeGaps_39 : decode cX4_closeGaps 39 = .ok (.aload_n 0, 1) := by decide +kernel
theorem dX4_closeGaps_40 : decode cX4_closeGaps 40 = .ok (.getfield 11, 3) := by decide +kernel
theorem dX4_closeGaps_43 : decode cX4_closeGaps 43 = .ok (.iload_n 1, 1) := by decide +kernel
theorem dX4_closeGaps_44 : decode cX4_closeGaps 44 = .ok (.aload_n 3, 1) := by decide +kernel
theorem dX4_closeGaps_45 : decode cX4_closeGaps 45 = .ok (.aastore, 1) := by decide +kernel
theorem dX4_closeGaps_46 : decode cX4_closeGaps 46 = .ok (.iinc 1 1, 3) := by decide +kernel
theorem dX4_closeGaps_49 : decode cX4_closeGaps 49 = .ok (.iinc 2 1, 3) := by decide +kernel
theorem dX4_closeGaps_52 : decode cX4_closeGaps 52 = .ok (.goto (-48), 3) := by decide +kernel
theorem dX4_closeGaps_55 : decode cX4_closeGaps 55 = .ok (.aload_n 0, 1) := by decide +kernel
theorem dX4_closeGaps_56 : decode cX4_closeGaps 56 = .ok (.iload_n 1, 1) := by decide +kernel
theorem dX4_closeGaps_57 : decode cX4_closeGaps 57 = .ok (.putfield 18, 3) := by decide +kernel
theorem dX4_closeGaps_60 : decode cX4_closeGaps 60 = .ok (.return_, 1) := by decide +kernel
theorem dX4_itemsIn_0 : decode cX4_itemsIn 0 = .ok (.iconst 0, 1) := by decide +kernel
theorem dX4_itemsIn_1 : decode cX4_itemsIn 1 = .ok (.istore_n 2, 1) := by decide +kernel
theorem dX4_itemsIn_2 : decode cX4_itemsIn 2 = .ok (.iconst 0, 1) := by decide +kernel
theorem dX4_itemsIn_3 : decode cX4_itemsIn 3 = .ok (.istore_n 3, 1) := by decide +kernel
theorem dX4_itemsIn_4 : decode cX4_itemsIn 4 = .ok (.iload_n 3, 1) := by decide +kernel
theorem dX4_itemsIn_5 : decode cX4_itemsIn 5 = .ok (.aload_n 0, 1) := by decide +kernel
theorem dX4_itemsIn_6 : decode cX4_itemsIn 6 = .ok (.getfield 18, 3) := by decide +kernel
theorem dX4_itemsIn_9 : decode cX4_itemsIn 9 = .ok (.if_icmp .ge 25, 3) := by decide +kernel
theorem dX4_itemsIn_12 : decode cX4_itemsIn 12 = .ok (.aload_n 0, 1) := by decide +kernel
theorem dX4_itemsIn_13 : decode cX4_itemsIn 13 = .ok (.getfield 11, 3) := by decide +kernel
theorem dX4_itemsIn_16 : decode cX4_itemsIn 16 = .ok (.iload_n 3, 1) := by decide +kernel
theorem dX4_itemsIn_17 : decode cX4_itemsIn 17 = .ok (.aaload, 1) := by decide +kernel
theorem dX4_itemsIn_18 : decode cX4_itemsIn 18 = .ok (.getfield 29, 3) := by decide +kernel
theorem dX4_itemsIn_21 : decode cX4_itemsIn 21 = .ok (.iload_n 1, 1) := by decide +kernel
theorem dX4_itemsIn_22 : decode cX4_itemsIn 22 = .ok (.if_icmp .ne 6, 3) := by decide +kernel
theorem dX4_itemsIn_25 : decode cX4_itemsIn 25 = .ok (.iinc 2 1, 3) := by decide +kernel
theorem dX4_itemsIn_28 : decode cX4_itemsIn 28 = .ok (.iinc 3 1, 3) := by decide +kernel
theorem dX4_itemsIn_31 : decode cX4_itemsIn 31 = .ok (.goto (-27), 3) := by decide +kernel
theorem dX4_itemsIn_34 : decode cX4_itemsIn 34 = .ok (.iload_n 2, 1) := by decide +kernel
theorem dX4_itemsIn_35 : decode cX4_itemsIn 35 = .ok (.ireturn, 1) := by decide +kernel
theorem dX4_find_0 : decode cX4_find 0 = .ok (.iload_n 2, 1) := by decide +kernel
theorem dX4_find_1 : decode cX4_find 1 = .ok (.istore_n 3, 1) := by decide +kernel
theorem dX4_find_2 : decode cX4_find 2 = .ok (.iconst 0, 1) := by decide +kernel
theorem dX4_find_3 : decode cX4_find 3 = .ok (.istore 4, 2) := by decide +kernel
theorem dX4_find_5 : decode cX4_find 5 = .ok (.iload 4, 2) := by decide +kernel
theorem dX4_find_7 : decode cX4_find 7 = .ok (.aload_n 0, 1) := by decide +kernel
theorem dX4_find_8 : decode cX4_find 8 = .ok (.getfield 18, 3) := by decide +kernel
theorem dX4_find_11 : decode cX4_find 11 = .ok (.if_icmp .ge 38, 3) := by decide +kernel
theorem dX4_find_14 : decode cX4_find 14 = .ok (.aload_n 0, 1) := by decide +kernel
theorem dX4_find_15 : decode cX4_find 15 = .ok (.getfield 11, 3) := by decide +kernel
theorem dX4_find_18 : decode cX4_find 18 = .ok (.iload 4, 2) := by decide +kernel
theorem dX4_find_20 : decode cX4_find 20 = .ok (.aaload, 1) := by decide +kernel
theorem dX4_find_21 : decode cX4_find 21 = .ok (.getfield 29, 3) := by decide +kernel
theorem dX4_find_24 : decode cX4_find 24 = .ok (.iload_n 1, 1) := by decide +kernel
theorem dX4_find_25 : decode cX4_find 25 = .ok (.if_icmp .ne 18, 3) := by decide +kernel
theorem dX4_find_28 : decode cX4_find 28 = .ok (.iload_n 3, 1) := by decide +kernel
theorem dX4_find_29 : decode cX4_find 29 = .ok (.ifCond .ne 11, 3) := by decide +kernel
theorem dX4_find_32 : decode cX4_find 32 = .ok (.aload_n 0, 1) := by decide +kernel
theorem dX4_find_33 : decode cX4_find 33 = .ok (.getfield 11, 3) := by decide +kernel
theorem dX4_find_36 : decode cX4_find 36 = .ok (.iload 4, 2) := by decide +kernel
theorem dX4_find_38 : decode cX4_find 38 = .ok (.aaload, 1) := by decide +kernel
theorem dX4_find_39 : decode cX4_find 39 = .ok (.areturn, 1) := by decide +kernel
theorem dX4_find_40 : decode cX4_find 40 = .ok (.iinc 3 (-1), 3) := by decide +kernel
theorem dX4_find_43 : decode cX4_find 43 = .ok (.iinc 4 1, 3) := by decide +kernel
theorem dX4_find_46 : decode cX4_find 46 = .ok (.goto (-41), 3) := by decide +kernel
theorem dX4_find_49 : decode cX4_find 49 = .ok (.aconst_null, 1) := by decide +kernel
theorem dX4_find_50 : decode cX4_find 50 = .ok (.areturn, 1) := by decide +kernel
