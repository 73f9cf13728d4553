/-! rows that decode: printed -/
theorem dX11_init_0 : decode cX11_init 0 = .ok (.aload_n 0, 1) := by decide +kernel
theorem dX11_init_1 : decode cX11_init 1 = .ok (.invokespecial 1, 3) := by decide +kernel
theorem dX11_init_4 : decode cX11_init 4 = .ok (.aload_n 0, 1) := by decide +kernel
theorem dX11_init_5 : decode cX11_init 5 = .ok (.sipush 1583, 3) := by decide +kernel
theorem dX11_init_8 : decode cX11_init 8 = .ok (.newarray .int, 2) := by decide +kernel
theorem dX11_init_10 : decode cX11_init 10 = .ok (.putfield 7, 3) := by decide +kernel
theorem dX11_init_13 : decode cX11_init 13 = .ok (.aload_n 0, 1) := by decide +kernel
theorem dX11_init_14 : decode cX11_init 14 = .ok (.sipush 246, 3) := by decide +kernel
theorem dX11_init_17 : decode cX11_init 17 = .ok (.newarray .int, 2) := by decide +kernel
theorem dX11_init_19 : decode cX11_init 19 = .ok (.putfield 13, 3) := by decide +kernel
theorem dX11_init_22 : decode cX11_init 22 = .ok (.aload_n 0, 1) := by decide +kernel
theorem dX11_init_23 : decode cX11_init 23 = .ok (.sipush 3166, 3) := by decide +kernel
theorem dX11_init_26 : decode cX11_init 26 = .ok (.newarray .int, 2) := by decide +kernel
theorem dX11_init_28 : decode cX11_init 28 = .ok (.putfield 16, 3) := by decide +kernel
theorem dX11_init_31 : decode cX11_init 31 = .ok (.aload_n 0, 1) := by decide +kernel
theorem dX11_init_32 : decode cX11_init 32 = .ok (.iconst 2, 1) := by decide +kernel
theorem dX11_init_33 : decode cX11_init 33 = .ok (.newarray .boolean, 2) := by decide +kernel
theorem dX11_init_35 : decode cX11_init 35 = .ok (.putfield 19, 3) := by decide +kernel
theorem dX11_init_38 : decode cX11_init 38 = .ok (.aload_n 0, 1) := by decide +kernel
theorem dX11_init_39 : decode cX11_init 39 = .ok (.sipush 1583, 3) := by decide +kernel
theorem dX11_init_42 : decode cX11_init 42 = .ok (.newarray .int, 2) := by decide +kernel
theorem dX11_init_44 : decode cX11_init 44 = .ok (.putfield 23, 3) := by decide +kernel
theorem dX11_init_47 : decode cX11_init 47 = .ok (.aload_n 0, 1) := by decide +kernel
theorem dX11_init_48 : decode cX11_init 48 = .ok (.sipush 200, 3) := by decide +kernel
theorem dX11_init_51 : decode cX11_init 51 = .ok (.newarray .int, 2) := by decide +kernel
theorem dX11_init_53 : decode cX11_init 53 = .ok (.putfield 26, 3) := by decide +kernel
theorem dX11_init_56 : decode cX11_init 56 = .ok (.aload_n 0, 1) := by decide +kernel
theorem dX11_init_57 : decode cX11_init 57 = .ok (.bipush 32, 2) := by decide +kernel
theorem dX11_init_59 : decode cX11_init 59 = .ok (.newarray .boolean, 2) := by decide +kernel
theorem dX11_init_61 : decode cX11_init 61 = .ok (.putfield 29, 3) := by decide +kernel
theorem dX11_init_64 : decode cX11_init 64 = .ok (.aload_n 0, 1) := by decide +kernel
theorem dX11_init_65 : decode cX11_init 65 = .ok (.bipush 8, 2) := by decide +kernel
theorem dX11_init_67 : decode cX11_init 67 = .ok (.newarray .int, 2) := by decide +kernel
theorem dX11_init_69 : decode cX11_init 69 = .ok (.putfield 32, 3) := by decide +kernel
theorem dX11_init_72 : decode cX11_init 72 = .ok (.aload_n 0, 1) := by decide +kernel
theorem dX11_init_73 : decode cX11_init 73 = .ok (.iconst 4, 1) := by decide +kernel
theorem dX11_init_74 : decode cX11_init 74 = .ok (.newarray .boolean, 2) := by decide +kernel
theorem dX11_init_76 : decode cX11_init 76 = .ok (.putfield 35, 3) := by decide +kernel
theorem dX11_init_79 : decode cX11_init 79 = .ok (.aload_n 0, 1) := by decide +kernel
theorem dX11_init_80 : decode cX11_init 80 = .ok (.iconst 4, 1) := by decide +kernel
theorem dX11_init_81 : decode cX11_init 81 = .ok (.newarray .int, 2) := by decide +kernel
theorem dX11_init_83 : decode cX11_init 83 = .ok (.putfield 38, 3) := by decide +kernel
theorem dX11_init_86 : decode cX11_init 86 = .ok (.aload_n 0, 1) := by decide +kernel
theorem dX11_init_87 : decode cX11_init 87 = .ok (.iconst 4, 1) := by decide +kernel
theorem dX11_init_88 : decode cX11_init 88 = .ok (.newarray .int, 2) := by decide +kernel
theorem dX11_init_90 : decode cX11_init 90 = .ok (.putfield 41, 3) := by decide +kernel
theorem dX11_init_93 : decode cX11_init 93 = .ok (.aload_n 0, 1) := by decide +kernel
theorem dX11_init_94 : decode cX11_init 94 = .ok (.sipush 160, 3) := by decide +kernel
theorem dX11_init_97 : decode cX11_init 97 = .ok (.newarray .int, 2) := by decide +kernel
theorem dX11_init_99 : decode cX11_init 99 = .ok (.putfield 44, 3) := by decide +kernel
theorem dX11_init_102 : decode cX11_init 102 = .ok (.iconst 0, 1) := by decide +kernel
theorem dX11_init_103 : decode cX11_init 103 = .ok (.istore_n 1, 1) := by decide +kernel
theorem dX11_init_104 : decode cX11_init 104 = .ok (.iload_n 1, 1) := by decide +kernel
theorem dX11_init_105 : decode cX11_init 105 = .ok (.iconst 4, 1) := by decide +kernel
theorem dX11_init_106 : decode cX11_init 106 = .ok (.if_icmp .ge 17, 3) := by decide +kernel
theorem dX11_init_109 : decode cX11_init 109 = .ok (.aload_n 0, 1) := by decide +kernel
theorem dX11_init_110 : decode cX11_init 110 = .ok (.getfield 38, 3) := by decide +kernel
theorem dX11_init_113 : decode cX11_init 113 = .ok (.iload_n 1, 1) := by decide +kernel
theorem dX11_init_114 : decode cX11_init 114 = .ok (.bipush (-4), 2) := by decide +kernel
theorem dX11_init_116 : decode cX11_init 116 = .ok (.iastore, 1) := by decide +kernel
theorem dX11_init_117 : decode cX11_init 117 = .ok (.iinc 1 1, 3) := by decide +kernel
theorem dX11_init_120 : decode cX11_init 120 = .ok (.goto (-16), 3) := by decide +kernel
theorem dX11_init_123 : decode cX11_init 123 = .ok (.aload_n 0, 1) := by decide +kernel
theorem dX11_init_124 : decode cX11_init 124 = .ok (.invokevirtual 47, 3) := by decide +kernel
theorem dX11_init_127 : decode cX11_init 127 = .ok (.return_, 1) := by decide +kernel
theorem dX11_in_0 : decode cX11_in 0 = .ok (.lload_n 0, 1) := by decide +kernel
theorem dX11_in_1 : decode cX11_in 1 = .ok (.lload_n 2, 1) := by decide +kernel
theorem dX11_in_2 : decode cX11_in 2 = .ok (.lcmp, 1) := by decide +kernel
theorem dX11_in_3 : decode cX11_in 3 = .ok (.ifCond .lt 14, 3) := by decide +kernel
theorem dX11_in_6 : decode cX11_in 6 = .ok (.lload_n 0, 1) := by decide +kernel
theorem dX11_in_7 : decode cX11_in 7 = .ok (.lload 4, 2) := by decide +kernel
theorem dX11_in_9 : decode cX11_in 9 = .ok (.lcmp, 1) := by decide +kernel
theorem dX11_in_10 : decode cX11_in 10 = .ok (.ifCond .gt 7, 3) := by decide +kernel
theorem dX11_in_13 : decode cX11_in 13 = .ok (.iconst 1, 1) := by decide +kernel
theorem dX11_in_14 : decode cX11_in 14 = .ok (.goto 4, 3) := by decide +kernel
theorem dX11_in_17 : decode cX11_in 17 = .ok (.iconst 0, 1) := by decide +kernel
theorem dX11_in_18 : decode cX11_in 18 = .ok (.ireturn, 1) := by decide +kernel
theorem dX11_flag_0 : decode cX11_flag 0 = .ok (.iload_n 0, 1) := by decide +kernel
theorem dX11_flag_1 : decode cX11_flag 1 = .ok (.ifCond .eq 7, 3) := by decide +kernel
theorem dX11_flag_4 : decode cX11_flag 4 = .ok (.iconst 1, 1) := by decide +kernel
theorem dX11_flag_5 : decode cX11_flag 5 = .ok (.goto 4, 3) := by decide +kernel
theorem dX11_flag_8 : decode cX11_flag 8 = .ok (.iconst 0, 1) := by decide +kernel
theorem dX11_flag_9 : decode cX11_flag 9 = .ok (.ireturn, 1) := by decide +kernel
theorem dX11_anew_0 : decode cX11_anew 0 = .ok (.iconst 2, 1) := by decide +kernel
theorem dX11_anew_1 : decode cX11_anew 1 = .ok (.istore_n 1, 1) := by decide +kernel
theorem dX11_anew_2 : decode cX11_anew 2 = .ok (.iload_n 1, 1) := by decide +kernel
theorem dX11_anew_3 : decode cX11_anew 3 = .ok (.bipush 16, 2) := by decide +kernel
theorem dX11_anew_5 : decode cX11_anew 5 = .ok (.if_icmp .ge 16, 3) := by decide +kernel
theorem dX11_anew_8 : decode cX11_anew 8 = .ok (.aload_n 0, 1) := by decide +kernel
theorem dX11_anew_9 : decode cX11_anew 9 = .ok (.getfield 7, 3) := by decide +kernel
theorem dX11_anew_12 : decode cX11_anew 12 = .ok (.iload_n 1, 1) := by decide +kernel
theorem dX11_anew_13 : decode cX11_anew 13 = .ok (.iconst 0, 1) := by decide +kernel
theorem dX11_anew_14 : decode cX11_anew 14 = .ok (.iastore, 1) := by decide +kernel
theorem dX11_anew_15 : decode cX11_anew 15 = .ok (.iinc 1 1, 3) := by decide +kernel
theorem dX11_anew_18 : decode cX11_anew 18 = .ok (.goto (-16), 3) := by decide +kernel
theorem dX11_anew_21 : decode cX11_anew 21 = .ok (.sipush 246, 3) := by decide +kernel
theorem dX11_anew_24 : decode cX11_anew 24 = .ok (.istore_n 1, 1) := by decide +kernel
theorem dX11_anew_25 : decode cX11_anew 25 = .ok (.iload_n 1, 1) := by decide +kernel
theorem dX11_anew_26 : decode cX11_anew 26 = .ok (.sipush 1583, 3) := by decide +kernel
theorem dX11_anew_29 : decode cX11_anew 29 = .ok (.if_icmp .ge 16, 3) := by decide +kernel
theorem dX11_anew_32 : decode cX11_anew 32 = .ok (.aload_n 0, 1) := by decide +kernel
theorem dX11_anew_33 : decode cX11_anew 33 = .ok (.getfield 7, 3) := by decide +kernel
theorem dX11_anew_36 : decode cX11_anew 36 = .ok (.iload_n 1, 1) := by decide +kernel
theorem dX11_anew_37 : decode cX11_anew 37 = .ok (.iconst 0, 1) := by decide +kernel
theorem dX11_anew_38 : decode cX11_anew 38 = .ok (.iastore, 1) := by decide +kernel
theorem dX11_anew_39 : decode cX11_anew 39 = .ok (.iinc 1 1, 3) := by decide +kernel
theorem dX11_anew_42 : decode cX11_anew 42 = .ok (.goto (-17), 3) := by decide +kernel
theorem dX11_anew_45 : decode cX11_anew 45 = .ok (.iconst 0, 1) := by decide +kernel
theorem dX11_anew_46 : decode cX11_anew 46 = .ok (.istore_n 1, 1) := by decide +kernel
theorem dX11_anew_47 : decode cX11_anew 47 = .ok (.iload_n 1, 1) := by decide +kernel
theorem dX11_anew_48 : decode cX11_anew 48 = .ok (.iconst 5, 1) := by decide +kernel
theorem dX11_anew_49 : decode cX11_anew 49 = .ok (.if_icmp .ge 23, 3) := by decide +kernel
theorem dX11_anew_52 : decode cX11_anew 52 = .ok (.aload_n 0, 1) := by decide +kernel
theorem dX11_anew_53 : decode cX11_anew 53 = .ok (.getfield 7, 3) := by decide +kernel
theorem dX11_anew_56 : decode cX11_anew 56 = .ok (.bipush 16, 2) := by decide +kernel
theorem dX11_anew_58 : decode cX11_anew 58 = .ok (.iconst 2, 1) := by decide +kernel
theorem dX11_anew_59 : decode cX11_anew 59 = .ok (.iload_n 1, 1) := by decide +kernel
theorem dX11_anew_60 : decode cX11_anew 60 = .ok (.imul, 1) := by decide +kernel
theorem dX11_anew_61 : decode cX11_anew 61 = .ok (.iadd, 1) := by decide +kernel
theorem dX11_anew_62 : decode cX11_anew 62 = .ok (.iconst 1, 1) := by decide +kernel
theorem dX11_anew_63 : decode cX11_anew 63 = .ok (.iadd, 1) := by decide +kernel
theorem dX11_anew_64 : decode cX11_anew 64 = .ok (.iconst 1, 1) := by decide +kernel
theorem dX11_anew_65 : decode cX11_anew 65 = .ok (.iastore, 1) := by decide +kernel
theorem dX11_anew_66 : decode cX11_anew 66 = .ok (.iinc 1 1, 3) := by decide +kernel
theorem dX11_anew_69 : decode cX11_anew 69 = .ok (.goto (-22), 3) := by decide +kernel
theorem dX11_anew_72 : decode cX11_anew 72 = .ok (.aload_n 0, 1) := by decide +kernel
theorem dX11_anew_73 : decode cX11_anew 73 = .ok (.getfield 19, 3) := by decide +kernel
theorem dX11_anew_76 : decode cX11_anew 76 = .ok (.iconst 0, 1) := by decide +kernel
theorem dX11_anew_77 : decode cX11_anew 77 = .ok (.iconst 0, 1) := by decide +kernel
theorem dX11_anew_78 : decode cX11_anew 78 = .ok (.bastore, 1) := by decide +kernel
theorem dX11_anew_79 : decode cX11_anew 79 = .ok (.aload_n 0, 1) := by decide +kernel
theorem dX11_anew_80 : decode cX11_anew 80 = .ok (.getfield 19, 3) := by decide +kernel
theorem dX11_anew_83 : decode cX11_anew 83 = .ok (.iconst 1, 1) := by decide +kernel
theorem dX11_anew_84 : decode cX11_anew 84 = .ok (.iconst 0, 1) := by decide +kernel
theorem dX11_anew_85 : decode cX11_anew 85 = .ok (.bastore, 1) := by decide +kernel
theorem dX11_anew_86 : decode cX11_anew 86 = .ok (.return_, 1) := by decide +kernel
theorem dX11_feed_0 : decode cX11_feed 0 = .ok (.iload_n 1, 1) := by decide +kernel
theorem dX11_feed_1 : decode cX11_feed 1 = .ok (.i2l, 1) := by decide +kernel
theorem dX11_feed_2 : decode cX11_feed 2 = .ok (.lconst 0, 1) := by decide +kernel
theorem dX11_feed_3 : decode cX11_feed 3 = .ok (.ldc2_w 50, 3) := by decide +kernel
theorem dX11_feed_6 : decode cX11_feed 6 = .ok (.invokestatic 52, 3) := by decide +kernel
theorem dX11_feed_9 : decode cX11_feed 9 = .ok (.ifCond .ne 5, 3) := by decide +kernel
theorem dX11_feed_12 : decode cX11_feed 12 = .ok (.iconst (-1), 1) := by decide +kernel
theorem dX11_feed_13 : decode cX11_feed 13 = .ok (.ireturn, 1) := by decide +kernel
theorem dX11_feed_14 : decode cX11_feed 14 = .ok (.aload_n 0, 1) := by decide +kernel
theorem dX11_feed_15 : decode cX11_feed 15 = .ok (.getfield 56, 3) := by decide +kernel
theorem dX11_feed_18 : decode cX11_feed 18 = .ok (.sipush 200, 3) := by decide +kernel
theorem dX11_feed_21 : decode cX11_feed 21 = .ok (.if_icmp .ne 6, 3) := by decide +kernel
theorem dX11_feed_24 : decode cX11_feed 24 = .ok (.bipush (-3), 2) := by decide +kernel
theorem dX11_feed_26 : decode cX11_feed 26 = .ok (.ireturn, 1) := by decide +kernel
theorem dX11_feed_27 : decode cX11_feed 27 = .ok (.aload_n 0, 1) := by decide +kernel
theorem dX11_feed_28 : decode cX11_feed 28 = .ok (.getfield 26, 3) := by decide +kernel
theorem dX11_feed_31 : decode cX11_feed 31 = .ok (.aload_n 0, 1) := by decide +kernel
theorem dX11_feed_32 : decode cX11_feed 32 = .ok (.getfield 56, 3) := by decide +kernel
theorem dX11_feed_35 : decode cX11_feed 35 = .ok (.iload_n 1, 1) := by decide +kernel
theorem dX11_feed_36 : decode cX11_feed 36 = .ok (.iastore, 1) := by decide +kernel
theorem dX11_feed_37 : decode cX11_feed 37 = .ok (.aload_n 0, 1) := by decide +kernel
theorem dX11_feed_38 : decode cX11_feed 38 = .ok (.dup, 1) := by decide +kernel
theorem dX11_feed_39 : decode cX11_feed 39 = .ok (.getfield 56, 3) := by decide +kernel
theorem dX11_feed_42 : decode cX11_feed 42 = .ok (.iconst 1, 1) := by decide +kernel
theorem dX11_feed_43 : decode cX11_feed 43 = .ok (.iadd, 1) := by decide +kernel
theorem dX11_feed_44 : decode cX11_feed 44 = .ok (.putfield 56, 3) := by decide +kernel
theorem dX11_feed_47 : decode cX11_feed 47 = .ok (.aload_n 0, 1) := by decide +kernel
theorem dX11_feed_48 : decode cX11_feed 48 = .ok (.getfield 56, 3) := by decide +kernel
theorem dX11_feed_51 : decode cX11_feed 51 = .ok (.ireturn, 1) := by decide +kernel
theorem dX11_end_0 : decode cX11_end 0 = .ok (.iload_n 1, 1) := by decide +kernel
theorem dX11_end_1 : decode cX11_end 1 = .ok (.i2l, 1) := by decide +kernel
theorem dX11_end_2 : decode cX11_end 2 = .ok (.lconst 0, 1) := by decide +kernel
theorem dX11_end_3 : decode cX11_end 3 = .ok (.aload_n 0, 1) := by decide +kernel
theorem dX11_end_4 : decode cX11_end 4 = .ok (.getfield 56, 3) := by decide +kernel
theorem dX11_end_7 : decode cX11_end 7 = .ok (.i2l, 1) := by decide +kernel
theorem dX11_end_8 : decode cX11_end 8 = .ok (.invokestatic 52, 3) := by decide +kernel
theorem dX11_end_11 : decode cX11_end 11 = .ok (.ifCond .ne 5, 3) := by decide +kernel
theorem dX11_end_14 : decode cX11_end 14 = .ok (.iconst (-1), 1) := by decide +kernel
theorem dX11_end_15 : decode cX11_end 15 = .ok (.ireturn, 1) := by decide +kernel
theorem dX11_end_16 : decode cX11_end 16 = .ok (.aload_n 0, 1) := by decide +kernel
theorem dX11_end_17 : decode cX11_end 17 = .ok (.getfield 56, 3) := by decide +kernel
theorem dX11_end_20 : decode cX11_end 20 = .ok (.istore_n 2, 1) := by decide +kernel
theorem dX11_end_21 : decode cX11_end 21 = .ok (.aload_n 0, 1) := by decide +kernel
theorem dX11_end_22 : decode cX11_end 22 = .ok (.iload_n 1, 1) := by decide +kernel
theorem dX11_end_23 : decode cX11_end 23 = .ok (.putfield 56, 3) := by decide +kernel
theorem dX11_end_26 : decode cX11_end 26 = .ok (.iload_n 2, 1) := by decide +kernel
theorem dX11_end_27 : decode cX11_end 27 = .ok (.ireturn, 1) := by decide +kernel
theorem dX11_requires_0 : decode cX11_requires 0 = .ok (.iload_n 1, 1) := by decide +kernel
theorem dX11_requires_1 : decode cX11_requires 1 = .ok (.ifCond .ne 23, 3) := by decide +kernel
theorem dX11_requires_4 : decode cX11_requires 4 = .ok (.aload_n 0, 1) := by decide +kernel
theorem dX11_requires_5 : decode cX11_requires 5 = .ok (.getfield 60, 3) := by decide +kernel
theorem dX11_requires_8 : decode cX11_requires 8 = .ok (.ifCond .ne 16, 3) := by decide +kernel
theorem dX11_requires_11 : decode cX11_requires 11 = .ok (.aload_n 0, 1) := by decide +kernel
theorem dX11_requires_12 : decode cX11_requires 12 = .ok (.iload_n 2, 1) := by decide +kernel
theorem dX11_requires_13 : decode cX11_requires 13 = .ok (.putfield 60, 3) := by decide +kernel
theorem dX11_requires_16 : decode cX11_requires 16 = .ok (.aload_n 0, 1) := by decide +kernel
theorem dX11_requires_17 : decode cX11_requires 17 = .ok (.aload_n 0, 1) := by decide +kernel
theorem dX11_requires_18 : decode cX11_requires 18 = .ok (.getfield 63, 3) := by decide +kernel
theorem dX11_requires_21 : decode cX11_requires 21 = .ok (.putfield 66, 3) := by decide +kernel
theorem dX11_requires_24 : decode cX11_requires 24 = .ok (.return_, 1) := by decide +kernel
theorem dX11_byteAt_0 : decode cX11_byteAt 0 = .ok (.iload_n 1, 1) := by decide +kernel
theorem dX11_byteAt_1 : decode cX11_byteAt 1 = .ok (.aload_n 0, 1) := by decide +kernel
theorem dX11_byteAt_2 : decode cX11_byteAt 2 = .ok (.getfield 56, 3) := by decide +kernel
theorem dX11_byteAt_5 : decode cX11_byteAt 5 = .ok (.if_icmp .ge 12, 3) := by decide +kernel
theorem dX11_byteAt_8 : decode cX11_byteAt 8 = .ok (.aload_n 0, 1) := by decide +kernel
theorem dX11_byteAt_9 : decode cX11_byteAt 9 = .ok (.getfield 26, 3) := by decide +kernel
theorem dX11_byteAt_12 : decode cX11_byteAt 12 = .ok (.iload_n 1, 1) := by decide +kernel
theorem dX11_byteAt_13 : decode cX11_byteAt 13 = .ok (.iaload, 1) := by decide +kernel
theorem dX11_byteAt_14 : decode cX11_byteAt 14 = .ok (.goto 4, 3) := by decide +kernel
theorem dX11_byteAt_17 : decode cX11_byteAt 17 = .ok (.iconst (-1), 1) := by decide +kernel
theorem dX11_byteAt_18 : decode cX11_byteAt 18 = .ok (.ireturn, 1) := by decide +kernel
theorem dX11_is_0 : decode cX11_is 0 = .ok (.aload_n 0, 1) := by decide +kernel
theorem dX11_is_1 : decode cX11_is 1 = .ok (.getfield 69, 3) := by decide +kernel
theorem dX11_is_4 : decode cX11_is 4 = .ok (.iconst 1, 1) := by decide +kernel
theorem dX11_is_5 : decode cX11_is 5 = .ok (.if_icmp .ne 68, 3) := by decide +kernel
theorem dX11_is_8 : decode cX11_is 8 = .ok (.aload_n 0, 1) := by decide +kernel
theorem dX11_is_9 : decode cX11_is 9 = .ok (.getfield 72, 3) := by decide +kernel
theorem dX11_is_12 : decode cX11_is 12 = .ok (.aload_n 0, 1) := by decide +kernel
theorem dX11_is_13 : decode cX11_is 13 = .ok (.getfield 63, 3) := by decide +kernel
theorem dX11_is_16 : decode cX11_is 16 = .ok (.isub, 1) := by decide +kernel
theorem dX11_is_17 : decode cX11_is 17 = .ok (.iload_n 1, 1) := by decide +kernel
theorem dX11_is_18 : decode cX11_is 18 = .ok (.if_icmp .ne 55, 3) := by decide +kernel
theorem dX11_is_21 : decode cX11_is 21 = .ok (.aload_n 0, 1) := by decide +kernel
theorem dX11_is_22 : decode cX11_is 22 = .ok (.aload_n 0, 1) := by decide +kernel
theorem dX11_is_23 : decode cX11_is 23 = .ok (.getfield 63, 3) := by decide +kernel
theorem dX11_is_26 : decode cX11_is 26 = .ok (.iload_n 2, 1) := by decide +kernel
theorem dX11_is_27 : decode cX11_is 27 = .ok (.iadd, 1) := by decide +kernel
theorem dX11_is_28 : decode cX11_is 28 = .ok (.invokevirtual 75, 3) := by decide +kernel
theorem dX11_is_31 : decode cX11_is 31 = .ok (.iload_n 3, 1) := by decide +kernel
theorem dX11_is_32 : decode cX11_is 32 = .ok (.if_icmp .ne 41, 3) := by decide +kernel
theorem dX11_is_35 : decode cX11_is 35 = .ok (.aload_n 0, 1) := by decide +kernel
theorem dX11_is_36 : decode cX11_is 36 = .ok (.aload_n 0, 1) := by decide +kernel
theorem dX11_is_37 : decode cX11_is 37 = .ok (.getfield 63, 3) := by decide +kernel
theorem dX11_is_40 : decode cX11_is 40 = .ok (.iload_n 2, 1) := by decide +kernel
theorem dX11_is_41 : decode cX11_is 41 = .ok (.iadd, 1) := by decide +kernel
theorem dX11_is_42 : decode cX11_is 42 = .ok (.iconst 1, 1) := by decide +kernel
theorem dX11_is_43 : decode cX11_is 43 = .ok (.iadd, 1) := by decide +kernel
theorem dX11_is_44 : decode cX11_is 44 = .ok (.invokevirtual 75, 3) := by decide +kernel
theorem dX11_is_47 : decode cX11_is 47 = .ok (.iload 4, 2) := by decide +kernel
theorem dX11_is_49 : decode cX11_is 49 = .ok (.if_icmp .ne 24, 3) := by decide +kernel
theorem dX11_is_52 : decode cX11_is 52 = .ok (.aload_n 0, 1) := by decide +kernel
theorem dX11_is_53 : decode cX11_is 53 = .ok (.aload_n 0, 1) := by decide +kernel
theorem dX11_is_54 : decode cX11_is 54 = .ok (.getfield 63, 3) := by decide +kernel
theorem dX11_is_57 : decode cX11_is 57 = .ok (.iload_n 2, 1) := by decide +kernel
theorem dX11_is_58 : decode cX11_is 58 = .ok (.iadd, 1) := by decide +kernel
theorem dX11_is_59 : decode cX11_is 59 = .ok (.iconst 2, 1) := by decide +kernel
theorem dX11_is_60 : decode cX11_is 60 = .ok (.iadd, 1) := by decide +kernel
theorem dX11_is_61 : decode cX11_is 61 = .ok (.invokevirtual 75, 3) := by decide +kernel
theorem dX11_is_64 : decode cX11_is 64 = .ok (.iload 5, 2) := by decide +kernel
theorem dX11_is_66 : decode cX11_is 66 = .ok (.if_icmp .ne 7, 3) := by decide +kernel
theorem dX11_is_69 : decode cX11_is 69 = .ok (.iconst 1, 1) := by decide +kernel
theorem dX11_is_70 : decode cX11_is 70 = .ok (.goto 4, 3) := by decide +kernel
theorem dX11_is_73 : decode cX11_is 73 = .ok (.iconst 0, 1) := by decide +kernel
theorem dX11_is_74 : decode cX11_is 74 = .ok (.ireturn, 1) := by decide +kernel
theorem dX11_lineNow_0 : decode cX11_lineNow 0 = .ok (.aload_n 0, 1) := by decide +kernel
theorem dX11_lineNow_1 : decode cX11_lineNow 1 = .ok (.iconst 5, 1) := by decide +kernel
theorem dX11_lineNow_2 : decode cX11_lineNow 2 = .ok (.iconst 0, 1) := by decide +kernel
theorem dX11_lineNow_3 : decode cX11_lineNow 3 = .ok (.bipush 104, 2) := by decide +kernel
theorem dX11_lineNow_5 : decode cX11_lineNow 5 = .ok (.bipush 111, 2) := by decide +kernel
theorem dX11_lineNow_7 : decode cX11_lineNow 7 = .ok (.bipush 117, 2) := by decide +kernel
theorem dX11_lineNow_9 : decode cX11_lineNow 9 = .ok (.invokevirtual 79, 3) := by decide +kernel
theorem dX11_lineNow_12 : decode cX11_lineNow 12 = .ok (.ifCond .eq 20, 3) := by decide +kernel
theorem dX11_lineNow_15 : decode cX11_lineNow 15 = .ok (.aload_n 0, 1) := by decide +kernel
theorem dX11_lineNow_16 : decode cX11_lineNow 16 = .ok (.iconst 5, 1) := by decide +kernel
theorem dX11_lineNow_17 : decode cX11_lineNow 17 = .ok (.iconst 2, 1) := by decide +kernel
theorem dX11_lineNow_18 : decode cX11_lineNow 18 = .ok (.bipush 117, 2) := by decide +kernel
theorem dX11_lineNow_20 : decode cX11_lineNow 20 = .ok (.bipush 115, 2) := by decide +kernel
theorem dX11_lineNow_22 : decode cX11_lineNow 22 = .ok (.bipush 101, 2) := by decide +kernel
theorem dX11_lineNow_24 : decode cX11_lineNow 24 = .ok (.invokevirtual 79, 3) := by decide +kernel
theorem dX11_lineNow_27 : decode cX11_lineNow 27 = .ok (.ifCond .eq 5, 3) := by decide +kernel
theorem dX11_lineNow_30 : decode cX11_lineNow 30 = .ok (.iconst 0, 1) := by decide +kernel
theorem dX11_lineNow_31 : decode cX11_lineNow 31 = .ok (.ireturn, 1) := by decide +kernel
theorem dX11_lineNow_32 : decode cX11_lineNow 32 = .ok (.aload_n 0, 1) := by decide +kernel
theorem dX11_lineNow_33 : decode cX11_lineNow 33 = .ok (.bipush 6, 2) := by decide +kernel
theorem dX11_lineNow_35 : decode cX11_lineNow 35 = .ok (.iconst 0, 1) := by decide +kernel
theorem dX11_lineNow_36 : decode cX11_lineNow 36 = .ok (.bipush 100, 2) := by decide +kernel
theorem dX11_lineNow_38 : decode cX11_lineNow 38 = .ok (.bipush 111, 2) := by decide +kernel
theorem dX11_lineNow_40 : decode cX11_lineNow 40 = .ok (.bipush 109, 2) := by decide +kernel
theorem dX11_lineNow_42 : decode cX11_lineNow 42 = .ok (.invokevirtual 79, 3) := by decide +kernel
theorem dX11_lineNow_45 : decode cX11_lineNow 45 = .ok (.ifCond .eq 21, 3) := by decide +kernel
theorem dX11_lineNow_48 : decode cX11_lineNow 48 = .ok (.aload_n 0, 1) := by decide +kernel
theorem dX11_lineNow_49 : decode cX11_lineNow 49 = .ok (.bipush 6, 2) := by decide +kernel
theorem dX11_lineNow_51 : decode cX11_lineNow 51 = .ok (.iconst 3, 1) := by decide +kernel
theorem dX11_lineNow_52 : decode cX11_lineNow 52 = .ok (.bipush 97, 2) := by decide +kernel
theorem dX11_lineNow_54 : decode cX11_lineNow 54 = .ok (.bipush 105, 2) := by decide +kernel
theorem dX11_lineNow_56 : decode cX11_lineNow 56 = .ok (.bipush 110, 2) := by decide +kernel
theorem dX11_lineNow_58 : decode cX11_lineNow 58 = .ok (.invokevirtual 79, 3) := by decide +kernel
theorem dX11_lineNow_61 : decode cX11_lineNow 61 = .ok (.ifCond .eq 5, 3) := by decide +kernel
theorem dX11_lineNow_64 : decode cX11_lineNow 64 = .ok (.iconst 1, 1) := by decide +kernel
theorem dX11_lineNow_65 : decode cX11_lineNow 65 = .ok (.ireturn, 1) := by decide +kernel
theorem dX11_lineNow_66 : decode cX11_lineNow 66 = .ok (.aload_n 0, 1) := by decide +kernel
theorem dX11_lineNow_67 : decode cX11_lineNow 67 = .ok (.iconst 3, 1) := by decide +kernel
theorem dX11_lineNow_68 : decode cX11_lineNow 68 = .ok (.iconst 0, 1) := by decide +kernel
theorem dX11_lineNow_69 : decode cX11_lineNow 69 = .ok (.bipush 98, 2) := by decide +kernel
theorem dX11_lineNow_71 : decode cX11_lineNow 71 = .ok (.bipush 111, 2) := by decide +kernel
theorem dX11_lineNow_73 : decode cX11_lineNow 73 = .ok (.bipush 120, 2) := by decide +kernel
theorem dX11_lineNow_75 : decode cX11_lineNow 75 = .ok (.invokevirtual 79, 3) := by decide +kernel
theorem dX11_lineNow_78 : decode cX11_lineNow 78 = .ok (.ifCond .eq 5, 3) := by decide +kernel
theorem dX11_lineNow_81 : decode cX11_lineNow 81 = .ok (.iconst 2, 1) := by decide +kernel
theorem dX11_lineNow_82 : decode cX11_lineNow 82 = .ok (.ireturn, 1) := by decide +kernel
theorem dX11_lineNow_83 : decode cX11_lineNow 83 = .ok (.aload_n 0, 1) := by decide +kernel
theorem dX11_lineNow_84 : decode cX11_lineNow 84 = .ok (.iconst 5, 1) := by decide +kernel
theorem dX11_lineNow_85 : decode cX11_lineNow 85 = .ok (.iconst 0, 1) := by decide +kernel
theorem dX11_lineNow_86 : decode cX11_lineNow 86 = .ok (.bipush 97, 2) := by decide +kernel
theorem dX11_lineNow_88 : decode cX11_lineNow 88 = .ok (.bipush 108, 2) := by decide +kernel
theorem dX11_lineNow_90 : decode cX11_lineNow 90 = .ok (.bipush 105, 2) := by decide +kernel
theorem dX11_lineNow_92 : decode cX11_lineNow 92 = .ok (.invokevirtual 79, 3) := by decide +kernel
theorem dX11_lineNow_95 : decode cX11_lineNow 95 = .ok (.ifCond .eq 20, 3) := by decide +kernel
theorem dX11_lineNow_98 : decode cX11_lineNow 98 = .ok (.aload_n 0, 1) := by decide +kernel
theorem dX11_lineNow_99 : decode cX11_lineNow 99 = .ok (.iconst 5, 1) := by decide +kernel
theorem dX11_lineNow_100 : decode cX11_lineNow 100 = .ok (.iconst 2, 1) := by decide +kernel
theorem dX11_lineNow_101 : decode cX11_lineNow 101 = .ok (.bipush 105, 2) := by decide +kernel
theorem dX11_lineNow_103 : decode cX11_lineNow 103 = .ok (.bipush 97, 2) := by decide +kernel
theorem dX11_lineNow_105 : decode cX11_lineNow 105 = .ok (.bipush 115, 2) := by decide +kernel
theorem dX11_lineNow_107 : decode cX11_lineNow 107 = .ok (.invokevirtual 79, 3) := by decide +kernel
theorem dX11_lineNow_110 : decode cX11_lineNow 110 = .ok (.ifCond .eq 5, 3) := by decide +kernel
theorem dX11_lineNow_113 : decode cX11_lineNow 113 = .ok (.iconst 3, 1) := by decide +kernel
theorem dX11_lineNow_114 : decode cX11_lineNow 114 = .ok (.ireturn, 1) := by decide +kernel
theorem dX11_lineNow_115 : decode cX11_lineNow 115 = .ok (.aload_n 0, 1) := by decide +kernel
theorem dX11_lineNow_116 : decode cX11_lineNow 116 = .ok (.iconst 4, 1) := by decide +kernel
theorem dX11_lineNow_117 : decode cX11_lineNow 117 = .ok (.iconst 0, 1) := by decide +kernel
theorem dX11_lineNow_118 : decode cX11_lineNow 118 = .ok (.bipush 108, 2) := by decide +kernel
theorem dX11_lineNow_120 : decode cX11_lineNow 120 = .ok (.bipush 105, 2) := by decide +kernel
theorem dX11_lineNow_122 : decode cX11_lineNow 122 = .ok (.bipush 115, 2) := by decide +kernel
theorem dX11_lineNow_124 : decode cX11_lineNow 124 = .ok (.invokevirtual 79, 3) := by decide +kernel
theorem dX11_lineNow_127 : decode cX11_lineNow 127 = .ok (.ifCond .eq 22, 3) := by decide +kernel
theorem dX11_lineNow_130 : decode cX11_lineNow 130 = .ok (.aload_n 0, 1) := by decide +kernel
theorem dX11_lineNow_131 : decode cX11_lineNow 131 = .ok (.iconst 4, 1) := by decide +kernel
theorem dX11_lineNow_132 : decode cX11_lineNow 132 = .ok (.iconst 1, 1) := by decide +kernel
theorem dX11_lineNow_133 : decode cX11_lineNow 133 = .ok (.bipush 105, 2) := by decide +kernel
theorem dX11_lineNow_135 : decode cX11_lineNow 135 = .ok (.bipush 115, 2) := by decide +kernel
theorem dX11_lineNow_137 : decode cX11_lineNow 137 = .ok (.bipush 116, 2) := by decide +kernel
theorem dX11_lineNow_139 : decode cX11_lineNow 139 = .ok (.invokevirtual 79, 3) := by decide +kernel
theorem dX11_lineNow_142 : decode cX11_lineNow 142 = .ok (.ifCond .eq 7, 3) := by decide +kernel
theorem dX11_lineNow_145 : decode cX11_lineNow 145 = .ok (.iconst 4, 1) := by decide +kernel
theorem dX11_lineNow_146 : decode cX11_lineNow 146 = .ok (.goto 5, 3) := by decide +kernel
theorem dX11_lineNow_149 : decode cX11_lineNow 149 = .ok (.bipush (-4), 2) := by decide +kernel
theorem dX11_lineNow_151 : decode cX11_lineNow 151 = .ok (.ireturn, 1) := by decide +kernel
theorem dX11_reads_0 : decode cX11_reads 0 = .ok (.aload_n 0, 1) := by decide +kernel
theorem dX11_reads_1 : decode cX11_reads 1 = .ok (.getfield 60, 3) := by decide +kernel
theorem dX11_reads_4 : decode cX11_reads 4 = .ok (.ifCond .le 4, 3) := by decide +kernel
theorem dX11_reads_7 : decode cX11_reads 7 = .ok (.return_, 1) := by decide +kernel
theorem dX11_reads_8 : decode cX11_reads 8 = .ok (.aload_n 0, 1) := by decide +kernel
theorem dX11_reads_9 : decode cX11_reads 9 = .ok (.aload_n 0, 1) := by decide +kernel
theorem dX11_reads_10 : decode cX11_reads 10 = .ok (.getfield 72, 3) := by decide +kernel
theorem dX11_reads_13 : decode cX11_reads 13 = .ok (.invokevirtual 75, 3) := by decide +kernel
theorem dX11_reads_16 : decode cX11_reads 16 = .ok (.bipush 32, 2) := by decide +kernel
theorem dX11_reads_18 : decode cX11_reads 18 = .ok (.if_icmp .ne 16, 3) := by decide +kernel
theorem dX11_reads_21 : decode cX11_reads 21 = .ok (.aload_n 0, 1) := by decide +kernel
theorem dX11_reads_22 : decode cX11_reads 22 = .ok (.dup, 1) := by decide +kernel
theorem dX11_reads_23 : decode cX11_reads 23 = .ok (.getfield 72, 3) := by decide +kernel
theorem dX11_reads_26 : decode cX11_reads 26 = .ok (.iconst 1, 1) := by decide +kernel
theorem dX11_reads_27 : decode cX11_reads 27 = .ok (.iadd, 1) := by decide +kernel
theorem dX11_reads_28 : decode cX11_reads 28 = .ok (.putfield 72, 3) := by decide +kernel
theorem dX11_reads_31 : decode cX11_reads 31 = .ok (.goto (-23), 3) := by decide +kernel
theorem dX11_reads_34 : decode cX11_reads 34 = .ok (.aload_n 0, 1) := by decide +kernel
theorem dX11_reads_35 : decode cX11_reads 35 = .ok (.aload_n 0, 1) := by decide +kernel
theorem dX11_reads_36 : decode cX11_reads 36 = .ok (.getfield 72, 3) := by decide +kernel
theorem dX11_reads_39 : decode cX11_reads 39 = .ok (.putfield 63, 3) := by decide +kernel
theorem dX11_reads_42 : decode cX11_reads 42 = .ok (.aload_n 0, 1) := by decide +kernel
theorem dX11_reads_43 : decode cX11_reads 43 = .ok (.aload_n 0, 1) := by decide +kernel
theorem dX11_reads_44 : decode cX11_reads 44 = .ok (.getfield 72, 3) := by decide +kernel
theorem dX11_reads_47 : decode cX11_reads 47 = .ok (.invokevirtual 75, 3) := by decide +kernel
theorem dX11_reads_50 : decode cX11_reads 50 = .ok (.istore_n 1, 1) := by decide +kernel
theorem dX11_reads_51 : decode cX11_reads 51 = .ok (.iload_n 1, 1) := by decide +kernel
theorem dX11_reads_52 : decode cX11_reads 52 = .ok (.ifCond .ge 11, 3) := by decide +kernel
theorem dX11_reads_55 : decode cX11_reads 55 = .ok (.aload_n 0, 1) := by decide +kernel
theorem dX11_reads_56 : decode cX11_reads 56 = .ok (.iconst 0, 1) := by decide +kernel
theorem dX11_reads_57 : decode cX11_reads 57 = .ok (.putfield 69, 3) := by decide +kernel
theorem dX11_reads_60 : decode cX11_reads 60 = .ok (.goto 214, 3) := by decide +kernel
theorem dX11_reads_63 : decode cX11_reads 63 = .ok (.iload_n 1, 1) := by decide +kernel
theorem dX11_reads_64 : decode cX11_reads 64 = .ok (.i2l, 1) := by decide +kernel
theorem dX11_reads_65 : decode cX11_reads 65 = .ok (.ldc2_w 83, 3) := by decide +kernel
theorem dX11_reads_68 : decode cX11_reads 68 = .ok (.ldc2_w 85, 3) := by decide +kernel
theorem dX11_reads_71 : decode cX11_reads 71 = .ok (.invokestatic 52, 3) := by decide +kernel
theorem dX11_reads_74 : decode cX11_reads 74 = .ok (.ifCond .eq 42, 3) := by decide +kernel
theorem dX11_reads_77 : decode cX11_reads 77 = .ok (.aload_n 0, 1) := by decide +kernel
theorem dX11_reads_78 : decode cX11_reads 78 = .ok (.iconst 1, 1) := by decide +kernel
theorem dX11_reads_79 : decode cX11_reads 79 = .ok (.putfield 69, 3) := by decide +kernel
theorem dX11_reads_82 : decode cX11_reads 82 = .ok (.aload_n 0, 1) := by decide +kernel
theorem dX11_reads_83 : decode cX11_reads 83 = .ok (.aload_n 0, 1) := by decide +kernel
theorem dX11_reads_84 : decode cX11_reads 84 = .ok (.getfield 72, 3) := by decide +kernel
theorem dX11_reads_87 : decode cX11_reads 87 = .ok (.invokevirtual 75, 3) := by decide +kernel
theorem dX11_reads_90 : decode cX11_reads 90 = .ok (.i2l, 1) := by decide +kernel
theorem dX11_reads_91 : decode cX11_reads 91 = .ok (.ldc2_w 83, 3) := by decide +kernel
theorem dX11_reads_94 : decode cX11_reads 94 = .ok (.ldc2_w 85, 3) := by decide +kernel
theorem dX11_reads_97 : decode cX11_reads 97 = .ok (.invokestatic 52, 3) := by decide +kernel
theorem dX11_reads_100 : decode cX11_reads 100 = .ok (.ifCond .eq 174, 3) := by decide +kernel
theorem dX11_reads_103 : decode cX11_reads 103 = .ok (.aload_n 0, 1) := by decide +kernel
theorem dX11_reads_104 : decode cX11_reads 104 = .ok (.dup, 1) := by decide +kernel
theorem dX11_reads_105 : decode cX11_reads 105 = .ok (.getfield 72, 3) := by decide +kernel
theorem dX11_reads_108 : decode cX11_reads 108 = .ok (.iconst 1, 1) := by decide +kernel
theorem dX11_reads_109 : decode cX11_reads 109 = .ok (.iadd, 1) := by decide +kernel
theorem dX11_reads_110 : decode cX11_reads 110 = .ok (.putfield 72, 3) := by decide +kernel
theorem dX11_reads_113 : decode cX11_reads 113 = .ok (.goto (-31), 3) := by decide +kernel
theorem dX11_reads_116 : decode cX11_reads 116 = .ok (.iload_n 1, 1) := by decide +kernel
theorem dX11_reads_117 : decode cX11_reads 117 = .ok (.i2l, 1) := by decide +kernel
theorem dX11_reads_118 : decode cX11_reads 118 = .ok (.ldc2_w 87, 3) := by decide +kernel
theorem dX11_reads_121 : decode cX11_reads 121 = .ok (.ldc2_w 89, 3) := by decide +kernel
theorem dX11_reads_124 : decode cX11_reads 124 = .ok (.invokestatic 52, 3) := by decide +kernel
theorem dX11_reads_127 : decode cX11_reads 127 = .ok (.ifCond .eq 116, 3) := by decide +kernel
theorem dX11_reads_130 : decode cX11_reads 130 = .ok (.aload_n 0, 1) := by decide +kernel
theorem dX11_reads_131 : decode cX11_reads 131 = .ok (.iconst 2, 1) := by decide +kernel
theorem dX11_reads_132 : decode cX11_reads 132 = .ok (.putfield 69, 3) := by decide +kernel
theorem dX11_reads_135 : decode cX11_reads 135 = .ok (.aload_n 0, 1) := by decide +kernel
theorem dX11_reads_136 : decode cX11_reads 136 = .ok (.iconst 0, 1) := by decide +kernel
theorem dX11_reads_137 : decode cX11_reads 137 = .ok (.putfield 91, 3) := by decide +kernel
theorem dX11_reads_140 : decode cX11_reads 140 = .ok (.aload_n 0, 1) := by decide +kernel
theorem dX11_reads_141 : decode cX11_reads 141 = .ok (.aload_n 0, 1) := by decide +kernel
theorem dX11_reads_142 : decode cX11_reads 142 = .ok (.getfield 72, 3) := by decide +kernel
theorem dX11_reads_145 : decode cX11_reads 145 = .ok (.invokevirtual 75, 3) := by decide +kernel
theorem dX11_reads_148 : decode cX11_reads 148 = .ok (.i2l, 1) := by decide +kernel
theorem dX11_reads_149 : decode cX11_reads 149 = .ok (.ldc2_w 87, 3) := by decide +kernel
theorem dX11_reads_152 : decode cX11_reads 152 = .ok (.ldc2_w 89, 3) := by decide +kernel
theorem dX11_reads_155 : decode cX11_reads 155 = .ok (.invokestatic 52, 3) := by decide +kernel
theorem dX11_reads_158 : decode cX11_reads 158 = .ok (.ifCond .eq 59, 3) := by decide +kernel
theorem dX11_reads_161 : decode cX11_reads 161 = .ok (.aload_n 0, 1) := by decide +kernel
theorem dX11_reads_162 : decode cX11_reads 162 = .ok (.aload_n 0, 1) := by decide +kernel
theorem dX11_reads_163 : decode cX11_reads 163 = .ok (.getfield 72, 3) := by decide +kernel
theorem dX11_reads_166 : decode cX11_reads 166 = .ok (.aload_n 0, 1) := by decide +kernel
theorem dX11_reads_167 : decode cX11_reads 167 = .ok (.getfield 63, 3) := by decide +kernel
theorem dX11_reads_170 : decode cX11_reads 170 = .ok (.isub, 1) := by decide +kernel
theorem dX11_reads_171 : decode cX11_reads 171 = .ok (.iconst 2, 1) := by decide +kernel
theorem dX11_reads_172 : decode cX11_reads 172 = .ok (.if_icmp .ge 25, 3) := by decide +kernel
theorem dX11_reads_175 : decode cX11_reads 175 = .ok (.bipush 10, 2) := by decide +kernel
theorem dX11_reads_177 : decode cX11_reads 177 = .ok (.aload_n 0, 1) := by decide +kernel
theorem dX11_reads_178 : decode cX11_reads 178 = .ok (.getfield 91, 3) := by decide +kernel
theorem dX11_reads_181 : decode cX11_reads 181 = .ok (.imul, 1) := by decide +kernel
theorem dX11_reads_182 : decode cX11_reads 182 = .ok (.aload_n 0, 1) := by decide +kernel
theorem dX11_reads_183 : decode cX11_reads 183 = .ok (.aload_n 0, 1) := by decide +kernel
theorem dX11_reads_184 : decode cX11_reads 184 = .ok (.getfield 72, 3) := by decide +kernel
theorem dX11_reads_187 : decode cX11_reads 187 = .ok (.invokevirtual 75, 3) := by decide +kernel
theorem dX11_reads_190 : decode cX11_reads 190 = .ok (.iadd, 1) := by decide +kernel
theorem dX11_reads_191 : decode cX11_reads 191 = .ok (.bipush 48, 2) := by decide +kernel
theorem dX11_reads_193 : decode cX11_reads 193 = .ok (.isub, 1) := by decide +kernel
theorem dX11_reads_194 : decode cX11_reads 194 = .ok (.goto 7, 3) := by decide +kernel
theorem dX11_reads_197 : decode cX11_reads 197 = .ok (.aload_n 0, 1) := by decide +kernel
theorem dX11_reads_198 : decode cX11_reads 198 = .ok (.getfield 91, 3) := by decide +kernel
theorem dX11_reads_201 : decode cX11_reads 201 = .ok (.putfield 91, 3) := by decide +kernel
theorem dX11_reads_204 : decode cX11_reads 204 = .ok (.aload_n 0, 1) := by decide +kernel
theorem dX11_reads_205 : decode cX11_reads 205 = .ok (.dup, 1) := by decide +kernel
theorem dX11_reads_206 : decode cX11_reads 206 = .ok (.getfield 72, 3) := by decide +kernel
theorem dX11_reads_209 : decode cX11_reads 209 = .ok (.iconst 1, 1) := by decide +kernel
theorem dX11_reads_210 : decode cX11_reads 210 = .ok (.iadd, 1) := by decide +kernel
theorem dX11_reads_211 : decode cX11_reads 211 = .ok (.putfield 72, 3) := by decide +kernel
theorem dX11_reads_214 : decode cX11_reads 214 = .ok (.goto (-74), 3) := by decide +kernel
theorem dX11_reads_217 : decode cX11_reads 217 = .ok (.aload_n 0, 1) := by decide +kernel
theorem dX11_reads_218 : decode cX11_reads 218 = .ok (.aload_n 0, 1) := by decide +kernel
theorem dX11_reads_219 : decode cX11_reads 219 = .ok (.getfield 72, 3) := by decide +kernel
theorem dX11_reads_222 : decode cX11_reads 222 = .ok (.aload_n 0, 1) := by decide +kernel
theorem dX11_reads_223 : decode cX11_reads 223 = .ok (.getfield 63, 3) := by decide +kernel
theorem dX11_reads_226 : decode cX11_reads 226 = .ok (.isub, 1) := by decide +kernel
theorem dX11_reads_227 : decode cX11_reads 227 = .ok (.iconst 2, 1) := by decide +kernel
theorem dX11_reads_228 : decode cX11_reads 228 = .ok (.if_icmp .gt 7, 3) := by decide +kernel
theorem dX11_reads_231 : decode cX11_reads 231 = .ok (.iconst 1, 1) := by decide +kernel
theorem dX11_reads_232 : decode cX11_reads 232 = .ok (.goto 4, 3) := by decide +kernel
theorem dX11_reads_235 : decode cX11_reads 235 = .ok (.iconst 0, 1) := by decide +kernel
theorem dX11_reads_236 : decode cX11_reads 236 = .ok (.iconst 1, 1) := by decide +kernel
theorem dX11_reads_237 : decode cX11_reads 237 = .ok (.invokevirtual 94, 3) := by decide +kernel
theorem dX11_reads_240 : decode cX11_reads 240 = .ok (.goto 34, 3) := by decide +kernel
theorem dX11_reads_243 : decode cX11_reads 243 = .ok (.aload_n 0, 1) := by decide +kernel
theorem dX11_reads_244 : decode cX11_reads 244 = .ok (.iconst 3, 1) := by decide +kernel
theorem dX11_reads_245 : decode cX11_reads 245 = .ok (.putfield 69, 3) := by decide +kernel
theorem dX11_reads_248 : decode cX11_reads 248 = .ok (.aload_n 0, 1) := by decide +kernel
theorem dX11_reads_249 : decode cX11_reads 249 = .ok (.iload_n 1, 1) := by decide +kernel
theorem dX11_reads_250 : decode cX11_reads 250 = .ok (.bipush 59, 2) := by decide +kernel
theorem dX11_reads_252 : decode cX11_reads 252 = .ok (.if_icmp .ne 7, 3) := by decide +kernel
theorem dX11_reads_255 : decode cX11_reads 255 = .ok (.iconst 1, 1) := by decide +kernel
theorem dX11_reads_256 : decode cX11_reads 256 = .ok (.goto 4, 3) := by decide +kernel
theorem dX11_reads_259 : decode cX11_reads 259 = .ok (.iconst 0, 1) := by decide +kernel
theorem dX11_reads_260 : decode cX11_reads 260 = .ok (.iconst 1, 1) := by decide +kernel
theorem dX11_reads_261 : decode cX11_reads 261 = .ok (.invokevirtual 94, 3) := by decide +kernel
theorem dX11_reads_264 : decode cX11_reads 264 = .ok (.aload_n 0, 1) := by decide +kernel
theorem dX11_reads_265 : decode cX11_reads 265 = .ok (.dup, 1) := by decide +kernel
theorem dX11_reads_266 : decode cX11_reads 266 = .ok (.getfield 72, 3) := by decide +kernel
theorem dX11_reads_269 : decode cX11_reads 269 = .ok (.iconst 1, 1) := by decide +kernel
theorem dX11_reads_270 : decode cX11_reads 270 = .ok (.iadd, 1) := by decide +kernel
theorem dX11_reads_271 : decode cX11_reads 271 = .ok (.putfield 72, 3) := by decide +kernel
theorem dX11_reads_274 : decode cX11_reads 274 = .ok (.return_, 1) := by decide +kernel
theorem dX11_numberNow_0 : decode cX11_numberNow 0 = .ok (.aload_n 0, 1) := by decide +kernel
theorem dX11_numberNow_1 : decode cX11_numberNow 1 = .ok (.getfield 60, 3) := by decide +kernel
theorem dX11_numberNow_4 : decode cX11_numberNow 4 = .ok (.ifCond .ne 21, 3) := by decide +kernel
theorem dX11_numberNow_7 : decode cX11_numberNow 7 = .ok (.aload_n 0, 1) := by decide +kernel
theorem dX11_numberNow_8 : decode cX11_numberNow 8 = .ok (.aload_n 0, 1) := by decide +kernel
theorem dX11_numberNow_9 : decode cX11_numberNow 9 = .ok (.getfield 69, 3) := by decide +kernel
theorem dX11_numberNow_12 : decode cX11_numberNow 12 = .ok (.iconst 2, 1) := by decide +kernel
theorem dX11_numberNow_13 : decode cX11_numberNow 13 = .ok (.if_icmp .ne 7, 3) := by decide +kernel
theorem dX11_numberNow_16 : decode cX11_numberNow 16 = .ok (.iconst 1, 1) := by decide +kernel
theorem dX11_numberNow_17 : decode cX11_numberNow 17 = .ok (.goto 4, 3) := by decide +kernel
theorem dX11_numberNow_20 : decode cX11_numberNow 20 = .ok (.iconst 0, 1) := by decide +kernel
theorem dX11_numberNow_21 : decode cX11_numberNow 21 = .ok (.iconst 2, 1) := by decide +kernel
theorem dX11_numberNow_22 : decode cX11_numberNow 22 = .ok (.invokevirtual 94, 3) := by decide +kernel
theorem dX11_numberNow_25 : decode cX11_numberNow 25 = .ok (.aload_n 0, 1) := by decide +kernel
theorem dX11_numberNow_26 : decode cX11_numberNow 26 = .ok (.getfield 60, 3) := by decide +kernel
theorem dX11_numberNow_29 : decode cX11_numberNow 29 = .ok (.ifCond .ne 21, 3) := by decide +kernel
theorem dX11_numberNow_32 : decode cX11_numberNow 32 = .ok (.aload_n 0, 1) := by decide +kernel
theorem dX11_numberNow_33 : decode cX11_numberNow 33 = .ok (.aload_n 0, 1) := by decide +kernel
theorem dX11_numberNow_34 : decode cX11_numberNow 34 = .ok (.getfield 91, 3) := by decide +kernel
theorem dX11_numberNow_37 : decode cX11_numberNow 37 = .ok (.iload_n 1, 1) := by decide +kernel
theorem dX11_numberNow_38 : decode cX11_numberNow 38 = .ok (.if_icmp .gt 7, 3) := by decide +kernel
theorem dX11_numberNow_41 : decode cX11_numberNow 41 = .ok (.iconst 1, 1) := by decide +kernel
theorem dX11_numberNow_42 : decode cX11_numberNow 42 = .ok (.goto 4, 3) := by decide +kernel
theorem dX11_numberNow_45 : decode cX11_numberNow 45 = .ok (.iconst 0, 1) := by decide +kernel
theorem dX11_numberNow_46 : decode cX11_numberNow 46 = .ok (.iconst 3, 1) := by decide +kernel
theorem dX11_numberNow_47 : decode cX11_numberNow 47 = .ok (.invokevirtual 94, 3) := by decide +kernel
theorem dX11_numberNow_50 : decode cX11_numberNow 50 = .ok (.aload_n 0, 1) := by decide +kernel
theorem dX11_numberNow_51 : decode cX11_numberNow 51 = .ok (.getfield 60, 3) := by decide +kernel
theorem dX11_numberNow_54 : decode cX11_numberNow 54 = .ok (.ifCond .ne 10, 3) := by decide +kernel
theorem dX11_numberNow_57 : decode cX11_numberNow 57 = .ok (.aload_n 0, 1) := by decide +kernel
theorem dX11_numberNow_58 : decode cX11_numberNow 58 = .ok (.getfield 91, 3) := by decide +kernel
theorem dX11_numberNow_61 : decode cX11_numberNow 61 = .ok (.goto 4, 3) := by decide +kernel
theorem dX11_numberNow_64 : decode cX11_numberNow 64 = .ok (.iconst 0, 1) := by decide +kernel
theorem dX11_numberNow_65 : decode cX11_numberNow 65 = .ok (.ireturn, 1) := by decide +kernel
theorem dX11_readNumber_0 : decode cX11_readNumber 0 = .ok (.aload_n 0, 1) := by decide +kernel
theorem dX11_readNumber_1 : decode cX11_readNumber 1 = .ok (.iload_n 1, 1) := by decide +kernel
theorem dX11_readNumber_2 : decode cX11_readNumber 2 = .ok (.invokevirtual 98, 3) := by decide +kernel
theorem dX11_readNumber_5 : decode cX11_readNumber 5 = .ok (.istore_n 2, 1) := by decide +kernel
theorem dX11_readNumber_6 : decode cX11_readNumber 6 = .ok (.aload_n 0, 1) := by decide +kernel
theorem dX11_readNumber_7 : decode cX11_readNumber 7 = .ok (.invokevirtual 101, 3) := by decide +kernel
theorem dX11_readNumber_10 : decode cX11_readNumber 10 = .ok (.iload_n 2, 1) := by decide +kernel
theorem dX11_readNumber_11 : decode cX11_readNumber 11 = .ok (.ireturn, 1) := by decide +kernel
theorem dX11_readHouse_0 : decode cX11_readHouse 0 = .ok (.aload_n 0, 1) := by decide +kernel
theorem dX11_readHouse_1 : decode cX11_readHouse 1 = .ok (.iconst 4, 1) := by decide +kernel
theorem dX11_readHouse_2 : decode cX11_readHouse 2 = .ok (.iconst 0, 1) := by decide +kernel
theorem dX11_readHouse_3 : decode cX11_readHouse 3 = .ok (.bipush 119, 2) := by decide +kernel
theorem dX11_readHouse_5 : decode cX11_readHouse 5 = .ok (.bipush 97, 2) := by decide +kernel
theorem dX11_readHouse_7 : decode cX11_readHouse 7 = .ok (.bipush 114, 2) := by decide +kernel
theorem dX11_readHouse_9 : decode cX11_readHouse 9 = .ok (.invokevirtual 79, 3) := by decide +kernel
theorem dX11_readHouse_12 : decode cX11_readHouse 12 = .ok (.ifCond .eq 22, 3) := by decide +kernel
theorem dX11_readHouse_15 : decode cX11_readHouse 15 = .ok (.aload_n 0, 1) := by decide +kernel
theorem dX11_readHouse_16 : decode cX11_readHouse 16 = .ok (.iconst 4, 1) := by decide +kernel
theorem dX11_readHouse_17 : decode cX11_readHouse 17 = .ok (.iconst 1, 1) := by decide +kernel
theorem dX11_readHouse_18 : decode cX11_readHouse 18 = .ok (.bipush 97, 2) := by decide +kernel
theorem dX11_readHouse_20 : decode cX11_readHouse 20 = .ok (.bipush 114, 2) := by decide +kernel
theorem dX11_readHouse_22 : decode cX11_readHouse 22 = .ok (.bipush 121, 2) := by decide +kernel
theorem dX11_readHouse_24 : decode cX11_readHouse 24 = .ok (.invokevirtual 79, 3) := by decide +kernel
theorem dX11_readHouse_27 : decode cX11_readHouse 27 = .ok (.ifCond .eq 7, 3) := by decide +kernel
theorem dX11_readHouse_30 : decode cX11_readHouse 30 = .ok (.iconst 1, 1) := by decide +kernel
theorem dX11_readHouse_31 : decode cX11_readHouse 31 = .ok (.goto 4, 3) := by decide +kernel
theorem dX11_readHouse_34 : decode cX11_readHouse 34 = .ok (.iconst 0, 1) := by decide +kernel
theorem dX11_readHouse_35 : decode cX11_readHouse 35 = .ok (.istore_n 1, 1) := by decide +kernel
theorem dX11_readHouse_36 : decode cX11_readHouse 36 = .ok (.aload_n 0, 1) := by decide +kernel
theorem dX11_readHouse_37 : decode cX11_readHouse 37 = .ok (.getfield 13, 3) := by decide +kernel
theorem dX11_readHouse_40 : decode cX11_readHouse 40 = .ok (.bipush 16, 2) := by decide +kernel
theorem dX11_readHouse_42 : decode cX11_readHouse 42 = .ok (.iconst 2, 1) := by decide +kernel
theorem dX11_readHouse_43 : decode cX11_readHouse 43 = .ok (.aload_n 0, 1) := by decide +kernel
theorem dX11_readHouse_44 : decode cX11_readHouse 44 = .ok (.getfield 13, 3) := by decide +kernel
theorem dX11_readHouse_47 : decode cX11_readHouse 47 = .ok (.iconst 0, 1) := by decide +kernel
theorem dX11_readHouse_48 : decode cX11_readHouse 48 = .ok (.iaload, 1) := by decide +kernel
theorem dX11_readHouse_49 : decode cX11_readHouse 49 = .ok (.imul, 1) := by decide +kernel
theorem dX11_readHouse_50 : decode cX11_readHouse 50 = .ok (.iadd, 1) := by decide +kernel
theorem dX11_readHouse_51 : decode cX11_readHouse 51 = .ok (.iload_n 1, 1) := by decide +kernel
theorem dX11_readHouse_52 : decode cX11_readHouse 52 = .ok (.invokestatic 104, 3) := by decide +kernel
theorem dX11_readHouse_55 : decode cX11_readHouse 55 = .ok (.iastore, 1) := by decide +kernel
theorem dX11_readHouse_56 : decode cX11_readHouse 56 = .ok (.aload_n 0, 1) := by decide +kernel
theorem dX11_readHouse_57 : decode cX11_readHouse 57 = .ok (.getfield 13, 3) := by decide +kernel
theorem dX11_readHouse_60 : decode cX11_readHouse 60 = .ok (.iconst 0, 1) := by decide +kernel
theorem dX11_readHouse_61 : decode cX11_readHouse 61 = .ok (.dup2, 1) := by decide +kernel
theorem dX11_readHouse_62 : decode cX11_readHouse 62 = .ok (.iaload, 1) := by decide +kernel
theorem dX11_readHouse_63 : decode cX11_readHouse 63 = .ok (.iconst 1, 1) := by decide +kernel
theorem dX11_readHouse_64 : decode cX11_readHouse 64 = .ok (.iadd, 1) := by decide +kernel
theorem dX11_readHouse_65 : decode cX11_readHouse 65 = .ok (.iastore, 1) := by decide +kernel
theorem dX11_readHouse_66 : decode cX11_readHouse 66 = .ok (.iload_n 1, 1) := by decide +kernel
theorem dX11_readHouse_67 : decode cX11_readHouse 67 = .ok (.ifCond .eq 7, 3) := by decide +kernel
theorem dX11_readHouse_70 : decode cX11_readHouse 70 = .ok (.aload_n 0, 1) := by decide +kernel
theorem dX11_readHouse_71 : decode cX11_readHouse 71 = .ok (.invokevirtual 101, 3) := by decide +kernel
theorem dX11_readHouse_74 : decode cX11_readHouse 74 = .ok (.return_, 1) := by decide +kernel
theorem dX11_readReceiver_0 : decode cX11_readReceiver 0 = .ok (.aload_n 0, 1) := by decide +kernel
theorem dX11_readReceiver_1 : decode cX11_readReceiver 1 = .ok (.aload_n 0, 1) := by decide +kernel
theorem dX11_readReceiver_2 : decode cX11_readReceiver 2 = .ok (.getfield 13, 3) := by decide +kernel
theorem dX11_readReceiver_5 : decode cX11_readReceiver 5 = .ok (.iload_n 1, 1) := by decide +kernel
theorem dX11_readReceiver_6 : decode cX11_readReceiver 6 = .ok (.iaload, 1) := by decide +kernel
theorem dX11_readReceiver_7 : decode cX11_readReceiver 7 = .ok (.iconst 3, 1) := by decide +kernel
theorem dX11_readReceiver_8 : decode cX11_readReceiver 8 = .ok (.if_icmp .ge 7, 3) := by decide +kernel
theorem dX11_readReceiver_11 : decode cX11_readReceiver 11 = .ok (.iconst 1, 1) := by decide +kernel
theorem dX11_readReceiver_12 : decode cX11_readReceiver 12 = .ok (.goto 4, 3) := by decide +kernel
theorem dX11_readReceiver_15 : decode cX11_readReceiver 15 = .ok (.iconst 0, 1) := by decide +kernel
theorem dX11_readReceiver_16 : decode cX11_readReceiver 16 = .ok (.iconst 2, 1) := by decide +kernel
theorem dX11_readReceiver_17 : decode cX11_readReceiver 17 = .ok (.invokevirtual 94, 3) := by decide +kernel
theorem dX11_readReceiver_20 : decode cX11_readReceiver 20 = .ok (.aload_n 0, 1) := by decide +kernel
theorem dX11_readReceiver_21 : decode cX11_readReceiver 21 = .ok (.iconst 4, 1) := by decide +kernel
theorem dX11_readReceiver_22 : decode cX11_readReceiver 22 = .ok (.invokevirtual 98, 3) := by decide +kernel
theorem dX11_readReceiver_25 : decode cX11_readReceiver 25 = .ok (.istore_n 2, 1) := by decide +kernel
theorem dX11_readReceiver_26 : decode cX11_readReceiver 26 = .ok (.iconst 0, 1) := by decide +kernel
theorem dX11_readReceiver_27 : decode cX11_readReceiver 27 = .ok (.istore_n 3, 1) := by decide +kernel
theorem dX11_readReceiver_28 : decode cX11_readReceiver 28 = .ok (.iload_n 3, 1) := by decide +kernel
theorem dX11_readReceiver_29 : decode cX11_readReceiver 29 = .ok (.aload_n 0, 1) := by decide +kernel
theorem dX11_readReceiver_30 : decode cX11_readReceiver 30 = .ok (.getfield 13, 3) := by decide +kernel
theorem dX11_readReceiver_33 : decode cX11_readReceiver 33 = .ok (.iload_n 1, 1) := by decide +kernel
theorem dX11_readReceiver_34 : decode cX11_readReceiver 34 = .ok (.iaload, 1) := by decide +kernel
theorem dX11_readReceiver_35 : decode cX11_readReceiver 35 = .ok (.if_icmp .ge 42, 3) := by decide +kernel
theorem dX11_readReceiver_38 : decode cX11_readReceiver 38 = .ok (.aload_n 0, 1) := by decide +kernel
theorem dX11_readReceiver_39 : decode cX11_readReceiver 39 = .ok (.getfield 60, 3) := by decide +kernel
theorem dX11_readReceiver_42 : decode cX11_readReceiver 42 = .ok (.ifCond .ne 35, 3) := by decide +kernel
theorem dX11_readReceiver_45 : decode cX11_readReceiver 45 = .ok (.aload_n 0, 1) := by decide +kernel
theorem dX11_readReceiver_46 : decode cX11_readReceiver 46 = .ok (.aload_n 0, 1) := by decide +kernel
theorem dX11_readReceiver_47 : decode cX11_readReceiver 47 = .ok (.getfield 13, 3) := by decide +kernel
theorem dX11_readReceiver_50 : decode cX11_readReceiver 50 = .ok (.iload_n 1, 1) := by decide +kernel
theorem dX11_readReceiver_51 : decode cX11_readReceiver 51 = .ok (.iconst 1, 1) := by decide +kernel
theorem dX11_readReceiver_52 : decode cX11_readReceiver 52 = .ok (.iadd, 1) := by decide +kernel
theorem dX11_readReceiver_53 : decode cX11_readReceiver 53 = .ok (.iconst 2, 1) := by decide +kernel
theorem dX11_readReceiver_54 : decode cX11_readReceiver 54 = .ok (.iload_n 3, 1) := by decide +kernel
theorem dX11_readReceiver_55 : decode cX11_readReceiver 55 = .ok (.imul, 1) := by decide +kernel
theorem dX11_readReceiver_56 : decode cX11_readReceiver 56 = .ok (.iadd, 1) := by decide +kernel
theorem dX11_readReceiver_57 : decode cX11_readReceiver 57 = .ok (.iaload, 1) := by decide +kernel
theorem dX11_readReceiver_58 : decode cX11_readReceiver 58 = .ok (.iload_n 2, 1) := by decide +kernel
theorem dX11_readReceiver_59 : decode cX11_readReceiver 59 = .ok (.if_icmp .eq 7, 3) := by decide +kernel
theorem dX11_readReceiver_62 : decode cX11_readReceiver 62 = .ok (.iconst 1, 1) := by decide +kernel
theorem dX11_readReceiver_63 : decode cX11_readReceiver 63 = .ok (.goto 4, 3) := by decide +kernel
theorem dX11_readReceiver_66 : decode cX11_readReceiver 66 = .ok (.iconst 0, 1) := by decide +kernel
theorem dX11_readReceiver_67 : decode cX11_readReceiver 67 = .ok (.iconst 4, 1) := by decide +kernel
theorem dX11_readReceiver_68 : decode cX11_readReceiver 68 = .ok (.invokevirtual 94, 3) := by decide +kernel
theorem dX11_readReceiver_71 : decode cX11_readReceiver 71 = .ok (.iinc 3 1, 3) := by decide +kernel
theorem dX11_readReceiver_74 : decode cX11_readReceiver 74 = .ok (.goto (-46), 3) := by decide +kernel
theorem dX11_readReceiver_77 : decode cX11_readReceiver 77 = .ok (.aload_n 0, 1) := by decide +kernel
theorem dX11_readReceiver_78 : decode cX11_readReceiver 78 = .ok (.invokevirtual 101, 3) := by decide +kernel
theorem dX11_readReceiver_81 : decode cX11_readReceiver 81 = .ok (.aload_n 0, 1) := by decide +kernel
theorem dX11_readReceiver_82 : decode cX11_readReceiver 82 = .ok (.bipush 9, 2) := by decide +kernel
theorem dX11_readReceiver_84 : decode cX11_readReceiver 84 = .ok (.invokevirtual 108, 3) := by decide +kernel
theorem dX11_readReceiver_87 : decode cX11_readReceiver 87 = .ok (.istore_n 3, 1) := by decide +kernel
theorem dX11_readReceiver_88 : decode cX11_readReceiver 88 = .ok (.aload_n 0, 1) := by decide +kernel
theorem dX11_readReceiver_89 : decode cX11_readReceiver 89 = .ok (.getfield 60, 3) := by decide +kernel
theorem dX11_readReceiver_92 : decode cX11_readReceiver 92 = .ok (.ifCond .ne 69, 3) := by decide +kernel
theorem dX11_readReceiver_95 : decode cX11_readReceiver 95 = .ok (.aload_n 0, 1) := by decide +kernel
theorem dX11_readReceiver_96 : decode cX11_readReceiver 96 = .ok (.getfield 13, 3) := by decide +kernel
theorem dX11_readReceiver_99 : decode cX11_readReceiver 99 = .ok (.iload_n 1, 1) := by decide +kernel
theorem dX11_readReceiver_100 : decode cX11_readReceiver 100 = .ok (.iconst 1, 1) := by decide +kernel
theorem dX11_readReceiver_101 : decode cX11_readReceiver 101 = .ok (.iadd, 1) := by decide +kernel
theorem dX11_readReceiver_102 : decode cX11_readReceiver 102 = .ok (.iconst 2, 1) := by decide +kernel
theorem dX11_readReceiver_103 : decode cX11_readReceiver 103 = .ok (.aload_n 0, 1) := by decide +kernel
theorem dX11_readReceiver_104 : decode cX11_readReceiver 104 = .ok (.getfield 13, 3) := by decide +kernel
theorem dX11_readReceiver_107 : decode cX11_readReceiver 107 = .ok (.iload_n 1, 1) := by decide +kernel
theorem dX11_readReceiver_108 : decode cX11_readReceiver 108 = .ok (.iaload, 1) := by decide +kernel
theorem dX11_readReceiver_109 : decode cX11_readReceiver 109 = .ok (.imul, 1) := by decide +kernel
theorem dX11_readReceiver_110 : decode cX11_readReceiver 110 = .ok (.iadd, 1) := by decide +kernel
theorem dX11_readReceiver_111 : decode cX11_readReceiver 111 = .ok (.iload_n 2, 1) := by decide +kernel
theorem dX11_readReceiver_112 : decode cX11_readReceiver 112 = .ok (.iastore, 1) := by decide +kernel
theorem dX11_readReceiver_113 : decode cX11_readReceiver 113 = .ok (.aload_n 0, 1) := by decide +kernel
theorem dX11_readReceiver_114 : decode cX11_readReceiver 114 = .ok (.getfield 13, 3) := by decide +kernel
theorem dX11_readReceiver_117 : decode cX11_readReceiver 117 = .ok (.iload_n 1, 1) := by decide +kernel
theorem dX11_readReceiver_118 : decode cX11_readReceiver 118 = .ok (.iconst 2, 1) := by decide +kernel
theorem dX11_readReceiver_119 : decode cX11_readReceiver 119 = .ok (.iadd, 1) := by decide +kernel
theorem dX11_readReceiver_120 : decode cX11_readReceiver 120 = .ok (.iconst 2, 1) := by decide +kernel
theorem dX11_readReceiver_121 : decode cX11_readReceiver 121 = .ok (.aload_n 0, 1) := by decide +kernel
theorem dX11_readReceiver_122 : decode cX11_readReceiver 122 = .ok (.getfield 13, 3) := by decide +kernel
theorem dX11_readReceiver_125 : decode cX11_readReceiver 125 = .ok (.iload_n 1, 1) := by decide +kernel
theorem dX11_readReceiver_126 : decode cX11_readReceiver 126 = .ok (.iaload, 1) := by decide +kernel
theorem dX11_readReceiver_127 : decode cX11_readReceiver 127 = .ok (.imul, 1) := by decide +kernel
theorem dX11_readReceiver_128 : decode cX11_readReceiver 128 = .ok (.iadd, 1) := by decide +kernel
theorem dX11_readReceiver_129 : decode cX11_readReceiver 129 = .ok (.iload_n 3, 1) := by decide +kernel
theorem dX11_readReceiver_130 : decode cX11_readReceiver 130 = .ok (.iastore, 1) := by decide +kernel
theorem dX11_readReceiver_131 : decode cX11_readReceiver 131 = .ok (.aload_n 0, 1) := by decide +kernel
theorem dX11_readReceiver_132 : decode cX11_readReceiver 132 = .ok (.getfield 13, 3) := by decide +kernel
theorem dX11_readReceiver_135 : decode cX11_readReceiver 135 = .ok (.iload_n 1, 1) := by decide +kernel
theorem dX11_readReceiver_136 : decode cX11_readReceiver 136 = .ok (.dup2, 1) := by decide +kernel
theorem dX11_readReceiver_137 : decode cX11_readReceiver 137 = .ok (.iaload, 1) := by decide +kernel
theorem dX11_readReceiver_138 : decode cX11_readReceiver 138 = .ok (.iconst 1, 1) := by decide +kernel
theorem dX11_readReceiver_139 : decode cX11_readReceiver 139 = .ok (.iadd, 1) := by decide +kernel
theorem dX11_readReceiver_140 : decode cX11_readReceiver 140 = .ok (.iastore, 1) := by decide +kernel
theorem dX11_readReceiver_141 : decode cX11_readReceiver 141 = .ok (.aload_n 0, 1) := by decide +kernel
theorem dX11_readReceiver_142 : decode cX11_readReceiver 142 = .ok (.iload_n 2, 1) := by decide +kernel
theorem dX11_readReceiver_143 : decode cX11_readReceiver 143 = .ok (.aload_n 0, 1) := by decide +kernel
theorem dX11_readReceiver_144 : decode cX11_readReceiver 144 = .ok (.getfield 111, 3) := by decide +kernel
theorem dX11_readReceiver_147 : decode cX11_readReceiver 147 = .ok (.if_icmp .le 7, 3) := by decide +kernel
theorem dX11_readReceiver_150 : decode cX11_readReceiver 150 = .ok (.iload_n 2, 1) := by decide +kernel
theorem dX11_readReceiver_151 : decode cX11_readReceiver 151 = .ok (.goto 7, 3) := by decide +kernel
theorem dX11_readReceiver_154 : decode cX11_readReceiver 154 = .ok (.aload_n 0, 1) := by decide +kernel
theorem dX11_readReceiver_155 : decode cX11_readReceiver 155 = .ok (.getfield 111, 3) := by decide +kernel
theorem dX11_readReceiver_158 : decode cX11_readReceiver 158 = .ok (.putfield 111, 3) := by decide +kernel
theorem dX11_readReceiver_161 : decode cX11_readReceiver 161 = .ok (.return_, 1) := by decide +kernel
theorem dX11_readDomain_0 : decode cX11_readDomain 0 = .ok (.bipush 26, 2) := by decide +kernel
theorem dX11_readDomain_2 : decode cX11_readDomain 2 = .ok (.bipush 7, 2) := by decide +kernel
theorem dX11_readDomain_4 : decode cX11_readDomain 4 = .ok (.aload_n 0, 1) := by decide +kernel
theorem dX11_readDomain_5 : decode cX11_readDomain 5 = .ok (.getfield 13, 3) := by decide +kernel
theorem dX11_readDomain_8 : decode cX11_readDomain 8 = .ok (.iconst 1, 1) := by decide +kernel
theorem dX11_readDomain_9 : decode cX11_readDomain 9 = .ok (.iaload, 1) := by decide +kernel
theorem dX11_readDomain_10 : decode cX11_readDomain 10 = .ok (.imul, 1) := by decide +kernel
theorem dX11_readDomain_11 : decode cX11_readDomain 11 = .ok (.iadd, 1) := by decide +kernel
theorem dX11_readDomain_12 : decode cX11_readDomain 12 = .ok (.istore_n 1, 1) := by decide +kernel
theorem dX11_readDomain_13 : decode cX11_readDomain 13 = .ok (.aload_n 0, 1) := by decide +kernel
theorem dX11_readDomain_14 : decode cX11_readDomain 14 = .ok (.getfield 13, 3) := by decide +kernel
theorem dX11_readDomain_17 : decode cX11_readDomain 17 = .ok (.iconst 1, 1) := by decide +kernel
theorem dX11_readDomain_18 : decode cX11_readDomain 18 = .ok (.dup2, 1) := by decide +kernel
theorem dX11_readDomain_19 : decode cX11_readDomain 19 = .ok (.iaload, 1) := by decide +kernel
theorem dX11_readDomain_20 : decode cX11_readDomain 20 = .ok (.iconst 1, 1) := by decide +kernel
theorem dX11_readDomain_21 : decode cX11_readDomain 21 = .ok (.iadd, 1) := by decide +kernel
theorem dX11_readDomain_22 : decode cX11_readDomain 22 = .ok (.iastore, 1) := by decide +kernel
theorem dX11_readDomain_23 : decode cX11_readDomain 23 = .ok (.aload_n 0, 1) := by decide +kernel
theorem dX11_readDomain_24 : decode cX11_readDomain 24 = .ok (.getfield 60, 3) := by decide +kernel
theorem dX11_readDomain_27 : decode cX11_readDomain 27 = .ok (.ifCond .ne 19, 3) := by decide +kernel
theorem dX11_readDomain_30 : decode cX11_readDomain 30 = .ok (.aload_n 0, 1) := by decide +kernel
theorem dX11_readDomain_31 : decode cX11_readDomain 31 = .ok (.getfield 69, 3) := by decide +kernel
theorem dX11_readDomain_34 : decode cX11_readDomain 34 = .ok (.iconst 2, 1) := by decide +kernel
theorem dX11_readDomain_35 : decode cX11_readDomain 35 = .ok (.if_icmp .ne 11, 3) := by decide +kernel
theorem dX11_readDomain_38 : decode cX11_readDomain 38 = .ok (.aload_n 0, 1) := by decide +kernel
theorem dX11_readDomain_39 : decode cX11_readDomain 39 = .ok (.iload_n 1, 1) := by decide +kernel
theorem dX11_readDomain_40 : decode cX11_readDomain 40 = .ok (.invokevirtual 114, 3) := by decide +kernel
theorem dX11_readDomain_43 : decode cX11_readDomain 43 = .ok (.goto (-20), 3) := by decide +kernel
theorem dX11_readDomain_46 : decode cX11_readDomain 46 = .ok (.return_, 1) := by decide +kernel
theorem dX11_addressNow_0 : decode cX11_addressNow 0 = .ok (.aload_n 0, 1) := by decide +kernel
theorem dX11_addressNow_1 : decode cX11_addressNow 1 = .ok (.iconst 3, 1) := by decide +kernel
theorem dX11_addressNow_2 : decode cX11_addressNow 2 = .ok (.invokevirtual 108, 3) := by decide +kernel
theorem dX11_addressNow_5 : decode cX11_addressNow 5 = .ok (.istore_n 1, 1) := by decide +kernel
theorem dX11_addressNow_6 : decode cX11_addressNow 6 = .ok (.bipush 8, 2) := by decide +kernel
theorem dX11_addressNow_8 : decode cX11_addressNow 8 = .ok (.iload_n 1, 1) := by decide +kernel
theorem dX11_addressNow_9 : decode cX11_addressNow 9 = .ok (.imul, 1) := by decide +kernel
theorem dX11_addressNow_10 : decode cX11_addressNow 10 = .ok (.aload_n 0, 1) := by decide +kernel
theorem dX11_addressNow_11 : decode cX11_addressNow 11 = .ok (.bipush 7, 2) := by decide +kernel
theorem dX11_addressNow_13 : decode cX11_addressNow 13 = .ok (.invokevirtual 98, 3) := by decide +kernel
theorem dX11_addressNow_16 : decode cX11_addressNow 16 = .ok (.iadd, 1) := by decide +kernel
theorem dX11_addressNow_17 : decode cX11_addressNow 17 = .ok (.ireturn, 1) := by decide +kernel
theorem dX11_readAddress_0 : decode cX11_readAddress 0 = .ok (.aload_n 0, 1) := by decide +kernel
theorem dX11_readAddress_1 : decode cX11_readAddress 1 = .ok (.invokevirtual 118, 3) := by decide +kernel
theorem dX11_readAddress_4 : decode cX11_readAddress 4 = .ok (.istore_n 2, 1) := by decide +kernel
theorem dX11_readAddress_5 : decode cX11_readAddress 5 = .ok (.bipush 54, 2) := by decide +kernel
theorem dX11_readAddress_7 : decode cX11_readAddress 7 = .ok (.bipush 6, 2) := by decide +kernel
theorem dX11_readAddress_9 : decode cX11_readAddress 9 = .ok (.iload_n 2, 1) := by decide +kernel
theorem dX11_readAddress_10 : decode cX11_readAddress 10 = .ok (.imul, 1) := by decide +kernel
theorem dX11_readAddress_11 : decode cX11_readAddress 11 = .ok (.iadd, 1) := by decide +kernel
theorem dX11_readAddress_12 : decode cX11_readAddress 12 = .ok (.istore_n 3, 1) := by decide +kernel
theorem dX11_readAddress_13 : decode cX11_readAddress 13 = .ok (.aload_n 0, 1) := by decide +kernel
theorem dX11_readAddress_14 : decode cX11_readAddress 14 = .ok (.getfield 60, 3) := by decide +kernel
theorem dX11_readAddress_17 : decode cX11_readAddress 17 = .ok (.ifCond .ne 22, 3) := by decide +kernel
theorem dX11_readAddress_20 : decode cX11_readAddress 20 = .ok (.aload_n 0, 1) := by decide +kernel
theorem dX11_readAddress_21 : decode cX11_readAddress 21 = .ok (.aload_n 0, 1) := by decide +kernel
theorem dX11_readAddress_22 : decode cX11_readAddress 22 = .ok (.getfield 13, 3) := by decide +kernel
theorem dX11_readAddress_25 : decode cX11_readAddress 25 = .ok (.iload_n 3, 1) := by decide +kernel
theorem dX11_readAddress_26 : decode cX11_readAddress 26 = .ok (.iaload, 1) := by decide +kernel
theorem dX11_readAddress_27 : decode cX11_readAddress 27 = .ok (.ifCond .ne 7, 3) := by decide +kernel
theorem dX11_readAddress_30 : decode cX11_readAddress 30 = .ok (.iconst 1, 1) := by decide +kernel
theorem dX11_readAddress_31 : decode cX11_readAddress 31 = .ok (.goto 4, 3) := by decide +kernel
theorem dX11_readAddress_34 : decode cX11_readAddress 34 = .ok (.iconst 0, 1) := by decide +kernel
theorem dX11_readAddress_35 : decode cX11_readAddress 35 = .ok (.iconst 4, 1) := by decide +kernel
theorem dX11_readAddress_36 : decode cX11_readAddress 36 = .ok (.invokevirtual 94, 3) := by decide +kernel
theorem dX11_readAddress_39 : decode cX11_readAddress 39 = .ok (.aload_n 0, 1) := by decide +kernel
theorem dX11_readAddress_40 : decode cX11_readAddress 40 = .ok (.getfield 60, 3) := by decide +kernel
theorem dX11_readAddress_43 : decode cX11_readAddress 43 = .ok (.ifCond .ne 36, 3) := by decide +kernel
theorem dX11_readAddress_46 : decode cX11_readAddress 46 = .ok (.aload_n 0, 1) := by decide +kernel
theorem dX11_readAddress_47 : decode cX11_readAddress 47 = .ok (.getfield 13, 3) := by decide +kernel
theorem dX11_readAddress_50 : decode cX11_readAddress 50 = .ok (.iload_n 3, 1) := by decide +kernel
theorem dX11_readAddress_51 : decode cX11_readAddress 51 = .ok (.iload_n 1, 1) := by decide +kernel
theorem dX11_readAddress_52 : decode cX11_readAddress 52 = .ok (.iastore, 1) := by decide +kernel
theorem dX11_readAddress_53 : decode cX11_readAddress 53 = .ok (.aload_n 0, 1) := by decide +kernel
theorem dX11_readAddress_54 : decode cX11_readAddress 54 = .ok (.iload_n 2, 1) := by decide +kernel
theorem dX11_readAddress_55 : decode cX11_readAddress 55 = .ok (.bipush 8, 2) := by decide +kernel
theorem dX11_readAddress_57 : decode cX11_readAddress 57 = .ok (.idiv, 1) := by decide +kernel
theorem dX11_readAddress_58 : decode cX11_readAddress 58 = .ok (.aload_n 0, 1) := by decide +kernel
theorem dX11_readAddress_59 : decode cX11_readAddress 59 = .ok (.getfield 122, 3) := by decide +kernel
theorem dX11_readAddress_62 : decode cX11_readAddress 62 = .ok (.if_icmp .le 10, 3) := by decide +kernel
theorem dX11_readAddress_65 : decode cX11_readAddress 65 = .ok (.iload_n 2, 1) := by decide +kernel
theorem dX11_readAddress_66 : decode cX11_readAddress 66 = .ok (.bipush 8, 2) := by decide +kernel
theorem dX11_readAddress_68 : decode cX11_readAddress 68 = .ok (.idiv, 1) := by decide +kernel
theorem dX11_readAddress_69 : decode cX11_readAddress 69 = .ok (.goto 7, 3) := by decide +kernel
theorem dX11_readAddress_72 : decode cX11_readAddress 72 = .ok (.aload_n 0, 1) := by decide +kernel
theorem dX11_readAddress_73 : decode cX11_readAddress 73 = .ok (.getfield 122, 3) := by decide +kernel
theorem dX11_readAddress_76 : decode cX11_readAddress 76 = .ok (.putfield 122, 3) := by decide +kernel
theorem dX11_readAddress_79 : decode cX11_readAddress 79 = .ok (.aload_n 0, 1) := by decide +kernel
theorem dX11_readAddress_80 : decode cX11_readAddress 80 = .ok (.invokevirtual 101, 3) := by decide +kernel
theorem dX11_readAddress_83 : decode cX11_readAddress 83 = .ok (.iload_n 1, 1) := by decide +kernel
theorem dX11_readAddress_84 : decode cX11_readAddress 84 = .ok (.iconst 1, 1) := by decide +kernel
theorem dX11_readAddress_85 : decode cX11_readAddress 85 = .ok (.if_icmp .eq 7, 3) := by decide +kernel
theorem dX11_readAddress_88 : decode cX11_readAddress 88 = .ok (.iconst 1, 1) := by decide +kernel
theorem dX11_readAddress_89 : decode cX11_readAddress 89 = .ok (.goto 4, 3) := by decide +kernel
theorem dX11_readAddress_92 : decode cX11_readAddress 92 = .ok (.iconst 0, 1) := by decide +kernel
theorem dX11_readAddress_93 : decode cX11_readAddress 93 = .ok (.istore 4, 2) := by decide +kernel
theorem dX11_readAddress_95 : decode cX11_readAddress 95 = .ok (.aload_n 0, 1) := by decide +kernel
theorem dX11_readAddress_96 : decode cX11_readAddress 96 = .ok (.getfield 60, 3) := by decide +kernel
theorem dX11_readAddress_99 : decode cX11_readAddress 99 = .ok (.ifCond .ne 58, 3) := by decide +kernel
theorem dX11_readAddress_102 : decode cX11_readAddress 102 = .ok (.iload 4, 2) := by decide +kernel
theorem dX11_readAddress_104 : decode cX11_readAddress 104 = .ok (.ifCond .eq 53, 3) := by decide +kernel
theorem dX11_readAddress_107 : decode cX11_readAddress 107 = .ok (.aload_n 0, 1) := by decide +kernel
theorem dX11_readAddress_108 : decode cX11_readAddress 108 = .ok (.aload_n 0, 1) := by decide +kernel
theorem dX11_readAddress_109 : decode cX11_readAddress 109 = .ok (.getfield 13, 3) := by decide +kernel
theorem dX11_readAddress_112 : decode cX11_readAddress 112 = .ok (.iload_n 3, 1) := by decide +kernel
theorem dX11_readAddress_113 : decode cX11_readAddress 113 = .ok (.iconst 1, 1) := by decide +kernel
theorem dX11_readAddress_114 : decode cX11_readAddress 114 = .ok (.iadd, 1) := by decide +kernel
theorem dX11_readAddress_115 : decode cX11_readAddress 115 = .ok (.iaload, 1) := by decide +kernel
theorem dX11_readAddress_116 : decode cX11_readAddress 116 = .ok (.iconst 4, 1) := by decide +kernel
theorem dX11_readAddress_117 : decode cX11_readAddress 117 = .ok (.if_icmp .ge 7, 3) := by decide +kernel
theorem dX11_readAddress_120 : decode cX11_readAddress 120 = .ok (.iconst 1, 1) := by decide +kernel
theorem dX11_readAddress_121 : decode cX11_readAddress 121 = .ok (.goto 4, 3) := by decide +kernel
theorem dX11_readAddress_124 : decode cX11_readAddress 124 = .ok (.iconst 0, 1) := by decide +kernel
theorem dX11_readAddress_125 : decode cX11_readAddress 125 = .ok (.iconst 2, 1) := by decide +kernel
theorem dX11_readAddress_126 : decode cX11_readAddress 126 = .ok (.invokevirtual 94, 3) := by decide +kernel
theorem dX11_readAddress_129 : decode cX11_readAddress 129 = .ok (.aload_n 0, 1) := by decide +kernel
theorem dX11_readAddress_130 : decode cX11_readAddress 130 = .ok (.iload_n 3, 1) := by decide +kernel
theorem dX11_readAddress_131 : decode cX11_readAddress 131 = .ok (.invokevirtual 125, 3) := by decide +kernel
theorem dX11_readAddress_134 : decode cX11_readAddress 134 = .ok (.iload_n 1, 1) := by decide +kernel
theorem dX11_readAddress_135 : decode cX11_readAddress 135 = .ok (.iconst 3, 1) := by decide +kernel
theorem dX11_readAddress_136 : decode cX11_readAddress 136 = .ok (.if_icmp .ne 15, 3) := by decide +kernel
theorem dX11_readAddress_139 : decode cX11_readAddress 139 = .ok (.aload_n 0, 1) := by decide +kernel
theorem dX11_readAddress_140 : decode cX11_readAddress 140 = .ok (.getfield 69, 3) := by decide +kernel
theorem dX11_readAddress_143 : decode cX11_readAddress 143 = .ok (.iconst 2, 1) := by decide +kernel
theorem dX11_readAddress_144 : decode cX11_readAddress 144 = .ok (.if_icmp .ne 7, 3) := by decide +kernel
theorem dX11_readAddress_147 : decode cX11_readAddress 147 = .ok (.iconst 1, 1) := by decide +kernel
theorem dX11_readAddress_148 : decode cX11_readAddress 148 = .ok (.goto 4, 3) := by decide +kernel
theorem dX11_readAddress_151 : decode cX11_readAddress 151 = .ok (.iconst 0, 1) := by decide +kernel
theorem dX11_readAddress_152 : decode cX11_readAddress 152 = .ok (.istore 4, 2) := by decide +kernel
theorem dX11_readAddress_154 : decode cX11_readAddress 154 = .ok (.goto (-59), 3) := by decide +kernel
theorem dX11_readAddress_157 : decode cX11_readAddress 157 = .ok (.return_, 1) := by decide +kernel
theorem dX11_readTarget_0 : decode cX11_readTarget 0 = .ok (.aload_n 0, 1) := by decide +kernel
theorem dX11_readTarget_1 : decode cX11_readTarget 1 = .ok (.getfield 60, 3) := by decide +kernel
theorem dX11_readTarget_4 : decode cX11_readTarget 4 = .ok (.ifCond .ne 10, 3) := by decide +kernel
theorem dX11_readTarget_7 : decode cX11_readTarget 7 = .ok (.aload_n 0, 1) := by decide +kernel
theorem dX11_readTarget_8 : decode cX11_readTarget 8 = .ok (.invokevirtual 118, 3) := by decide +kernel
theorem dX11_readTarget_11 : decode cX11_readTarget 11 = .ok (.goto 4, 3) := by decide +kernel
theorem dX11_readTarget_14 : decode cX11_readTarget 14 = .ok (.iconst 0, 1) := by decide +kernel
theorem dX11_readTarget_15 : decode cX11_readTarget 15 = .ok (.istore_n 2, 1) := by decide +kernel
theorem dX11_readTarget_16 : decode cX11_readTarget 16 = .ok (.iconst 0, 1) := by decide +kernel
theorem dX11_readTarget_17 : decode cX11_readTarget 17 = .ok (.istore_n 3, 1) := by decide +kernel
theorem dX11_readTarget_18 : decode cX11_readTarget 18 = .ok (.iload_n 3, 1) := by decide +kernel
theorem dX11_readTarget_19 : decode cX11_readTarget 19 = .ok (.aload_n 0, 1) := by decide +kernel
theorem dX11_readTarget_20 : decode cX11_readTarget 20 = .ok (.getfield 13, 3) := by decide +kernel
theorem dX11_readTarget_23 : decode cX11_readTarget 23 = .ok (.iload_n 1, 1) := by decide +kernel
theorem dX11_readTarget_24 : decode cX11_readTarget 24 = .ok (.iconst 1, 1) := by decide +kernel
theorem dX11_readTarget_25 : decode cX11_readTarget 25 = .ok (.iadd, 1) := by decide +kernel
theorem dX11_readTarget_26 : decode cX11_readTarget 26 = .ok (.iaload, 1) := by decide +kernel
theorem dX11_readTarget_27 : decode cX11_readTarget 27 = .ok (.if_icmp .ge 40, 3) := by decide +kernel
theorem dX11_readTarget_30 : decode cX11_readTarget 30 = .ok (.aload_n 0, 1) := by decide +kernel
theorem dX11_readTarget_31 : decode cX11_readTarget 31 = .ok (.getfield 60, 3) := by decide +kernel
theorem dX11_readTarget_34 : decode cX11_readTarget 34 = .ok (.ifCond .ne 33, 3) := by decide +kernel
theorem dX11_readTarget_37 : decode cX11_readTarget 37 = .ok (.aload_n 0, 1) := by decide +kernel
theorem dX11_readTarget_38 : decode cX11_readTarget 38 = .ok (.aload_n 0, 1) := by decide +kernel
theorem dX11_readTarget_39 : decode cX11_readTarget 39 = .ok (.getfield 13, 3) := by decide +kernel
theorem dX11_readTarget_42 : decode cX11_readTarget 42 = .ok (.iload_n 1, 1) := by decide +kernel
theorem dX11_readTarget_43 : decode cX11_readTarget 43 = .ok (.iconst 2, 1) := by decide +kernel
theorem dX11_readTarget_44 : decode cX11_readTarget 44 = .ok (.iadd, 1) := by decide +kernel
theorem dX11_readTarget_45 : decode cX11_readTarget 45 = .ok (.iload_n 3, 1) := by decide +kernel
theorem dX11_readTarget_46 : decode cX11_readTarget 46 = .ok (.iadd, 1) := by decide +kernel
theorem dX11_readTarget_47 : decode cX11_readTarget 47 = .ok (.iaload, 1) := by decide +kernel
theorem dX11_readTarget_48 : decode cX11_readTarget 48 = .ok (.iload_n 2, 1) := by decide +kernel
theorem dX11_readTarget_49 : decode cX11_readTarget 49 = .ok (.if_icmp .eq 7, 3) := by decide +kernel
theorem dX11_readTarget_52 : decode cX11_readTarget 52 = .ok (.iconst 1, 1) := by decide +kernel
theorem dX11_readTarget_53 : decode cX11_readTarget 53 = .ok (.goto 4, 3) := by decide +kernel
theorem dX11_readTarget_56 : decode cX11_readTarget 56 = .ok (.iconst 0, 1) := by decide +kernel
theorem dX11_readTarget_57 : decode cX11_readTarget 57 = .ok (.iconst 4, 1) := by decide +kernel
theorem dX11_readTarget_58 : decode cX11_readTarget 58 = .ok (.invokevirtual 94, 3) := by decide +kernel
theorem dX11_readTarget_61 : decode cX11_readTarget 61 = .ok (.iinc 3 1, 3) := by decide +kernel
theorem dX11_readTarget_64 : decode cX11_readTarget 64 = .ok (.goto (-46), 3) := by decide +kernel
theorem dX11_readTarget_67 : decode cX11_readTarget 67 = .ok (.aload_n 0, 1) := by decide +kernel
theorem dX11_readTarget_68 : decode cX11_readTarget 68 = .ok (.getfield 60, 3) := by decide +kernel
theorem dX11_readTarget_71 : decode cX11_readTarget 71 = .ok (.ifCond .ne 33, 3) := by decide +kernel
theorem dX11_readTarget_74 : decode cX11_readTarget 74 = .ok (.aload_n 0, 1) := by decide +kernel
theorem dX11_readTarget_75 : decode cX11_readTarget 75 = .ok (.getfield 13, 3) := by decide +kernel
theorem dX11_readTarget_78 : decode cX11_readTarget 78 = .ok (.iload_n 1, 1) := by decide +kernel
theorem dX11_readTarget_79 : decode cX11_readTarget 79 = .ok (.iconst 2, 1) := by decide +kernel
theorem dX11_readTarget_80 : decode cX11_readTarget 80 = .ok (.iadd, 1) := by decide +kernel
theorem dX11_readTarget_81 : decode cX11_readTarget 81 = .ok (.aload_n 0, 1) := by decide +kernel
theorem dX11_readTarget_82 : decode cX11_readTarget 82 = .ok (.getfield 13, 3) := by decide +kernel
theorem dX11_readTarget_85 : decode cX11_readTarget 85 = .ok (.iload_n 1, 1) := by decide +kernel
theorem dX11_readTarget_86 : decode cX11_readTarget 86 = .ok (.iconst 1, 1) := by decide +kernel
theorem dX11_readTarget_87 : decode cX11_readTarget 87 = .ok (.iadd, 1) := by decide +kernel
theorem dX11_readTarget_88 : decode cX11_readTarget 88 = .ok (.iaload, 1) := by decide +kernel
theorem dX11_readTarget_89 : decode cX11_readTarget 89 = .ok (.iadd, 1) := by decide +kernel
theorem dX11_readTarget_90 : decode cX11_readTarget 90 = .ok (.iload_n 2, 1) := by decide +kernel
theorem dX11_readTarget_91 : decode cX11_readTarget 91 = .ok (.iastore, 1) := by decide +kernel
theorem dX11_readTarget_92 : decode cX11_readTarget 92 = .ok (.aload_n 0, 1) := by decide +kernel
theorem dX11_readTarget_93 : decode cX11_readTarget 93 = .ok (.getfield 13, 3) := by decide +kernel
theorem dX11_readTarget_96 : decode cX11_readTarget 96 = .ok (.iload_n 1, 1) := by decide +kernel
theorem dX11_readTarget_97 : decode cX11_readTarget 97 = .ok (.iconst 1, 1) := by decide +kernel
theorem dX11_readTarget_98 : decode cX11_readTarget 98 = .ok (.iadd, 1) := by decide +kernel
theorem dX11_readTarget_99 : decode cX11_readTarget 99 = .ok (.dup2, 1) := by decide +kernel
theorem dX11_readTarget_100 : decode cX11_readTarget 100 = .ok (.iaload, 1) := by decide +kernel
theorem dX11_readTarget_101 : decode cX11_readTarget 101 = .ok (.iconst 1, 1) := by decide +kernel
theorem dX11_readTarget_102 : decode cX11_readTarget 102 = .ok (.iadd, 1) := by decide +kernel
theorem dX11_readTarget_103 : decode cX11_readTarget 103 = .ok (.iastore, 1) := by decide +kernel
theorem dX11_readTarget_104 : decode cX11_readTarget 104 = .ok (.aload_n 0, 1) := by decide +kernel
theorem dX11_readTarget_105 : decode cX11_readTarget 105 = .ok (.invokevirtual 101, 3) := by decide +kernel
theorem dX11_readTarget_108 : decode cX11_readTarget 108 = .ok (.return_, 1) := by decide +kernel
theorem dX11_readLine_0 : decode cX11_readLine 0 = .ok (.aload_n 0, 1) := by decide +kernel
theorem dX11_readLine_1 : decode cX11_readLine 1 = .ok (.invokevirtual 128, 3) := by decide +kernel
theorem dX11_readLine_4 : decode cX11_readLine 4 = .ok (.istore_n 1, 1) := by decide +kernel
theorem dX11_readLine_5 : decode cX11_readLine 5 = .ok (.aload_n 0, 1) := by decide +kernel
theorem dX11_readLine_6 : decode cX11_readLine 6 = .ok (.iload_n 1, 1) := by decide +kernel
theorem dX11_readLine_7 : decode cX11_readLine 7 = .ok (.bipush (-4), 2) := by decide +kernel
theorem dX11_readLine_9 : decode cX11_readLine 9 = .ok (.if_icmp .eq 7, 3) := by decide +kernel
theorem dX11_readLine_12 : decode cX11_readLine 12 = .ok (.iconst 1, 1) := by decide +kernel
theorem dX11_readLine_13 : decode cX11_readLine 13 = .ok (.goto 4, 3) := by decide +kernel
theorem dX11_readLine_16 : decode cX11_readLine 16 = .ok (.iconst 0, 1) := by decide +kernel
theorem dX11_readLine_17 : decode cX11_readLine 17 = .ok (.iconst 2, 1) := by decide +kernel
theorem dX11_readLine_18 : decode cX11_readLine 18 = .ok (.invokevirtual 94, 3) := by decide +kernel
theorem dX11_readLine_21 : decode cX11_readLine 21 = .ok (.aload_n 0, 1) := by decide +kernel
theorem dX11_readLine_22 : decode cX11_readLine 22 = .ok (.iload_n 1, 1) := by decide +kernel
theorem dX11_readLine_23 : decode cX11_readLine 23 = .ok (.ifCond .ne 13, 3) := by decide +kernel
theorem dX11_readLine_26 : decode cX11_readLine 26 = .ok (.aload_n 0, 1) := by decide +kernel
theorem dX11_readLine_27 : decode cX11_readLine 27 = .ok (.getfield 13, 3) := by decide +kernel
theorem dX11_readLine_30 : decode cX11_readLine 30 = .ok (.iconst 0, 1) := by decide +kernel
theorem dX11_readLine_31 : decode cX11_readLine 31 = .ok (.iaload, 1) := by decide +kernel
theorem dX11_readLine_32 : decode cX11_readLine 32 = .ok (.iconst 5, 1) := by decide +kernel
theorem dX11_readLine_33 : decode cX11_readLine 33 = .ok (.if_icmp .ge 7, 3) := by decide +kernel
theorem dX11_readLine_36 : decode cX11_readLine 36 = .ok (.iconst 1, 1) := by decide +kernel
theorem dX11_readLine_37 : decode cX11_readLine 37 = .ok (.goto 4, 3) := by decide +kernel
theorem dX11_readLine_40 : decode cX11_readLine 40 = .ok (.iconst 0, 1) := by decide +kernel
theorem dX11_readLine_41 : decode cX11_readLine 41 = .ok (.iconst 5, 1) := by decide +kernel
theorem dX11_readLine_42 : decode cX11_readLine 42 = .ok (.invokevirtual 94, 3) := by decide +kernel
theorem dX11_readLine_45 : decode cX11_readLine 45 = .ok (.aload_n 0, 1) := by decide +kernel
theorem dX11_readLine_46 : decode cX11_readLine 46 = .ok (.iload_n 1, 1) := by decide +kernel
theorem dX11_readLine_47 : decode cX11_readLine 47 = .ok (.iconst 1, 1) := by decide +kernel
theorem dX11_readLine_48 : decode cX11_readLine 48 = .ok (.if_icmp .ne 13, 3) := by decide +kernel
theorem dX11_readLine_51 : decode cX11_readLine 51 = .ok (.aload_n 0, 1) := by decide +kernel
theorem dX11_readLine_52 : decode cX11_readLine 52 = .ok (.getfield 13, 3) := by decide +kernel
theorem dX11_readLine_55 : decode cX11_readLine 55 = .ok (.iconst 1, 1) := by decide +kernel
theorem dX11_readLine_56 : decode cX11_readLine 56 = .ok (.iaload, 1) := by decide +kernel
theorem dX11_readLine_57 : decode cX11_readLine 57 = .ok (.iconst 4, 1) := by decide +kernel
theorem dX11_readLine_58 : decode cX11_readLine 58 = .ok (.if_icmp .ge 7, 3) := by decide +kernel
theorem dX11_readLine_61 : decode cX11_readLine 61 = .ok (.iconst 1, 1) := by decide +kernel
theorem dX11_readLine_62 : decode cX11_readLine 62 = .ok (.goto 4, 3) := by decide +kernel
theorem dX11_readLine_65 : decode cX11_readLine 65 = .ok (.iconst 0, 1) := by decide +kernel
theorem dX11_readLine_66 : decode cX11_readLine 66 = .ok (.iconst 5, 1) := by decide +kernel
theorem dX11_readLine_67 : decode cX11_readLine 67 = .ok (.invokevirtual 94, 3) := by decide +kernel
theorem dX11_readLine_70 : decode cX11_readLine 70 = .ok (.aload_n 0, 1) := by decide +kernel
theorem dX11_readLine_71 : decode cX11_readLine 71 = .ok (.invokevirtual 101, 3) := by decide +kernel
theorem dX11_readLine_74 : decode cX11_readLine 74 = .ok (.aload_n 0, 1) := by decide +kernel
theorem dX11_readLine_75 : decode cX11_readLine 75 = .ok (.getfield 60, 3) := by decide +kernel
theorem dX11_readLine_78 : decode cX11_readLine 78 = .ok (.ifCond .le 4, 3) := by decide +kernel
theorem dX11_readLine_81 : decode cX11_readLine 81 = .ok (.return_, 1) := by decide +kernel
theorem dX11_readLine_82 : decode cX11_readLine 82 = .ok (.iload_n 1, 1) := by decide +kernel
theorem dX11_readLine_83 : decode cX11_readLine 83 = .ok (.ifCond .ne 10, 3) := by decide +kernel
theorem dX11_readLine_86 : decode cX11_readLine 86 = .ok (.aload_n 0, 1) := by decide +kernel
theorem dX11_readLine_87 : decode cX11_readLine 87 = .ok (.invokevirtual 131, 3) := by decide +kernel
theorem dX11_readLine_90 : decode cX11_readLine 90 = .ok (.goto 38, 3) := by decide +kernel
theorem dX11_readLine_93 : decode cX11_readLine 93 = .ok (.iload_n 1, 1) := by decide +kernel
theorem dX11_readLine_94 : decode cX11_readLine 94 = .ok (.iconst 1, 1) := by decide +kernel
theorem dX11_readLine_95 : decode cX11_readLine 95 = .ok (.if_icmp .ne 10, 3) := by decide +kernel
theorem dX11_readLine_98 : decode cX11_readLine 98 = .ok (.aload_n 0, 1) := by decide +kernel
theorem dX11_readLine_99 : decode cX11_readLine 99 = .ok (.invokevirtual 134, 3) := by decide +kernel
theorem dX11_readLine_102 : decode cX11_readLine 102 = .ok (.goto 26, 3) := by decide +kernel
theorem dX11_readLine_105 : decode cX11_readLine 105 = .ok (.aload_n 0, 1) := by decide +kernel
theorem dX11_readLine_106 : decode cX11_readLine 106 = .ok (.iload_n 1, 1) := by decide +kernel
theorem dX11_readLine_107 : decode cX11_readLine 107 = .ok (.iconst 2, 1) := by decide +kernel
theorem dX11_readLine_108 : decode cX11_readLine 108 = .ok (.if_icmp .ne 7, 3) := by decide +kernel
theorem dX11_readLine_111 : decode cX11_readLine 111 = .ok (.iconst 1, 1) := by decide +kernel
theorem dX11_readLine_112 : decode cX11_readLine 112 = .ok (.goto 13, 3) := by decide +kernel
theorem dX11_readLine_115 : decode cX11_readLine 115 = .ok (.iload_n 1, 1) := by decide +kernel
theorem dX11_readLine_116 : decode cX11_readLine 116 = .ok (.iconst 3, 1) := by decide +kernel
theorem dX11_readLine_117 : decode cX11_readLine 117 = .ok (.if_icmp .ne 7, 3) := by decide +kernel
theorem dX11_readLine_120 : decode cX11_readLine 120 = .ok (.iconst 2, 1) := by decide +kernel
theorem dX11_readLine_121 : decode cX11_readLine 121 = .ok (.goto 4, 3) := by decide +kernel
theorem dX11_readLine_124 : decode cX11_readLine 124 = .ok (.iconst 3, 1) := by decide +kernel
theorem dX11_readLine_125 : decode cX11_readLine 125 = .ok (.invokevirtual 137, 3) := by decide +kernel
theorem dX11_readLine_128 : decode cX11_readLine 128 = .ok (.aload_n 0, 1) := by decide +kernel
theorem dX11_readLine_129 : decode cX11_readLine 129 = .ok (.getfield 60, 3) := by decide +kernel
theorem dX11_readLine_132 : decode cX11_readLine 132 = .ok (.ifCond .ne 21, 3) := by decide +kernel
theorem dX11_readLine_135 : decode cX11_readLine 135 = .ok (.aload_n 0, 1) := by decide +kernel
theorem dX11_readLine_136 : decode cX11_readLine 136 = .ok (.aload_n 0, 1) := by decide +kernel
theorem dX11_readLine_137 : decode cX11_readLine 137 = .ok (.getfield 69, 3) := by decide +kernel
theorem dX11_readLine_140 : decode cX11_readLine 140 = .ok (.iconst 3, 1) := by decide +kernel
theorem dX11_readLine_141 : decode cX11_readLine 141 = .ok (.if_icmp .ne 7, 3) := by decide +kernel
theorem dX11_readLine_144 : decode cX11_readLine 144 = .ok (.iconst 1, 1) := by decide +kernel
theorem dX11_readLine_145 : decode cX11_readLine 145 = .ok (.goto 4, 3) := by decide +kernel
theorem dX11_readLine_148 : decode cX11_readLine 148 = .ok (.iconst 0, 1) := by decide +kernel
theorem dX11_readLine_149 : decode cX11_readLine 149 = .ok (.iconst 2, 1) := by decide +kernel
theorem dX11_readLine_150 : decode cX11_readLine 150 = .ok (.invokevirtual 94, 3) := by decide +kernel
theorem dX11_readLine_153 : decode cX11_readLine 153 = .ok (.aload_n 0, 1) := by decide +kernel
theorem dX11_readLine_154 : decode cX11_readLine 154 = .ok (.invokevirtual 101, 3) := by decide +kernel
theorem dX11_readLine_157 : decode cX11_readLine 157 = .ok (.return_, 1) := by decide +kernel
theorem dX11_text_0 : decode cX11_text 0 = .ok (.iconst 0, 1) := by decide +kernel
theorem dX11_text_1 : decode cX11_text 1 = .ok (.istore_n 1, 1) := by decide +kernel
theorem dX11_text_2 : decode cX11_text 2 = .ok (.aload_n 0, 1) := by decide +kernel
theorem dX11_text_3 : decode cX11_text 3 = .ok (.iconst 0, 1) := by decide +kernel
theorem dX11_text_4 : decode cX11_text 4 = .ok (.putfield 60, 3) := by decide +kernel
theorem dX11_text_7 : decode cX11_text 7 = .ok (.aload_n 0, 1) := by decide +kernel
theorem dX11_text_8 : decode cX11_text 8 = .ok (.iconst 0, 1) := by decide +kernel
theorem dX11_text_9 : decode cX11_text 9 = .ok (.putfield 72, 3) := by decide +kernel
theorem dX11_text_12 : decode cX11_text 12 = .ok (.aload_n 0, 1) := by decide +kernel
theorem dX11_text_13 : decode cX11_text 13 = .ok (.iconst (-1), 1) := by decide +kernel
theorem dX11_text_14 : decode cX11_text 14 = .ok (.putfield 111, 3) := by decide +kernel
theorem dX11_text_17 : decode cX11_text 17 = .ok (.aload_n 0, 1) := by decide +kernel
theorem dX11_text_18 : decode cX11_text 18 = .ok (.iconst (-1), 1) := by decide +kernel
theorem dX11_text_19 : decode cX11_text 19 = .ok (.putfield 122, 3) := by decide +kernel
theorem dX11_text_22 : decode cX11_text 22 = .ok (.iconst 0, 1) := by decide +kernel
theorem dX11_text_23 : decode cX11_text 23 = .ok (.istore_n 2, 1) := by decide +kernel
theorem dX11_text_24 : decode cX11_text 24 = .ok (.iload_n 2, 1) := by decide +kernel
theorem dX11_text_25 : decode cX11_text 25 = .ok (.sipush 246, 3) := by decide +kernel
theorem dX11_text_28 : decode cX11_text 28 = .ok (.if_icmp .ge 16, 3) := by decide +kernel
theorem dX11_text_31 : decode cX11_text 31 = .ok (.aload_n 0, 1) := by decide +kernel
theorem dX11_text_32 : decode cX11_text 32 = .ok (.getfield 13, 3) := by decide +kernel
theorem dX11_text_35 : decode cX11_text 35 = .ok (.iload_n 2, 1) := by decide +kernel
theorem dX11_text_36 : decode cX11_text 36 = .ok (.iconst 0, 1) := by decide +kernel
theorem dX11_text_37 : decode cX11_text 37 = .ok (.iastore, 1) := by decide +kernel
theorem dX11_text_38 : decode cX11_text 38 = .ok (.iinc 2 1, 3) := by decide +kernel
theorem dX11_text_41 : decode cX11_text 41 = .ok (.goto (-17), 3) := by decide +kernel
theorem dX11_text_44 : decode cX11_text 44 = .ok (.aload_n 0, 1) := by decide +kernel
theorem dX11_text_45 : decode cX11_text 45 = .ok (.invokevirtual 101, 3) := by decide +kernel
theorem dX11_text_48 : decode cX11_text 48 = .ok (.aload_n 0, 1) := by decide +kernel
theorem dX11_text_49 : decode cX11_text 49 = .ok (.getfield 60, 3) := by decide +kernel
theorem dX11_text_52 : decode cX11_text 52 = .ok (.ifCond .ne 20, 3) := by decide +kernel
theorem dX11_text_55 : decode cX11_text 55 = .ok (.aload_n 0, 1) := by decide +kernel
theorem dX11_text_56 : decode cX11_text 56 = .ok (.getfield 69, 3) := by decide +kernel
theorem dX11_text_59 : decode cX11_text 59 = .ok (.ifCond .eq 13, 3) := by decide +kernel
theorem dX11_text_62 : decode cX11_text 62 = .ok (.aload_n 0, 1) := by decide +kernel
theorem dX11_text_63 : decode cX11_text 63 = .ok (.invokevirtual 140, 3) := by decide +kernel
theorem dX11_text_66 : decode cX11_text 66 = .ok (.iinc 1 1, 3) := by decide +kernel
theorem dX11_text_69 : decode cX11_text 69 = .ok (.goto (-21), 3) := by decide +kernel
theorem dX11_text_72 : decode cX11_text 72 = .ok (.aload_n 0, 1) := by decide +kernel
theorem dX11_text_73 : decode cX11_text 73 = .ok (.getfield 60, 3) := by decide +kernel
theorem dX11_text_76 : decode cX11_text 76 = .ok (.ifCond .ne 51, 3) := by decide +kernel
theorem dX11_text_79 : decode cX11_text 79 = .ok (.aload_n 0, 1) := by decide +kernel
theorem dX11_text_80 : decode cX11_text 80 = .ok (.aload_n 0, 1) := by decide +kernel
theorem dX11_text_81 : decode cX11_text 81 = .ok (.getfield 111, 3) := by decide +kernel
theorem dX11_text_84 : decode cX11_text 84 = .ok (.aload_n 0, 1) := by decide +kernel
theorem dX11_text_85 : decode cX11_text 85 = .ok (.getfield 13, 3) := by decide +kernel
theorem dX11_text_88 : decode cX11_text 88 = .ok (.iconst 0, 1) := by decide +kernel
theorem dX11_text_89 : decode cX11_text 89 = .ok (.iaload, 1) := by decide +kernel
theorem dX11_text_90 : decode cX11_text 90 = .ok (.if_icmp .ge 7, 3) := by decide +kernel
theorem dX11_text_93 : decode cX11_text 93 = .ok (.iconst 1, 1) := by decide +kernel
theorem dX11_text_94 : decode cX11_text 94 = .ok (.goto 4, 3) := by decide +kernel
theorem dX11_text_97 : decode cX11_text 97 = .ok (.iconst 0, 1) := by decide +kernel
theorem dX11_text_98 : decode cX11_text 98 = .ok (.bipush 6, 2) := by decide +kernel
theorem dX11_text_100 : decode cX11_text 100 = .ok (.invokevirtual 94, 3) := by decide +kernel
theorem dX11_text_103 : decode cX11_text 103 = .ok (.aload_n 0, 1) := by decide +kernel
theorem dX11_text_104 : decode cX11_text 104 = .ok (.aload_n 0, 1) := by decide +kernel
theorem dX11_text_105 : decode cX11_text 105 = .ok (.getfield 122, 3) := by decide +kernel
theorem dX11_text_108 : decode cX11_text 108 = .ok (.aload_n 0, 1) := by decide +kernel
theorem dX11_text_109 : decode cX11_text 109 = .ok (.getfield 13, 3) := by decide +kernel
theorem dX11_text_112 : decode cX11_text 112 = .ok (.iconst 1, 1) := by decide +kernel
theorem dX11_text_113 : decode cX11_text 113 = .ok (.iaload, 1) := by decide +kernel
theorem dX11_text_114 : decode cX11_text 114 = .ok (.if_icmp .ge 7, 3) := by decide +kernel
theorem dX11_text_117 : decode cX11_text 117 = .ok (.iconst 1, 1) := by decide +kernel
theorem dX11_text_118 : decode cX11_text 118 = .ok (.goto 4, 3) := by decide +kernel
theorem dX11_text_121 : decode cX11_text 121 = .ok (.iconst 0, 1) := by decide +kernel
theorem dX11_text_122 : decode cX11_text 122 = .ok (.bipush 7, 2) := by decide +kernel
theorem dX11_text_124 : decode cX11_text 124 = .ok (.invokevirtual 94, 3) := by decide +kernel
theorem dX11_text_127 : decode cX11_text 127 = .ok (.aload_n 0, 1) := by decide +kernel
theorem dX11_text_128 : decode cX11_text 128 = .ok (.iconst 0, 1) := by decide +kernel
theorem dX11_text_129 : decode cX11_text 129 = .ok (.putfield 56, 3) := by decide +kernel
theorem dX11_text_132 : decode cX11_text 132 = .ok (.aload_n 0, 1) := by decide +kernel
theorem dX11_text_133 : decode cX11_text 133 = .ok (.getfield 60, 3) := by decide +kernel
theorem dX11_text_136 : decode cX11_text 136 = .ok (.ifCond .le 11, 3) := by decide +kernel
theorem dX11_text_139 : decode cX11_text 139 = .ok (.bipush (-10), 2) := by decide +kernel
theorem dX11_text_141 : decode cX11_text 141 = .ok (.aload_n 0, 1) := by decide +kernel
theorem dX11_text_142 : decode cX11_text 142 = .ok (.getfield 66, 3) := by decide +kernel
theorem dX11_text_145 : decode cX11_text 145 = .ok (.isub, 1) := by decide +kernel
theorem dX11_text_146 : decode cX11_text 146 = .ok (.ireturn, 1) := by decide +kernel
theorem dX11_text_147 : decode cX11_text 147 = .ok (.iconst 0, 1) := by decide +kernel
theorem dX11_text_148 : decode cX11_text 148 = .ok (.istore_n 2, 1) := by decide +kernel
theorem dX11_text_149 : decode cX11_text 149 = .ok (.iload_n 2, 1) := by decide +kernel
theorem dX11_text_150 : decode cX11_text 150 = .ok (.sipush 246, 3) := by decide +kernel
theorem dX11_text_153 : decode cX11_text 153 = .ok (.if_icmp .ge 21, 3) := by decide +kernel
theorem dX11_text_156 : decode cX11_text 156 = .ok (.aload_n 0, 1) := by decide +kernel
theorem dX11_text_157 : decode cX11_text 157 = .ok (.getfield 7, 3) := by decide +kernel
theorem dX11_text_160 : decode cX11_text 160 = .ok (.iload_n 2, 1) := by decide +kernel
theorem dX11_text_161 : decode cX11_text 161 = .ok (.aload_n 0, 1) := by decide +kernel
theorem dX11_text_162 : decode cX11_text 162 = .ok (.getfield 13, 3) := by decide +kernel
theorem dX11_text_165 : decode cX11_text 165 = .ok (.iload_n 2, 1) := by decide +kernel
theorem dX11_text_166 : decode cX11_text 166 = .ok (.iaload, 1) := by decide +kernel
theorem dX11_text_167 : decode cX11_text 167 = .ok (.iastore, 1) := by decide +kernel
theorem dX11_text_168 : decode cX11_text 168 = .ok (.iinc 2 1, 3) := by decide +kernel
theorem dX11_text_171 : decode cX11_text 171 = .ok (.goto (-22), 3) := by decide +kernel
theorem dX11_text_174 : decode cX11_text 174 = .ok (.aload_n 0, 1) := by decide +kernel
theorem dX11_text_175 : decode cX11_text 175 = .ok (.invokevirtual 47, 3) := by decide +kernel
theorem dX11_text_178 : decode cX11_text 178 = .ok (.iload_n 1, 1) := by decide +kernel
theorem dX11_text_179 : decode cX11_text 179 = .ok (.ireturn, 1) := by decide +kernel
theorem dX11_fault_0 : decode cX11_fault 0 = .ok (.aload_n 0, 1) := by decide +kernel
theorem dX11_fault_1 : decode cX11_fault 1 = .ok (.getfield 60, 3) := by decide +kernel
theorem dX11_fault_4 : decode cX11_fault 4 = .ok (.ireturn, 1) := by decide +kernel
theorem dX11_isHouse_0 : decode cX11_isHouse 0 = .ok (.iload_n 1, 1) := by decide +kernel
theorem dX11_isHouse_1 : decode cX11_isHouse 1 = .ok (.i2l, 1) := by decide +kernel
theorem dX11_isHouse_2 : decode cX11_isHouse 2 = .ok (.lconst 0, 1) := by decide +kernel
theorem dX11_isHouse_3 : decode cX11_isHouse 3 = .ok (.aload_n 0, 1) := by decide +kernel
theorem dX11_isHouse_4 : decode cX11_isHouse 4 = .ok (.getfield 7, 3) := by decide +kernel
theorem dX11_isHouse_7 : decode cX11_isHouse 7 = .ok (.iconst 0, 1) := by decide +kernel
theorem dX11_isHouse_8 : decode cX11_isHouse 8 = .ok (.iaload, 1) := by decide +kernel
theorem dX11_isHouse_9 : decode cX11_isHouse 9 = .ok (.iconst 1, 1) := by decide +kernel
theorem dX11_isHouse_10 : decode cX11_isHouse 10 = .ok (.isub, 1) := by decide +kernel
theorem dX11_isHouse_11 : decode cX11_isHouse 11 = .ok (.i2l, 1) := by decide +kernel
theorem dX11_isHouse_12 : decode cX11_isHouse 12 = .ok (.invokestatic 52, 3) := by decide +kernel
theorem dX11_isHouse_15 : decode cX11_isHouse 15 = .ok (.ireturn, 1) := by decide +kernel
theorem dX11_isAddress_0 : decode cX11_isAddress 0 = .ok (.iload_n 0, 1) := by decide +kernel
theorem dX11_isAddress_1 : decode cX11_isAddress 1 = .ok (.i2l, 1) := by decide +kernel
theorem dX11_isAddress_2 : decode cX11_isAddress 2 = .ok (.lconst 0, 1) := by decide +kernel
theorem dX11_isAddress_3 : decode cX11_isAddress 3 = .ok (.ldc2_w 143, 3) := by decide +kernel
theorem dX11_isAddress_6 : decode cX11_isAddress 6 = .ok (.invokestatic 52, 3) := by decide +kernel
theorem dX11_isAddress_9 : decode cX11_isAddress 9 = .ok (.ireturn, 1) := by decide +kernel
theorem dX11_receivers_0 : decode cX11_receivers 0 = .ok (.iload_n 1, 1) := by decide +kernel
theorem dX11_receivers_1 : decode cX11_receivers 1 = .ok (.aload_n 0, 1) := by decide +kernel
theorem dX11_receivers_2 : decode cX11_receivers 2 = .ok (.getfield 7, 3) := by decide +kernel
theorem dX11_receivers_5 : decode cX11_receivers 5 = .ok (.iconst 1, 1) := by decide +kernel
theorem dX11_receivers_6 : decode cX11_receivers 6 = .ok (.iaload, 1) := by decide +kernel
theorem dX11_receivers_7 : decode cX11_receivers 7 = .ok (.if_icmp .ge 18, 3) := by decide +kernel
theorem dX11_receivers_10 : decode cX11_receivers 10 = .ok (.aload_n 0, 1) := by decide +kernel
theorem dX11_receivers_11 : decode cX11_receivers 11 = .ok (.getfield 7, 3) := by decide +kernel
theorem dX11_receivers_14 : decode cX11_receivers 14 = .ok (.bipush 26, 2) := by decide +kernel
theorem dX11_receivers_16 : decode cX11_receivers 16 = .ok (.bipush 7, 2) := by decide +kernel
theorem dX11_receivers_18 : decode cX11_receivers 18 = .ok (.iload_n 1, 1) := by decide +kernel
theorem dX11_receivers_19 : decode cX11_receivers 19 = .ok (.imul, 1) := by decide +kernel
theorem dX11_receivers_20 : decode cX11_receivers 20 = .ok (.iadd, 1) := by decide +kernel
theorem dX11_receivers_21 : decode cX11_receivers 21 = .ok (.iaload, 1) := by decide +kernel
theorem dX11_receivers_22 : decode cX11_receivers 22 = .ok (.goto 4, 3) := by decide +kernel
theorem dX11_receivers_25 : decode cX11_receivers 25 = .ok (.iconst 0, 1) := by decide +kernel
theorem dX11_receivers_26 : decode cX11_receivers 26 = .ok (.ireturn, 1) := by decide +kernel
theorem dX11_receiverOf_0 : decode cX11_receiverOf 0 = .ok (.aload_n 0, 1) := by decide +kernel
theorem dX11_receiverOf_1 : decode cX11_receiverOf 1 = .ok (.getfield 7, 3) := by decide +kernel
theorem dX11_receiverOf_4 : decode cX11_receiverOf 4 = .ok (.bipush 26, 2) := by decide +kernel
theorem dX11_receiverOf_6 : decode cX11_receiverOf 6 = .ok (.bipush 7, 2) := by decide +kernel
theorem dX11_receiverOf_8 : decode cX11_receiverOf 8 = .ok (.iload_n 1, 1) := by decide +kernel
theorem dX11_receiverOf_9 : decode cX11_receiverOf 9 = .ok (.imul, 1) := by decide +kernel
theorem dX11_receiverOf_10 : decode cX11_receiverOf 10 = .ok (.iadd, 1) := by decide +kernel
theorem dX11_receiverOf_11 : decode cX11_receiverOf 11 = .ok (.iconst 1, 1) := by decide +kernel
theorem dX11_receiverOf_12 : decode cX11_receiverOf 12 = .ok (.iadd, 1) := by decide +kernel
theorem dX11_receiverOf_13 : decode cX11_receiverOf 13 = .ok (.iconst 2, 1) := by decide +kernel
theorem dX11_receiverOf_14 : decode cX11_receiverOf 14 = .ok (.iload_n 2, 1) := by decide +kernel
theorem dX11_receiverOf_15 : decode cX11_receiverOf 15 = .ok (.imul, 1) := by decide +kernel
theorem dX11_receiverOf_16 : decode cX11_receiverOf 16 = .ok (.iadd, 1) := by decide +kernel
theorem dX11_receiverOf_17 : decode cX11_receiverOf 17 = .ok (.iload_n 3, 1) := by decide +kernel
theorem dX11_receiverOf_18 : decode cX11_receiverOf 18 = .ok (.iadd, 1) := by decide +kernel
theorem dX11_receiverOf_19 : decode cX11_receiverOf 19 = .ok (.iaload, 1) := by decide +kernel
theorem dX11_receiverOf_20 : decode cX11_receiverOf 20 = .ok (.ireturn, 1) := by decide +kernel
theorem dX11_preferenceOf_0 : decode cX11_preferenceOf 0 = .ok (.iconst 0, 1) := by decide +kernel
theorem dX11_preferenceOf_1 : decode cX11_preferenceOf 1 = .ok (.istore_n 3, 1) := by decide +kernel
theorem dX11_preferenceOf_2 : decode cX11_preferenceOf 2 = .ok (.iload_n 3, 1) := by decide +kernel
theorem dX11_preferenceOf_3 : decode cX11_preferenceOf 3 = .ok (.aload_n 0, 1) := by decide +kernel
theorem dX11_preferenceOf_4 : decode cX11_preferenceOf 4 = .ok (.iload_n 2, 1) := by decide +kernel
theorem dX11_preferenceOf_5 : decode cX11_preferenceOf 5 = .ok (.invokevirtual 145, 3) := by decide +kernel
theorem dX11_preferenceOf_8 : decode cX11_preferenceOf 8 = .ok (.if_icmp .ge 28, 3) := by decide +kernel
theorem dX11_preferenceOf_11 : decode cX11_preferenceOf 11 = .ok (.aload_n 0, 1) := by decide +kernel
theorem dX11_preferenceOf_12 : decode cX11_preferenceOf 12 = .ok (.iload_n 2, 1) := by decide +kernel
theorem dX11_preferenceOf_13 : decode cX11_preferenceOf 13 = .ok (.iload_n 3, 1) := by decide +kernel
theorem dX11_preferenceOf_14 : decode cX11_preferenceOf 14 = .ok (.iconst 0, 1) := by decide +kernel
theorem dX11_preferenceOf_15 : decode cX11_preferenceOf 15 = .ok (.invokevirtual 148, 3) := by decide +kernel
theorem dX11_preferenceOf_18 : decode cX11_preferenceOf 18 = .ok (.iload_n 1, 1) := by decide +kernel
theorem dX11_preferenceOf_19 : decode cX11_preferenceOf 19 = .ok (.if_icmp .ne 11, 3) := by decide +kernel
theorem dX11_preferenceOf_22 : decode cX11_preferenceOf 22 = .ok (.aload_n 0, 1) := by decide +kernel
theorem dX11_preferenceOf_23 : decode cX11_preferenceOf 23 = .ok (.iload_n 2, 1) := by decide +kernel
theorem dX11_preferenceOf_24 : decode cX11_preferenceOf 24 = .ok (.iload_n 3, 1) := by decide +kernel
theorem dX11_preferenceOf_25 : decode cX11_preferenceOf 25 = .ok (.iconst 1, 1) := by decide +kernel
theorem dX11_preferenceOf_26 : decode cX11_preferenceOf 26 = .ok (.invokevirtual 148, 3) := by decide +kernel
theorem dX11_preferenceOf_29 : decode cX11_preferenceOf 29 = .ok (.ireturn, 1) := by decide +kernel
theorem dX11_preferenceOf_30 : decode cX11_preferenceOf 30 = .ok (.iinc 3 1, 3) := by decide +kernel
theorem dX11_preferenceOf_33 : decode cX11_preferenceOf 33 = .ok (.goto (-31), 3) := by decide +kernel
theorem dX11_preferenceOf_36 : decode cX11_preferenceOf 36 = .ok (.bipush (-4), 2) := by decide +kernel
theorem dX11_preferenceOf_38 : decode cX11_preferenceOf 38 = .ok (.ireturn, 1) := by decide +kernel
theorem dX11_isLast_0 : decode cX11_isLast 0 = .ok (.aload_n 0, 1) := by decide +kernel
theorem dX11_isLast_1 : decode cX11_isLast 1 = .ok (.iload_n 1, 1) := by decide +kernel
theorem dX11_isLast_2 : decode cX11_isLast 2 = .ok (.iload_n 2, 1) := by decide +kernel
theorem dX11_isLast_3 : decode cX11_isLast 3 = .ok (.invokevirtual 152, 3) := by decide +kernel
theorem dX11_isLast_6 : decode cX11_isLast 6 = .ok (.istore_n 3, 1) := by decide +kernel
theorem dX11_isLast_7 : decode cX11_isLast 7 = .ok (.iload_n 3, 1) := by decide +kernel
theorem dX11_isLast_8 : decode cX11_isLast 8 = .ok (.bipush (-4), 2) := by decide +kernel
theorem dX11_isLast_10 : decode cX11_isLast 10 = .ok (.if_icmp .eq 7, 3) := by decide +kernel
theorem dX11_isLast_13 : decode cX11_isLast 13 = .ok (.iconst 1, 1) := by decide +kernel
theorem dX11_isLast_14 : decode cX11_isLast 14 = .ok (.goto 4, 3) := by decide +kernel
theorem dX11_isLast_17 : decode cX11_isLast 17 = .ok (.iconst 0, 1) := by decide +kernel
theorem dX11_isLast_18 : decode cX11_isLast 18 = .ok (.istore 4, 2) := by decide +kernel
theorem dX11_isLast_20 : decode cX11_isLast 20 = .ok (.iconst 0, 1) := by decide +kernel
theorem dX11_isLast_21 : decode cX11_isLast 21 = .ok (.istore 5, 2) := by decide +kernel
theorem dX11_isLast_23 : decode cX11_isLast 23 = .ok (.iload 5, 2) := by decide +kernel
theorem dX11_isLast_25 : decode cX11_isLast 25 = .ok (.aload_n 0, 1) := by decide +kernel
theorem dX11_isLast_26 : decode cX11_isLast 26 = .ok (.iload_n 2, 1) := by decide +kernel
theorem dX11_isLast_27 : decode cX11_isLast 27 = .ok (.invokevirtual 145, 3) := by decide +kernel
theorem dX11_isLast_30 : decode cX11_isLast 30 = .ok (.if_icmp .ge 33, 3) := by decide +kernel
theorem dX11_isLast_33 : decode cX11_isLast 33 = .ok (.iload 4, 2) := by decide +kernel
theorem dX11_isLast_35 : decode cX11_isLast 35 = .ok (.ifCond .eq 19, 3) := by decide +kernel
theorem dX11_isLast_38 : decode cX11_isLast 38 = .ok (.aload_n 0, 1) := by decide +kernel
theorem dX11_isLast_39 : decode cX11_isLast 39 = .ok (.iload_n 2, 1) := by decide +kernel
theorem dX11_isLast_40 : decode cX11_isLast 40 = .ok (.iload 5, 2) := by decide +kernel
theorem dX11_isLast_42 : decode cX11_isLast 42 = .ok (.iconst 1, 1) := by decide +kernel
theorem dX11_isLast_43 : decode cX11_isLast 43 = .ok (.invokevirtual 148, 3) := by decide +kernel
theorem dX11_isLast_46 : decode cX11_isLast 46 = .ok (.iload_n 3, 1) := by decide +kernel
theorem dX11_isLast_47 : decode cX11_isLast 47 = .ok (.if_icmp .lt 7, 3) := by decide +kernel
theorem dX11_isLast_50 : decode cX11_isLast 50 = .ok (.iconst 1, 1) := by decide +kernel
theorem dX11_isLast_51 : decode cX11_isLast 51 = .ok (.goto 4, 3) := by decide +kernel
theorem dX11_isLast_54 : decode cX11_isLast 54 = .ok (.iconst 0, 1) := by decide +kernel
theorem dX11_isLast_55 : decode cX11_isLast 55 = .ok (.istore 4, 2) := by decide +kernel
theorem dX11_isLast_57 : decode cX11_isLast 57 = .ok (.iinc 5 1, 3) := by decide +kernel
theorem dX11_isLast_60 : decode cX11_isLast 60 = .ok (.goto (-37), 3) := by decide +kernel
theorem dX11_isLast_63 : decode cX11_isLast 63 = .ok (.iload 4, 2) := by decide +kernel
theorem dX11_isLast_65 : decode cX11_isLast 65 = .ok (.ireturn, 1) := by decide +kernel
theorem dX11_kindOf_0 : decode cX11_kindOf 0 = .ok (.aload_n 0, 1) := by decide +kernel
theorem dX11_kindOf_1 : decode cX11_kindOf 1 = .ok (.getfield 7, 3) := by decide +kernel
theorem dX11_kindOf_4 : decode cX11_kindOf 4 = .ok (.bipush 54, 2) := by decide +kernel
theorem dX11_kindOf_6 : decode cX11_kindOf 6 = .ok (.bipush 6, 2) := by decide +kernel
theorem dX11_kindOf_8 : decode cX11_kindOf 8 = .ok (.iload_n 1, 1) := by decide +kernel
theorem dX11_kindOf_9 : decode cX11_kindOf 9 = .ok (.imul, 1) := by decide +kernel
theorem dX11_kindOf_10 : decode cX11_kindOf 10 = .ok (.iadd, 1) := by decide +kernel
theorem dX11_kindOf_11 : decode cX11_kindOf 11 = .ok (.iaload, 1) := by decide +kernel
theorem dX11_kindOf_12 : decode cX11_kindOf 12 = .ok (.ireturn, 1) := by decide +kernel
theorem dX11_targets_0 : decode cX11_targets 0 = .ok (.aload_n 0, 1) := by decide +kernel
theorem dX11_targets_1 : decode cX11_targets 1 = .ok (.getfield 7, 3) := by decide +kernel
theorem dX11_targets_4 : decode cX11_targets 4 = .ok (.bipush 54, 2) := by decide +kernel
theorem dX11_targets_6 : decode cX11_targets 6 = .ok (.bipush 6, 2) := by decide +kernel
theorem dX11_targets_8 : decode cX11_targets 8 = .ok (.iload_n 1, 1) := by decide +kernel
theorem dX11_targets_9 : decode cX11_targets 9 = .ok (.imul, 1) := by decide +kernel
theorem dX11_targets_10 : decode cX11_targets 10 = .ok (.iadd, 1) := by decide +kernel
theorem dX11_targets_11 : decode cX11_targets 11 = .ok (.iconst 1, 1) := by decide +kernel
theorem dX11_targets_12 : decode cX11_targets 12 = .ok (.iadd, 1) := by decide +kernel
theorem dX11_targets_13 : decode cX11_targets 13 = .ok (.iaload, 1) := by decide +kernel
theorem dX11_targets_14 : decode cX11_targets 14 = .ok (.ireturn, 1) := by decide +kernel
theorem dX11_target_0 : decode cX11_target 0 = .ok (.aload_n 0, 1) := by decide +kernel
theorem dX11_target_1 : decode cX11_target 1 = .ok (.getfield 7, 3) := by decide +kernel
theorem dX11_target_4 : decode cX11_target 4 = .ok (.bipush 54, 2) := by decide +kernel
theorem dX11_target_6 : decode cX11_target 6 = .ok (.bipush 6, 2) := by decide +kernel
