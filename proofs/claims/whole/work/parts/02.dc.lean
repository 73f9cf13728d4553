/-! rows that decode: printed -/
theorem dX9_init_0 : decode cX9_init 0 = .ok (.aload_n 0, 1) := by decide +kernel
theorem dX9_init_1 : decode cX9_init 1 = .ok (.invokespecial 3, 3) := by decide +kernel
theorem dX9_init_4 : decode cX9_init 4 = .ok (.aload_n 0, 1) := by decide +kernel
theorem dX9_init_5 : decode cX9_init 5 = .ok (.sipush 200, 3) := by decide +kernel
theorem dX9_init_8 : decode cX9_init 8 = .ok (.newarray .byte, 2) := by decide +kernel
theorem dX9_init_10 : decode cX9_init 10 = .ok (.putfield 9, 3) := by decide +kernel
theorem dX9_init_13 : decode cX9_init 13 = .ok (.aload_n 0, 1) := by decide +kernel
theorem dX9_init_14 : decode cX9_init 14 = .ok (.new 15, 3) := by decide +kernel
theorem dX9_init_17 : decode cX9_init 17 = .ok (.dup, 1) := by decide +kernel
theorem dX9_init_18 : decode cX9_init 18 = .ok (.invokespecial 17, 3) := by decide +kernel
theorem dX9_init_21 : decode cX9_init 21 = .ok (.putfield 18, 3) := by decide +kernel
theorem dX9_init_24 : decode cX9_init 24 = .ok (.return_, 1) := by decide +kernel
theorem dX9_readText_0 : decode cX9_readText 0 = .ok (.aload_n 0, 1) := by decide +kernel
theorem dX9_readText_1 : decode cX9_readText 1 = .ok (.getfield 18, 3) := by decide +kernel
theorem dX9_readText_4 : decode cX9_readText 4 = .ok (.invokevirtual 22, 3) := by decide +kernel
theorem dX9_readText_7 : decode cX9_readText 7 = .ok (.aload_n 0, 1) := by decide +kernel
theorem dX9_readText_8 : decode cX9_readText 8 = .ok (.iconst 0, 1) := by decide +kernel
theorem dX9_readText_9 : decode cX9_readText 9 = .ok (.putfield 25, 3) := by decide +kernel
theorem dX9_readText_12 : decode cX9_readText 12 = .ok (.aload_n 0, 1) := by decide +kernel
theorem dX9_readText_13 : decode cX9_readText 13 = .ok (.iconst 0, 1) := by decide +kernel
theorem dX9_readText_14 : decode cX9_readText 14 = .ok (.putfield 29, 3) := by decide +kernel
theorem dX9_readText_17 : decode cX9_readText 17 = .ok (.aload_n 0, 1) := by decide +kernel
theorem dX9_readText_18 : decode cX9_readText 18 = .ok (.iconst 0, 1) := by decide +kernel
theorem dX9_readText_19 : decode cX9_readText 19 = .ok (.putfield 32, 3) := by decide +kernel
theorem dX9_readText_22 : decode cX9_readText 22 = .ok (.aload_n 0, 1) := by decide +kernel
theorem dX9_readText_23 : decode cX9_readText 23 = .ok (.getfield 32, 3) := by decide +kernel
theorem dX9_readText_26 : decode cX9_readText 26 = .ok (.aload_n 0, 1) := by decide +kernel
theorem dX9_readText_27 : decode cX9_readText 27 = .ok (.getfield 35, 3) := by decide +kernel
theorem dX9_readText_30 : decode cX9_readText 30 = .ok (.if_icmp .gt 129, 3) := by decide +kernel
theorem dX9_readText_33 : decode cX9_readText 33 = .ok (.aload_n 0, 1) := by decide +kernel
theorem dX9_readText_34 : decode cX9_readText 34 = .ok (.invokevirtual 38, 3) := by decide +kernel
theorem dX9_readText_37 : decode cX9_readText 37 = .ok (.ifCond .ne 5, 3) := by decide +kernel
theorem dX9_readText_40 : decode cX9_readText 40 = .ok (.iconst 0, 1) := by decide +kernel
theorem dX9_readText_41 : decode cX9_readText 41 = .ok (.ireturn, 1) := by decide +kernel
theorem dX9_readText_42 : decode cX9_readText 42 = .ok (.aload_n 0, 1) := by decide +kernel
theorem dX9_readText_43 : decode cX9_readText 43 = .ok (.getfield 42, 3) := by decide +kernel
theorem dX9_readText_46 : decode cX9_readText 46 = .ok (.ifCond .ne 8, 3) := by decide +kernel
theorem dX9_readText_49 : decode cX9_readText 49 = .ok (.aload_n 0, 1) := by decide +kernel
theorem dX9_readText_50 : decode cX9_readText 50 = .ok (.invokevirtual 45, 3) := by decide +kernel
theorem dX9_readText_53 : decode cX9_readText 53 = .ok (.ireturn, 1) := by decide +kernel
theorem dX9_readText_54 : decode cX9_readText 54 = .ok (.aload_n 0, 1) := by decide +kernel
theorem dX9_readText_55 : decode cX9_readText 55 = .ok (.ldc 48, 2) := by decide +kernel
theorem dX9_readText_57 : decode cX9_readText 57 = .ok (.invokevirtual 50, 3) := by decide +kernel
theorem dX9_readText_60 : decode cX9_readText 60 = .ok (.ifCond .eq 10, 3) := by decide +kernel
theorem dX9_readText_63 : decode cX9_readText 63 = .ok (.aload_n 0, 1) := by decide +kernel
theorem dX9_readText_64 : decode cX9_readText 64 = .ok (.invokevirtual 54, 3) := by decide +kernel
theorem dX9_readText_67 : decode cX9_readText 67 = .ok (.goto 72, 3) := by decide +kernel
theorem dX9_readText_70 : decode cX9_readText 70 = .ok (.aload_n 0, 1) := by decide +kernel
theorem dX9_readText_71 : decode cX9_readText 71 = .ok (.ldc 57, 2) := by decide +kernel
theorem dX9_readText_73 : decode cX9_readText 73 = .ok (.invokevirtual 50, 3) := by decide +kernel
theorem dX9_readText_76 : decode cX9_readText 76 = .ok (.ifCond .eq 10, 3) := by decide +kernel
theorem dX9_readText_79 : decode cX9_readText 79 = .ok (.aload_n 0, 1) := by decide +kernel
theorem dX9_readText_80 : decode cX9_readText 80 = .ok (.invokevirtual 59, 3) := by decide +kernel
theorem dX9_readText_83 : decode cX9_readText 83 = .ok (.goto 56, 3) := by decide +kernel
theorem dX9_readText_86 : decode cX9_readText 86 = .ok (.aload_n 0, 1) := by decide +kernel
theorem dX9_readText_87 : decode cX9_readText 87 = .ok (.ldc 62, 2) := by decide +kernel
theorem dX9_readText_89 : decode cX9_readText 89 = .ok (.invokevirtual 50, 3) := by decide +kernel
theorem dX9_readText_92 : decode cX9_readText 92 = .ok (.ifCond .eq 10, 3) := by decide +kernel
theorem dX9_readText_95 : decode cX9_readText 95 = .ok (.aload_n 0, 1) := by decide +kernel
theorem dX9_readText_96 : decode cX9_readText 96 = .ok (.invokevirtual 64, 3) := by decide +kernel
theorem dX9_readText_99 : decode cX9_readText 99 = .ok (.goto 40, 3) := by decide +kernel
theorem dX9_readText_102 : decode cX9_readText 102 = .ok (.aload_n 0, 1) := by decide +kernel
theorem dX9_readText_103 : decode cX9_readText 103 = .ok (.ldc 67, 2) := by decide +kernel
theorem dX9_readText_105 : decode cX9_readText 105 = .ok (.invokevirtual 50, 3) := by decide +kernel
theorem dX9_readText_108 : decode cX9_readText 108 = .ok (.ifCond .eq 10, 3) := by decide +kernel
theorem dX9_readText_111 : decode cX9_readText 111 = .ok (.aload_n 0, 1) := by decide +kernel
theorem dX9_readText_112 : decode cX9_readText 112 = .ok (.invokevirtual 69, 3) := by decide +kernel
theorem dX9_readText_115 : decode cX9_readText 115 = .ok (.goto 24, 3) := by decide +kernel
theorem dX9_readText_118 : decode cX9_readText 118 = .ok (.aload_n 0, 1) := by decide +kernel
theorem dX9_readText_119 : decode cX9_readText 119 = .ok (.ldc 72, 2) := by decide +kernel
theorem dX9_readText_121 : decode cX9_readText 121 = .ok (.invokevirtual 50, 3) := by decide +kernel
theorem dX9_readText_124 : decode cX9_readText 124 = .ok (.ifCond .eq 10, 3) := by decide +kernel
theorem dX9_readText_127 : decode cX9_readText 127 = .ok (.aload_n 0, 1) := by decide +kernel
theorem dX9_readText_128 : decode cX9_readText 128 = .ok (.invokevirtual 74, 3) := by decide +kernel
theorem dX9_readText_131 : decode cX9_readText 131 = .ok (.goto 8, 3) := by decide +kernel
theorem dX9_readText_134 : decode cX9_readText 134 = .ok (.aload_n 0, 1) := by decide +kernel
theorem dX9_readText_135 : decode cX9_readText 135 = .ok (.iconst 2, 1) := by decide +kernel
theorem dX9_readText_136 : decode cX9_readText 136 = .ok (.invokevirtual 77, 3) := by decide +kernel
theorem dX9_readText_139 : decode cX9_readText 139 = .ok (.istore_n 1, 1) := by decide +kernel
theorem dX9_readText_140 : decode cX9_readText 140 = .ok (.iload_n 1, 1) := by decide +kernel
theorem dX9_readText_141 : decode cX9_readText 141 = .ok (.ifCond .ne 5, 3) := by decide +kernel
theorem dX9_readText_144 : decode cX9_readText 144 = .ok (.iconst 0, 1) := by decide +kernel
theorem dX9_readText_145 : decode cX9_readText 145 = .ok (.ireturn, 1) := by decide +kernel
theorem dX9_readText_146 : decode cX9_readText 146 = .ok (.aload_n 0, 1) := by decide +kernel
theorem dX9_readText_147 : decode cX9_readText 147 = .ok (.dup, 1) := by decide +kernel
theorem dX9_readText_148 : decode cX9_readText 148 = .ok (.getfield 32, 3) := by decide +kernel
theorem dX9_readText_151 : decode cX9_readText 151 = .ok (.iconst 1, 1) := by decide +kernel
theorem dX9_readText_152 : decode cX9_readText 152 = .ok (.iadd, 1) := by decide +kernel
theorem dX9_readText_153 : decode cX9_readText 153 = .ok (.putfield 32, 3) := by decide +kernel
theorem dX9_readText_156 : decode cX9_readText 156 = .ok (.goto (-134), 3) := by decide +kernel
theorem dX9_readText_159 : decode cX9_readText 159 = .ok (.aload_n 0, 1) := by decide +kernel
theorem dX9_readText_160 : decode cX9_readText 160 = .ok (.invokevirtual 45, 3) := by decide +kernel
theorem dX9_readText_163 : decode cX9_readText 163 = .ok (.ireturn, 1) := by decide +kernel
theorem dX9_readHouse_0 : decode cX9_readHouse 0 = .ok (.aload_n 0, 1) := by decide +kernel
theorem dX9_readHouse_1 : decode cX9_readHouse 1 = .ok (.getfield 18, 3) := by decide +kernel
theorem dX9_readHouse_4 : decode cX9_readHouse 4 = .ok (.getfield 81, 3) := by decide +kernel
theorem dX9_readHouse_7 : decode cX9_readHouse 7 = .ok (.iconst 5, 1) := by decide +kernel
theorem dX9_readHouse_8 : decode cX9_readHouse 8 = .ok (.if_icmp .lt 9, 3) := by decide +kernel
theorem dX9_readHouse_11 : decode cX9_readHouse 11 = .ok (.aload_n 0, 1) := by decide +kernel
theorem dX9_readHouse_12 : decode cX9_readHouse 12 = .ok (.iconst 5, 1) := by decide +kernel
theorem dX9_readHouse_13 : decode cX9_readHouse 13 = .ok (.invokevirtual 77, 3) := by decide +kernel
theorem dX9_readHouse_16 : decode cX9_readHouse 16 = .ok (.ireturn, 1) := by decide +kernel
theorem dX9_readHouse_17 : decode cX9_readHouse 17 = .ok (.aload_n 0, 1) := by decide +kernel
theorem dX9_readHouse_18 : decode cX9_readHouse 18 = .ok (.invokevirtual 38, 3) := by decide +kernel
theorem dX9_readHouse_21 : decode cX9_readHouse 21 = .ok (.ifCond .ne 5, 3) := by decide +kernel
theorem dX9_readHouse_24 : decode cX9_readHouse 24 = .ok (.iconst 0, 1) := by decide +kernel
theorem dX9_readHouse_25 : decode cX9_readHouse 25 = .ok (.ireturn, 1) := by decide +kernel
theorem dX9_readHouse_26 : decode cX9_readHouse 26 = .ok (.aload_n 0, 1) := by decide +kernel
theorem dX9_readHouse_27 : decode cX9_readHouse 27 = .ok (.ldc 84, 2) := by decide +kernel
theorem dX9_readHouse_29 : decode cX9_readHouse 29 = .ok (.invokevirtual 50, 3) := by decide +kernel
theorem dX9_readHouse_32 : decode cX9_readHouse 32 = .ok (.istore_n 1, 1) := by decide +kernel
theorem dX9_readHouse_33 : decode cX9_readHouse 33 = .ok (.iload_n 1, 1) := by decide +kernel
theorem dX9_readHouse_34 : decode cX9_readHouse 34 = .ok (.ifCond .eq 12, 3) := by decide +kernel
theorem dX9_readHouse_37 : decode cX9_readHouse 37 = .ok (.aload_n 0, 1) := by decide +kernel
theorem dX9_readHouse_38 : decode cX9_readHouse 38 = .ok (.invokevirtual 38, 3) := by decide +kernel
theorem dX9_readHouse_41 : decode cX9_readHouse 41 = .ok (.ifCond .ne 5, 3) := by decide +kernel
theorem dX9_readHouse_44 : decode cX9_readHouse 44 = .ok (.iconst 0, 1) := by decide +kernel
theorem dX9_readHouse_45 : decode cX9_readHouse 45 = .ok (.ireturn, 1) := by decide +kernel
theorem dX9_readHouse_46 : decode cX9_readHouse 46 = .ok (.aload_n 0, 1) := by decide +kernel
theorem dX9_readHouse_47 : decode cX9_readHouse 47 = .ok (.getfield 18, 3) := by decide +kernel
theorem dX9_readHouse_50 : decode cX9_readHouse 50 = .ok (.iload_n 1, 1) := by decide +kernel
theorem dX9_readHouse_51 : decode cX9_readHouse 51 = .ok (.invokevirtual 86, 3) := by decide +kernel
theorem dX9_readHouse_54 : decode cX9_readHouse 54 = .ok (.aload_n 0, 1) := by decide +kernel
theorem dX9_readHouse_55 : decode cX9_readHouse 55 = .ok (.invokevirtual 90, 3) := by decide +kernel
theorem dX9_readHouse_58 : decode cX9_readHouse 58 = .ok (.ireturn, 1) := by decide +kernel
theorem dX9_readDomain_0 : decode cX9_readDomain 0 = .ok (.aload_n 0, 1) := by decide +kernel
theorem dX9_readDomain_1 : decode cX9_readDomain 1 = .ok (.getfield 18, 3) := by decide +kernel
theorem dX9_readDomain_4 : decode cX9_readDomain 4 = .ok (.getfield 93, 3) := by decide +kernel
theorem dX9_readDomain_7 : decode cX9_readDomain 7 = .ok (.iconst 4, 1) := by decide +kernel
theorem dX9_readDomain_8 : decode cX9_readDomain 8 = .ok (.if_icmp .lt 9, 3) := by decide +kernel
theorem dX9_readDomain_11 : decode cX9_readDomain 11 = .ok (.aload_n 0, 1) := by decide +kernel
theorem dX9_readDomain_12 : decode cX9_readDomain 12 = .ok (.iconst 5, 1) := by decide +kernel
theorem dX9_readDomain_13 : decode cX9_readDomain 13 = .ok (.invokevirtual 77, 3) := by decide +kernel
theorem dX9_readDomain_16 : decode cX9_readDomain 16 = .ok (.ireturn, 1) := by decide +kernel
theorem dX9_readDomain_17 : decode cX9_readDomain 17 = .ok (.aload_n 0, 1) := by decide +kernel
theorem dX9_readDomain_18 : decode cX9_readDomain 18 = .ok (.getfield 18, 3) := by decide +kernel
theorem dX9_readDomain_21 : decode cX9_readDomain 21 = .ok (.getfield 93, 3) := by decide +kernel
theorem dX9_readDomain_24 : decode cX9_readDomain 24 = .ok (.istore_n 1, 1) := by decide +kernel
theorem dX9_readDomain_25 : decode cX9_readDomain 25 = .ok (.aload_n 0, 1) := by decide +kernel
theorem dX9_readDomain_26 : decode cX9_readDomain 26 = .ok (.getfield 18, 3) := by decide +kernel
theorem dX9_readDomain_29 : decode cX9_readDomain 29 = .ok (.dup, 1) := by decide +kernel
theorem dX9_readDomain_30 : decode cX9_readDomain 30 = .ok (.getfield 93, 3) := by decide +kernel
theorem dX9_readDomain_33 : decode cX9_readDomain 33 = .ok (.iconst 1, 1) := by decide +kernel
theorem dX9_readDomain_34 : decode cX9_readDomain 34 = .ok (.iadd, 1) := by decide +kernel
theorem dX9_readDomain_35 : decode cX9_readDomain 35 = .ok (.putfield 93, 3) := by decide +kernel
theorem dX9_readDomain_38 : decode cX9_readDomain 38 = .ok (.iconst 0, 1) := by decide +kernel
theorem dX9_readDomain_39 : decode cX9_readDomain 39 = .ok (.istore_n 2, 1) := by decide +kernel
theorem dX9_readDomain_40 : decode cX9_readDomain 40 = .ok (.iload_n 2, 1) := by decide +kernel
theorem dX9_readDomain_41 : decode cX9_readDomain 41 = .ok (.iconst 3, 1) := by decide +kernel
theorem dX9_readDomain_42 : decode cX9_readDomain 42 = .ok (.if_icmp .ge 38, 3) := by decide +kernel
theorem dX9_readDomain_45 : decode cX9_readDomain 45 = .ok (.aload_n 0, 1) := by decide +kernel
theorem dX9_readDomain_46 : decode cX9_readDomain 46 = .ok (.invokevirtual 38, 3) := by decide +kernel
theorem dX9_readDomain_49 : decode cX9_readDomain 49 = .ok (.ifCond .ne 5, 3) := by decide +kernel
theorem dX9_readDomain_52 : decode cX9_readDomain 52 = .ok (.iconst 0, 1) := by decide +kernel
theorem dX9_readDomain_53 : decode cX9_readDomain 53 = .ok (.ireturn, 1) := by decide +kernel
theorem dX9_readDomain_54 : decode cX9_readDomain 54 = .ok (.aload_n 0, 1) := by decide +kernel
theorem dX9_readDomain_55 : decode cX9_readDomain 55 = .ok (.getfield 42, 3) := by decide +kernel
theorem dX9_readDomain_58 : decode cX9_readDomain 58 = .ok (.iconst 3, 1) := by decide +kernel
theorem dX9_readDomain_59 : decode cX9_readDomain 59 = .ok (.if_icmp .ne 5, 3) := by decide +kernel
theorem dX9_readDomain_62 : decode cX9_readDomain 62 = .ok (.iconst 1, 1) := by decide +kernel
theorem dX9_readDomain_63 : decode cX9_readDomain 63 = .ok (.ireturn, 1) := by decide +kernel
theorem dX9_readDomain_64 : decode cX9_readDomain 64 = .ok (.aload_n 0, 1) := by decide +kernel
theorem dX9_readDomain_65 : decode cX9_readDomain 65 = .ok (.iload_n 1, 1) := by decide +kernel
theorem dX9_readDomain_66 : decode cX9_readDomain 66 = .ok (.invokevirtual 96, 3) := by decide +kernel
theorem dX9_readDomain_69 : decode cX9_readDomain 69 = .ok (.ifCond .ne 5, 3) := by decide +kernel
theorem dX9_readDomain_72 : decode cX9_readDomain 72 = .ok (.iconst 0, 1) := by decide +kernel
theorem dX9_readDomain_73 : decode cX9_readDomain 73 = .ok (.ireturn, 1) := by decide +kernel
theorem dX9_readDomain_74 : decode cX9_readDomain 74 = .ok (.iinc 2 1, 3) := by decide +kernel
theorem dX9_readDomain_77 : decode cX9_readDomain 77 = .ok (.goto (-37), 3) := by decide +kernel
theorem dX9_readDomain_80 : decode cX9_readDomain 80 = .ok (.aload_n 0, 1) := by decide +kernel
theorem dX9_readDomain_81 : decode cX9_readDomain 81 = .ok (.invokevirtual 99, 3) := by decide +kernel
theorem dX9_readDomain_84 : decode cX9_readDomain 84 = .ok (.ireturn, 1) := by decide +kernel
theorem dX9_readReceiver_0 : decode cX9_readReceiver 0 = .ok (.aload_n 0, 1) := by decide +kernel
theorem dX9_readReceiver_1 : decode cX9_readReceiver 1 = .ok (.iconst 4, 1) := by decide +kernel
theorem dX9_readReceiver_2 : decode cX9_readReceiver 2 = .ok (.invokevirtual 102, 3) := by decide +kernel
theorem dX9_readReceiver_5 : decode cX9_readReceiver 5 = .ok (.ifCond .ne 5, 3) := by decide +kernel
theorem dX9_readReceiver_8 : decode cX9_readReceiver 8 = .ok (.iconst 0, 1) := by decide +kernel
theorem dX9_readReceiver_9 : decode cX9_readReceiver 9 = .ok (.ireturn, 1) := by decide +kernel
theorem dX9_readReceiver_10 : decode cX9_readReceiver 10 = .ok (.aload_n 0, 1) := by decide +kernel
theorem dX9_readReceiver_11 : decode cX9_readReceiver 11 = .ok (.getfield 105, 3) := by decide +kernel
theorem dX9_readReceiver_14 : decode cX9_readReceiver 14 = .ok (.istore_n 2, 1) := by decide +kernel
theorem dX9_readReceiver_15 : decode cX9_readReceiver 15 = .ok (.aload_n 0, 1) := by decide +kernel
theorem dX9_readReceiver_16 : decode cX9_readReceiver 16 = .ok (.getfield 18, 3) := by decide +kernel
theorem dX9_readReceiver_19 : decode cX9_readReceiver 19 = .ok (.iload_n 2, 1) := by decide +kernel
theorem dX9_readReceiver_20 : decode cX9_readReceiver 20 = .ok (.iload_n 1, 1) := by decide +kernel
theorem dX9_readReceiver_21 : decode cX9_readReceiver 21 = .ok (.invokevirtual 108, 3) := by decide +kernel
theorem dX9_readReceiver_24 : decode cX9_readReceiver 24 = .ok (.bipush (-4), 2) := by decide +kernel
theorem dX9_readReceiver_26 : decode cX9_readReceiver 26 = .ok (.if_icmp .eq 9, 3) := by decide +kernel
theorem dX9_readReceiver_29 : decode cX9_readReceiver 29 = .ok (.aload_n 0, 1) := by decide +kernel
theorem dX9_readReceiver_30 : decode cX9_readReceiver 30 = .ok (.iconst 4, 1) := by decide +kernel
theorem dX9_readReceiver_31 : decode cX9_readReceiver 31 = .ok (.invokevirtual 77, 3) := by decide +kernel
theorem dX9_readReceiver_34 : decode cX9_readReceiver 34 = .ok (.ireturn, 1) := by decide +kernel
theorem dX9_readReceiver_35 : decode cX9_readReceiver 35 = .ok (.aload_n 0, 1) := by decide +kernel
theorem dX9_readReceiver_36 : decode cX9_readReceiver 36 = .ok (.invokevirtual 38, 3) := by decide +kernel
theorem dX9_readReceiver_39 : decode cX9_readReceiver 39 = .ok (.ifCond .eq 12, 3) := by decide +kernel
theorem dX9_readReceiver_42 : decode cX9_readReceiver 42 = .ok (.aload_n 0, 1) := by decide +kernel
theorem dX9_readReceiver_43 : decode cX9_readReceiver 43 = .ok (.bipush 9, 2) := by decide +kernel
theorem dX9_readReceiver_45 : decode cX9_readReceiver 45 = .ok (.invokevirtual 102, 3) := by decide +kernel
theorem dX9_readReceiver_48 : decode cX9_readReceiver 48 = .ok (.ifCond .ne 5, 3) := by decide +kernel
theorem dX9_readReceiver_51 : decode cX9_readReceiver 51 = .ok (.iconst 0, 1) := by decide +kernel
theorem dX9_readReceiver_52 : decode cX9_readReceiver 52 = .ok (.ireturn, 1) := by decide +kernel
theorem dX9_readReceiver_53 : decode cX9_readReceiver 53 = .ok (.aload_n 0, 1) := by decide +kernel
theorem dX9_readReceiver_54 : decode cX9_readReceiver 54 = .ok (.getfield 18, 3) := by decide +kernel
theorem dX9_readReceiver_57 : decode cX9_readReceiver 57 = .ok (.iload_n 1, 1) := by decide +kernel
theorem dX9_readReceiver_58 : decode cX9_readReceiver 58 = .ok (.iload_n 2, 1) := by decide +kernel
theorem dX9_readReceiver_59 : decode cX9_readReceiver 59 = .ok (.aload_n 0, 1) := by decide +kernel
theorem dX9_readReceiver_60 : decode cX9_readReceiver 60 = .ok (.getfield 105, 3) := by decide +kernel
theorem dX9_readReceiver_63 : decode cX9_readReceiver 63 = .ok (.invokevirtual 112, 3) := by decide +kernel
theorem dX9_readReceiver_66 : decode cX9_readReceiver 66 = .ok (.iconst 1, 1) := by decide +kernel
theorem dX9_readReceiver_67 : decode cX9_readReceiver 67 = .ok (.ireturn, 1) := by decide +kernel
theorem dX9_readTold_0 : decode cX9_readTold 0 = .ok (.aload_n 0, 1) := by decide +kernel
theorem dX9_readTold_1 : decode cX9_readTold 1 = .ok (.invokevirtual 38, 3) := by decide +kernel
theorem dX9_readTold_4 : decode cX9_readTold 4 = .ok (.ifCond .eq 10, 3) := by decide +kernel
theorem dX9_readTold_7 : decode cX9_readTold 7 = .ok (.aload_n 0, 1) := by decide +kernel
theorem dX9_readTold_8 : decode cX9_readTold 8 = .ok (.invokevirtual 116, 3) := by decide +kernel
theorem dX9_readTold_11 : decode cX9_readTold 11 = .ok (.ifCond .ne 5, 3) := by decide +kernel
theorem dX9_readTold_14 : decode cX9_readTold 14 = .ok (.iconst 0, 1) := by decide +kernel
theorem dX9_readTold_15 : decode cX9_readTold 15 = .ok (.ireturn, 1) := by decide +kernel
theorem dX9_readTold_16 : decode cX9_readTold 16 = .ok (.aload_n 0, 1) := by decide +kernel
theorem dX9_readTold_17 : decode cX9_readTold 17 = .ok (.getfield 18, 3) := by decide +kernel
theorem dX9_readTold_20 : decode cX9_readTold 20 = .ok (.getfield 119, 3) := by decide +kernel
theorem dX9_readTold_23 : decode cX9_readTold 23 = .ok (.aload_n 0, 1) := by decide +kernel
theorem dX9_readTold_24 : decode cX9_readTold 24 = .ok (.getfield 123, 3) := by decide +kernel
theorem dX9_readTold_27 : decode cX9_readTold 27 = .ok (.iaload, 1) := by decide +kernel
theorem dX9_readTold_28 : decode cX9_readTold 28 = .ok (.ifCond .eq 9, 3) := by decide +kernel
theorem dX9_readTold_31 : decode cX9_readTold 31 = .ok (.aload_n 0, 1) := by decide +kernel
theorem dX9_readTold_32 : decode cX9_readTold 32 = .ok (.iconst 4, 1) := by decide +kernel
theorem dX9_readTold_33 : decode cX9_readTold 33 = .ok (.invokevirtual 77, 3) := by decide +kernel
theorem dX9_readTold_36 : decode cX9_readTold 36 = .ok (.ireturn, 1) := by decide +kernel
theorem dX9_readTold_37 : decode cX9_readTold 37 = .ok (.aload_n 0, 1) := by decide +kernel
theorem dX9_readTold_38 : decode cX9_readTold 38 = .ok (.getfield 18, 3) := by decide +kernel
theorem dX9_readTold_41 : decode cX9_readTold 41 = .ok (.aload_n 0, 1) := by decide +kernel
theorem dX9_readTold_42 : decode cX9_readTold 42 = .ok (.getfield 123, 3) := by decide +kernel
theorem dX9_readTold_45 : decode cX9_readTold 45 = .ok (.iload_n 1, 1) := by decide +kernel
theorem dX9_readTold_46 : decode cX9_readTold 46 = .ok (.invokevirtual 126, 3) := by decide +kernel
theorem dX9_readTold_49 : decode cX9_readTold 49 = .ok (.iconst 1, 1) := by decide +kernel
theorem dX9_readTold_50 : decode cX9_readTold 50 = .ok (.ireturn, 1) := by decide +kernel
theorem dX9_readBox_0 : decode cX9_readBox 0 = .ok (.aload_n 0, 1) := by decide +kernel
theorem dX9_readBox_1 : decode cX9_readBox 1 = .ok (.iconst 1, 1) := by decide +kernel
theorem dX9_readBox_2 : decode cX9_readBox 2 = .ok (.invokevirtual 130, 3) := by decide +kernel
theorem dX9_readBox_5 : decode cX9_readBox 5 = .ok (.ifCond .eq 14, 3) := by decide +kernel
theorem dX9_readBox_8 : decode cX9_readBox 8 = .ok (.aload_n 0, 1) := by decide +kernel
theorem dX9_readBox_9 : decode cX9_readBox 9 = .ok (.invokevirtual 99, 3) := by decide +kernel
theorem dX9_readBox_12 : decode cX9_readBox 12 = .ok (.ifCond .eq 7, 3) := by decide +kernel
theorem dX9_readBox_15 : decode cX9_readBox 15 = .ok (.iconst 1, 1) := by decide +kernel
theorem dX9_readBox_16 : decode cX9_readBox 16 = .ok (.goto 4, 3) := by decide +kernel
theorem dX9_readBox_19 : decode cX9_readBox 19 = .ok (.iconst 0, 1) := by decide +kernel
theorem dX9_readBox_20 : decode cX9_readBox 20 = .ok (.ireturn, 1) := by decide +kernel
theorem dX9_readAlias_0 : decode cX9_readAlias 0 = .ok (.aload_n 0, 1) := by decide +kernel
theorem dX9_readAlias_1 : decode cX9_readAlias 1 = .ok (.iconst 2, 1) := by decide +kernel
theorem dX9_readAlias_2 : decode cX9_readAlias 2 = .ok (.invokevirtual 130, 3) := by decide +kernel
theorem dX9_readAlias_5 : decode cX9_readAlias 5 = .ok (.ifCond .ne 5, 3) := by decide +kernel
theorem dX9_readAlias_8 : decode cX9_readAlias 8 = .ok (.iconst 0, 1) := by decide +kernel
theorem dX9_readAlias_9 : decode cX9_readAlias 9 = .ok (.ireturn, 1) := by decide +kernel
theorem dX9_readAlias_10 : decode cX9_readAlias 10 = .ok (.aload_n 0, 1) := by decide +kernel
theorem dX9_readAlias_11 : decode cX9_readAlias 11 = .ok (.getfield 123, 3) := by decide +kernel
theorem dX9_readAlias_14 : decode cX9_readAlias 14 = .ok (.istore_n 1, 1) := by decide +kernel
theorem dX9_readAlias_15 : decode cX9_readAlias 15 = .ok (.aload_n 0, 1) := by decide +kernel
theorem dX9_readAlias_16 : decode cX9_readAlias 16 = .ok (.invokevirtual 38, 3) := by decide +kernel
theorem dX9_readAlias_19 : decode cX9_readAlias 19 = .ok (.ifCond .eq 10, 3) := by decide +kernel
theorem dX9_readAlias_22 : decode cX9_readAlias 22 = .ok (.aload_n 0, 1) := by decide +kernel
theorem dX9_readAlias_23 : decode cX9_readAlias 23 = .ok (.invokevirtual 116, 3) := by decide +kernel
theorem dX9_readAlias_26 : decode cX9_readAlias 26 = .ok (.ifCond .ne 5, 3) := by decide +kernel
theorem dX9_readAlias_29 : decode cX9_readAlias 29 = .ok (.iconst 0, 1) := by decide +kernel
theorem dX9_readAlias_30 : decode cX9_readAlias 30 = .ok (.ireturn, 1) := by decide +kernel
theorem dX9_readAlias_31 : decode cX9_readAlias 31 = .ok (.aload_n 0, 1) := by decide +kernel
theorem dX9_readAlias_32 : decode cX9_readAlias 32 = .ok (.getfield 18, 3) := by decide +kernel
theorem dX9_readAlias_35 : decode cX9_readAlias 35 = .ok (.iload_n 1, 1) := by decide +kernel
theorem dX9_readAlias_36 : decode cX9_readAlias 36 = .ok (.aload_n 0, 1) := by decide +kernel
theorem dX9_readAlias_37 : decode cX9_readAlias 37 = .ok (.getfield 123, 3) := by decide +kernel
theorem dX9_readAlias_40 : decode cX9_readAlias 40 = .ok (.invokevirtual 133, 3) := by decide +kernel
theorem dX9_readAlias_43 : decode cX9_readAlias 43 = .ok (.aload_n 0, 1) := by decide +kernel
theorem dX9_readAlias_44 : decode cX9_readAlias 44 = .ok (.invokevirtual 99, 3) := by decide +kernel
theorem dX9_readAlias_47 : decode cX9_readAlias 47 = .ok (.ireturn, 1) := by decide +kernel
theorem dX9_readList_0 : decode cX9_readList 0 = .ok (.aload_n 0, 1) := by decide +kernel
theorem dX9_readList_1 : decode cX9_readList 1 = .ok (.iconst 3, 1) := by decide +kernel
theorem dX9_readList_2 : decode cX9_readList 2 = .ok (.invokevirtual 130, 3) := by decide +kernel
theorem dX9_readList_5 : decode cX9_readList 5 = .ok (.ifCond .ne 5, 3) := by decide +kernel
theorem dX9_readList_8 : decode cX9_readList 8 = .ok (.iconst 0, 1) := by decide +kernel
theorem dX9_readList_9 : decode cX9_readList 9 = .ok (.ireturn, 1) := by decide +kernel
theorem dX9_readList_10 : decode cX9_readList 10 = .ok (.aload_n 0, 1) := by decide +kernel
theorem dX9_readList_11 : decode cX9_readList 11 = .ok (.getfield 123, 3) := by decide +kernel
theorem dX9_readList_14 : decode cX9_readList 14 = .ok (.istore_n 1, 1) := by decide +kernel
theorem dX9_readList_15 : decode cX9_readList 15 = .ok (.iconst 0, 1) := by decide +kernel
theorem dX9_readList_16 : decode cX9_readList 16 = .ok (.istore_n 2, 1) := by decide +kernel
theorem dX9_readList_17 : decode cX9_readList 17 = .ok (.iload_n 2, 1) := by decide +kernel
theorem dX9_readList_18 : decode cX9_readList 18 = .ok (.iconst 4, 1) := by decide +kernel
theorem dX9_readList_19 : decode cX9_readList 19 = .ok (.if_icmp .ge 74, 3) := by decide +kernel
theorem dX9_readList_22 : decode cX9_readList 22 = .ok (.aload_n 0, 1) := by decide +kernel
theorem dX9_readList_23 : decode cX9_readList 23 = .ok (.invokevirtual 38, 3) := by decide +kernel
theorem dX9_readList_26 : decode cX9_readList 26 = .ok (.ifCond .ne 5, 3) := by decide +kernel
theorem dX9_readList_29 : decode cX9_readList 29 = .ok (.iconst 0, 1) := by decide +kernel
theorem dX9_readList_30 : decode cX9_readList 30 = .ok (.ireturn, 1) := by decide +kernel
theorem dX9_readList_31 : decode cX9_readList 31 = .ok (.aload_n 0, 1) := by decide +kernel
theorem dX9_readList_32 : decode cX9_readList 32 = .ok (.getfield 42, 3) := by decide +kernel
theorem dX9_readList_35 : decode cX9_readList 35 = .ok (.iconst 3, 1) := by decide +kernel
theorem dX9_readList_36 : decode cX9_readList 36 = .ok (.if_icmp .ne 9, 3) := by decide +kernel
theorem dX9_readList_39 : decode cX9_readList 39 = .ok (.iload_n 2, 1) := by decide +kernel
theorem dX9_readList_40 : decode cX9_readList 40 = .ok (.ifCond .le 5, 3) := by decide +kernel
theorem dX9_readList_43 : decode cX9_readList 43 = .ok (.iconst 1, 1) := by decide +kernel
theorem dX9_readList_44 : decode cX9_readList 44 = .ok (.ireturn, 1) := by decide +kernel
theorem dX9_readList_45 : decode cX9_readList 45 = .ok (.aload_n 0, 1) := by decide +kernel
theorem dX9_readList_46 : decode cX9_readList 46 = .ok (.invokevirtual 116, 3) := by decide +kernel
theorem dX9_readList_49 : decode cX9_readList 49 = .ok (.ifCond .ne 5, 3) := by decide +kernel
theorem dX9_readList_52 : decode cX9_readList 52 = .ok (.iconst 0, 1) := by decide +kernel
theorem dX9_readList_53 : decode cX9_readList 53 = .ok (.ireturn, 1) := by decide +kernel
theorem dX9_readList_54 : decode cX9_readList 54 = .ok (.aload_n 0, 1) := by decide +kernel
theorem dX9_readList_55 : decode cX9_readList 55 = .ok (.getfield 18, 3) := by decide +kernel
theorem dX9_readList_58 : decode cX9_readList 58 = .ok (.iload_n 1, 1) := by decide +kernel
theorem dX9_readList_59 : decode cX9_readList 59 = .ok (.aload_n 0, 1) := by decide +kernel
theorem dX9_readList_60 : decode cX9_readList 60 = .ok (.getfield 123, 3) := by decide +kernel
theorem dX9_readList_63 : decode cX9_readList 63 = .ok (.invokevirtual 136, 3) := by decide +kernel
theorem dX9_readList_66 : decode cX9_readList 66 = .ok (.ifCond .eq 9, 3) := by decide +kernel
theorem dX9_readList_69 : decode cX9_readList 69 = .ok (.aload_n 0, 1) := by decide +kernel
theorem dX9_readList_70 : decode cX9_readList 70 = .ok (.iconst 4, 1) := by decide +kernel
theorem dX9_readList_71 : decode cX9_readList 71 = .ok (.invokevirtual 77, 3) := by decide +kernel
theorem dX9_readList_74 : decode cX9_readList 74 = .ok (.ireturn, 1) := by decide +kernel
theorem dX9_readList_75 : decode cX9_readList 75 = .ok (.aload_n 0, 1) := by decide +kernel
theorem dX9_readList_76 : decode cX9_readList 76 = .ok (.getfield 18, 3) := by decide +kernel
theorem dX9_readList_79 : decode cX9_readList 79 = .ok (.iload_n 1, 1) := by decide +kernel
theorem dX9_readList_80 : decode cX9_readList 80 = .ok (.aload_n 0, 1) := by decide +kernel
theorem dX9_readList_81 : decode cX9_readList 81 = .ok (.getfield 123, 3) := by decide +kernel
theorem dX9_readList_84 : decode cX9_readList 84 = .ok (.invokevirtual 133, 3) := by decide +kernel
theorem dX9_readList_87 : decode cX9_readList 87 = .ok (.iinc 2 1, 3) := by decide +kernel
theorem dX9_readList_90 : decode cX9_readList 90 = .ok (.goto (-73), 3) := by decide +kernel
theorem dX9_readList_93 : decode cX9_readList 93 = .ok (.aload_n 0, 1) := by decide +kernel
theorem dX9_readList_94 : decode cX9_readList 94 = .ok (.invokevirtual 99, 3) := by decide +kernel
theorem dX9_readList_97 : decode cX9_readList 97 = .ok (.ireturn, 1) := by decide +kernel
theorem dX9_addressStands_0 : decode cX9_addressStands 0 = .ok (.aload_n 0, 1) := by decide +kernel
theorem dX9_addressStands_1 : decode cX9_addressStands 1 = .ok (.iconst 3, 1) := by decide +kernel
theorem dX9_addressStands_2 : decode cX9_addressStands 2 = .ok (.invokevirtual 102, 3) := by decide +kernel
theorem dX9_addressStands_5 : decode cX9_addressStands 5 = .ok (.ifCond .ne 5, 3) := by decide +kernel
theorem dX9_addressStands_8 : decode cX9_addressStands 8 = .ok (.iconst 0, 1) := by decide +kernel
theorem dX9_addressStands_9 : decode cX9_addressStands 9 = .ok (.ireturn, 1) := by decide +kernel
theorem dX9_addressStands_10 : decode cX9_addressStands 10 = .ok (.aload_n 0, 1) := by decide +kernel
theorem dX9_addressStands_11 : decode cX9_addressStands 11 = .ok (.getfield 105, 3) := by decide +kernel
theorem dX9_addressStands_14 : decode cX9_addressStands 14 = .ok (.istore_n 1, 1) := by decide +kernel
theorem dX9_addressStands_15 : decode cX9_addressStands 15 = .ok (.aload_n 0, 1) := by decide +kernel
theorem dX9_addressStands_16 : decode cX9_addressStands 16 = .ok (.invokevirtual 38, 3) := by decide +kernel
theorem dX9_addressStands_19 : decode cX9_addressStands 19 = .ok (.ifCond .eq 12, 3) := by decide +kernel
theorem dX9_addressStands_22 : decode cX9_addressStands 22 = .ok (.aload_n 0, 1) := by decide +kernel
theorem dX9_addressStands_23 : decode cX9_addressStands 23 = .ok (.bipush 7, 2) := by decide +kernel
theorem dX9_addressStands_25 : decode cX9_addressStands 25 = .ok (.invokevirtual 102, 3) := by decide +kernel
theorem dX9_addressStands_28 : decode cX9_addressStands 28 = .ok (.ifCond .ne 5, 3) := by decide +kernel
theorem dX9_addressStands_31 : decode cX9_addressStands 31 = .ok (.iconst 0, 1) := by decide +kernel
theorem dX9_addressStands_32 : decode cX9_addressStands 32 = .ok (.ireturn, 1) := by decide +kernel
theorem dX9_addressStands_33 : decode cX9_addressStands 33 = .ok (.aload_n 0, 1) := by decide +kernel
theorem dX9_addressStands_34 : decode cX9_addressStands 34 = .ok (.bipush 8, 2) := by decide +kernel
theorem dX9_addressStands_36 : decode cX9_addressStands 36 = .ok (.iload_n 1, 1) := by decide +kernel
theorem dX9_addressStands_37 : decode cX9_addressStands 37 = .ok (.imul, 1) := by decide +kernel
theorem dX9_addressStands_38 : decode cX9_addressStands 38 = .ok (.aload_n 0, 1) := by decide +kernel
theorem dX9_addressStands_39 : decode cX9_addressStands 39 = .ok (.getfield 105, 3) := by decide +kernel
theorem dX9_addressStands_42 : decode cX9_addressStands 42 = .ok (.iadd, 1) := by decide +kernel
theorem dX9_addressStands_43 : decode cX9_addressStands 43 = .ok (.putfield 123, 3) := by decide +kernel
theorem dX9_addressStands_46 : decode cX9_addressStands 46 = .ok (.iconst 1, 1) := by decide +kernel
theorem dX9_addressStands_47 : decode cX9_addressStands 47 = .ok (.ireturn, 1) := by decide +kernel
theorem dX9_numberStands_0 : decode cX9_numberStands 0 = .ok (.aload_n 0, 1) := by decide +kernel
theorem dX9_numberStands_1 : decode cX9_numberStands 1 = .ok (.getfield 42, 3) := by decide +kernel
theorem dX9_numberStands_4 : decode cX9_numberStands 4 = .ok (.iconst 2, 1) := by decide +kernel
theorem dX9_numberStands_5 : decode cX9_numberStands 5 = .ok (.if_icmp .eq 9, 3) := by decide +kernel
theorem dX9_numberStands_8 : decode cX9_numberStands 8 = .ok (.aload_n 0, 1) := by decide +kernel
theorem dX9_numberStands_9 : decode cX9_numberStands 9 = .ok (.iconst 2, 1) := by decide +kernel
theorem dX9_numberStands_10 : decode cX9_numberStands 10 = .ok (.invokevirtual 77, 3) := by decide +kernel
theorem dX9_numberStands_13 : decode cX9_numberStands 13 = .ok (.ireturn, 1) := by decide +kernel
theorem dX9_numberStands_14 : decode cX9_numberStands 14 = .ok (.aload_n 0, 1) := by decide +kernel
theorem dX9_numberStands_15 : decode cX9_numberStands 15 = .ok (.getfield 105, 3) := by decide +kernel
theorem dX9_numberStands_18 : decode cX9_numberStands 18 = .ok (.iload_n 1, 1) := by decide +kernel
theorem dX9_numberStands_19 : decode cX9_numberStands 19 = .ok (.if_icmp .le 11, 3) := by decide +kernel
theorem dX9_numberStands_22 : decode cX9_numberStands 22 = .ok (.aload_n 0, 1) := by decide +kernel
theorem dX9_numberStands_23 : decode cX9_numberStands 23 = .ok (.iconst 3, 1) := by decide +kernel
theorem dX9_numberStands_24 : decode cX9_numberStands 24 = .ok (.invokevirtual 77, 3) := by decide +kernel
theorem dX9_numberStands_27 : decode cX9_numberStands 27 = .ok (.ifCond .eq 7, 3) := by decide +kernel
theorem dX9_numberStands_30 : decode cX9_numberStands 30 = .ok (.iconst 1, 1) := by decide +kernel
theorem dX9_numberStands_31 : decode cX9_numberStands 31 = .ok (.goto 4, 3) := by decide +kernel
theorem dX9_numberStands_34 : decode cX9_numberStands 34 = .ok (.iconst 0, 1) := by decide +kernel
theorem dX9_numberStands_35 : decode cX9_numberStands 35 = .ok (.ireturn, 1) := by decide +kernel
theorem dX9_readSign_0 : decode cX9_readSign 0 = .ok (.aload_n 0, 1) := by decide +kernel
theorem dX9_readSign_1 : decode cX9_readSign 1 = .ok (.invokevirtual 38, 3) := by decide +kernel
theorem dX9_readSign_4 : decode cX9_readSign 4 = .ok (.ifCond .eq 14, 3) := by decide +kernel
theorem dX9_readSign_7 : decode cX9_readSign 7 = .ok (.aload_n 0, 1) := by decide +kernel
theorem dX9_readSign_8 : decode cX9_readSign 8 = .ok (.invokevirtual 90, 3) := by decide +kernel
theorem dX9_readSign_11 : decode cX9_readSign 11 = .ok (.ifCond .eq 7, 3) := by decide +kernel
theorem dX9_readSign_14 : decode cX9_readSign 14 = .ok (.iconst 1, 1) := by decide +kernel
theorem dX9_readSign_15 : decode cX9_readSign 15 = .ok (.goto 4, 3) := by decide +kernel
theorem dX9_readSign_18 : decode cX9_readSign 18 = .ok (.iconst 0, 1) := by decide +kernel
theorem dX9_readSign_19 : decode cX9_readSign 19 = .ok (.ireturn, 1) := by decide +kernel
theorem dX9_signStands_0 : decode cX9_signStands 0 = .ok (.aload_n 0, 1) := by decide +kernel
theorem dX9_signStands_1 : decode cX9_signStands 1 = .ok (.getfield 42, 3) := by decide +kernel
theorem dX9_signStands_4 : decode cX9_signStands 4 = .ok (.iconst 3, 1) := by decide +kernel
theorem dX9_signStands_5 : decode cX9_signStands 5 = .ok (.if_icmp .eq 11, 3) := by decide +kernel
theorem dX9_signStands_8 : decode cX9_signStands 8 = .ok (.aload_n 0, 1) := by decide +kernel
theorem dX9_signStands_9 : decode cX9_signStands 9 = .ok (.iconst 2, 1) := by decide +kernel
theorem dX9_signStands_10 : decode cX9_signStands 10 = .ok (.invokevirtual 77, 3) := by decide +kernel
theorem dX9_signStands_13 : decode cX9_signStands 13 = .ok (.ifCond .eq 7, 3) := by decide +kernel
theorem dX9_signStands_16 : decode cX9_signStands 16 = .ok (.iconst 1, 1) := by decide +kernel
theorem dX9_signStands_17 : decode cX9_signStands 17 = .ok (.goto 4, 3) := by decide +kernel
theorem dX9_signStands_20 : decode cX9_signStands 20 = .ok (.iconst 0, 1) := by decide +kernel
theorem dX9_signStands_21 : decode cX9_signStands 21 = .ok (.ireturn, 1) := by decide +kernel
theorem dX9_allIsThere_0 : decode cX9_allIsThere 0 = .ok (.aload_n 0, 1) := by decide +kernel
theorem dX9_allIsThere_1 : decode cX9_allIsThere 1 = .ok (.aload_n 0, 1) := by decide +kernel
theorem dX9_allIsThere_2 : decode cX9_allIsThere 2 = .ok (.getfield 35, 3) := by decide +kernel
theorem dX9_allIsThere_5 : decode cX9_allIsThere 5 = .ok (.putfield 140, 3) := by decide +kernel
theorem dX9_allIsThere_8 : decode cX9_allIsThere 8 = .ok (.iconst 0, 1) := by decide +kernel
theorem dX9_allIsThere_9 : decode cX9_allIsThere 9 = .ok (.istore_n 1, 1) := by decide +kernel
theorem dX9_allIsThere_10 : decode cX9_allIsThere 10 = .ok (.iload_n 1, 1) := by decide +kernel
theorem dX9_allIsThere_11 : decode cX9_allIsThere 11 = .ok (.aload_n 0, 1) := by decide +kernel
theorem dX9_allIsThere_12 : decode cX9_allIsThere 12 = .ok (.getfield 18, 3) := by decide +kernel
theorem dX9_allIsThere_15 : decode cX9_allIsThere 15 = .ok (.getfield 93, 3) := by decide +kernel
theorem dX9_allIsThere_18 : decode cX9_allIsThere 18 = .ok (.if_icmp .ge 60, 3) := by decide +kernel
theorem dX9_allIsThere_21 : decode cX9_allIsThere 21 = .ok (.iconst 0, 1) := by decide +kernel
theorem dX9_allIsThere_22 : decode cX9_allIsThere 22 = .ok (.istore_n 2, 1) := by decide +kernel
theorem dX9_allIsThere_23 : decode cX9_allIsThere 23 = .ok (.iload_n 2, 1) := by decide +kernel
theorem dX9_allIsThere_24 : decode cX9_allIsThere 24 = .ok (.aload_n 0, 1) := by decide +kernel
theorem dX9_allIsThere_25 : decode cX9_allIsThere 25 = .ok (.getfield 18, 3) := by decide +kernel
theorem dX9_allIsThere_28 : decode cX9_allIsThere 28 = .ok (.getfield 143, 3) := by decide +kernel
theorem dX9_allIsThere_31 : decode cX9_allIsThere 31 = .ok (.iload_n 1, 1) := by decide +kernel
theorem dX9_allIsThere_32 : decode cX9_allIsThere 32 = .ok (.iaload, 1) := by decide +kernel
theorem dX9_allIsThere_33 : decode cX9_allIsThere 33 = .ok (.if_icmp .ge 39, 3) := by decide +kernel
theorem dX9_allIsThere_36 : decode cX9_allIsThere 36 = .ok (.aload_n 0, 1) := by decide +kernel
theorem dX9_allIsThere_37 : decode cX9_allIsThere 37 = .ok (.getfield 18, 3) := by decide +kernel
theorem dX9_allIsThere_40 : decode cX9_allIsThere 40 = .ok (.getfield 146, 3) := by decide +kernel
theorem dX9_allIsThere_43 : decode cX9_allIsThere 43 = .ok (.iload_n 1, 1) := by decide +kernel
theorem dX9_allIsThere_44 : decode cX9_allIsThere 44 = .ok (.iconst 3, 1) := by decide +kernel
theorem dX9_allIsThere_45 : decode cX9_allIsThere 45 = .ok (.imul, 1) := by decide +kernel
theorem dX9_allIsThere_46 : decode cX9_allIsThere 46 = .ok (.iload_n 2, 1) := by decide +kernel
theorem dX9_allIsThere_47 : decode cX9_allIsThere 47 = .ok (.iadd, 1) := by decide +kernel
theorem dX9_allIsThere_48 : decode cX9_allIsThere 48 = .ok (.iaload, 1) := by decide +kernel
theorem dX9_allIsThere_49 : decode cX9_allIsThere 49 = .ok (.aload_n 0, 1) := by decide +kernel
theorem dX9_allIsThere_50 : decode cX9_allIsThere 50 = .ok (.getfield 18, 3) := by decide +kernel
theorem dX9_allIsThere_53 : decode cX9_allIsThere 53 = .ok (.getfield 81, 3) := by decide +kernel
theorem dX9_allIsThere_56 : decode cX9_allIsThere 56 = .ok (.if_icmp .lt 10, 3) := by decide +kernel
theorem dX9_allIsThere_59 : decode cX9_allIsThere 59 = .ok (.aload_n 0, 1) := by decide +kernel
theorem dX9_allIsThere_60 : decode cX9_allIsThere 60 = .ok (.bipush 6, 2) := by decide +kernel
theorem dX9_allIsThere_62 : decode cX9_allIsThere 62 = .ok (.invokevirtual 77, 3) := by decide +kernel
theorem dX9_allIsThere_65 : decode cX9_allIsThere 65 = .ok (.ireturn, 1) := by decide +kernel
theorem dX9_allIsThere_66 : decode cX9_allIsThere 66 = .ok (.iinc 2 1, 3) := by decide +kernel
theorem dX9_allIsThere_69 : decode cX9_allIsThere 69 = .ok (.goto (-46), 3) := by decide +kernel
theorem dX9_allIsThere_72 : decode cX9_allIsThere 72 = .ok (.iinc 1 1, 3) := by decide +kernel
theorem dX9_allIsThere_75 : decode cX9_allIsThere 75 = .ok (.goto (-65), 3) := by decide +kernel
theorem dX9_allIsThere_78 : decode cX9_allIsThere 78 = .ok (.aload_n 0, 1) := by decide +kernel
theorem dX9_allIsThere_79 : decode cX9_allIsThere 79 = .ok (.getfield 18, 3) := by decide +kernel
theorem dX9_allIsThere_82 : decode cX9_allIsThere 82 = .ok (.getfield 93, 3) := by decide +kernel
theorem dX9_allIsThere_85 : decode cX9_allIsThere 85 = .ok (.bipush 8, 2) := by decide +kernel
theorem dX9_allIsThere_87 : decode cX9_allIsThere 87 = .ok (.imul, 1) := by decide +kernel
theorem dX9_allIsThere_88 : decode cX9_allIsThere 88 = .ok (.istore_n 1, 1) := by decide +kernel
theorem dX9_allIsThere_89 : decode cX9_allIsThere 89 = .ok (.iload_n 1, 1) := by decide +kernel
theorem dX9_allIsThere_90 : decode cX9_allIsThere 90 = .ok (.bipush 32, 2) := by decide +kernel
theorem dX9_allIsThere_92 : decode cX9_allIsThere 92 = .ok (.if_icmp .ge 28, 3) := by decide +kernel
theorem dX9_allIsThere_95 : decode cX9_allIsThere 95 = .ok (.aload_n 0, 1) := by decide +kernel
theorem dX9_allIsThere_96 : decode cX9_allIsThere 96 = .ok (.getfield 18, 3) := by decide +kernel
theorem dX9_allIsThere_99 : decode cX9_allIsThere 99 = .ok (.getfield 119, 3) := by decide +kernel
theorem dX9_allIsThere_102 : decode cX9_allIsThere 102 = .ok (.iload_n 1, 1) := by decide +kernel
theorem dX9_allIsThere_103 : decode cX9_allIsThere 103 = .ok (.iaload, 1) := by decide +kernel
theorem dX9_allIsThere_104 : decode cX9_allIsThere 104 = .ok (.ifCond .eq 10, 3) := by decide +kernel
theorem dX9_allIsThere_107 : decode cX9_allIsThere 107 = .ok (.aload_n 0, 1) := by decide +kernel
theorem dX9_allIsThere_108 : decode cX9_allIsThere 108 = .ok (.bipush 7, 2) := by decide +kernel
theorem dX9_allIsThere_110 : decode cX9_allIsThere 110 = .ok (.invokevirtual 77, 3) := by decide +kernel
theorem dX9_allIsThere_113 : decode cX9_allIsThere 113 = .ok (.ireturn, 1) := by decide +kernel
theorem dX9_allIsThere_114 : decode cX9_allIsThere 114 = .ok (.iinc 1 1, 3) := by decide +kernel
theorem dX9_allIsThere_117 : decode cX9_allIsThere 117 = .ok (.goto (-28), 3) := by decide +kernel
theorem dX9_allIsThere_120 : decode cX9_allIsThere 120 = .ok (.iconst 1, 1) := by decide +kernel
theorem dX9_allIsThere_121 : decode cX9_allIsThere 121 = .ok (.ireturn, 1) := by decide +kernel
theorem dX9_readToken_0 : decode cX9_readToken 0 = .ok (.aload_n 0, 1) := by decide +kernel
theorem dX9_readToken_1 : decode cX9_readToken 1 = .ok (.getfield 25, 3) := by decide +kernel
theorem dX9_readToken_4 : decode cX9_readToken 4 = .ok (.aload_n 0, 1) := by decide +kernel
theorem dX9_readToken_5 : decode cX9_readToken 5 = .ok (.getfield 35, 3) := by decide +kernel
theorem dX9_readToken_8 : decode cX9_readToken 8 = .ok (.if_icmp .ge 30, 3) := by decide +kernel
theorem dX9_readToken_11 : decode cX9_readToken 11 = .ok (.aload_n 0, 1) := by decide +kernel
theorem dX9_readToken_12 : decode cX9_readToken 12 = .ok (.getfield 9, 3) := by decide +kernel
theorem dX9_readToken_15 : decode cX9_readToken 15 = .ok (.aload_n 0, 1) := by decide +kernel
theorem dX9_readToken_16 : decode cX9_readToken 16 = .ok (.getfield 25, 3) := by decide +kernel
theorem dX9_readToken_19 : decode cX9_readToken 19 = .ok (.baload, 1) := by decide +kernel
theorem dX9_readToken_20 : decode cX9_readToken 20 = .ok (.bipush 32, 2) := by decide +kernel
theorem dX9_readToken_22 : decode cX9_readToken 22 = .ok (.if_icmp .ne 16, 3) := by decide +kernel
theorem dX9_readToken_25 : decode cX9_readToken 25 = .ok (.aload_n 0, 1) := by decide +kernel
theorem dX9_readToken_26 : decode cX9_readToken 26 = .ok (.dup, 1) := by decide +kernel
theorem dX9_readToken_27 : decode cX9_readToken 27 = .ok (.getfield 25, 3) := by decide +kernel
theorem dX9_readToken_30 : decode cX9_readToken 30 = .ok (.iconst 1, 1) := by decide +kernel
theorem dX9_readToken_31 : decode cX9_readToken 31 = .ok (.iadd, 1) := by decide +kernel
theorem dX9_readToken_32 : decode cX9_readToken 32 = .ok (.putfield 25, 3) := by decide +kernel
theorem dX9_readToken_35 : decode cX9_readToken 35 = .ok (.goto (-35), 3) := by decide +kernel
theorem dX9_readToken_38 : decode cX9_readToken 38 = .ok (.aload_n 0, 1) := by decide +kernel
theorem dX9_readToken_39 : decode cX9_readToken 39 = .ok (.aload_n 0, 1) := by decide +kernel
theorem dX9_readToken_40 : decode cX9_readToken 40 = .ok (.getfield 25, 3) := by decide +kernel
theorem dX9_readToken_43 : decode cX9_readToken 43 = .ok (.putfield 140, 3) := by decide +kernel
theorem dX9_readToken_46 : decode cX9_readToken 46 = .ok (.aload_n 0, 1) := by decide +kernel
theorem dX9_readToken_47 : decode cX9_readToken 47 = .ok (.aload_n 0, 1) := by decide +kernel
theorem dX9_readToken_48 : decode cX9_readToken 48 = .ok (.getfield 25, 3) := by decide +kernel
theorem dX9_readToken_51 : decode cX9_readToken 51 = .ok (.aload_n 0, 1) := by decide +kernel
theorem dX9_readToken_52 : decode cX9_readToken 52 = .ok (.getfield 35, 3) := by decide +kernel
theorem dX9_readToken_55 : decode cX9_readToken 55 = .ok (.if_icmp .ge 18, 3) := by decide +kernel
theorem dX9_readToken_58 : decode cX9_readToken 58 = .ok (.aload_n 0, 1) := by decide +kernel
theorem dX9_readToken_59 : decode cX9_readToken 59 = .ok (.getfield 9, 3) := by decide +kernel
theorem dX9_readToken_62 : decode cX9_readToken 62 = .ok (.aload_n 0, 1) := by decide +kernel
theorem dX9_readToken_63 : decode cX9_readToken 63 = .ok (.getfield 25, 3) := by decide +kernel
theorem dX9_readToken_66 : decode cX9_readToken 66 = .ok (.baload, 1) := by decide +kernel
theorem dX9_readToken_67 : decode cX9_readToken 67 = .ok (.invokestatic 149, 3) := by decide +kernel
theorem dX9_readToken_70 : decode cX9_readToken 70 = .ok (.goto 4, 3) := by decide +kernel
theorem dX9_readToken_73 : decode cX9_readToken 73 = .ok (.iconst 0, 1) := by decide +kernel
theorem dX9_readToken_74 : decode cX9_readToken 74 = .ok (.putfield 42, 3) := by decide +kernel
theorem dX9_readToken_77 : decode cX9_readToken 77 = .ok (.aload_n 0, 1) := by decide +kernel
theorem dX9_readToken_78 : decode cX9_readToken 78 = .ok (.getfield 42, 3) := by decide +kernel
theorem dX9_readToken_81 : decode cX9_readToken 81 = .ok (.ifCond .ne 5, 3) := by decide +kernel
theorem dX9_readToken_84 : decode cX9_readToken 84 = .ok (.iconst 1, 1) := by decide +kernel
theorem dX9_readToken_85 : decode cX9_readToken 85 = .ok (.ireturn, 1) := by decide +kernel
theorem dX9_readToken_86 : decode cX9_readToken 86 = .ok (.aload_n 0, 1) := by decide +kernel
theorem dX9_readToken_87 : decode cX9_readToken 87 = .ok (.getfield 42, 3) := by decide +kernel
theorem dX9_readToken_90 : decode cX9_readToken 90 = .ok (.bipush (-4), 2) := by decide +kernel
theorem dX9_readToken_92 : decode cX9_readToken 92 = .ok (.if_icmp .ne 9, 3) := by decide +kernel
theorem dX9_readToken_95 : decode cX9_readToken 95 = .ok (.aload_n 0, 1) := by decide +kernel
theorem dX9_readToken_96 : decode cX9_readToken 96 = .ok (.iconst 1, 1) := by decide +kernel
theorem dX9_readToken_97 : decode cX9_readToken 97 = .ok (.invokevirtual 77, 3) := by decide +kernel
theorem dX9_readToken_100 : decode cX9_readToken 100 = .ok (.ireturn, 1) := by decide +kernel
theorem dX9_readToken_101 : decode cX9_readToken 101 = .ok (.aload_n 0, 1) := by decide +kernel
theorem dX9_readToken_102 : decode cX9_readToken 102 = .ok (.dup, 1) := by decide +kernel
theorem dX9_readToken_103 : decode cX9_readToken 103 = .ok (.getfield 25, 3) := by decide +kernel
theorem dX9_readToken_106 : decode cX9_readToken 106 = .ok (.iconst 1, 1) := by decide +kernel
theorem dX9_readToken_107 : decode cX9_readToken 107 = .ok (.iadd, 1) := by decide +kernel
theorem dX9_readToken_108 : decode cX9_readToken 108 = .ok (.putfield 25, 3) := by decide +kernel
theorem dX9_readToken_111 : decode cX9_readToken 111 = .ok (.aload_n 0, 1) := by decide +kernel
theorem dX9_readToken_112 : decode cX9_readToken 112 = .ok (.getfield 42, 3) := by decide +kernel
theorem dX9_readToken_115 : decode cX9_readToken 115 = .ok (.iconst 3, 1) := by decide +kernel
theorem dX9_readToken_116 : decode cX9_readToken 116 = .ok (.if_icmp .ne 5, 3) := by decide +kernel
theorem dX9_readToken_119 : decode cX9_readToken 119 = .ok (.iconst 1, 1) := by decide +kernel
theorem dX9_readToken_120 : decode cX9_readToken 120 = .ok (.ireturn, 1) := by decide +kernel
theorem dX9_readToken_121 : decode cX9_readToken 121 = .ok (.aload_n 0, 1) := by decide +kernel
theorem dX9_readToken_122 : decode cX9_readToken 122 = .ok (.getfield 25, 3) := by decide +kernel
theorem dX9_readToken_125 : decode cX9_readToken 125 = .ok (.aload_n 0, 1) := by decide +kernel
theorem dX9_readToken_126 : decode cX9_readToken 126 = .ok (.getfield 35, 3) := by decide +kernel
theorem dX9_readToken_129 : decode cX9_readToken 129 = .ok (.if_icmp .ge 35, 3) := by decide +kernel
theorem dX9_readToken_132 : decode cX9_readToken 132 = .ok (.aload_n 0, 1) := by decide +kernel
theorem dX9_readToken_133 : decode cX9_readToken 133 = .ok (.getfield 9, 3) := by decide +kernel
theorem dX9_readToken_136 : decode cX9_readToken 136 = .ok (.aload_n 0, 1) := by decide +kernel
theorem dX9_readToken_137 : decode cX9_readToken 137 = .ok (.getfield 25, 3) := by decide +kernel
theorem dX9_readToken_140 : decode cX9_readToken 140 = .ok (.baload, 1) := by decide +kernel
theorem dX9_readToken_141 : decode cX9_readToken 141 = .ok (.invokestatic 149, 3) := by decide +kernel
theorem dX9_readToken_144 : decode cX9_readToken 144 = .ok (.aload_n 0, 1) := by decide +kernel
theorem dX9_readToken_145 : decode cX9_readToken 145 = .ok (.getfield 42, 3) := by decide +kernel
theorem dX9_readToken_148 : decode cX9_readToken 148 = .ok (.if_icmp .ne 16, 3) := by decide +kernel
theorem dX9_readToken_151 : decode cX9_readToken 151 = .ok (.aload_n 0, 1) := by decide +kernel
theorem dX9_readToken_152 : decode cX9_readToken 152 = .ok (.dup, 1) := by decide +kernel
theorem dX9_readToken_153 : decode cX9_readToken 153 = .ok (.getfield 25, 3) := by decide +kernel
theorem dX9_readToken_156 : decode cX9_readToken 156 = .ok (.iconst 1, 1) := by decide +kernel
theorem dX9_readToken_157 : decode cX9_readToken 157 = .ok (.iadd, 1) := by decide +kernel
theorem dX9_readToken_158 : decode cX9_readToken 158 = .ok (.putfield 25, 3) := by decide +kernel
theorem dX9_readToken_161 : decode cX9_readToken 161 = .ok (.goto (-40), 3) := by decide +kernel
theorem dX9_readToken_164 : decode cX9_readToken 164 = .ok (.aload_n 0, 1) := by decide +kernel
theorem dX9_readToken_165 : decode cX9_readToken 165 = .ok (.getfield 42, 3) := by decide +kernel
theorem dX9_readToken_168 : decode cX9_readToken 168 = .ok (.iconst 2, 1) := by decide +kernel
theorem dX9_readToken_169 : decode cX9_readToken 169 = .ok (.if_icmp .ne 30, 3) := by decide +kernel
theorem dX9_readToken_172 : decode cX9_readToken 172 = .ok (.aload_n 0, 1) := by decide +kernel
theorem dX9_readToken_173 : decode cX9_readToken 173 = .ok (.getfield 25, 3) := by decide +kernel
theorem dX9_readToken_176 : decode cX9_readToken 176 = .ok (.aload_n 0, 1) := by decide +kernel
theorem dX9_readToken_177 : decode cX9_readToken 177 = .ok (.getfield 140, 3) := by decide +kernel
theorem dX9_readToken_180 : decode cX9_readToken 180 = .ok (.isub, 1) := by decide +kernel
theorem dX9_readToken_181 : decode cX9_readToken 181 = .ok (.iconst 2, 1) := by decide +kernel
theorem dX9_readToken_182 : decode cX9_readToken 182 = .ok (.if_icmp .le 9, 3) := by decide +kernel
theorem dX9_readToken_185 : decode cX9_readToken 185 = .ok (.aload_n 0, 1) := by decide +kernel
theorem dX9_readToken_186 : decode cX9_readToken 186 = .ok (.iconst 1, 1) := by decide +kernel
theorem dX9_readToken_187 : decode cX9_readToken 187 = .ok (.invokevirtual 77, 3) := by decide +kernel
theorem dX9_readToken_190 : decode cX9_readToken 190 = .ok (.ireturn, 1) := by decide +kernel
theorem dX9_readToken_191 : decode cX9_readToken 191 = .ok (.aload_n 0, 1) := by decide +kernel
theorem dX9_readToken_192 : decode cX9_readToken 192 = .ok (.aload_n 0, 1) := by decide +kernel
theorem dX9_readToken_193 : decode cX9_readToken 193 = .ok (.invokevirtual 153, 3) := by decide +kernel
theorem dX9_readToken_196 : decode cX9_readToken 196 = .ok (.putfield 105, 3) := by decide +kernel
theorem dX9_readToken_199 : decode cX9_readToken 199 = .ok (.iconst 1, 1) := by decide +kernel
theorem dX9_readToken_200 : decode cX9_readToken 200 = .ok (.ireturn, 1) := by decide +kernel
theorem dX9_tokenOf_0 : decode cX9_tokenOf 0 = .ok (.iload_n 0, 1) := by decide +kernel
theorem dX9_tokenOf_1 : decode cX9_tokenOf 1 = .ok (.bipush 97, 2) := by decide +kernel
theorem dX9_tokenOf_3 : decode cX9_tokenOf 3 = .ok (.if_icmp .lt 11, 3) := by decide +kernel
theorem dX9_tokenOf_6 : decode cX9_tokenOf 6 = .ok (.iload_n 0, 1) := by decide +kernel
theorem dX9_tokenOf_7 : decode cX9_tokenOf 7 = .ok (.bipush 122, 2) := by decide +kernel
theorem dX9_tokenOf_9 : decode cX9_tokenOf 9 = .ok (.if_icmp .gt 5, 3) := by decide +kernel
theorem dX9_tokenOf_12 : decode cX9_tokenOf 12 = .ok (.iconst 1, 1) := by decide +kernel
theorem dX9_tokenOf_13 : decode cX9_tokenOf 13 = .ok (.ireturn, 1) := by decide +kernel
theorem dX9_tokenOf_14 : decode cX9_tokenOf 14 = .ok (.iload_n 0, 1) := by decide +kernel
theorem dX9_tokenOf_15 : decode cX9_tokenOf 15 = .ok (.bipush 48, 2) := by decide +kernel
theorem dX9_tokenOf_17 : decode cX9_tokenOf 17 = .ok (.if_icmp .lt 11, 3) := by decide +kernel
theorem dX9_tokenOf_20 : decode cX9_tokenOf 20 = .ok (.iload_n 0, 1) := by decide +kernel
theorem dX9_tokenOf_21 : decode cX9_tokenOf 21 = .ok (.bipush 57, 2) := by decide +kernel
theorem dX9_tokenOf_23 : decode cX9_tokenOf 23 = .ok (.if_icmp .gt 5, 3) := by decide +kernel
theorem dX9_tokenOf_26 : decode cX9_tokenOf 26 = .ok (.iconst 2, 1) := by decide +kernel
theorem dX9_tokenOf_27 : decode cX9_tokenOf 27 = .ok (.ireturn, 1) := by decide +kernel
theorem dX9_tokenOf_28 : decode cX9_tokenOf 28 = .ok (.iload_n 0, 1) := by decide +kernel
theorem dX9_tokenOf_29 : decode cX9_tokenOf 29 = .ok (.bipush 59, 2) := by decide +kernel
theorem dX9_tokenOf_31 : decode cX9_tokenOf 31 = .ok (.if_icmp .ne 7, 3) := by decide +kernel
theorem dX9_tokenOf_34 : decode cX9_tokenOf 34 = .ok (.iconst 3, 1) := by decide +kernel
theorem dX9_tokenOf_35 : decode cX9_tokenOf 35 = .ok (.goto 5, 3) := by decide +kernel
theorem dX9_tokenOf_38 : decode cX9_tokenOf 38 = .ok (.bipush (-4), 2) := by decide +kernel
theorem dX9_tokenOf_40 : decode cX9_tokenOf 40 = .ok (.ireturn, 1) := by decide +kernel
theorem dX9_valueRead_0 : decode cX9_valueRead 0 = .ok (.iconst 0, 1) := by decide +kernel
theorem dX9_valueRead_1 : decode cX9_valueRead 1 = .ok (.istore_n 1, 1) := by decide +kernel
theorem dX9_valueRead_2 : decode cX9_valueRead 2 = .ok (.aload_n 0, 1) := by decide +kernel
theorem dX9_valueRead_3 : decode cX9_valueRead 3 = .ok (.getfield 140, 3) := by decide +kernel
theorem dX9_valueRead_6 : decode cX9_valueRead 6 = .ok (.istore_n 2, 1) := by decide +kernel
theorem dX9_valueRead_7 : decode cX9_valueRead 7 = .ok (.iload_n 2, 1) := by decide +kernel
theorem dX9_valueRead_8 : decode cX9_valueRead 8 = .ok (.aload_n 0, 1) := by decide +kernel
theorem dX9_valueRead_9 : decode cX9_valueRead 9 = .ok (.getfield 25, 3) := by decide +kernel
theorem dX9_valueRead_12 : decode cX9_valueRead 12 = .ok (.if_icmp .ge 24, 3) := by decide +kernel
theorem dX9_valueRead_15 : decode cX9_valueRead 15 = .ok (.iload_n 1, 1) := by decide +kernel
theorem dX9_valueRead_16 : decode cX9_valueRead 16 = .ok (.bipush 10, 2) := by decide +kernel
theorem dX9_valueRead_18 : decode cX9_valueRead 18 = .ok (.imul, 1) := by decide +kernel
theorem dX9_valueRead_19 : decode cX9_valueRead 19 = .ok (.aload_n 0, 1) := by decide +kernel
theorem dX9_valueRead_20 : decode cX9_valueRead 20 = .ok (.getfield 9, 3) := by decide +kernel
theorem dX9_valueRead_23 : decode cX9_valueRead 23 = .ok (.iload_n 2, 1) := by decide +kernel
theorem dX9_valueRead_24 : decode cX9_valueRead 24 = .ok (.baload, 1) := by decide +kernel
theorem dX9_valueRead_25 : decode cX9_valueRead 25 = .ok (.iadd, 1) := by decide +kernel
theorem dX9_valueRead_26 : decode cX9_valueRead 26 = .ok (.bipush 48, 2) := by decide +kernel
theorem dX9_valueRead_28 : decode cX9_valueRead 28 = .ok (.isub, 1) := by decide +kernel
theorem dX9_valueRead_29 : decode cX9_valueRead 29 = .ok (.istore_n 1, 1) := by decide +kernel
theorem dX9_valueRead_30 : decode cX9_valueRead 30 = .ok (.iinc 2 1, 3) := by decide +kernel
theorem dX9_valueRead_33 : decode cX9_valueRead 33 = .ok (.goto (-26), 3) := by decide +kernel
theorem dX9_valueRead_36 : decode cX9_valueRead 36 = .ok (.iload_n 1, 1) := by decide +kernel
theorem dX9_valueRead_37 : decode cX9_valueRead 37 = .ok (.ireturn, 1) := by decide +kernel
theorem dX9_isWord_0 : decode cX9_isWord 0 = .ok (.aload_n 0, 1) := by decide +kernel
theorem dX9_isWord_1 : decode cX9_isWord 1 = .ok (.getfield 42, 3) := by decide +kernel
theorem dX9_isWord_4 : decode cX9_isWord 4 = .ok (.iconst 1, 1) := by decide +kernel
theorem dX9_isWord_5 : decode cX9_isWord 5 = .ok (.if_icmp .ne 19, 3) := by decide +kernel
theorem dX9_isWord_8 : decode cX9_isWord 8 = .ok (.aload_n 0, 1) := by decide +kernel
theorem dX9_isWord_9 : decode cX9_isWord 9 = .ok (.getfield 25, 3) := by decide +kernel
theorem dX9_isWord_12 : decode cX9_isWord 12 = .ok (.aload_n 0, 1) := by decide +kernel
theorem dX9_isWord_13 : decode cX9_isWord 13 = .ok (.getfield 140, 3) := by decide +kernel
theorem dX9_isWord_16 : decode cX9_isWord 16 = .ok (.isub, 1) := by decide +kernel
theorem dX9_isWord_17 : decode cX9_isWord 17 = .ok (.aload_n 1, 1) := by decide +kernel
theorem dX9_isWord_18 : decode cX9_isWord 18 = .ok (.invokevirtual 157, 3) := by decide +kernel
theorem dX9_isWord_21 : decode cX9_isWord 21 = .ok (.if_icmp .eq 5, 3) := by decide +kernel
theorem dX9_isWord_24 : decode cX9_isWord 24 = .ok (.iconst 0, 1) := by decide +kernel
theorem dX9_isWord_25 : decode cX9_isWord 25 = .ok (.ireturn, 1) := by decide +kernel
theorem dX9_isWord_26 : decode cX9_isWord 26 = .ok (.iconst 0, 1) := by decide +kernel
theorem dX9_isWord_27 : decode cX9_isWord 27 = .ok (.istore_n 2, 1) := by decide +kernel
theorem dX9_isWord_28 : decode cX9_isWord 28 = .ok (.iload_n 2, 1) := by decide +kernel
theorem dX9_isWord_29 : decode cX9_isWord 29 = .ok (.aload_n 1, 1) := by decide +kernel
theorem dX9_isWord_30 : decode cX9_isWord 30 = .ok (.invokevirtual 157, 3) := by decide +kernel
theorem dX9_isWord_33 : decode cX9_isWord 33 = .ok (.if_icmp .ge 30, 3) := by decide +kernel
theorem dX9_isWord_36 : decode cX9_isWord 36 = .ok (.aload_n 0, 1) := by decide +kernel
theorem dX9_isWord_37 : decode cX9_isWord 37 = .ok (.getfield 9, 3) := by decide +kernel
theorem dX9_isWord_40 : decode cX9_isWord 40 = .ok (.aload_n 0, 1) := by decide +kernel
theorem dX9_isWord_41 : decode cX9_isWord 41 = .ok (.getfield 140, 3) := by decide +kernel
theorem dX9_isWord_44 : decode cX9_isWord 44 = .ok (.iload_n 2, 1) := by decide +kernel
theorem dX9_isWord_45 : decode cX9_isWord 45 = .ok (.iadd, 1) := by decide +kernel
theorem dX9_isWord_46 : decode cX9_isWord 46 = .ok (.baload, 1) := by decide +kernel
theorem dX9_isWord_47 : decode cX9_isWord 47 = .ok (.aload_n 1, 1) := by decide +kernel
theorem dX9_isWord_48 : decode cX9_isWord 48 = .ok (.iload_n 2, 1) := by decide +kernel
theorem dX9_isWord_49 : decode cX9_isWord 49 = .ok (.invokevirtual 161, 3) := by decide +kernel
theorem dX9_isWord_52 : decode cX9_isWord 52 = .ok (.if_icmp .eq 5, 3) := by decide +kernel
theorem dX9_isWord_55 : decode cX9_isWord 55 = .ok (.iconst 0, 1) := by decide +kernel
theorem dX9_isWord_56 : decode cX9_isWord 56 = .ok (.ireturn, 1) := by decide +kernel
theorem dX9_isWord_57 : decode cX9_isWord 57 = .ok (.iinc 2 1, 3) := by decide +kernel
theorem dX9_isWord_60 : decode cX9_isWord 60 = .ok (.goto (-32), 3) := by decide +kernel
theorem dX9_isWord_63 : decode cX9_isWord 63 = .ok (.iconst 1, 1) := by decide +kernel
theorem dX9_isWord_64 : decode cX9_isWord 64 = .ok (.ireturn, 1) := by decide +kernel
theorem dX9_refuse_0 : decode cX9_refuse 0 = .ok (.aload_n 0, 1) := by decide +kernel
theorem dX9_refuse_1 : decode cX9_refuse 1 = .ok (.iload_n 1, 1) := by decide +kernel
theorem dX9_refuse_2 : decode cX9_refuse 2 = .ok (.putfield 29, 3) := by decide +kernel
theorem dX9_refuse_5 : decode cX9_refuse 5 = .ok (.aload_n 0, 1) := by decide +kernel
theorem dX9_refuse_6 : decode cX9_refuse 6 = .ok (.aload_n 0, 1) := by decide +kernel
theorem dX9_refuse_7 : decode cX9_refuse 7 = .ok (.getfield 140, 3) := by decide +kernel
theorem dX9_refuse_10 : decode cX9_refuse 10 = .ok (.putfield 165, 3) := by decide +kernel
theorem dX9_refuse_13 : decode cX9_refuse 13 = .ok (.iconst 0, 1) := by decide +kernel
theorem dX9_refuse_14 : decode cX9_refuse 14 = .ok (.ireturn, 1) := by decide +kernel
