/-! rows that decode: printed -/
theorem dX5_init_0 : decode cX5_init 0 = .ok (.aload_n 0, 1) := by decide +kernel
theorem dX5_init_1 : decode cX5_init 1 = .ok (.invokespecial 3, 3) := by decide +kernel
theorem dX5_init_4 : decode cX5_init 4 = .ok (.aload_n 0, 1) := by decide +kernel
theorem dX5_init_5 : decode cX5_init 5 = .ok (.iconst 5, 1) := by decide +kernel
theorem dX5_init_6 : decode cX5_init 6 = .ok (.newarray .int, 2) := by decide +kernel
theorem dX5_init_8 : decode cX5_init 8 = .ok (.putfield 9, 3) := by decide +kernel
theorem dX5_init_11 : decode cX5_init 11 = .ok (.aload_n 0, 1) := by decide +kernel
theorem dX5_init_12 : decode cX5_init 12 = .ok (.iconst 4, 1) := by decide +kernel
theorem dX5_init_13 : decode cX5_init 13 = .ok (.newarray .int, 2) := by decide +kernel
theorem dX5_init_15 : decode cX5_init 15 = .ok (.putfield 15, 3) := by decide +kernel
theorem dX5_init_18 : decode cX5_init 18 = .ok (.aload_n 0, 1) := by decide +kernel
theorem dX5_init_19 : decode cX5_init 19 = .ok (.bipush 12, 2) := by decide +kernel
theorem dX5_init_21 : decode cX5_init 21 = .ok (.newarray .int, 2) := by decide +kernel
theorem dX5_init_23 : decode cX5_init 23 = .ok (.putfield 18, 3) := by decide +kernel
theorem dX5_init_26 : decode cX5_init 26 = .ok (.aload_n 0, 1) := by decide +kernel
theorem dX5_init_27 : decode cX5_init 27 = .ok (.bipush 12, 2) := by decide +kernel
theorem dX5_init_29 : decode cX5_init 29 = .ok (.newarray .int, 2) := by decide +kernel
theorem dX5_init_31 : decode cX5_init 31 = .ok (.putfield 21, 3) := by decide +kernel
theorem dX5_init_34 : decode cX5_init 34 = .ok (.aload_n 0, 1) := by decide +kernel
theorem dX5_init_35 : decode cX5_init 35 = .ok (.bipush 12, 2) := by decide +kernel
theorem dX5_init_37 : decode cX5_init 37 = .ok (.newarray .int, 2) := by decide +kernel
theorem dX5_init_39 : decode cX5_init 39 = .ok (.putfield 24, 3) := by decide +kernel
theorem dX5_init_42 : decode cX5_init 42 = .ok (.aload_n 0, 1) := by decide +kernel
theorem dX5_init_43 : decode cX5_init 43 = .ok (.bipush 32, 2) := by decide +kernel
theorem dX5_init_45 : decode cX5_init 45 = .ok (.newarray .int, 2) := by decide +kernel
theorem dX5_init_47 : decode cX5_init 47 = .ok (.putfield 27, 3) := by decide +kernel
theorem dX5_init_50 : decode cX5_init 50 = .ok (.aload_n 0, 1) := by decide +kernel
theorem dX5_init_51 : decode cX5_init 51 = .ok (.iconst 4, 1) := by decide +kernel
theorem dX5_init_52 : decode cX5_init 52 = .ok (.newarray .int, 2) := by decide +kernel
theorem dX5_init_54 : decode cX5_init 54 = .ok (.putfield 30, 3) := by decide +kernel
theorem dX5_init_57 : decode cX5_init 57 = .ok (.aload_n 0, 1) := by decide +kernel
theorem dX5_init_58 : decode cX5_init 58 = .ok (.bipush 32, 2) := by decide +kernel
theorem dX5_init_60 : decode cX5_init 60 = .ok (.newarray .int, 2) := by decide +kernel
theorem dX5_init_62 : decode cX5_init 62 = .ok (.putfield 33, 3) := by decide +kernel
theorem dX5_init_65 : decode cX5_init 65 = .ok (.aload_n 0, 1) := by decide +kernel
theorem dX5_init_66 : decode cX5_init 66 = .ok (.sipush 128, 3) := by decide +kernel
theorem dX5_init_69 : decode cX5_init 69 = .ok (.newarray .int, 2) := by decide +kernel
theorem dX5_init_71 : decode cX5_init 71 = .ok (.putfield 36, 3) := by decide +kernel
theorem dX5_init_74 : decode cX5_init 74 = .ok (.return_, 1) := by decide +kernel
theorem dX5_clear_0 : decode cX5_clear 0 = .ok (.aload_n 0, 1) := by decide +kernel
theorem dX5_clear_1 : decode cX5_clear 1 = .ok (.iconst 0, 1) := by decide +kernel
theorem dX5_clear_2 : decode cX5_clear 2 = .ok (.putfield 39, 3) := by decide +kernel
theorem dX5_clear_5 : decode cX5_clear 5 = .ok (.aload_n 0, 1) := by decide +kernel
theorem dX5_clear_6 : decode cX5_clear 6 = .ok (.iconst 0, 1) := by decide +kernel
theorem dX5_clear_7 : decode cX5_clear 7 = .ok (.putfield 43, 3) := by decide +kernel
theorem dX5_clear_10 : decode cX5_clear 10 = .ok (.aload_n 0, 1) := by decide +kernel
theorem dX5_clear_11 : decode cX5_clear 11 = .ok (.getfield 9, 3) := by decide +kernel
theorem dX5_clear_14 : decode cX5_clear 14 = .ok (.iconst 0, 1) := by decide +kernel
theorem dX5_clear_15 : decode cX5_clear 15 = .ok (.invokestatic 46, 3) := by decide +kernel
theorem dX5_clear_18 : decode cX5_clear 18 = .ok (.aload_n 0, 1) := by decide +kernel
theorem dX5_clear_19 : decode cX5_clear 19 = .ok (.getfield 15, 3) := by decide +kernel
theorem dX5_clear_22 : decode cX5_clear 22 = .ok (.iconst 0, 1) := by decide +kernel
theorem dX5_clear_23 : decode cX5_clear 23 = .ok (.invokestatic 46, 3) := by decide +kernel
theorem dX5_clear_26 : decode cX5_clear 26 = .ok (.aload_n 0, 1) := by decide +kernel
theorem dX5_clear_27 : decode cX5_clear 27 = .ok (.getfield 27, 3) := by decide +kernel
theorem dX5_clear_30 : decode cX5_clear 30 = .ok (.iconst 0, 1) := by decide +kernel
theorem dX5_clear_31 : decode cX5_clear 31 = .ok (.invokestatic 46, 3) := by decide +kernel
theorem dX5_clear_34 : decode cX5_clear 34 = .ok (.aload_n 0, 1) := by decide +kernel
theorem dX5_clear_35 : decode cX5_clear 35 = .ok (.getfield 30, 3) := by decide +kernel
theorem dX5_clear_38 : decode cX5_clear 38 = .ok (.iconst 0, 1) := by decide +kernel
theorem dX5_clear_39 : decode cX5_clear 39 = .ok (.invokestatic 46, 3) := by decide +kernel
theorem dX5_clear_42 : decode cX5_clear 42 = .ok (.aload_n 0, 1) := by decide +kernel
theorem dX5_clear_43 : decode cX5_clear 43 = .ok (.getfield 33, 3) := by decide +kernel
theorem dX5_clear_46 : decode cX5_clear 46 = .ok (.iconst 0, 1) := by decide +kernel
theorem dX5_clear_47 : decode cX5_clear 47 = .ok (.invokestatic 46, 3) := by decide +kernel
theorem dX5_clear_50 : decode cX5_clear 50 = .ok (.return_, 1) := by decide +kernel
theorem dX5_copyFrom_0 : decode cX5_copyFrom 0 = .ok (.aload_n 0, 1) := by decide +kernel
theorem dX5_copyFrom_1 : decode cX5_copyFrom 1 = .ok (.aload_n 1, 1) := by decide +kernel
theorem dX5_copyFrom_2 : decode cX5_copyFrom 2 = .ok (.getfield 39, 3) := by decide +kernel
theorem dX5_copyFrom_5 : decode cX5_copyFrom 5 = .ok (.putfield 39, 3) := by decide +kernel
theorem dX5_copyFrom_8 : decode cX5_copyFrom 8 = .ok (.aload_n 0, 1) := by decide +kernel
theorem dX5_copyFrom_9 : decode cX5_copyFrom 9 = .ok (.aload_n 1, 1) := by decide +kernel
theorem dX5_copyFrom_10 : decode cX5_copyFrom 10 = .ok (.getfield 43, 3) := by decide +kernel
theorem dX5_copyFrom_13 : decode cX5_copyFrom 13 = .ok (.putfield 43, 3) := by decide +kernel
theorem dX5_copyFrom_16 : decode cX5_copyFrom 16 = .ok (.aload_n 1, 1) := by decide +kernel
theorem dX5_copyFrom_17 : decode cX5_copyFrom 17 = .ok (.getfield 9, 3) := by decide +kernel
theorem dX5_copyFrom_20 : decode cX5_copyFrom 20 = .ok (.iconst 0, 1) := by decide +kernel
theorem dX5_copyFrom_21 : decode cX5_copyFrom 21 = .ok (.aload_n 0, 1) := by decide +kernel
theorem dX5_copyFrom_22 : decode cX5_copyFrom 22 = .ok (.getfield 9, 3) := by decide +kernel
theorem dX5_copyFrom_25 : decode cX5_copyFrom 25 = .ok (.iconst 0, 1) := by decide +kernel
theorem dX5_copyFrom_26 : decode cX5_copyFrom 26 = .ok (.aload_n 0, 1) := by decide +kernel
theorem dX5_copyFrom_27 : decode cX5_copyFrom 27 = .ok (.getfield 9, 3) := by decide +kernel
theorem dX5_copyFrom_30 : decode cX5_copyFrom 30 = .ok (.arraylength, 1) := by decide +kernel
theorem dX5_copyFrom_31 : decode cX5_copyFrom 31 = .ok (.invokestatic 52, 3) := by decide +kernel
theorem dX5_copyFrom_34 : decode cX5_copyFrom 34 = .ok (.aload_n 1, 1) := by decide +kernel
theorem dX5_copyFrom_35 : decode cX5_copyFrom 35 = .ok (.getfield 15, 3) := by decide +kernel
theorem dX5_copyFrom_38 : decode cX5_copyFrom 38 = .ok (.iconst 0, 1) := by decide +kernel
theorem dX5_copyFrom_39 : decode cX5_copyFrom 39 = .ok (.aload_n 0, 1) := by decide +kernel
theorem dX5_copyFrom_40 : decode cX5_copyFrom 40 = .ok (.getfield 15, 3) := by decide +kernel
theorem dX5_copyFrom_43 : decode cX5_copyFrom 43 = .ok (.iconst 0, 1) := by decide +kernel
theorem dX5_copyFrom_44 : decode cX5_copyFrom 44 = .ok (.aload_n 0, 1) := by decide +kernel
theorem dX5_copyFrom_45 : decode cX5_copyFrom 45 = .ok (.getfield 15, 3) := by decide +kernel
theorem dX5_copyFrom_48 : decode cX5_copyFrom 48 = .ok (.arraylength, 1) := by decide +kernel
theorem dX5_copyFrom_49 : decode cX5_copyFrom 49 = .ok (.invokestatic 52, 3) := by decide +kernel
theorem dX5_copyFrom_52 : decode cX5_copyFrom 52 = .ok (.aload_n 1, 1) := by decide +kernel
theorem dX5_copyFrom_53 : decode cX5_copyFrom 53 = .ok (.getfield 18, 3) := by decide +kernel
theorem dX5_copyFrom_56 : decode cX5_copyFrom 56 = .ok (.iconst 0, 1) := by decide +kernel
theorem dX5_copyFrom_57 : decode cX5_copyFrom 57 = .ok (.aload_n 0, 1) := by decide +kernel
theorem dX5_copyFrom_58 : decode cX5_copyFrom 58 = .ok (.getfield 18, 3) := by decide +kernel
theorem dX5_copyFrom_61 : decode cX5_copyFrom 61 = .ok (.iconst 0, 1) := by decide +kernel
theorem dX5_copyFrom_62 : decode cX5_copyFrom 62 = .ok (.aload_n 0, 1) := by decide +kernel
theorem dX5_copyFrom_63 : decode cX5_copyFrom 63 = .ok (.getfield 18, 3) := by decide +kernel
theorem dX5_copyFrom_66 : decode cX5_copyFrom 66 = .ok (.arraylength, 1) := by decide +kernel
theorem dX5_copyFrom_67 : decode cX5_copyFrom 67 = .ok (.invokestatic 52, 3) := by decide +kernel
theorem dX5_copyFrom_70 : decode cX5_copyFrom 70 = .ok (.aload_n 1, 1) := by decide +kernel
theorem dX5_copyFrom_71 : decode cX5_copyFrom 71 = .ok (.getfield 21, 3) := by decide +kernel
theorem dX5_copyFrom_74 : decode cX5_copyFrom 74 = .ok (.iconst 0, 1) := by decide +kernel
theorem dX5_copyFrom_75 : decode cX5_copyFrom 75 = .ok (.aload_n 0, 1) := by decide +kernel
theorem dX5_copyFrom_76 : decode cX5_copyFrom 76 = .ok (.getfield 21, 3) := by decide +kernel
theorem dX5_copyFrom_79 : decode cX5_copyFrom 79 = .ok (.iconst 0, 1) := by decide +kernel
theorem dX5_copyFrom_80 : decode cX5_copyFrom 80 = .ok (.aload_n 0, 1) := by decide +kernel
theorem dX5_copyFrom_81 : decode cX5_copyFrom 81 = .ok (.getfield 21, 3) := by decide +kernel
theorem dX5_copyFrom_84 : decode cX5_copyFrom 84 = .ok (.arraylength, 1) := by decide +kernel
theorem dX5_copyFrom_85 : decode cX5_copyFrom 85 = .ok (.invokestatic 52, 3) := by decide +kernel
theorem dX5_copyFrom_88 : decode cX5_copyFrom 88 = .ok (.aload_n 1, 1) := by decide +kernel
theorem dX5_copyFrom_89 : decode cX5_copyFrom 89 = .ok (.getfield 24, 3) := by decide +kernel
theorem dX5_copyFrom_92 : decode cX5_copyFrom 92 = .ok (.iconst 0, 1) := by decide +kernel
theorem dX5_copyFrom_93 : decode cX5_copyFrom 93 = .ok (.aload_n 0, 1) := by decide +kernel
theorem dX5_copyFrom_94 : decode cX5_copyFrom 94 = .ok (.getfield 24, 3) := by decide +kernel
theorem dX5_copyFrom_97 : decode cX5_copyFrom 97 = .ok (.iconst 0, 1) := by decide +kernel
theorem dX5_copyFrom_98 : decode cX5_copyFrom 98 = .ok (.aload_n 0, 1) := by decide +kernel
theorem dX5_copyFrom_99 : decode cX5_copyFrom 99 = .ok (.getfield 24, 3) := by decide +kernel
theorem dX5_copyFrom_102 : decode cX5_copyFrom 102 = .ok (.arraylength, 1) := by decide +kernel
theorem dX5_copyFrom_103 : decode cX5_copyFrom 103 = .ok (.invokestatic 52, 3) := by decide +kernel
theorem dX5_copyFrom_106 : decode cX5_copyFrom 106 = .ok (.aload_n 1, 1) := by decide +kernel
theorem dX5_copyFrom_107 : decode cX5_copyFrom 107 = .ok (.getfield 27, 3) := by decide +kernel
theorem dX5_copyFrom_110 : decode cX5_copyFrom 110 = .ok (.iconst 0, 1) := by decide +kernel
theorem dX5_copyFrom_111 : decode cX5_copyFrom 111 = .ok (.aload_n 0, 1) := by decide +kernel
theorem dX5_copyFrom_112 : decode cX5_copyFrom 112 = .ok (.getfield 27, 3) := by decide +kernel
theorem dX5_copyFrom_115 : decode cX5_copyFrom 115 = .ok (.iconst 0, 1) := by decide +kernel
theorem dX5_copyFrom_116 : decode cX5_copyFrom 116 = .ok (.aload_n 0, 1) := by decide +kernel
theorem dX5_copyFrom_117 : decode cX5_copyFrom 117 = .ok (.getfield 27, 3) := by decide +kernel
theorem dX5_copyFrom_120 : decode cX5_copyFrom 120 = .ok (.arraylength, 1) := by decide +kernel
theorem dX5_copyFrom_121 : decode cX5_copyFrom 121 = .ok (.invokestatic 52, 3) := by decide +kernel
theorem dX5_copyFrom_124 : decode cX5_copyFrom 124 = .ok (.aload_n 1, 1) := by decide +kernel
theorem dX5_copyFrom_125 : decode cX5_copyFrom 125 = .ok (.getfield 30, 3) := by decide +kernel
theorem dX5_copyFrom_128 : decode cX5_copyFrom 128 = .ok (.iconst 0, 1) := by decide +kernel
theorem dX5_copyFrom_129 : decode cX5_copyFrom 129 = .ok (.aload_n 0, 1) := by decide +kernel
theorem dX5_copyFrom_130 : decode cX5_copyFrom 130 = .ok (.getfield 30, 3) := by decide +kernel
theorem dX5_copyFrom_133 : decode cX5_copyFrom 133 = .ok (.iconst 0, 1) := by decide +kernel
theorem dX5_copyFrom_134 : decode cX5_copyFrom 134 = .ok (.aload_n 0, 1) := by decide +kernel
theorem dX5_copyFrom_135 : decode cX5_copyFrom 135 = .ok (.getfield 30, 3) := by decide +kernel
theorem dX5_copyFrom_138 : decode cX5_copyFrom 138 = .ok (.arraylength, 1) := by decide +kernel
theorem dX5_copyFrom_139 : decode cX5_copyFrom 139 = .ok (.invokestatic 52, 3) := by decide +kernel
theorem dX5_copyFrom_142 : decode cX5_copyFrom 142 = .ok (.aload_n 1, 1) := by decide +kernel
theorem dX5_copyFrom_143 : decode cX5_copyFrom 143 = .ok (.getfield 33, 3) := by decide +kernel
theorem dX5_copyFrom_146 : decode cX5_copyFrom 146 = .ok (.iconst 0, 1) := by decide +kernel
theorem dX5_copyFrom_147 : decode cX5_copyFrom 147 = .ok (.aload_n 0, 1) := by decide +kernel
theorem dX5_copyFrom_148 : decode cX5_copyFrom 148 = .ok (.getfield 33, 3) := by decide +kernel
theorem dX5_copyFrom_151 : decode cX5_copyFrom 151 = .ok (.iconst 0, 1) := by decide +kernel
theorem dX5_copyFrom_152 : decode cX5_copyFrom 152 = .ok (.aload_n 0, 1) := by decide +kernel
theorem dX5_copyFrom_153 : decode cX5_copyFrom 153 = .ok (.getfield 33, 3) := by decide +kernel
theorem dX5_copyFrom_156 : decode cX5_copyFrom 156 = .ok (.arraylength, 1) := by decide +kernel
theorem dX5_copyFrom_157 : decode cX5_copyFrom 157 = .ok (.invokestatic 52, 3) := by decide +kernel
theorem dX5_copyFrom_160 : decode cX5_copyFrom 160 = .ok (.aload_n 1, 1) := by decide +kernel
theorem dX5_copyFrom_161 : decode cX5_copyFrom 161 = .ok (.getfield 36, 3) := by decide +kernel
theorem dX5_copyFrom_164 : decode cX5_copyFrom 164 = .ok (.iconst 0, 1) := by decide +kernel
theorem dX5_copyFrom_165 : decode cX5_copyFrom 165 = .ok (.aload_n 0, 1) := by decide +kernel
theorem dX5_copyFrom_166 : decode cX5_copyFrom 166 = .ok (.getfield 36, 3) := by decide +kernel
theorem dX5_copyFrom_169 : decode cX5_copyFrom 169 = .ok (.iconst 0, 1) := by decide +kernel
theorem dX5_copyFrom_170 : decode cX5_copyFrom 170 = .ok (.aload_n 0, 1) := by decide +kernel
theorem dX5_copyFrom_171 : decode cX5_copyFrom 171 = .ok (.getfield 36, 3) := by decide +kernel
theorem dX5_copyFrom_174 : decode cX5_copyFrom 174 = .ok (.arraylength, 1) := by decide +kernel
theorem dX5_copyFrom_175 : decode cX5_copyFrom 175 = .ok (.invokestatic 52, 3) := by decide +kernel
theorem dX5_copyFrom_178 : decode cX5_copyFrom 178 = .ok (.return_, 1) := by decide +kernel
theorem dX5_addHouse_0 : decode cX5_addHouse 0 = .ok (.aload_n 0, 1) := by decide +kernel
theorem dX5_addHouse_1 : decode cX5_addHouse 1 = .ok (.getfield 39, 3) := by decide +kernel
theorem dX5_addHouse_4 : decode cX5_addHouse 4 = .ok (.iconst 5, 1) := by decide +kernel
theorem dX5_addHouse_5 : decode cX5_addHouse 5 = .ok (.if_icmp .ge 31, 3) := by decide +kernel
theorem dX5_addHouse_8 : decode cX5_addHouse 8 = .ok (.aload_n 0, 1) := by decide +kernel
theorem dX5_addHouse_9 : decode cX5_addHouse 9 = .ok (.getfield 9, 3) := by decide +kernel
theorem dX5_addHouse_12 : decode cX5_addHouse 12 = .ok (.aload_n 0, 1) := by decide +kernel
theorem dX5_addHouse_13 : decode cX5_addHouse 13 = .ok (.getfield 39, 3) := by decide +kernel
theorem dX5_addHouse_16 : decode cX5_addHouse 16 = .ok (.iload_n 1, 1) := by decide +kernel
theorem dX5_addHouse_17 : decode cX5_addHouse 17 = .ok (.ifCond .eq 7, 3) := by decide +kernel
theorem dX5_addHouse_20 : decode cX5_addHouse 20 = .ok (.iconst 1, 1) := by decide +kernel
theorem dX5_addHouse_21 : decode cX5_addHouse 21 = .ok (.goto 4, 3) := by decide +kernel
theorem dX5_addHouse_24 : decode cX5_addHouse 24 = .ok (.iconst 0, 1) := by decide +kernel
theorem dX5_addHouse_25 : decode cX5_addHouse 25 = .ok (.iastore, 1) := by decide +kernel
theorem dX5_addHouse_26 : decode cX5_addHouse 26 = .ok (.aload_n 0, 1) := by decide +kernel
theorem dX5_addHouse_27 : decode cX5_addHouse 27 = .ok (.dup, 1) := by decide +kernel
theorem dX5_addHouse_28 : decode cX5_addHouse 28 = .ok (.getfield 39, 3) := by decide +kernel
theorem dX5_addHouse_31 : decode cX5_addHouse 31 = .ok (.iconst 1, 1) := by decide +kernel
theorem dX5_addHouse_32 : decode cX5_addHouse 32 = .ok (.iadd, 1) := by decide +kernel
theorem dX5_addHouse_33 : decode cX5_addHouse 33 = .ok (.putfield 39, 3) := by decide +kernel
theorem dX5_addHouse_36 : decode cX5_addHouse 36 = .ok (.return_, 1) := by decide +kernel
theorem dX5_addReceiver_0 : decode cX5_addReceiver 0 = .ok (.aload_n 0, 1) := by decide +kernel
theorem dX5_addReceiver_1 : decode cX5_addReceiver 1 = .ok (.getfield 15, 3) := by decide +kernel
theorem dX5_addReceiver_4 : decode cX5_addReceiver 4 = .ok (.iload_n 1, 1) := by decide +kernel
theorem dX5_addReceiver_5 : decode cX5_addReceiver 5 = .ok (.iaload, 1) := by decide +kernel
theorem dX5_addReceiver_6 : decode cX5_addReceiver 6 = .ok (.istore 4, 2) := by decide +kernel
theorem dX5_addReceiver_8 : decode cX5_addReceiver 8 = .ok (.iload 4, 2) := by decide +kernel
theorem dX5_addReceiver_10 : decode cX5_addReceiver 10 = .ok (.iconst 3, 1) := by decide +kernel
theorem dX5_addReceiver_11 : decode cX5_addReceiver 11 = .ok (.if_icmp .lt 4, 3) := by decide +kernel
theorem dX5_addReceiver_14 : decode cX5_addReceiver 14 = .ok (.return_, 1) := by decide +kernel
theorem dX5_addReceiver_15 : decode cX5_addReceiver 15 = .ok (.iload_n 1, 1) := by decide +kernel
theorem dX5_addReceiver_16 : decode cX5_addReceiver 16 = .ok (.iconst 3, 1) := by decide +kernel
theorem dX5_addReceiver_17 : decode cX5_addReceiver 17 = .ok (.imul, 1) := by decide +kernel
theorem dX5_addReceiver_18 : decode cX5_addReceiver 18 = .ok (.istore 5, 2) := by decide +kernel
theorem dX5_addReceiver_20 : decode cX5_addReceiver 20 = .ok (.aload_n 0, 1) := by decide +kernel
theorem dX5_addReceiver_21 : decode cX5_addReceiver 21 = .ok (.getfield 18, 3) := by decide +kernel
theorem dX5_addReceiver_24 : decode cX5_addReceiver 24 = .ok (.iload 5, 2) := by decide +kernel
theorem dX5_addReceiver_26 : decode cX5_addReceiver 26 = .ok (.iload 4, 2) := by decide +kernel
theorem dX5_addReceiver_28 : decode cX5_addReceiver 28 = .ok (.iadd, 1) := by decide +kernel
theorem dX5_addReceiver_29 : decode cX5_addReceiver 29 = .ok (.iload_n 2, 1) := by decide +kernel
theorem dX5_addReceiver_30 : decode cX5_addReceiver 30 = .ok (.iastore, 1) := by decide +kernel
theorem dX5_addReceiver_31 : decode cX5_addReceiver 31 = .ok (.aload_n 0, 1) := by decide +kernel
theorem dX5_addReceiver_32 : decode cX5_addReceiver 32 = .ok (.getfield 21, 3) := by decide +kernel
theorem dX5_addReceiver_35 : decode cX5_addReceiver 35 = .ok (.iload 5, 2) := by decide +kernel
theorem dX5_addReceiver_37 : decode cX5_addReceiver 37 = .ok (.iload 4, 2) := by decide +kernel
theorem dX5_addReceiver_39 : decode cX5_addReceiver 39 = .ok (.iadd, 1) := by decide +kernel
theorem dX5_addReceiver_40 : decode cX5_addReceiver 40 = .ok (.iload_n 3, 1) := by decide +kernel
theorem dX5_addReceiver_41 : decode cX5_addReceiver 41 = .ok (.iastore, 1) := by decide +kernel
theorem dX5_addReceiver_42 : decode cX5_addReceiver 42 = .ok (.iload 4, 2) := by decide +kernel
theorem dX5_addReceiver_44 : decode cX5_addReceiver 44 = .ok (.istore 6, 2) := by decide +kernel
theorem dX5_addReceiver_46 : decode cX5_addReceiver 46 = .ok (.iload 6, 2) := by decide +kernel
theorem dX5_addReceiver_48 : decode cX5_addReceiver 48 = .ok (.ifCond .le 55, 3) := by decide +kernel
theorem dX5_addReceiver_51 : decode cX5_addReceiver 51 = .ok (.aload_n 0, 1) := by decide +kernel
theorem dX5_addReceiver_52 : decode cX5_addReceiver 52 = .ok (.iload 5, 2) := by decide +kernel
theorem dX5_addReceiver_54 : decode cX5_addReceiver 54 = .ok (.iload 4, 2) := by decide +kernel
theorem dX5_addReceiver_56 : decode cX5_addReceiver 56 = .ok (.iadd, 1) := by decide +kernel
theorem dX5_addReceiver_57 : decode cX5_addReceiver 57 = .ok (.aload_n 0, 1) := by decide +kernel
theorem dX5_addReceiver_58 : decode cX5_addReceiver 58 = .ok (.getfield 24, 3) := by decide +kernel
theorem dX5_addReceiver_61 : decode cX5_addReceiver 61 = .ok (.iload 5, 2) := by decide +kernel
theorem dX5_addReceiver_63 : decode cX5_addReceiver 63 = .ok (.iload 6, 2) := by decide +kernel
theorem dX5_addReceiver_65 : decode cX5_addReceiver 65 = .ok (.iadd, 1) := by decide +kernel
theorem dX5_addReceiver_66 : decode cX5_addReceiver 66 = .ok (.iconst 1, 1) := by decide +kernel
theorem dX5_addReceiver_67 : decode cX5_addReceiver 67 = .ok (.isub, 1) := by decide +kernel
theorem dX5_addReceiver_68 : decode cX5_addReceiver 68 = .ok (.iaload, 1) := by decide +kernel
theorem dX5_addReceiver_69 : decode cX5_addReceiver 69 = .ok (.invokevirtual 58, 3) := by decide +kernel
theorem dX5_addReceiver_72 : decode cX5_addReceiver 72 = .ok (.ifCond .eq 31, 3) := by decide +kernel
theorem dX5_addReceiver_75 : decode cX5_addReceiver 75 = .ok (.aload_n 0, 1) := by decide +kernel
theorem dX5_addReceiver_76 : decode cX5_addReceiver 76 = .ok (.getfield 24, 3) := by decide +kernel
theorem dX5_addReceiver_79 : decode cX5_addReceiver 79 = .ok (.iload 5, 2) := by decide +kernel
theorem dX5_addReceiver_81 : decode cX5_addReceiver 81 = .ok (.iload 6, 2) := by decide +kernel
theorem dX5_addReceiver_83 : decode cX5_addReceiver 83 = .ok (.iadd, 1) := by decide +kernel
theorem dX5_addReceiver_84 : decode cX5_addReceiver 84 = .ok (.aload_n 0, 1) := by decide +kernel
theorem dX5_addReceiver_85 : decode cX5_addReceiver 85 = .ok (.getfield 24, 3) := by decide +kernel
theorem dX5_addReceiver_88 : decode cX5_addReceiver 88 = .ok (.iload 5, 2) := by decide +kernel
theorem dX5_addReceiver_90 : decode cX5_addReceiver 90 = .ok (.iload 6, 2) := by decide +kernel
theorem dX5_addReceiver_92 : decode cX5_addReceiver 92 = .ok (.iadd, 1) := by decide +kernel
theorem dX5_addReceiver_93 : decode cX5_addReceiver 93 = .ok (.iconst 1, 1) := by decide +kernel
theorem dX5_addReceiver_94 : decode cX5_addReceiver 94 = .ok (.isub, 1) := by decide +kernel
theorem dX5_addReceiver_95 : decode cX5_addReceiver 95 = .ok (.iaload, 1) := by decide +kernel
theorem dX5_addReceiver_96 : decode cX5_addReceiver 96 = .ok (.iastore, 1) := by decide +kernel
theorem dX5_addReceiver_97 : decode cX5_addReceiver 97 = .ok (.iinc 6 (-1), 3) := by decide +kernel
theorem dX5_addReceiver_100 : decode cX5_addReceiver 100 = .ok (.goto (-54), 3) := by decide +kernel
theorem dX5_addReceiver_103 : decode cX5_addReceiver 103 = .ok (.aload_n 0, 1) := by decide +kernel
theorem dX5_addReceiver_104 : decode cX5_addReceiver 104 = .ok (.getfield 24, 3) := by decide +kernel
theorem dX5_addReceiver_107 : decode cX5_addReceiver 107 = .ok (.iload 5, 2) := by decide +kernel
theorem dX5_addReceiver_109 : decode cX5_addReceiver 109 = .ok (.iload 6, 2) := by decide +kernel
theorem dX5_addReceiver_111 : decode cX5_addReceiver 111 = .ok (.iadd, 1) := by decide +kernel
theorem dX5_addReceiver_112 : decode cX5_addReceiver 112 = .ok (.iload 5, 2) := by decide +kernel
theorem dX5_addReceiver_114 : decode cX5_addReceiver 114 = .ok (.iload 4, 2) := by decide +kernel
theorem dX5_addReceiver_116 : decode cX5_addReceiver 116 = .ok (.iadd, 1) := by decide +kernel
theorem dX5_addReceiver_117 : decode cX5_addReceiver 117 = .ok (.iastore, 1) := by decide +kernel
theorem dX5_addReceiver_118 : decode cX5_addReceiver 118 = .ok (.aload_n 0, 1) := by decide +kernel
theorem dX5_addReceiver_119 : decode cX5_addReceiver 119 = .ok (.getfield 15, 3) := by decide +kernel
theorem dX5_addReceiver_122 : decode cX5_addReceiver 122 = .ok (.iload_n 1, 1) := by decide +kernel
theorem dX5_addReceiver_123 : decode cX5_addReceiver 123 = .ok (.iload 4, 2) := by decide +kernel
theorem dX5_addReceiver_125 : decode cX5_addReceiver 125 = .ok (.iconst 1, 1) := by decide +kernel
theorem dX5_addReceiver_126 : decode cX5_addReceiver 126 = .ok (.iadd, 1) := by decide +kernel
theorem dX5_addReceiver_127 : decode cX5_addReceiver 127 = .ok (.iastore, 1) := by decide +kernel
theorem dX5_addReceiver_128 : decode cX5_addReceiver 128 = .ok (.return_, 1) := by decide +kernel
theorem dX5_isAskedAhead_0 : decode cX5_isAskedAhead 0 = .ok (.aload_n 0, 1) := by decide +kernel
theorem dX5_isAskedAhead_1 : decode cX5_isAskedAhead 1 = .ok (.getfield 21, 3) := by decide +kernel
theorem dX5_isAskedAhead_4 : decode cX5_isAskedAhead 4 = .ok (.iload_n 1, 1) := by decide +kernel
theorem dX5_isAskedAhead_5 : decode cX5_isAskedAhead 5 = .ok (.iaload, 1) := by decide +kernel
theorem dX5_isAskedAhead_6 : decode cX5_isAskedAhead 6 = .ok (.aload_n 0, 1) := by decide +kernel
theorem dX5_isAskedAhead_7 : decode cX5_isAskedAhead 7 = .ok (.getfield 21, 3) := by decide +kernel
theorem dX5_isAskedAhead_10 : decode cX5_isAskedAhead 10 = .ok (.iload_n 2, 1) := by decide +kernel
theorem dX5_isAskedAhead_11 : decode cX5_isAskedAhead 11 = .ok (.iaload, 1) := by decide +kernel
theorem dX5_isAskedAhead_12 : decode cX5_isAskedAhead 12 = .ok (.if_icmp .eq 24, 3) := by decide +kernel
theorem dX5_isAskedAhead_15 : decode cX5_isAskedAhead 15 = .ok (.aload_n 0, 1) := by decide +kernel
theorem dX5_isAskedAhead_16 : decode cX5_isAskedAhead 16 = .ok (.getfield 21, 3) := by decide +kernel
theorem dX5_isAskedAhead_19 : decode cX5_isAskedAhead 19 = .ok (.iload_n 1, 1) := by decide +kernel
theorem dX5_isAskedAhead_20 : decode cX5_isAskedAhead 20 = .ok (.iaload, 1) := by decide +kernel
theorem dX5_isAskedAhead_21 : decode cX5_isAskedAhead 21 = .ok (.aload_n 0, 1) := by decide +kernel
theorem dX5_isAskedAhead_22 : decode cX5_isAskedAhead 22 = .ok (.getfield 21, 3) := by decide +kernel
theorem dX5_isAskedAhead_25 : decode cX5_isAskedAhead 25 = .ok (.iload_n 2, 1) := by decide +kernel
theorem dX5_isAskedAhead_26 : decode cX5_isAskedAhead 26 = .ok (.iaload, 1) := by decide +kernel
theorem dX5_isAskedAhead_27 : decode cX5_isAskedAhead 27 = .ok (.if_icmp .ge 7, 3) := by decide +kernel
theorem dX5_isAskedAhead_30 : decode cX5_isAskedAhead 30 = .ok (.iconst 1, 1) := by decide +kernel
theorem dX5_isAskedAhead_31 : decode cX5_isAskedAhead 31 = .ok (.goto 4, 3) := by decide +kernel
theorem dX5_isAskedAhead_34 : decode cX5_isAskedAhead 34 = .ok (.iconst 0, 1) := by decide +kernel
theorem dX5_isAskedAhead_35 : decode cX5_isAskedAhead 35 = .ok (.ireturn, 1) := by decide +kernel
theorem dX5_isAskedAhead_36 : decode cX5_isAskedAhead 36 = .ok (.aload_n 0, 1) := by decide +kernel
theorem dX5_isAskedAhead_37 : decode cX5_isAskedAhead 37 = .ok (.getfield 18, 3) := by decide +kernel
theorem dX5_isAskedAhead_40 : decode cX5_isAskedAhead 40 = .ok (.iload_n 1, 1) := by decide +kernel
theorem dX5_isAskedAhead_41 : decode cX5_isAskedAhead 41 = .ok (.iaload, 1) := by decide +kernel
theorem dX5_isAskedAhead_42 : decode cX5_isAskedAhead 42 = .ok (.aload_n 0, 1) := by decide +kernel
theorem dX5_isAskedAhead_43 : decode cX5_isAskedAhead 43 = .ok (.getfield 18, 3) := by decide +kernel
theorem dX5_isAskedAhead_46 : decode cX5_isAskedAhead 46 = .ok (.iload_n 2, 1) := by decide +kernel
theorem dX5_isAskedAhead_47 : decode cX5_isAskedAhead 47 = .ok (.iaload, 1) := by decide +kernel
theorem dX5_isAskedAhead_48 : decode cX5_isAskedAhead 48 = .ok (.if_icmp .ge 7, 3) := by decide +kernel
theorem dX5_isAskedAhead_51 : decode cX5_isAskedAhead 51 = .ok (.iconst 1, 1) := by decide +kernel
theorem dX5_isAskedAhead_52 : decode cX5_isAskedAhead 52 = .ok (.goto 4, 3) := by decide +kernel
theorem dX5_isAskedAhead_55 : decode cX5_isAskedAhead 55 = .ok (.iconst 0, 1) := by decide +kernel
theorem dX5_isAskedAhead_56 : decode cX5_isAskedAhead 56 = .ok (.ireturn, 1) := by decide +kernel
theorem dX5_tell_0 : decode cX5_tell 0 = .ok (.aload_n 0, 1) := by decide +kernel
theorem dX5_tell_1 : decode cX5_tell 1 = .ok (.getfield 27, 3) := by decide +kernel
theorem dX5_tell_4 : decode cX5_tell 4 = .ok (.iload_n 1, 1) := by decide +kernel
theorem dX5_tell_5 : decode cX5_tell 5 = .ok (.iload_n 2, 1) := by decide +kernel
theorem dX5_tell_6 : decode cX5_tell 6 = .ok (.iastore, 1) := by decide +kernel
theorem dX5_tell_7 : decode cX5_tell 7 = .ok (.aload_n 0, 1) := by decide +kernel
theorem dX5_tell_8 : decode cX5_tell 8 = .ok (.getfield 30, 3) := by decide +kernel
theorem dX5_tell_11 : decode cX5_tell 11 = .ok (.iload_n 2, 1) := by decide +kernel
theorem dX5_tell_12 : decode cX5_tell 12 = .ok (.dup2, 1) := by decide +kernel
theorem dX5_tell_13 : decode cX5_tell 13 = .ok (.iaload, 1) := by decide +kernel
theorem dX5_tell_14 : decode cX5_tell 14 = .ok (.iconst 1, 1) := by decide +kernel
theorem dX5_tell_15 : decode cX5_tell 15 = .ok (.iadd, 1) := by decide +kernel
theorem dX5_tell_16 : decode cX5_tell 16 = .ok (.iastore, 1) := by decide +kernel
theorem dX5_tell_17 : decode cX5_tell 17 = .ok (.return_, 1) := by decide +kernel
theorem dX5_addLead_0 : decode cX5_addLead 0 = .ok (.aload_n 0, 1) := by decide +kernel
theorem dX5_addLead_1 : decode cX5_addLead 1 = .ok (.getfield 33, 3) := by decide +kernel
theorem dX5_addLead_4 : decode cX5_addLead 4 = .ok (.iload_n 1, 1) := by decide +kernel
theorem dX5_addLead_5 : decode cX5_addLead 5 = .ok (.iaload, 1) := by decide +kernel
theorem dX5_addLead_6 : decode cX5_addLead 6 = .ok (.istore_n 3, 1) := by decide +kernel
theorem dX5_addLead_7 : decode cX5_addLead 7 = .ok (.iload_n 3, 1) := by decide +kernel
theorem dX5_addLead_8 : decode cX5_addLead 8 = .ok (.iconst 4, 1) := by decide +kernel
theorem dX5_addLead_9 : decode cX5_addLead 9 = .ok (.if_icmp .ge 23, 3) := by decide +kernel
theorem dX5_addLead_12 : decode cX5_addLead 12 = .ok (.aload_n 0, 1) := by decide +kernel
theorem dX5_addLead_13 : decode cX5_addLead 13 = .ok (.getfield 36, 3) := by decide +kernel
theorem dX5_addLead_16 : decode cX5_addLead 16 = .ok (.iload_n 1, 1) := by decide +kernel
theorem dX5_addLead_17 : decode cX5_addLead 17 = .ok (.iconst 4, 1) := by decide +kernel
theorem dX5_addLead_18 : decode cX5_addLead 18 = .ok (.imul, 1) := by decide +kernel
theorem dX5_addLead_19 : decode cX5_addLead 19 = .ok (.iload_n 3, 1) := by decide +kernel
theorem dX5_addLead_20 : decode cX5_addLead 20 = .ok (.iadd, 1) := by decide +kernel
theorem dX5_addLead_21 : decode cX5_addLead 21 = .ok (.iload_n 2, 1) := by decide +kernel
theorem dX5_addLead_22 : decode cX5_addLead 22 = .ok (.iastore, 1) := by decide +kernel
theorem dX5_addLead_23 : decode cX5_addLead 23 = .ok (.aload_n 0, 1) := by decide +kernel
theorem dX5_addLead_24 : decode cX5_addLead 24 = .ok (.getfield 33, 3) := by decide +kernel
theorem dX5_addLead_27 : decode cX5_addLead 27 = .ok (.iload_n 1, 1) := by decide +kernel
theorem dX5_addLead_28 : decode cX5_addLead 28 = .ok (.iload_n 3, 1) := by decide +kernel
theorem dX5_addLead_29 : decode cX5_addLead 29 = .ok (.iconst 1, 1) := by decide +kernel
theorem dX5_addLead_30 : decode cX5_addLead 30 = .ok (.iadd, 1) := by decide +kernel
theorem dX5_addLead_31 : decode cX5_addLead 31 = .ok (.iastore, 1) := by decide +kernel
theorem dX5_addLead_32 : decode cX5_addLead 32 = .ok (.return_, 1) := by decide +kernel
theorem dX5_lead_0 : decode cX5_lead 0 = .ok (.aload_n 0, 1) := by decide +kernel
theorem dX5_lead_1 : decode cX5_lead 1 = .ok (.getfield 36, 3) := by decide +kernel
theorem dX5_lead_4 : decode cX5_lead 4 = .ok (.iload_n 1, 1) := by decide +kernel
theorem dX5_lead_5 : decode cX5_lead 5 = .ok (.iconst 4, 1) := by decide +kernel
theorem dX5_lead_6 : decode cX5_lead 6 = .ok (.imul, 1) := by decide +kernel
theorem dX5_lead_7 : decode cX5_lead 7 = .ok (.iload_n 2, 1) := by decide +kernel
theorem dX5_lead_8 : decode cX5_lead 8 = .ok (.iadd, 1) := by decide +kernel
theorem dX5_lead_9 : decode cX5_lead 9 = .ok (.iaload, 1) := by decide +kernel
theorem dX5_lead_10 : decode cX5_lead 10 = .ok (.ireturn, 1) := by decide +kernel
theorem dX5_hasLead_0 : decode cX5_hasLead 0 = .ok (.iconst 0, 1) := by decide +kernel
theorem dX5_hasLead_1 : decode cX5_hasLead 1 = .ok (.istore_n 3, 1) := by decide +kernel
theorem dX5_hasLead_2 : decode cX5_hasLead 2 = .ok (.iload_n 3, 1) := by decide +kernel
theorem dX5_hasLead_3 : decode cX5_hasLead 3 = .ok (.aload_n 0, 1) := by decide +kernel
theorem dX5_hasLead_4 : decode cX5_hasLead 4 = .ok (.getfield 33, 3) := by decide +kernel
theorem dX5_hasLead_7 : decode cX5_hasLead 7 = .ok (.iload_n 1, 1) := by decide +kernel
theorem dX5_hasLead_8 : decode cX5_hasLead 8 = .ok (.iaload, 1) := by decide +kernel
theorem dX5_hasLead_9 : decode cX5_hasLead 9 = .ok (.if_icmp .ge 21, 3) := by decide +kernel
theorem dX5_hasLead_12 : decode cX5_hasLead 12 = .ok (.aload_n 0, 1) := by decide +kernel
theorem dX5_hasLead_13 : decode cX5_hasLead 13 = .ok (.iload_n 1, 1) := by decide +kernel
theorem dX5_hasLead_14 : decode cX5_hasLead 14 = .ok (.iload_n 3, 1) := by decide +kernel
theorem dX5_hasLead_15 : decode cX5_hasLead 15 = .ok (.invokevirtual 62, 3) := by decide +kernel
theorem dX5_hasLead_18 : decode cX5_hasLead 18 = .ok (.iload_n 2, 1) := by decide +kernel
theorem dX5_hasLead_19 : decode cX5_hasLead 19 = .ok (.if_icmp .ne 5, 3) := by decide +kernel
theorem dX5_hasLead_22 : decode cX5_hasLead 22 = .ok (.iconst 1, 1) := by decide +kernel
theorem dX5_hasLead_23 : decode cX5_hasLead 23 = .ok (.ireturn, 1) := by decide +kernel
theorem dX5_hasLead_24 : decode cX5_hasLead 24 = .ok (.iinc 3 1, 3) := by decide +kernel
theorem dX5_hasLead_27 : decode cX5_hasLead 27 = .ok (.goto (-25), 3) := by decide +kernel
theorem dX5_hasLead_30 : decode cX5_hasLead 30 = .ok (.iconst 0, 1) := by decide +kernel
theorem dX5_hasLead_31 : decode cX5_hasLead 31 = .ok (.ireturn, 1) := by decide +kernel
theorem dX5_hasReceivers_0 : decode cX5_hasReceivers 0 = .ok (.iload_n 1, 1) := by decide +kernel
theorem dX5_hasReceivers_1 : decode cX5_hasReceivers 1 = .ok (.ifCond .lt 24, 3) := by decide +kernel
theorem dX5_hasReceivers_4 : decode cX5_hasReceivers 4 = .ok (.iload_n 1, 1) := by decide +kernel
theorem dX5_hasReceivers_5 : decode cX5_hasReceivers 5 = .ok (.aload_n 0, 1) := by decide +kernel
theorem dX5_hasReceivers_6 : decode cX5_hasReceivers 6 = .ok (.getfield 43, 3) := by decide +kernel
theorem dX5_hasReceivers_9 : decode cX5_hasReceivers 9 = .ok (.if_icmp .ge 16, 3) := by decide +kernel
theorem dX5_hasReceivers_12 : decode cX5_hasReceivers 12 = .ok (.aload_n 0, 1) := by decide +kernel
theorem dX5_hasReceivers_13 : decode cX5_hasReceivers 13 = .ok (.getfield 15, 3) := by decide +kernel
theorem dX5_hasReceivers_16 : decode cX5_hasReceivers 16 = .ok (.iload_n 1, 1) := by decide +kernel
theorem dX5_hasReceivers_17 : decode cX5_hasReceivers 17 = .ok (.iaload, 1) := by decide +kernel
theorem dX5_hasReceivers_18 : decode cX5_hasReceivers 18 = .ok (.ifCond .le 7, 3) := by decide +kernel
theorem dX5_hasReceivers_21 : decode cX5_hasReceivers 21 = .ok (.iconst 1, 1) := by decide +kernel
theorem dX5_hasReceivers_22 : decode cX5_hasReceivers 22 = .ok (.goto 4, 3) := by decide +kernel
theorem dX5_hasReceivers_25 : decode cX5_hasReceivers 25 = .ok (.iconst 0, 1) := by decide +kernel
theorem dX5_hasReceivers_26 : decode cX5_hasReceivers 26 = .ok (.ireturn, 1) := by decide +kernel
theorem dX5_preferenceOf_0 : decode cX5_preferenceOf 0 = .ok (.iload_n 2, 1) := by decide +kernel
theorem dX5_preferenceOf_1 : decode cX5_preferenceOf 1 = .ok (.iconst 3, 1) := by decide +kernel
theorem dX5_preferenceOf_2 : decode cX5_preferenceOf 2 = .ok (.imul, 1) := by decide +kernel
theorem dX5_preferenceOf_3 : decode cX5_preferenceOf 3 = .ok (.istore_n 3, 1) := by decide +kernel
theorem dX5_preferenceOf_4 : decode cX5_preferenceOf 4 = .ok (.iload_n 3, 1) := by decide +kernel
theorem dX5_preferenceOf_5 : decode cX5_preferenceOf 5 = .ok (.istore 4, 2) := by decide +kernel
theorem dX5_preferenceOf_7 : decode cX5_preferenceOf 7 = .ok (.iload 4, 2) := by decide +kernel
theorem dX5_preferenceOf_9 : decode cX5_preferenceOf 9 = .ok (.iload_n 3, 1) := by decide +kernel
theorem dX5_preferenceOf_10 : decode cX5_preferenceOf 10 = .ok (.aload_n 0, 1) := by decide +kernel
theorem dX5_preferenceOf_11 : decode cX5_preferenceOf 11 = .ok (.getfield 15, 3) := by decide +kernel
theorem dX5_preferenceOf_14 : decode cX5_preferenceOf 14 = .ok (.iload_n 2, 1) := by decide +kernel
theorem dX5_preferenceOf_15 : decode cX5_preferenceOf 15 = .ok (.iaload, 1) := by decide +kernel
theorem dX5_preferenceOf_16 : decode cX5_preferenceOf 16 = .ok (.iadd, 1) := by decide +kernel
theorem dX5_preferenceOf_17 : decode cX5_preferenceOf 17 = .ok (.if_icmp .ge 28, 3) := by decide +kernel
theorem dX5_preferenceOf_20 : decode cX5_preferenceOf 20 = .ok (.aload_n 0, 1) := by decide +kernel
theorem dX5_preferenceOf_21 : decode cX5_preferenceOf 21 = .ok (.getfield 18, 3) := by decide +kernel
theorem dX5_preferenceOf_24 : decode cX5_preferenceOf 24 = .ok (.iload 4, 2) := by decide +kernel
theorem dX5_preferenceOf_26 : decode cX5_preferenceOf 26 = .ok (.iaload, 1) := by decide +kernel
theorem dX5_preferenceOf_27 : decode cX5_preferenceOf 27 = .ok (.iload_n 1, 1) := by decide +kernel
theorem dX5_preferenceOf_28 : decode cX5_preferenceOf 28 = .ok (.if_icmp .ne 11, 3) := by decide +kernel
theorem dX5_preferenceOf_31 : decode cX5_preferenceOf 31 = .ok (.aload_n 0, 1) := by decide +kernel
theorem dX5_preferenceOf_32 : decode cX5_preferenceOf 32 = .ok (.getfield 21, 3) := by decide +kernel
theorem dX5_preferenceOf_35 : decode cX5_preferenceOf 35 = .ok (.iload 4, 2) := by decide +kernel
theorem dX5_preferenceOf_37 : decode cX5_preferenceOf 37 = .ok (.iaload, 1) := by decide +kernel
theorem dX5_preferenceOf_38 : decode cX5_preferenceOf 38 = .ok (.ireturn, 1) := by decide +kernel
theorem dX5_preferenceOf_39 : decode cX5_preferenceOf 39 = .ok (.iinc 4 1, 3) := by decide +kernel
theorem dX5_preferenceOf_42 : decode cX5_preferenceOf 42 = .ok (.goto (-35), 3) := by decide +kernel
theorem dX5_preferenceOf_45 : decode cX5_preferenceOf 45 = .ok (.bipush (-4), 2) := by decide +kernel
theorem dX5_preferenceOf_47 : decode cX5_preferenceOf 47 = .ok (.ireturn, 1) := by decide +kernel
theorem dX5_isLast_0 : decode cX5_isLast 0 = .ok (.aload_n 0, 1) := by decide +kernel
theorem dX5_isLast_1 : decode cX5_isLast 1 = .ok (.iload_n 2, 1) := by decide +kernel
theorem dX5_isLast_2 : decode cX5_isLast 2 = .ok (.invokevirtual 66, 3) := by decide +kernel
theorem dX5_isLast_5 : decode cX5_isLast 5 = .ok (.ifCond .eq 29, 3) := by decide +kernel
theorem dX5_isLast_8 : decode cX5_isLast 8 = .ok (.aload_n 0, 1) := by decide +kernel
theorem dX5_isLast_9 : decode cX5_isLast 9 = .ok (.iload_n 1, 1) := by decide +kernel
theorem dX5_isLast_10 : decode cX5_isLast 10 = .ok (.iload_n 2, 1) := by decide +kernel
theorem dX5_isLast_11 : decode cX5_isLast 11 = .ok (.invokevirtual 70, 3) := by decide +kernel
theorem dX5_isLast_14 : decode cX5_isLast 14 = .ok (.aload_n 0, 1) := by decide +kernel
theorem dX5_isLast_15 : decode cX5_isLast 15 = .ok (.getfield 21, 3) := by decide +kernel
theorem dX5_isLast_18 : decode cX5_isLast 18 = .ok (.aload_n 0, 1) := by decide +kernel
theorem dX5_isLast_19 : decode cX5_isLast 19 = .ok (.getfield 24, 3) := by decide +kernel
theorem dX5_isLast_22 : decode cX5_isLast 22 = .ok (.iload_n 2, 1) := by decide +kernel
theorem dX5_isLast_23 : decode cX5_isLast 23 = .ok (.iconst 3, 1) := by decide +kernel
theorem dX5_isLast_24 : decode cX5_isLast 24 = .ok (.imul, 1) := by decide +kernel
theorem dX5_isLast_25 : decode cX5_isLast 25 = .ok (.iaload, 1) := by decide +kernel
theorem dX5_isLast_26 : decode cX5_isLast 26 = .ok (.iaload, 1) := by decide +kernel
theorem dX5_isLast_27 : decode cX5_isLast 27 = .ok (.if_icmp .ne 7, 3) := by decide +kernel
theorem dX5_isLast_30 : decode cX5_isLast 30 = .ok (.iconst 1, 1) := by decide +kernel
theorem dX5_isLast_31 : decode cX5_isLast 31 = .ok (.goto 4, 3) := by decide +kernel
theorem dX5_isLast_34 : decode cX5_isLast 34 = .ok (.iconst 0, 1) := by decide +kernel
theorem dX5_isLast_35 : decode cX5_isLast 35 = .ok (.ireturn, 1) := by decide +kernel
theorem dX5_domainsEndingIn_0 : decode cX5_domainsEndingIn 0 = .ok (.iconst 0, 1) := by decide +kernel
theorem dX5_domainsEndingIn_1 : decode cX5_domainsEndingIn 1 = .ok (.istore_n 2, 1) := by decide +kernel
theorem dX5_domainsEndingIn_2 : decode cX5_domainsEndingIn 2 = .ok (.iconst 0, 1) := by decide +kernel
theorem dX5_domainsEndingIn_3 : decode cX5_domainsEndingIn 3 = .ok (.istore_n 3, 1) := by decide +kernel
theorem dX5_domainsEndingIn_4 : decode cX5_domainsEndingIn 4 = .ok (.iload_n 3, 1) := by decide +kernel
theorem dX5_domainsEndingIn_5 : decode cX5_domainsEndingIn 5 = .ok (.aload_n 0, 1) := by decide +kernel
theorem dX5_domainsEndingIn_6 : decode cX5_domainsEndingIn 6 = .ok (.getfield 43, 3) := by decide +kernel
theorem dX5_domainsEndingIn_9 : decode cX5_domainsEndingIn 9 = .ok (.if_icmp .ge 21, 3) := by decide +kernel
theorem dX5_domainsEndingIn_12 : decode cX5_domainsEndingIn 12 = .ok (.aload_n 0, 1) := by decide +kernel
theorem dX5_domainsEndingIn_13 : decode cX5_domainsEndingIn 13 = .ok (.iload_n 1, 1) := by decide +kernel
theorem dX5_domainsEndingIn_14 : decode cX5_domainsEndingIn 14 = .ok (.iload_n 3, 1) := by decide +kernel
theorem dX5_domainsEndingIn_15 : decode cX5_domainsEndingIn 15 = .ok (.invokevirtual 73, 3) := by decide +kernel
theorem dX5_domainsEndingIn_18 : decode cX5_domainsEndingIn 18 = .ok (.ifCond .eq 6, 3) := by decide +kernel
theorem dX5_domainsEndingIn_21 : decode cX5_domainsEndingIn 21 = .ok (.iinc 2 1, 3) := by decide +kernel
theorem dX5_domainsEndingIn_24 : decode cX5_domainsEndingIn 24 = .ok (.iinc 3 1, 3) := by decide +kernel
theorem dX5_domainsEndingIn_27 : decode cX5_domainsEndingIn 27 = .ok (.goto (-23), 3) := by decide +kernel
theorem dX5_domainsEndingIn_30 : decode cX5_domainsEndingIn 30 = .ok (.iload_n 2, 1) := by decide +kernel
theorem dX5_domainsEndingIn_31 : decode cX5_domainsEndingIn 31 = .ok (.ireturn, 1) := by decide +kernel
theorem dX5_asked_0 : decode cX5_asked 0 = .ok (.iload_n 3, 1) := by decide +kernel
theorem dX5_asked_1 : decode cX5_asked 1 = .ok (.aload_n 0, 1) := by decide +kernel
theorem dX5_asked_2 : decode cX5_asked 2 = .ok (.getfield 15, 3) := by decide +kernel
theorem dX5_asked_5 : decode cX5_asked 5 = .ok (.iload_n 2, 1) := by decide +kernel
theorem dX5_asked_6 : decode cX5_asked 6 = .ok (.iaload, 1) := by decide +kernel
theorem dX5_asked_7 : decode cX5_asked 7 = .ok (.if_icmp .lt 6, 3) := by decide +kernel
theorem dX5_asked_10 : decode cX5_asked 10 = .ok (.bipush (-4), 2) := by decide +kernel
theorem dX5_asked_12 : decode cX5_asked 12 = .ok (.ireturn, 1) := by decide +kernel
theorem dX5_asked_13 : decode cX5_asked 13 = .ok (.aload_n 0, 1) := by decide +kernel
theorem dX5_asked_14 : decode cX5_asked 14 = .ok (.iload_n 1, 1) := by decide +kernel
theorem dX5_asked_15 : decode cX5_asked 15 = .ok (.iload_n 2, 1) := by decide +kernel
theorem dX5_asked_16 : decode cX5_asked 16 = .ok (.invokevirtual 70, 3) := by decide +kernel
theorem dX5_asked_19 : decode cX5_asked 19 = .ok (.istore 4, 2) := by decide +kernel
theorem dX5_asked_21 : decode cX5_asked 21 = .ok (.aload_n 0, 1) := by decide +kernel
theorem dX5_asked_22 : decode cX5_asked 22 = .ok (.getfield 24, 3) := by decide +kernel
theorem dX5_asked_25 : decode cX5_asked 25 = .ok (.iload_n 2, 1) := by decide +kernel
theorem dX5_asked_26 : decode cX5_asked 26 = .ok (.iconst 3, 1) := by decide +kernel
theorem dX5_asked_27 : decode cX5_asked 27 = .ok (.imul, 1) := by decide +kernel
theorem dX5_asked_28 : decode cX5_asked 28 = .ok (.iload_n 3, 1) := by decide +kernel
theorem dX5_asked_29 : decode cX5_asked 29 = .ok (.iadd, 1) := by decide +kernel
theorem dX5_asked_30 : decode cX5_asked 30 = .ok (.iaload, 1) := by decide +kernel
theorem dX5_asked_31 : decode cX5_asked 31 = .ok (.istore 5, 2) := by decide +kernel
theorem dX5_asked_33 : decode cX5_asked 33 = .ok (.iload 4, 2) := by decide +kernel
theorem dX5_asked_35 : decode cX5_asked 35 = .ok (.bipush (-4), 2) := by decide +kernel
theorem dX5_asked_37 : decode cX5_asked 37 = .ok (.if_icmp .eq 15, 3) := by decide +kernel
theorem dX5_asked_40 : decode cX5_asked 40 = .ok (.aload_n 0, 1) := by decide +kernel
theorem dX5_asked_41 : decode cX5_asked 41 = .ok (.getfield 21, 3) := by decide +kernel
theorem dX5_asked_44 : decode cX5_asked 44 = .ok (.iload 5, 2) := by decide +kernel
theorem dX5_asked_46 : decode cX5_asked 46 = .ok (.iaload, 1) := by decide +kernel
theorem dX5_asked_47 : decode cX5_asked 47 = .ok (.iload 4, 2) := by decide +kernel
theorem dX5_asked_49 : decode cX5_asked 49 = .ok (.if_icmp .ge 13, 3) := by decide +kernel
theorem dX5_asked_52 : decode cX5_asked 52 = .ok (.aload_n 0, 1) := by decide +kernel
theorem dX5_asked_53 : decode cX5_asked 53 = .ok (.getfield 18, 3) := by decide +kernel
theorem dX5_asked_56 : decode cX5_asked 56 = .ok (.iload 5, 2) := by decide +kernel
theorem dX5_asked_58 : decode cX5_asked 58 = .ok (.iaload, 1) := by decide +kernel
theorem dX5_asked_59 : decode cX5_asked 59 = .ok (.goto 5, 3) := by decide +kernel
theorem dX5_asked_62 : decode cX5_asked 62 = .ok (.bipush (-4), 2) := by decide +kernel
theorem dX5_asked_64 : decode cX5_asked 64 = .ok (.ireturn, 1) := by decide +kernel
theorem dX5_reachedFrom_0 : decode cX5_reachedFrom 0 = .ok (.iconst 1, 1) := by decide +kernel
theorem dX5_reachedFrom_1 : decode cX5_reachedFrom 1 = .ok (.iload_n 1, 1) := by decide +kernel
theorem dX5_reachedFrom_2 : decode cX5_reachedFrom 2 = .ok (.ishl, 1) := by decide +kernel
theorem dX5_reachedFrom_3 : decode cX5_reachedFrom 3 = .ok (.istore_n 2, 1) := by decide +kernel
theorem dX5_reachedFrom_4 : decode cX5_reachedFrom 4 = .ok (.iconst 0, 1) := by decide +kernel
theorem dX5_reachedFrom_5 : decode cX5_reachedFrom 5 = .ok (.istore_n 3, 1) := by decide +kernel
theorem dX5_reachedFrom_6 : decode cX5_reachedFrom 6 = .ok (.iload_n 3, 1) := by decide +kernel
theorem dX5_reachedFrom_7 : decode cX5_reachedFrom 7 = .ok (.bipush 32, 2) := by decide +kernel
theorem dX5_reachedFrom_9 : decode cX5_reachedFrom 9 = .ok (.if_icmp .ge 61, 3) := by decide +kernel
theorem dX5_reachedFrom_12 : decode cX5_reachedFrom 12 = .ok (.iload_n 2, 1) := by decide +kernel
theorem dX5_reachedFrom_13 : decode cX5_reachedFrom 13 = .ok (.istore 4, 2) := by decide +kernel
theorem dX5_reachedFrom_15 : decode cX5_reachedFrom 15 = .ok (.iconst 0, 1) := by decide +kernel
theorem dX5_reachedFrom_16 : decode cX5_reachedFrom 16 = .ok (.istore 5, 2) := by decide +kernel
theorem dX5_reachedFrom_18 : decode cX5_reachedFrom 18 = .ok (.iload 5, 2) := by decide +kernel
theorem dX5_reachedFrom_20 : decode cX5_reachedFrom 20 = .ok (.bipush 32, 2) := by decide +kernel
theorem dX5_reachedFrom_22 : decode cX5_reachedFrom 22 = .ok (.if_icmp .ge 31, 3) := by decide +kernel
theorem dX5_reachedFrom_25 : decode cX5_reachedFrom 25 = .ok (.iload 4, 2) := by decide +kernel
theorem dX5_reachedFrom_27 : decode cX5_reachedFrom 27 = .ok (.iload 5, 2) := by decide +kernel
theorem dX5_reachedFrom_29 : decode cX5_reachedFrom 29 = .ok (.iushr, 1) := by decide +kernel
theorem dX5_reachedFrom_30 : decode cX5_reachedFrom 30 = .ok (.iconst 1, 1) := by decide +kernel
theorem dX5_reachedFrom_31 : decode cX5_reachedFrom 31 = .ok (.iand, 1) := by decide +kernel
theorem dX5_reachedFrom_32 : decode cX5_reachedFrom 32 = .ok (.iconst 1, 1) := by decide +kernel
theorem dX5_reachedFrom_33 : decode cX5_reachedFrom 33 = .ok (.if_icmp .ne 14, 3) := by decide +kernel
theorem dX5_reachedFrom_36 : decode cX5_reachedFrom 36 = .ok (.iload 4, 2) := by decide +kernel
theorem dX5_reachedFrom_38 : decode cX5_reachedFrom 38 = .ok (.aload_n 0, 1) := by decide +kernel
theorem dX5_reachedFrom_39 : decode cX5_reachedFrom 39 = .ok (.iload 5, 2) := by decide +kernel
theorem dX5_reachedFrom_41 : decode cX5_reachedFrom 41 = .ok (.invokevirtual 76, 3) := by decide +kernel
theorem dX5_reachedFrom_44 : decode cX5_reachedFrom 44 = .ok (.ior, 1) := by decide +kernel
theorem dX5_reachedFrom_45 : decode cX5_reachedFrom 45 = .ok (.istore 4, 2) := by decide +kernel
theorem dX5_reachedFrom_47 : decode cX5_reachedFrom 47 = .ok (.iinc 5 1, 3) := by decide +kernel
theorem dX5_reachedFrom_50 : decode cX5_reachedFrom 50 = .ok (.goto (-32), 3) := by decide +kernel
theorem dX5_reachedFrom_53 : decode cX5_reachedFrom 53 = .ok (.iload 4, 2) := by decide +kernel
theorem dX5_reachedFrom_55 : decode cX5_reachedFrom 55 = .ok (.iload_n 2, 1) := by decide +kernel
theorem dX5_reachedFrom_56 : decode cX5_reachedFrom 56 = .ok (.if_icmp .ne 5, 3) := by decide +kernel
theorem dX5_reachedFrom_59 : decode cX5_reachedFrom 59 = .ok (.iload_n 2, 1) := by decide +kernel
theorem dX5_reachedFrom_60 : decode cX5_reachedFrom 60 = .ok (.ireturn, 1) := by decide +kernel
theorem dX5_reachedFrom_61 : decode cX5_reachedFrom 61 = .ok (.iload 4, 2) := by decide +kernel
theorem dX5_reachedFrom_63 : decode cX5_reachedFrom 63 = .ok (.istore_n 2, 1) := by decide +kernel
theorem dX5_reachedFrom_64 : decode cX5_reachedFrom 64 = .ok (.iinc 3 1, 3) := by decide +kernel
theorem dX5_reachedFrom_67 : decode cX5_reachedFrom 67 = .ok (.goto (-61), 3) := by decide +kernel
theorem dX5_reachedFrom_70 : decode cX5_reachedFrom 70 = .ok (.iload_n 2, 1) := by decide +kernel
theorem dX5_reachedFrom_71 : decode cX5_reachedFrom 71 = .ok (.ireturn, 1) := by decide +kernel
theorem dX5_leadBits_0 : decode cX5_leadBits 0 = .ok (.iconst 0, 1) := by decide +kernel
theorem dX5_leadBits_1 : decode cX5_leadBits 1 = .ok (.istore_n 2, 1) := by decide +kernel
theorem dX5_leadBits_2 : decode cX5_leadBits 2 = .ok (.iconst 0, 1) := by decide +kernel
theorem dX5_leadBits_3 : decode cX5_leadBits 3 = .ok (.istore_n 3, 1) := by decide +kernel
theorem dX5_leadBits_4 : decode cX5_leadBits 4 = .ok (.iload_n 3, 1) := by decide +kernel
theorem dX5_leadBits_5 : decode cX5_leadBits 5 = .ok (.aload_n 0, 1) := by decide +kernel
theorem dX5_leadBits_6 : decode cX5_leadBits 6 = .ok (.getfield 33, 3) := by decide +kernel
theorem dX5_leadBits_9 : decode cX5_leadBits 9 = .ok (.iload_n 1, 1) := by decide +kernel
theorem dX5_leadBits_10 : decode cX5_leadBits 10 = .ok (.iaload, 1) := by decide +kernel
theorem dX5_leadBits_11 : decode cX5_leadBits 11 = .ok (.if_icmp .ge 20, 3) := by decide +kernel
theorem dX5_leadBits_14 : decode cX5_leadBits 14 = .ok (.iload_n 2, 1) := by decide +kernel
theorem dX5_leadBits_15 : decode cX5_leadBits 15 = .ok (.iconst 1, 1) := by decide +kernel
theorem dX5_leadBits_16 : decode cX5_leadBits 16 = .ok (.aload_n 0, 1) := by decide +kernel
theorem dX5_leadBits_17 : decode cX5_leadBits 17 = .ok (.iload_n 1, 1) := by decide +kernel
theorem dX5_leadBits_18 : decode cX5_leadBits 18 = .ok (.iload_n 3, 1) := by decide +kernel
theorem dX5_leadBits_19 : decode cX5_leadBits 19 = .ok (.invokevirtual 62, 3) := by decide +kernel
theorem dX5_leadBits_22 : decode cX5_leadBits 22 = .ok (.ishl, 1) := by decide +kernel
theorem dX5_leadBits_23 : decode cX5_leadBits 23 = .ok (.ior, 1) := by decide +kernel
theorem dX5_leadBits_24 : decode cX5_leadBits 24 = .ok (.istore_n 2, 1) := by decide +kernel
theorem dX5_leadBits_25 : decode cX5_leadBits 25 = .ok (.iinc 3 1, 3) := by decide +kernel
theorem dX5_leadBits_28 : decode cX5_leadBits 28 = .ok (.goto (-24), 3) := by decide +kernel
theorem dX5_leadBits_31 : decode cX5_leadBits 31 = .ok (.iload_n 2, 1) := by decide +kernel
theorem dX5_leadBits_32 : decode cX5_leadBits 32 = .ok (.ireturn, 1) := by decide +kernel
theorem dX6_init_0 : decode cX6_init 0 = .ok (.aload_n 0, 1) := by decide +kernel
theorem dX6_init_1 : decode cX6_init 1 = .ok (.invokespecial 3, 3) := by decide +kernel
theorem dX6_init_4 : decode cX6_init 4 = .ok (.aload_n 0, 1) := by decide +kernel
theorem dX6_init_5 : decode cX6_init 5 = .ok (.iconst 5, 1) := by decide +kernel
theorem dX6_init_6 : decode cX6_init 6 = .ok (.newarray .int, 2) := by decide +kernel
theorem dX6_init_8 : decode cX6_init 8 = .ok (.putfield 9, 3) := by decide +kernel
theorem dX6_init_11 : decode cX6_init 11 = .ok (.aload_n 0, 1) := by decide +kernel
theorem dX6_init_12 : decode cX6_init 12 = .ok (.new 15, 3) := by decide +kernel
theorem dX6_init_15 : decode cX6_init 15 = .ok (.dup, 1) := by decide +kernel
theorem dX6_init_16 : decode cX6_init 16 = .ok (.invokespecial 17, 3) := by decide +kernel
theorem dX6_init_19 : decode cX6_init 19 = .ok (.putfield 18, 3) := by decide +kernel
theorem dX6_init_22 : decode cX6_init 22 = .ok (.aload_n 0, 1) := by decide +kernel
theorem dX6_init_23 : decode cX6_init 23 = .ok (.new 22, 3) := by decide +kernel
theorem dX6_init_26 : decode cX6_init 26 = .ok (.dup, 1) := by decide +kernel
theorem dX6_init_27 : decode cX6_init 27 = .ok (.invokespecial 24, 3) := by decide +kernel
theorem dX6_init_30 : decode cX6_init 30 = .ok (.putfield 25, 3) := by decide +kernel
theorem dX6_init_33 : decode cX6_init 33 = .ok (.aload_n 0, 1) := by decide +kernel
theorem dX6_init_34 : decode cX6_init 34 = .ok (.new 29, 3) := by decide +kernel
theorem dX6_init_37 : decode cX6_init 37 = .ok (.dup, 1) := by decide +kernel
theorem dX6_init_38 : decode cX6_init 38 = .ok (.invokespecial 31, 3) := by decide +kernel
theorem dX6_init_41 : decode cX6_init 41 = .ok (.putfield 32, 3) := by decide +kernel
theorem dX6_init_44 : decode cX6_init 44 = .ok (.aload_n 0, 1) := by decide +kernel
theorem dX6_init_45 : decode cX6_init 45 = .ok (.iconst 5, 1) := by decide +kernel
theorem dX6_init_46 : decode cX6_init 46 = .ok (.anewarray 36, 3) := by decide +kernel
theorem dX6_init_49 : decode cX6_init 49 = .ok (.putfield 38, 3) := by decide +kernel
theorem dX6_init_52 : decode cX6_init 52 = .ok (.iconst 0, 1) := by decide +kernel
theorem dX6_init_53 : decode cX6_init 53 = .ok (.istore_n 1, 1) := by decide +kernel
theorem dX6_init_54 : decode cX6_init 54 = .ok (.iload_n 1, 1) := by decide +kernel
theorem dX6_init_55 : decode cX6_init 55 = .ok (.iconst 5, 1) := by decide +kernel
theorem dX6_init_56 : decode cX6_init 56 = .ok (.if_icmp .ge 22, 3) := by decide +kernel
theorem dX6_init_59 : decode cX6_init 59 = .ok (.aload_n 0, 1) := by decide +kernel
theorem dX6_init_60 : decode cX6_init 60 = .ok (.getfield 38, 3) := by decide +kernel
theorem dX6_init_63 : decode cX6_init 63 = .ok (.iload_n 1, 1) := by decide +kernel
theorem dX6_init_64 : decode cX6_init 64 = .ok (.new 36, 3) := by decide +kernel
theorem dX6_init_67 : decode cX6_init 67 = .ok (.dup, 1) := by decide +kernel
theorem dX6_init_68 : decode cX6_init 68 = .ok (.invokespecial 42, 3) := by decide +kernel
theorem dX6_init_71 : decode cX6_init 71 = .ok (.aastore, 1) := by decide +kernel
theorem dX6_init_72 : decode cX6_init 72 = .ok (.iinc 1 1, 3) := by decide +kernel
theorem dX6_init_75 : decode cX6_init 75 = .ok (.goto (-21), 3) := by decide +kernel
theorem dX6_init_78 : decode cX6_init 78 = .ok (.return_, 1) := by decide +kernel
theorem dX6_clear_0 : decode cX6_clear 0 = .ok (.aload_n 0, 1) := by decide +kernel
theorem dX6_clear_1 : decode cX6_clear 1 = .ok (.iconst 0, 1) := by decide +kernel
theorem dX6_clear_2 : decode cX6_clear 2 = .ok (.putfield 43, 3) := by decide +kernel
theorem dX6_clear_5 : decode cX6_clear 5 = .ok (.aload_n 0, 1) := by decide +kernel
theorem dX6_clear_6 : decode cX6_clear 6 = .ok (.iconst 0, 1) := by decide +kernel
theorem dX6_clear_7 : decode cX6_clear 7 = .ok (.putfield 47, 3) := by decide +kernel
theorem dX6_clear_10 : decode cX6_clear 10 = .ok (.aload_n 0, 1) := by decide +kernel
theorem dX6_clear_11 : decode cX6_clear 11 = .ok (.iconst 0, 1) := by decide +kernel
theorem dX6_clear_12 : decode cX6_clear 12 = .ok (.putfield 50, 3) := by decide +kernel
theorem dX6_clear_15 : decode cX6_clear 15 = .ok (.aload_n 0, 1) := by decide +kernel
theorem dX6_clear_16 : decode cX6_clear 16 = .ok (.getfield 9, 3) := by decide +kernel
theorem dX6_clear_19 : decode cX6_clear 19 = .ok (.iconst 1, 1) := by decide +kernel
theorem dX6_clear_20 : decode cX6_clear 20 = .ok (.invokestatic 53, 3) := by decide +kernel
theorem dX6_clear_23 : decode cX6_clear 23 = .ok (.aload_n 0, 1) := by decide +kernel
theorem dX6_clear_24 : decode cX6_clear 24 = .ok (.getfield 18, 3) := by decide +kernel
theorem dX6_clear_27 : decode cX6_clear 27 = .ok (.invokevirtual 59, 3) := by decide +kernel
theorem dX6_clear_30 : decode cX6_clear 30 = .ok (.aload_n 0, 1) := by decide +kernel
theorem dX6_clear_31 : decode cX6_clear 31 = .ok (.getfield 25, 3) := by decide +kernel
theorem dX6_clear_34 : decode cX6_clear 34 = .ok (.invokevirtual 62, 3) := by decide +kernel
theorem dX6_clear_37 : decode cX6_clear 37 = .ok (.aload_n 0, 1) := by decide +kernel
theorem dX6_clear_38 : decode cX6_clear 38 = .ok (.getfield 32, 3) := by decide +kernel
theorem dX6_clear_41 : decode cX6_clear 41 = .ok (.invokevirtual 63, 3) := by decide +kernel
theorem dX6_clear_44 : decode cX6_clear 44 = .ok (.iconst 0, 1) := by decide +kernel
theorem dX6_clear_45 : decode cX6_clear 45 = .ok (.istore_n 1, 1) := by decide +kernel
theorem dX6_clear_46 : decode cX6_clear 46 = .ok (.iload_n 1, 1) := by decide +kernel
theorem dX6_clear_47 : decode cX6_clear 47 = .ok (.iconst 5, 1) := by decide +kernel
theorem dX6_clear_48 : decode cX6_clear 48 = .ok (.if_icmp .ge 19, 3) := by decide +kernel
theorem dX6_clear_51 : decode cX6_clear 51 = .ok (.aload_n 0, 1) := by decide +kernel
theorem dX6_clear_52 : decode cX6_clear 52 = .ok (.getfield 38, 3) := by decide +kernel
theorem dX6_clear_55 : decode cX6_clear 55 = .ok (.iload_n 1, 1) := by decide +kernel
theorem dX6_clear_56 : decode cX6_clear 56 = .ok (.aaload, 1) := by decide +kernel
theorem dX6_clear_57 : decode cX6_clear 57 = .ok (.iconst 0, 1) := by decide +kernel
theorem dX6_clear_58 : decode cX6_clear 58 = .ok (.putfield 64, 3) := by decide +kernel
theorem dX6_clear_61 : decode cX6_clear 61 = .ok (.iinc 1 1, 3) := by decide +kernel
theorem dX6_clear_64 : decode cX6_clear 64 = .ok (.goto (-18), 3) := by decide +kernel
theorem dX6_clear_67 : decode cX6_clear 67 = .ok (.return_, 1) := by decide +kernel
theorem dX6_copyFrom_0 : decode cX6_copyFrom 0 = .ok (.aload_n 0, 1) := by decide +kernel
theorem dX6_copyFrom_1 : decode cX6_copyFrom 1 = .ok (.aload_n 1, 1) := by decide +kernel
theorem dX6_copyFrom_2 : decode cX6_copyFrom 2 = .ok (.getfield 43, 3) := by decide +kernel
theorem dX6_copyFrom_5 : decode cX6_copyFrom 5 = .ok (.putfield 43, 3) := by decide +kernel
theorem dX6_copyFrom_8 : decode cX6_copyFrom 8 = .ok (.aload_n 0, 1) := by decide +kernel
theorem dX6_copyFrom_9 : decode cX6_copyFrom 9 = .ok (.aload_n 1, 1) := by decide +kernel
theorem dX6_copyFrom_10 : decode cX6_copyFrom 10 = .ok (.getfield 47, 3) := by decide +kernel
theorem dX6_copyFrom_13 : decode cX6_copyFrom 13 = .ok (.putfield 47, 3) := by decide +kernel
theorem dX6_copyFrom_16 : decode cX6_copyFrom 16 = .ok (.aload_n 0, 1) := by decide +kernel
theorem dX6_copyFrom_17 : decode cX6_copyFrom 17 = .ok (.aload_n 1, 1) := by decide +kernel
theorem dX6_copyFrom_18 : decode cX6_copyFrom 18 = .ok (.getfield 50, 3) := by decide +kernel
theorem dX6_copyFrom_21 : decode cX6_copyFrom 21 = .ok (.putfield 50, 3) := by decide +kernel
theorem dX6_copyFrom_24 : decode cX6_copyFrom 24 = .ok (.aload_n 1, 1) := by decide +kernel
theorem dX6_copyFrom_25 : decode cX6_copyFrom 25 = .ok (.getfield 9, 3) := by decide +kernel
theorem dX6_copyFrom_28 : decode cX6_copyFrom 28 = .ok (.iconst 0, 1) := by decide +kernel
theorem dX6_copyFrom_29 : decode cX6_copyFrom 29 = .ok (.aload_n 0, 1) := by decide +kernel
theorem dX6_copyFrom_30 : decode cX6_copyFrom 30 = .ok (.getfield 9, 3) := by decide +kernel
theorem dX6_copyFrom_33 : decode cX6_copyFrom 33 = .ok (.iconst 0, 1) := by decide +kernel
theorem dX6_copyFrom_34 : decode cX6_copyFrom 34 = .ok (.aload_n 0, 1) := by decide +kernel
theorem dX6_copyFrom_35 : decode cX6_copyFrom 35 = .ok (.getfield 9, 3) := by decide +kernel
theorem dX6_copyFrom_38 : decode cX6_copyFrom 38 = .ok (.arraylength, 1) := by decide +kernel
theorem dX6_copyFrom_39 : decode cX6_copyFrom 39 = .ok (.invokestatic 67, 3) := by decide +kernel
theorem dX6_copyFrom_42 : decode cX6_copyFrom 42 = .ok (.aload_n 0, 1) := by decide +kernel
theorem dX6_copyFrom_43 : decode cX6_copyFrom 43 = .ok (.getfield 18, 3) := by decide +kernel
theorem dX6_copyFrom_46 : decode cX6_copyFrom 46 = .ok (.aload_n 1, 1) := by decide +kernel
theorem dX6_copyFrom_47 : decode cX6_copyFrom 47 = .ok (.getfield 18, 3) := by decide +kernel
theorem dX6_copyFrom_50 : decode cX6_copyFrom 50 = .ok (.invokevirtual 73, 3) := by decide +kernel
theorem dX6_copyFrom_53 : decode cX6_copyFrom 53 = .ok (.aload_n 0, 1) := by decide +kernel
theorem dX6_copyFrom_54 : decode cX6_copyFrom 54 = .ok (.getfield 25, 3) := by decide +kernel
theorem dX6_copyFrom_57 : decode cX6_copyFrom 57 = .ok (.aload_n 1, 1) := by decide +kernel
theorem dX6_copyFrom_58 : decode cX6_copyFrom 58 = .ok (.getfield 25, 3) := by decide +kernel
theorem dX6_copyFrom_61 : decode cX6_copyFrom 61 = .ok (.invokevirtual 77, 3) := by decide +kernel
theorem dX6_copyFrom_64 : decode cX6_copyFrom 64 = .ok (.aload_n 0, 1) := by decide +kernel
theorem dX6_copyFrom_65 : decode cX6_copyFrom 65 = .ok (.getfield 32, 3) := by decide +kernel
theorem dX6_copyFrom_68 : decode cX6_copyFrom 68 = .ok (.aload_n 1, 1) := by decide +kernel
theorem dX6_copyFrom_69 : decode cX6_copyFrom 69 = .ok (.getfield 32, 3) := by decide +kernel
theorem dX6_copyFrom_72 : decode cX6_copyFrom 72 = .ok (.invokevirtual 80, 3) := by decide +kernel
theorem dX6_copyFrom_75 : decode cX6_copyFrom 75 = .ok (.iconst 0, 1) := by decide +kernel
theorem dX6_copyFrom_76 : decode cX6_copyFrom 76 = .ok (.istore_n 2, 1) := by decide +kernel
theorem dX6_copyFrom_77 : decode cX6_copyFrom 77 = .ok (.iload_n 2, 1) := by decide +kernel
theorem dX6_copyFrom_78 : decode cX6_copyFrom 78 = .ok (.iconst 5, 1) := by decide +kernel
theorem dX6_copyFrom_79 : decode cX6_copyFrom 79 = .ok (.if_icmp .ge 24, 3) := by decide +kernel
theorem dX6_copyFrom_82 : decode cX6_copyFrom 82 = .ok (.aload_n 0, 1) := by decide +kernel
theorem dX6_copyFrom_83 : decode cX6_copyFrom 83 = .ok (.getfield 38, 3) := by decide +kernel
theorem dX6_copyFrom_86 : decode cX6_copyFrom 86 = .ok (.iload_n 2, 1) := by decide +kernel
theorem dX6_copyFrom_87 : decode cX6_copyFrom 87 = .ok (.aaload, 1) := by decide +kernel
theorem dX6_copyFrom_88 : decode cX6_copyFrom 88 = .ok (.aload_n 1, 1) := by decide +kernel
theorem dX6_copyFrom_89 : decode cX6_copyFrom 89 = .ok (.getfield 38, 3) := by decide +kernel
theorem dX6_copyFrom_92 : decode cX6_copyFrom 92 = .ok (.iload_n 2, 1) := by decide +kernel
theorem dX6_copyFrom_93 : decode cX6_copyFrom 93 = .ok (.aaload, 1) := by decide +kernel
theorem dX6_copyFrom_94 : decode cX6_copyFrom 94 = .ok (.invokevirtual 83, 3) := by decide +kernel
theorem dX6_copyFrom_97 : decode cX6_copyFrom 97 = .ok (.iinc 2 1, 3) := by decide +kernel
theorem dX6_copyFrom_100 : decode cX6_copyFrom 100 = .ok (.goto (-23), 3) := by decide +kernel
theorem dX6_copyFrom_103 : decode cX6_copyFrom 103 = .ok (.return_, 1) := by decide +kernel
theorem dX7_init_0 : decode cX7_init 0 = .ok (.aload_n 0, 1) := by decide +kernel
theorem dX7_init_1 : decode cX7_init 1 = .ok (.invokespecial 3, 3) := by decide +kernel
theorem dX7_init_4 : decode cX7_init 4 = .ok (.aload_n 0, 1) := by decide +kernel
theorem dX7_init_5 : decode cX7_init 5 = .ok (.iload_n 1, 1) := by decide +kernel
theorem dX7_init_6 : decode cX7_init 6 = .ok (.putfield 9, 3) := by decide +kernel
theorem dX7_init_9 : decode cX7_init 9 = .ok (.aload_n 0, 1) := by decide +kernel
theorem dX7_init_10 : decode cX7_init 10 = .ok (.iload_n 2, 1) := by decide +kernel
theorem dX7_init_11 : decode cX7_init 11 = .ok (.putfield 15, 3) := by decide +kernel
theorem dX7_init_14 : decode cX7_init 14 = .ok (.aload_n 0, 1) := by decide +kernel
theorem dX7_init_15 : decode cX7_init 15 = .ok (.iload_n 1, 1) := by decide +kernel
theorem dX7_init_16 : decode cX7_init 16 = .ok (.ifCond .ne 7, 3) := by decide +kernel
theorem dX7_init_19 : decode cX7_init 19 = .ok (.iload_n 2, 1) := by decide +kernel
theorem dX7_init_20 : decode cX7_init 20 = .ok (.goto 4, 3) := by decide +kernel
theorem dX7_init_23 : decode cX7_init 23 = .ok (.iconst 0, 1) := by decide +kernel
theorem dX7_init_24 : decode cX7_init 24 = .ok (.newarray .byte, 2) := by decide +kernel
theorem dX7_init_26 : decode cX7_init 26 = .ok (.putfield 18, 3) := by decide +kernel
theorem dX7_init_29 : decode cX7_init 29 = .ok (.aload_n 0, 1) := by decide +kernel
theorem dX7_init_30 : decode cX7_init 30 = .ok (.iload_n 1, 1) := by decide +kernel
theorem dX7_init_31 : decode cX7_init 31 = .ok (.iconst 1, 1) := by decide +kernel
theorem dX7_init_32 : decode cX7_init 32 = .ok (.if_icmp .ne 7, 3) := by decide +kernel
theorem dX7_init_35 : decode cX7_init 35 = .ok (.iload_n 2, 1) := by decide +kernel
theorem dX7_init_36 : decode cX7_init 36 = .ok (.goto 4, 3) := by decide +kernel
theorem dX7_init_39 : decode cX7_init 39 = .ok (.iconst 0, 1) := by decide +kernel
theorem dX7_init_40 : decode cX7_init 40 = .ok (.newarray .int, 2) := by decide +kernel
theorem dX7_init_42 : decode cX7_init 42 = .ok (.putfield 22, 3) := by decide +kernel
theorem dX7_init_45 : decode cX7_init 45 = .ok (.return_, 1) := by decide +kernel
theorem dX7_cell_0 : decode cX7_cell 0 = .ok (.aload_n 0, 1) := by decide +kernel
theorem dX7_cell_1 : decode cX7_cell 1 = .ok (.getfield 9, 3) := by decide +kernel
theorem dX7_cell_4 : decode cX7_cell 4 = .ok (.ifCond .ne 12, 3) := by decide +kernel
theorem dX7_cell_7 : decode cX7_cell 7 = .ok (.aload_n 0, 1) := by decide +kernel
theorem dX7_cell_8 : decode cX7_cell 8 = .ok (.getfield 18, 3) := by decide +kernel
theorem dX7_cell_11 : decode cX7_cell 11 = .ok (.iload_n 1, 1) := by decide +kernel
theorem dX7_cell_12 : decode cX7_cell 12 = .ok (.baload, 1) := by decide +kernel
theorem dX7_cell_13 : decode cX7_cell 13 = .ok (.goto 9, 3) := by decide +kernel
theorem dX7_cell_16 : decode cX7_cell 16 = .ok (.aload_n 0, 1) := by decide +kernel
theorem dX7_cell_17 : decode cX7_cell 17 = .ok (.getfield 22, 3) := by decide +kernel
theorem dX7_cell_20 : decode cX7_cell 20 = .ok (.iload_n 1, 1) := by decide +kernel
theorem dX7_cell_21 : decode cX7_cell 21 = .ok (.iaload, 1) := by decide +kernel
theorem dX7_cell_22 : decode cX7_cell 22 = .ok (.ireturn, 1) := by decide +kernel
theorem dX7_put_0 : decode cX7_put 0 = .ok (.aload_n 0, 1) := by decide +kernel
theorem dX7_put_1 : decode cX7_put 1 = .ok (.getfield 9, 3) := by decide +kernel
theorem dX7_put_4 : decode cX7_put 4 = .ok (.ifCond .ne 14, 3) := by decide +kernel
theorem dX7_put_7 : decode cX7_put 7 = .ok (.aload_n 0, 1) := by decide +kernel
theorem dX7_put_8 : decode cX7_put 8 = .ok (.getfield 18, 3) := by decide +kernel
theorem dX7_put_11 : decode cX7_put 11 = .ok (.iload_n 1, 1) := by decide +kernel
theorem dX7_put_12 : decode cX7_put 12 = .ok (.iload_n 2, 1) := by decide +kernel
theorem dX7_put_13 : decode cX7_put 13 = .ok (.i2b, 1) := by decide +kernel
theorem dX7_put_14 : decode cX7_put 14 = .ok (.bastore, 1) := by decide +kernel
theorem dX7_put_15 : decode cX7_put 15 = .ok (.goto 10, 3) := by decide +kernel
theorem dX7_put_18 : decode cX7_put 18 = .ok (.aload_n 0, 1) := by decide +kernel
theorem dX7_put_19 : decode cX7_put 19 = .ok (.getfield 22, 3) := by decide +kernel
theorem dX7_put_22 : decode cX7_put 22 = .ok (.iload_n 1, 1) := by decide +kernel
theorem dX7_put_23 : decode cX7_put 23 = .ok (.iload_n 2, 1) := by decide +kernel
theorem dX7_put_24 : decode cX7_put 24 = .ok (.iastore, 1) := by decide +kernel
theorem dX7_put_25 : decode cX7_put 25 = .ok (.return_, 1) := by decide +kernel
theorem dX7_fillFrom_0 : decode cX7_fillFrom 0 = .ok (.aload_n 0, 1) := by decide +kernel
theorem dX7_fillFrom_1 : decode cX7_fillFrom 1 = .ok (.getfield 9, 3) := by decide +kernel
theorem dX7_fillFrom_4 : decode cX7_fillFrom 4 = .ok (.ifCond .ne 23, 3) := by decide +kernel
theorem dX7_fillFrom_7 : decode cX7_fillFrom 7 = .ok (.aload_n 1, 1) := by decide +kernel
theorem dX7_fillFrom_8 : decode cX7_fillFrom 8 = .ok (.getfield 18, 3) := by decide +kernel
theorem dX7_fillFrom_11 : decode cX7_fillFrom 11 = .ok (.iload_n 2, 1) := by decide +kernel
theorem dX7_fillFrom_12 : decode cX7_fillFrom 12 = .ok (.aload_n 0, 1) := by decide +kernel
theorem dX7_fillFrom_13 : decode cX7_fillFrom 13 = .ok (.getfield 18, 3) := by decide +kernel
theorem dX7_fillFrom_16 : decode cX7_fillFrom 16 = .ok (.iconst 0, 1) := by decide +kernel
theorem dX7_fillFrom_17 : decode cX7_fillFrom 17 = .ok (.aload_n 0, 1) := by decide +kernel
theorem dX7_fillFrom_18 : decode cX7_fillFrom 18 = .ok (.getfield 15, 3) := by decide +kernel
theorem dX7_fillFrom_21 : decode cX7_fillFrom 21 = .ok (.invokestatic 26, 3) := by decide +kernel
theorem dX7_fillFrom_24 : decode cX7_fillFrom 24 = .ok (.goto 20, 3) := by decide +kernel
theorem dX7_fillFrom_27 : decode cX7_fillFrom 27 = .ok (.aload_n 1, 1) := by decide +kernel
theorem dX7_fillFrom_28 : decode cX7_fillFrom 28 = .ok (.getfield 22, 3) := by decide +kernel
theorem dX7_fillFrom_31 : decode cX7_fillFrom 31 = .ok (.iload_n 2, 1) := by decide +kernel
theorem dX7_fillFrom_32 : decode cX7_fillFrom 32 = .ok (.aload_n 0, 1) := by decide +kernel
theorem dX7_fillFrom_33 : decode cX7_fillFrom 33 = .ok (.getfield 22, 3) := by decide +kernel
theorem dX7_fillFrom_36 : decode cX7_fillFrom 36 = .ok (.iconst 0, 1) := by decide +kernel
theorem dX7_fillFrom_37 : decode cX7_fillFrom 37 = .ok (.aload_n 0, 1) := by decide +kernel
theorem dX7_fillFrom_38 : decode cX7_fillFrom 38 = .ok (.getfield 15, 3) := by decide +kernel
theorem dX7_fillFrom_41 : decode cX7_fillFrom 41 = .ok (.invokestatic 26, 3) := by decide +kernel
theorem dX7_fillFrom_44 : decode cX7_fillFrom 44 = .ok (.return_, 1) := by decide +kernel
theorem dX8_init_0 : decode cX8_init 0 = .ok (.aload_n 0, 1) := by decide +kernel
theorem dX8_init_1 : decode cX8_init 1 = .ok (.invokespecial 3, 3) := by decide +kernel
theorem dX8_init_4 : decode cX8_init 4 = .ok (.aload_n 0, 1) := by decide +kernel
theorem dX8_init_5 : decode cX8_init 5 = .ok (.bipush 40, 2) := by decide +kernel
theorem dX8_init_7 : decode cX8_init 7 = .ok (.newarray .int, 2) := by decide +kernel
theorem dX8_init_9 : decode cX8_init 9 = .ok (.putfield 11, 3) := by decide +kernel
theorem dX8_init_12 : decode cX8_init 12 = .ok (.return_, 1) := by decide +kernel
theorem dX8_copyFrom_0 : decode cX8_copyFrom 0 = .ok (.aload_n 1, 1) := by decide +kernel
theorem dX8_copyFrom_1 : decode cX8_copyFrom 1 = .ok (.getfield 11, 3) := by decide +kernel
theorem dX8_copyFrom_4 : decode cX8_copyFrom 4 = .ok (.iconst 0, 1) := by decide +kernel
theorem dX8_copyFrom_5 : decode cX8_copyFrom 5 = .ok (.aload_n 0, 1) := by decide +kernel
theorem dX8_copyFrom_6 : decode cX8_copyFrom 6 = .ok (.getfield 11, 3) := by decide +kernel
theorem dX8_copyFrom_9 : decode cX8_copyFrom 9 = .ok (.iconst 0, 1) := by decide +kernel
theorem dX8_copyFrom_10 : decode cX8_copyFrom 10 = .ok (.aload_n 0, 1) := by decide +kernel
theorem dX8_copyFrom_11 : decode cX8_copyFrom 11 = .ok (.getfield 11, 3) := by decide +kernel
theorem dX8_copyFrom_14 : decode cX8_copyFrom 14 = .ok (.arraylength, 1) := by decide +kernel
theorem dX8_copyFrom_15 : decode cX8_copyFrom 15 = .ok (.invokestatic 15, 3) := by decide +kernel
theorem dX8_copyFrom_18 : decode cX8_copyFrom 18 = .ok (.aload_n 0, 1) := by decide +kernel
theorem dX8_copyFrom_19 : decode cX8_copyFrom 19 = .ok (.aload_n 1, 1) := by decide +kernel
theorem dX8_copyFrom_20 : decode cX8_copyFrom 20 = .ok (.getfield 21, 3) := by decide +kernel
theorem dX8_copyFrom_23 : decode cX8_copyFrom 23 = .ok (.putfield 21, 3) := by decide +kernel
theorem dX8_copyFrom_26 : decode cX8_copyFrom 26 = .ok (.return_, 1) := by decide +kernel
theorem dX8_passed_0 : decode cX8_passed 0 = .ok (.iconst 0, 1) := by decide +kernel
theorem dX8_passed_1 : decode cX8_passed 1 = .ok (.istore_n 1, 1) := by decide +kernel
theorem dX8_passed_2 : decode cX8_passed 2 = .ok (.iconst 0, 1) := by decide +kernel
theorem dX8_passed_3 : decode cX8_passed 3 = .ok (.istore_n 2, 1) := by decide +kernel
theorem dX8_passed_4 : decode cX8_passed 4 = .ok (.iload_n 2, 1) := by decide +kernel
theorem dX8_passed_5 : decode cX8_passed 5 = .ok (.aload_n 0, 1) := by decide +kernel
theorem dX8_passed_6 : decode cX8_passed 6 = .ok (.getfield 21, 3) := by decide +kernel
theorem dX8_passed_9 : decode cX8_passed 9 = .ok (.if_icmp .ge 22, 3) := by decide +kernel
theorem dX8_passed_12 : decode cX8_passed 12 = .ok (.iload_n 1, 1) := by decide +kernel
theorem dX8_passed_13 : decode cX8_passed 13 = .ok (.aload_n 0, 1) := by decide +kernel
theorem dX8_passed_14 : decode cX8_passed 14 = .ok (.getfield 11, 3) := by decide +kernel
theorem dX8_passed_17 : decode cX8_passed 17 = .ok (.iload_n 2, 1) := by decide +kernel
theorem dX8_passed_18 : decode cX8_passed 18 = .ok (.iconst 5, 1) := by decide +kernel
theorem dX8_passed_19 : decode cX8_passed 19 = .ok (.imul, 1) := by decide +kernel
theorem dX8_passed_20 : decode cX8_passed 20 = .ok (.iconst 4, 1) := by decide +kernel
theorem dX8_passed_21 : decode cX8_passed 21 = .ok (.iadd, 1) := by decide +kernel
theorem dX8_passed_22 : decode cX8_passed 22 = .ok (.iaload, 1) := by decide +kernel
theorem dX8_passed_23 : decode cX8_passed 23 = .ok (.iadd, 1) := by decide +kernel
theorem dX8_passed_24 : decode cX8_passed 24 = .ok (.istore_n 1, 1) := by decide +kernel
theorem dX8_passed_25 : decode cX8_passed 25 = .ok (.iinc 2 1, 3) := by decide +kernel
theorem dX8_passed_28 : decode cX8_passed 28 = .ok (.goto (-24), 3) := by decide +kernel
theorem dX8_passed_31 : decode cX8_passed 31 = .ok (.iload_n 1, 1) := by decide +kernel
theorem dX8_passed_32 : decode cX8_passed 32 = .ok (.ireturn, 1) := by decide +kernel
theorem dX8_lets_0 : decode cX8_lets 0 = .ok (.aload_n 0, 1) := by decide +kernel
theorem dX8_lets_1 : decode cX8_lets 1 = .ok (.iload_n 1, 1) := by decide +kernel
theorem dX8_lets_2 : decode cX8_lets 2 = .ok (.iload_n 2, 1) := by decide +kernel
theorem dX8_lets_3 : decode cX8_lets 3 = .ok (.iload_n 3, 1) := by decide +kernel
theorem dX8_lets_4 : decode cX8_lets 4 = .ok (.invokevirtual 25, 3) := by decide +kernel
theorem dX8_lets_7 : decode cX8_lets 7 = .ok (.istore 5, 2) := by decide +kernel
theorem dX8_lets_9 : decode cX8_lets 9 = .ok (.iload 5, 2) := by decide +kernel
theorem dX8_lets_11 : decode cX8_lets 11 = .ok (.bipush (-4), 2) := by decide +kernel
theorem dX8_lets_13 : decode cX8_lets 13 = .ok (.if_icmp .ne 28, 3) := by decide +kernel
theorem dX8_lets_16 : decode cX8_lets 16 = .ok (.aload_n 0, 1) := by decide +kernel
theorem dX8_lets_17 : decode cX8_lets 17 = .ok (.getfield 21, 3) := by decide +kernel
theorem dX8_lets_20 : decode cX8_lets 20 = .ok (.bipush 8, 2) := by decide +kernel
theorem dX8_lets_22 : decode cX8_lets 22 = .ok (.if_icmp .lt 8, 3) := by decide +kernel
theorem dX8_lets_25 : decode cX8_lets 25 = .ok (.aload_n 0, 1) := by decide +kernel
theorem dX8_lets_26 : decode cX8_lets 26 = .ok (.iconst 0, 1) := by decide +kernel
theorem dX8_lets_27 : decode cX8_lets 27 = .ok (.invokevirtual 29, 3) := by decide +kernel
theorem dX8_lets_30 : decode cX8_lets 30 = .ok (.aload_n 0, 1) := by decide +kernel
theorem dX8_lets_31 : decode cX8_lets 31 = .ok (.iload_n 1, 1) := by decide +kernel
theorem dX8_lets_32 : decode cX8_lets 32 = .ok (.iload_n 2, 1) := by decide +kernel
theorem dX8_lets_33 : decode cX8_lets 33 = .ok (.iload_n 3, 1) := by decide +kernel
theorem dX8_lets_34 : decode cX8_lets 34 = .ok (.iload 4, 2) := by decide +kernel
theorem dX8_lets_36 : decode cX8_lets 36 = .ok (.invokevirtual 33, 3) := by decide +kernel
theorem dX8_lets_39 : decode cX8_lets 39 = .ok (.iconst 0, 1) := by decide +kernel
theorem dX8_lets_40 : decode cX8_lets 40 = .ok (.ireturn, 1) := by decide +kernel
theorem dX8_lets_41 : decode cX8_lets 41 = .ok (.iload 5, 2) := by decide +kernel
theorem dX8_lets_43 : decode cX8_lets 43 = .ok (.iconst 5, 1) := by decide +kernel
theorem dX8_lets_44 : decode cX8_lets 44 = .ok (.imul, 1) := by decide +kernel
theorem dX8_lets_45 : decode cX8_lets 45 = .ok (.istore 6, 2) := by decide +kernel
theorem dX8_lets_47 : decode cX8_lets 47 = .ok (.iload 4, 2) := by decide +kernel
theorem dX8_lets_49 : decode cX8_lets 49 = .ok (.aload_n 0, 1) := by decide +kernel
theorem dX8_lets_50 : decode cX8_lets 50 = .ok (.getfield 11, 3) := by decide +kernel
theorem dX8_lets_53 : decode cX8_lets 53 = .ok (.iload 6, 2) := by decide +kernel
theorem dX8_lets_55 : decode cX8_lets 55 = .ok (.iconst 3, 1) := by decide +kernel
theorem dX8_lets_56 : decode cX8_lets 56 = .ok (.iadd, 1) := by decide +kernel
theorem dX8_lets_57 : decode cX8_lets 57 = .ok (.iaload, 1) := by decide +kernel
theorem dX8_lets_58 : decode cX8_lets 58 = .ok (.isub, 1) := by decide +kernel
theorem dX8_lets_59 : decode cX8_lets 59 = .ok (.istore 7, 2) := by decide +kernel
theorem dX8_lets_61 : decode cX8_lets 61 = .ok (.aload_n 0, 1) := by decide +kernel
theorem dX8_lets_62 : decode cX8_lets 62 = .ok (.getfield 11, 3) := by decide +kernel
theorem dX8_lets_65 : decode cX8_lets 65 = .ok (.iload 6, 2) := by decide +kernel
theorem dX8_lets_67 : decode cX8_lets 67 = .ok (.iconst 4, 1) := by decide +kernel
theorem dX8_lets_68 : decode cX8_lets 68 = .ok (.iadd, 1) := by decide +kernel
theorem dX8_lets_69 : decode cX8_lets 69 = .ok (.iaload, 1) := by decide +kernel
theorem dX8_lets_70 : decode cX8_lets 70 = .ok (.iconst 1, 1) := by decide +kernel
theorem dX8_lets_71 : decode cX8_lets 71 = .ok (.if_icmp .eq 16, 3) := by decide +kernel
theorem dX8_lets_74 : decode cX8_lets 74 = .ok (.iload 7, 2) := by decide +kernel
theorem dX8_lets_76 : decode cX8_lets 76 = .ok (.iconst 3, 1) := by decide +kernel
theorem dX8_lets_77 : decode cX8_lets 77 = .ok (.if_icmp .lt 22, 3) := by decide +kernel
theorem dX8_lets_80 : decode cX8_lets 80 = .ok (.iload 7, 2) := by decide +kernel
theorem dX8_lets_82 : decode cX8_lets 82 = .ok (.bipush 20, 2) := by decide +kernel
theorem dX8_lets_84 : decode cX8_lets 84 = .ok (.if_icmp .gt 15, 3) := by decide +kernel
theorem dX8_lets_87 : decode cX8_lets 87 = .ok (.aload_n 0, 1) := by decide +kernel
theorem dX8_lets_88 : decode cX8_lets 88 = .ok (.getfield 11, 3) := by decide +kernel
theorem dX8_lets_91 : decode cX8_lets 91 = .ok (.iload 6, 2) := by decide +kernel
theorem dX8_lets_93 : decode cX8_lets 93 = .ok (.iconst 4, 1) := by decide +kernel
theorem dX8_lets_94 : decode cX8_lets 94 = .ok (.iadd, 1) := by decide +kernel
theorem dX8_lets_95 : decode cX8_lets 95 = .ok (.iconst 1, 1) := by decide +kernel
theorem dX8_lets_96 : decode cX8_lets 96 = .ok (.iastore, 1) := by decide +kernel
theorem dX8_lets_97 : decode cX8_lets 97 = .ok (.iconst 1, 1) := by decide +kernel
theorem dX8_lets_98 : decode cX8_lets 98 = .ok (.ireturn, 1) := by decide +kernel
theorem dX8_lets_99 : decode cX8_lets 99 = .ok (.iload 7, 2) := by decide +kernel
theorem dX8_lets_101 : decode cX8_lets 101 = .ok (.bipush 20, 2) := by decide +kernel
theorem dX8_lets_103 : decode cX8_lets 103 = .ok (.if_icmp .le 18, 3) := by decide +kernel
theorem dX8_lets_106 : decode cX8_lets 106 = .ok (.aload_n 0, 1) := by decide +kernel
theorem dX8_lets_107 : decode cX8_lets 107 = .ok (.iload 5, 2) := by decide +kernel
theorem dX8_lets_109 : decode cX8_lets 109 = .ok (.invokevirtual 29, 3) := by decide +kernel
theorem dX8_lets_112 : decode cX8_lets 112 = .ok (.aload_n 0, 1) := by decide +kernel
theorem dX8_lets_113 : decode cX8_lets 113 = .ok (.iload_n 1, 1) := by decide +kernel
theorem dX8_lets_114 : decode cX8_lets 114 = .ok (.iload_n 2, 1) := by decide +kernel
theorem dX8_lets_115 : decode cX8_lets 115 = .ok (.iload_n 3, 1) := by decide +kernel
theorem dX8_lets_116 : decode cX8_lets 116 = .ok (.iload 4, 2) := by decide +kernel
theorem dX8_lets_118 : decode cX8_lets 118 = .ok (.invokevirtual 33, 3) := by decide +kernel
theorem dX8_lets_121 : decode cX8_lets 121 = .ok (.iconst 0, 1) := by decide +kernel
theorem dX8_lets_122 : decode cX8_lets 122 = .ok (.ireturn, 1) := by decide +kernel
theorem dX8_find_0 : decode cX8_find 0 = .ok (.iconst 0, 1) := by decide +kernel
theorem dX8_find_1 : decode cX8_find 1 = .ok (.istore 4, 2) := by decide +kernel
theorem dX8_find_3 : decode cX8_find 3 = .ok (.iload 4, 2) := by decide +kernel
theorem dX8_find_5 : decode cX8_find 5 = .ok (.aload_n 0, 1) := by decide +kernel
theorem dX8_find_6 : decode cX8_find 6 = .ok (.getfield 21, 3) := by decide +kernel
theorem dX8_find_9 : decode cX8_find 9 = .ok (.if_icmp .ge 57, 3) := by decide +kernel
theorem dX8_find_12 : decode cX8_find 12 = .ok (.iload 4, 2) := by decide +kernel
theorem dX8_find_14 : decode cX8_find 14 = .ok (.iconst 5, 1) := by decide +kernel
theorem dX8_find_15 : decode cX8_find 15 = .ok (.imul, 1) := by decide +kernel
theorem dX8_find_16 : decode cX8_find 16 = .ok (.istore 5, 2) := by decide +kernel
theorem dX8_find_18 : decode cX8_find 18 = .ok (.aload_n 0, 1) := by decide +kernel
theorem dX8_find_19 : decode cX8_find 19 = .ok (.getfield 11, 3) := by decide +kernel
theorem dX8_find_22 : decode cX8_find 22 = .ok (.iload 5, 2) := by decide +kernel
theorem dX8_find_24 : decode cX8_find 24 = .ok (.iconst 0, 1) := by decide +kernel
theorem dX8_find_25 : decode cX8_find 25 = .ok (.iadd, 1) := by decide +kernel
theorem dX8_find_26 : decode cX8_find 26 = .ok (.iaload, 1) := by decide +kernel
theorem dX8_find_27 : decode cX8_find 27 = .ok (.iload_n 1, 1) := by decide +kernel
theorem dX8_find_28 : decode cX8_find 28 = .ok (.if_icmp .ne 32, 3) := by decide +kernel
theorem dX8_find_31 : decode cX8_find 31 = .ok (.aload_n 0, 1) := by decide +kernel
theorem dX8_find_32 : decode cX8_find 32 = .ok (.getfield 11, 3) := by decide +kernel
theorem dX8_find_35 : decode cX8_find 35 = .ok (.iload 5, 2) := by decide +kernel
theorem dX8_find_37 : decode cX8_find 37 = .ok (.iconst 1, 1) := by decide +kernel
theorem dX8_find_38 : decode cX8_find 38 = .ok (.iadd, 1) := by decide +kernel
theorem dX8_find_39 : decode cX8_find 39 = .ok (.iaload, 1) := by decide +kernel
theorem dX8_find_40 : decode cX8_find 40 = .ok (.iload_n 2, 1) := by decide +kernel
theorem dX8_find_41 : decode cX8_find 41 = .ok (.if_icmp .ne 19, 3) := by decide +kernel
theorem dX8_find_44 : decode cX8_find 44 = .ok (.aload_n 0, 1) := by decide +kernel
theorem dX8_find_45 : decode cX8_find 45 = .ok (.getfield 11, 3) := by decide +kernel
theorem dX8_find_48 : decode cX8_find 48 = .ok (.iload 5, 2) := by decide +kernel
theorem dX8_find_50 : decode cX8_find 50 = .ok (.iconst 2, 1) := by decide +kernel
theorem dX8_find_51 : decode cX8_find 51 = .ok (.iadd, 1) := by decide +kernel
theorem dX8_find_52 : decode cX8_find 52 = .ok (.iaload, 1) := by decide +kernel
theorem dX8_find_53 : decode cX8_find 53 = .ok (.iload_n 3, 1) := by decide +kernel
theorem dX8_find_54 : decode cX8_find 54 = .ok (.if_icmp .ne 6, 3) := by decide +kernel
theorem dX8_find_57 : decode cX8_find 57 = .ok (.iload 4, 2) := by decide +kernel
theorem dX8_find_59 : decode cX8_find 59 = .ok (.ireturn, 1) := by decide +kernel
theorem dX8_find_60 : decode cX8_find 60 = .ok (.iinc 4 1, 3) := by decide +kernel
theorem dX8_find_63 : decode cX8_find 63 = .ok (.goto (-60), 3) := by decide +kernel
theorem dX8_find_66 : decode cX8_find 66 = .ok (.bipush (-4), 2) := by decide +kernel
theorem dX8_find_68 : decode cX8_find 68 = .ok (.ireturn, 1) := by decide +kernel
theorem dX8_putDown_0 : decode cX8_putDown 0 = .ok (.aload_n 0, 1) := by decide +kernel
theorem dX8_putDown_1 : decode cX8_putDown 1 = .ok (.getfield 21, 3) := by decide +kernel
theorem dX8_putDown_4 : decode cX8_putDown 4 = .ok (.iconst 5, 1) := by decide +kernel
theorem dX8_putDown_5 : decode cX8_putDown 5 = .ok (.imul, 1) := by decide +kernel
theorem dX8_putDown_6 : decode cX8_putDown 6 = .ok (.istore 5, 2) := by decide +kernel
theorem dX8_putDown_8 : decode cX8_putDown 8 = .ok (.aload_n 0, 1) := by decide +kernel
theorem dX8_putDown_9 : decode cX8_putDown 9 = .ok (.getfield 11, 3) := by decide +kernel
theorem dX8_putDown_12 : decode cX8_putDown 12 = .ok (.iload 5, 2) := by decide +kernel
theorem dX8_putDown_14 : decode cX8_putDown 14 = .ok (.iconst 0, 1) := by decide +kernel
theorem dX8_putDown_15 : decode cX8_putDown 15 = .ok (.iadd, 1) := by decide +kernel
theorem dX8_putDown_16 : decode cX8_putDown 16 = .ok (.iload_n 1, 1) := by decide +kernel
theorem dX8_putDown_17 : decode cX8_putDown 17 = .ok (.iastore, 1) := by decide +kernel
theorem dX8_putDown_18 : decode cX8_putDown 18 = .ok (.aload_n 0, 1) := by decide +kernel
theorem dX8_putDown_19 : decode cX8_putDown 19 = .ok (.getfield 11, 3) := by decide +kernel
theorem dX8_putDown_22 : decode cX8_putDown 22 = .ok (.iload 5, 2) := by decide +kernel
theorem dX8_putDown_24 : decode cX8_putDown 24 = .ok (.iconst 1, 1) := by decide +kernel
theorem dX8_putDown_25 : decode cX8_putDown 25 = .ok (.iadd, 1) := by decide +kernel
theorem dX8_putDown_26 : decode cX8_putDown 26 = .ok (.iload_n 2, 1) := by decide +kernel
theorem dX8_putDown_27 : decode cX8_putDown 27 = .ok (.iastore, 1) := by decide +kernel
theorem dX8_putDown_28 : decode cX8_putDown 28 = .ok (.aload_n 0, 1) := by decide +kernel
theorem dX8_putDown_29 : decode cX8_putDown 29 = .ok (.getfield 11, 3) := by decide +kernel
theorem dX8_putDown_32 : decode cX8_putDown 32 = .ok (.iload 5, 2) := by decide +kernel
theorem dX8_putDown_34 : decode cX8_putDown 34 = .ok (.iconst 2, 1) := by decide +kernel
theorem dX8_putDown_35 : decode cX8_putDown 35 = .ok (.iadd, 1) := by decide +kernel
theorem dX8_putDown_36 : decode cX8_putDown 36 = .ok (.iload_n 3, 1) := by decide +kernel
theorem dX8_putDown_37 : decode cX8_putDown 37 = .ok (.iastore, 1) := by decide +kernel
theorem dX8_putDown_38 : decode cX8_putDown 38 = .ok (.aload_n 0, 1) := by decide +kernel
theorem dX8_putDown_39 : decode cX8_putDown 39 = .ok (.getfield 11, 3) := by decide +kernel
theorem dX8_putDown_42 : decode cX8_putDown 42 = .ok (.iload 5, 2) := by decide +kernel
theorem dX8_putDown_44 : decode cX8_putDown 44 = .ok (.iconst 3, 1) := by decide +kernel
theorem dX8_putDown_45 : decode cX8_putDown 45 = .ok (.iadd, 1) := by decide +kernel
theorem dX8_putDown_46 : decode cX8_putDown 46 = .ok (.iload 4, 2) := by decide +kernel
theorem dX8_putDown_48 : decode cX8_putDown 48 = .ok (.iastore, 1) := by decide +kernel
theorem dX8_putDown_49 : decode cX8_putDown 49 = .ok (.aload_n 0, 1) := by decide +kernel
theorem dX8_putDown_50 : decode cX8_putDown 50 = .ok (.getfield 11, 3) := by decide +kernel
theorem dX8_putDown_53 : decode cX8_putDown 53 = .ok (.iload 5, 2) := by decide +kernel
theorem dX8_putDown_55 : decode cX8_putDown 55 = .ok (.iconst 4, 1) := by decide +kernel
theorem dX8_putDown_56 : decode cX8_putDown 56 = .ok (.iadd, 1) := by decide +kernel
theorem dX8_putDown_57 : decode cX8_putDown 57 = .ok (.iconst 0, 1) := by decide +kernel
theorem dX8_putDown_58 : decode cX8_putDown 58 = .ok (.iastore, 1) := by decide +kernel
theorem dX8_putDown_59 : decode cX8_putDown 59 = .ok (.aload_n 0, 1) := by decide +kernel
theorem dX8_putDown_60 : decode cX8_putDown 60 = .ok (.dup, 1) := by decide +kernel
theorem dX8_putDown_61 : decode cX8_putDown 61 = .ok (.getfield 21, 3) := by decide +kernel
theorem dX8_putDown_64 : decode cX8_putDown 64 = .ok (.iconst 1, 1) := by decide +kernel
theorem dX8_putDown_65 : decode cX8_putDown 65 = .ok (.iadd, 1) := by decide +kernel
theorem dX8_putDown_66 : decode cX8_putDown 66 = .ok (.putfield 21, 3) := by decide +kernel
theorem dX8_putDown_69 : decode cX8_putDown 69 = .ok (.return_, 1) := by decide +kernel
theorem dX8_forget_0 : decode cX8_forget 0 = .ok (.aload_n 0, 1) := by decide +kernel
theorem dX8_forget_1 : decode cX8_forget 1 = .ok (.dup, 1) := by decide +kernel
theorem dX8_forget_2 : decode cX8_forget 2 = .ok (.getfield 21, 3) := by decide +kernel
theorem dX8_forget_5 : decode cX8_forget 5 = .ok (.iconst 1, 1) := by decide +kernel
theorem dX8_forget_6 : decode cX8_forget 6 = .ok (.isub, 1) := by decide +kernel
theorem dX8_forget_7 : decode cX8_forget 7 = .ok (.putfield 21, 3) := by decide +kernel
theorem dX8_forget_10 : decode cX8_forget 10 = .ok (.aload_n 0, 1) := by decide +kernel
theorem dX8_forget_11 : decode cX8_forget 11 = .ok (.getfield 11, 3) := by decide +kernel
theorem dX8_forget_14 : decode cX8_forget 14 = .ok (.iload_n 1, 1) := by decide +kernel
theorem dX8_forget_15 : decode cX8_forget 15 = .ok (.iconst 1, 1) := by decide +kernel
theorem dX8_forget_16 : decode cX8_forget 16 = .ok (.iadd, 1) := by decide +kernel
theorem dX8_forget_17 : decode cX8_forget 17 = .ok (.iconst 5, 1) := by decide +kernel
theorem dX8_forget_18 : decode cX8_forget 18 = .ok (.imul, 1) := by decide +kernel
theorem dX8_forget_19 : decode cX8_forget 19 = .ok (.aload_n 0, 1) := by decide +kernel
theorem dX8_forget_20 : decode cX8_forget 20 = .ok (.getfield 11, 3) := by decide +kernel
theorem dX8_forget_23 : decode cX8_forget 23 = .ok (.iload_n 1, 1) := by decide +kernel
theorem dX8_forget_24 : decode cX8_forget 24 = .ok (.iconst 5, 1) := by decide +kernel
theorem dX8_forget_25 : decode cX8_forget 25 = .ok (.imul, 1) := by decide +kernel
theorem dX8_forget_26 : decode cX8_forget 26 = .ok (.aload_n 0, 1) := by decide +kernel
theorem dX8_forget_27 : decode cX8_forget 27 = .ok (.getfield 21, 3) := by decide +kernel
theorem dX8_forget_30 : decode cX8_forget 30 = .ok (.iload_n 1, 1) := by decide +kernel
theorem dX8_forget_31 : decode cX8_forget 31 = .ok (.isub, 1) := by decide +kernel
theorem dX8_forget_32 : decode cX8_forget 32 = .ok (.iconst 5, 1) := by decide +kernel
theorem dX8_forget_33 : decode cX8_forget 33 = .ok (.imul, 1) := by decide +kernel
theorem dX8_forget_34 : decode cX8_forget 34 = .ok (.invokestatic 15, 3) := by decide +kernel
theorem dX8_forget_37 : decode cX8_forget 37 = .ok (.return_, 1) := by decide +kernel
