/-! rows that decode: printed -/
theorem dX10_init_0 : decode cX10_init 0 = .ok (.aload_n 0, 1) := by decide +kernel
theorem dX10_init_1 : decode cX10_init 1 = .ok (.invokespecial 1, 3) := by decide +kernel
theorem dX10_init_4 : decode cX10_init 4 = .ok (.aload_n 0, 1) := by decide +kernel
theorem dX10_init_5 : decode cX10_init 5 = .ok (.new 7, 3) := by decide +kernel
theorem dX10_init_8 : decode cX10_init 8 = .ok (.dup, 1) := by decide +kernel
theorem dX10_init_9 : decode cX10_init 9 = .ok (.invokespecial 9, 3) := by decide +kernel
theorem dX10_init_12 : decode cX10_init 12 = .ok (.putfield 10, 3) := by decide +kernel
theorem dX10_init_15 : decode cX10_init 15 = .ok (.aload_n 0, 1) := by decide +kernel
theorem dX10_init_16 : decode cX10_init 16 = .ok (.new 16, 3) := by decide +kernel
theorem dX10_init_19 : decode cX10_init 19 = .ok (.dup, 1) := by decide +kernel
theorem dX10_init_20 : decode cX10_init 20 = .ok (.invokespecial 18, 3) := by decide +kernel
theorem dX10_init_23 : decode cX10_init 23 = .ok (.putfield 19, 3) := by decide +kernel
theorem dX10_init_26 : decode cX10_init 26 = .ok (.aload_n 0, 1) := by decide +kernel
theorem dX10_init_27 : decode cX10_init 27 = .ok (.new 23, 3) := by decide +kernel
theorem dX10_init_30 : decode cX10_init 30 = .ok (.dup, 1) := by decide +kernel
theorem dX10_init_31 : decode cX10_init 31 = .ok (.invokespecial 25, 3) := by decide +kernel
theorem dX10_init_34 : decode cX10_init 34 = .ok (.putfield 26, 3) := by decide +kernel
theorem dX10_init_37 : decode cX10_init 37 = .ok (.aload_n 0, 1) := by decide +kernel
theorem dX10_init_38 : decode cX10_init 38 = .ok (.new 30, 3) := by decide +kernel
theorem dX10_init_41 : decode cX10_init 41 = .ok (.dup, 1) := by decide +kernel
theorem dX10_init_42 : decode cX10_init 42 = .ok (.aload_n 0, 1) := by decide +kernel
theorem dX10_init_43 : decode cX10_init 43 = .ok (.getfield 19, 3) := by decide +kernel
theorem dX10_init_46 : decode cX10_init 46 = .ok (.aload_n 0, 1) := by decide +kernel
theorem dX10_init_47 : decode cX10_init 47 = .ok (.getfield 26, 3) := by decide +kernel
theorem dX10_init_50 : decode cX10_init 50 = .ok (.invokespecial 32, 3) := by decide +kernel
theorem dX10_init_53 : decode cX10_init 53 = .ok (.putfield 35, 3) := by decide +kernel
theorem dX10_init_56 : decode cX10_init 56 = .ok (.aload_n 0, 1) := by decide +kernel
theorem dX10_init_57 : decode cX10_init 57 = .ok (.iconst 2, 1) := by decide +kernel
theorem dX10_init_58 : decode cX10_init 58 = .ok (.anewarray 23, 3) := by decide +kernel
theorem dX10_init_61 : decode cX10_init 61 = .ok (.putfield 39, 3) := by decide +kernel
theorem dX10_init_64 : decode cX10_init 64 = .ok (.aload_n 0, 1) := by decide +kernel
theorem dX10_init_65 : decode cX10_init 65 = .ok (.iconst 2, 1) := by decide +kernel
theorem dX10_init_66 : decode cX10_init 66 = .ok (.newarray .boolean, 2) := by decide +kernel
theorem dX10_init_68 : decode cX10_init 68 = .ok (.putfield 43, 3) := by decide +kernel
theorem dX10_init_71 : decode cX10_init 71 = .ok (.aload_n 0, 1) := by decide +kernel
theorem dX10_init_72 : decode cX10_init 72 = .ok (.iconst 4, 1) := by decide +kernel
theorem dX10_init_73 : decode cX10_init 73 = .ok (.anewarray 47, 3) := by decide +kernel
theorem dX10_init_76 : decode cX10_init 76 = .ok (.putfield 49, 3) := by decide +kernel
theorem dX10_init_79 : decode cX10_init 79 = .ok (.iconst 0, 1) := by decide +kernel
theorem dX10_init_80 : decode cX10_init 80 = .ok (.istore_n 1, 1) := by decide +kernel
theorem dX10_init_81 : decode cX10_init 81 = .ok (.iload_n 1, 1) := by decide +kernel
theorem dX10_init_82 : decode cX10_init 82 = .ok (.iconst 2, 1) := by decide +kernel
theorem dX10_init_83 : decode cX10_init 83 = .ok (.if_icmp .ge 22, 3) := by decide +kernel
theorem dX10_init_86 : decode cX10_init 86 = .ok (.aload_n 0, 1) := by decide +kernel
theorem dX10_init_87 : decode cX10_init 87 = .ok (.getfield 39, 3) := by decide +kernel
theorem dX10_init_90 : decode cX10_init 90 = .ok (.iload_n 1, 1) := by decide +kernel
theorem dX10_init_91 : decode cX10_init 91 = .ok (.new 23, 3) := by decide +kernel
theorem dX10_init_94 : decode cX10_init 94 = .ok (.dup, 1) := by decide +kernel
theorem dX10_init_95 : decode cX10_init 95 = .ok (.invokespecial 25, 3) := by decide +kernel
theorem dX10_init_98 : decode cX10_init 98 = .ok (.aastore, 1) := by decide +kernel
theorem dX10_init_99 : decode cX10_init 99 = .ok (.iinc 1 1, 3) := by decide +kernel
theorem dX10_init_102 : decode cX10_init 102 = .ok (.goto (-21), 3) := by decide +kernel
theorem dX10_init_105 : decode cX10_init 105 = .ok (.return_, 1) := by decide +kernel
theorem dX10_feed_0 : decode cX10_feed 0 = .ok (.iload_n 1, 1) := by decide +kernel
theorem dX10_feed_1 : decode cX10_feed 1 = .ok (.ifCond .lt 9, 3) := by decide +kernel
theorem dX10_feed_4 : decode cX10_feed 4 = .ok (.iload_n 1, 1) := by decide +kernel
theorem dX10_feed_5 : decode cX10_feed 5 = .ok (.bipush 127, 2) := by decide +kernel
theorem dX10_feed_7 : decode cX10_feed 7 = .ok (.if_icmp .le 5, 3) := by decide +kernel
theorem dX10_feed_10 : decode cX10_feed 10 = .ok (.iconst (-1), 1) := by decide +kernel
theorem dX10_feed_11 : decode cX10_feed 11 = .ok (.ireturn, 1) := by decide +kernel
theorem dX10_feed_12 : decode cX10_feed 12 = .ok (.aload_n 0, 1) := by decide +kernel
theorem dX10_feed_13 : decode cX10_feed 13 = .ok (.getfield 10, 3) := by decide +kernel
theorem dX10_feed_16 : decode cX10_feed 16 = .ok (.getfield 53, 3) := by decide +kernel
theorem dX10_feed_19 : decode cX10_feed 19 = .ok (.sipush 200, 3) := by decide +kernel
theorem dX10_feed_22 : decode cX10_feed 22 = .ok (.if_icmp .lt 6, 3) := by decide +kernel
theorem dX10_feed_25 : decode cX10_feed 25 = .ok (.bipush (-3), 2) := by decide +kernel
theorem dX10_feed_27 : decode cX10_feed 27 = .ok (.ireturn, 1) := by decide +kernel
theorem dX10_feed_28 : decode cX10_feed 28 = .ok (.aload_n 0, 1) := by decide +kernel
theorem dX10_feed_29 : decode cX10_feed 29 = .ok (.getfield 10, 3) := by decide +kernel
theorem dX10_feed_32 : decode cX10_feed 32 = .ok (.getfield 57, 3) := by decide +kernel
theorem dX10_feed_35 : decode cX10_feed 35 = .ok (.aload_n 0, 1) := by decide +kernel
theorem dX10_feed_36 : decode cX10_feed 36 = .ok (.getfield 10, 3) := by decide +kernel
theorem dX10_feed_39 : decode cX10_feed 39 = .ok (.getfield 53, 3) := by decide +kernel
theorem dX10_feed_42 : decode cX10_feed 42 = .ok (.iload_n 1, 1) := by decide +kernel
theorem dX10_feed_43 : decode cX10_feed 43 = .ok (.i2b, 1) := by decide +kernel
theorem dX10_feed_44 : decode cX10_feed 44 = .ok (.bastore, 1) := by decide +kernel
theorem dX10_feed_45 : decode cX10_feed 45 = .ok (.aload_n 0, 1) := by decide +kernel
theorem dX10_feed_46 : decode cX10_feed 46 = .ok (.getfield 10, 3) := by decide +kernel
theorem dX10_feed_49 : decode cX10_feed 49 = .ok (.dup, 1) := by decide +kernel
theorem dX10_feed_50 : decode cX10_feed 50 = .ok (.getfield 53, 3) := by decide +kernel
theorem dX10_feed_53 : decode cX10_feed 53 = .ok (.iconst 1, 1) := by decide +kernel
theorem dX10_feed_54 : decode cX10_feed 54 = .ok (.iadd, 1) := by decide +kernel
theorem dX10_feed_55 : decode cX10_feed 55 = .ok (.putfield 53, 3) := by decide +kernel
theorem dX10_feed_58 : decode cX10_feed 58 = .ok (.aload_n 0, 1) := by decide +kernel
theorem dX10_feed_59 : decode cX10_feed 59 = .ok (.getfield 10, 3) := by decide +kernel
theorem dX10_feed_62 : decode cX10_feed 62 = .ok (.getfield 53, 3) := by decide +kernel
theorem dX10_feed_65 : decode cX10_feed 65 = .ok (.ireturn, 1) := by decide +kernel
theorem dX10_end_0 : decode cX10_end 0 = .ok (.iload_n 1, 1) := by decide +kernel
theorem dX10_end_1 : decode cX10_end 1 = .ok (.ifCond .lt 14, 3) := by decide +kernel
theorem dX10_end_4 : decode cX10_end 4 = .ok (.iload_n 1, 1) := by decide +kernel
theorem dX10_end_5 : decode cX10_end 5 = .ok (.aload_n 0, 1) := by decide +kernel
theorem dX10_end_6 : decode cX10_end 6 = .ok (.getfield 10, 3) := by decide +kernel
theorem dX10_end_9 : decode cX10_end 9 = .ok (.getfield 53, 3) := by decide +kernel
theorem dX10_end_12 : decode cX10_end 12 = .ok (.if_icmp .le 5, 3) := by decide +kernel
theorem dX10_end_15 : decode cX10_end 15 = .ok (.iconst (-1), 1) := by decide +kernel
theorem dX10_end_16 : decode cX10_end 16 = .ok (.ireturn, 1) := by decide +kernel
theorem dX10_end_17 : decode cX10_end 17 = .ok (.aload_n 0, 1) := by decide +kernel
theorem dX10_end_18 : decode cX10_end 18 = .ok (.getfield 10, 3) := by decide +kernel
theorem dX10_end_21 : decode cX10_end 21 = .ok (.getfield 53, 3) := by decide +kernel
theorem dX10_end_24 : decode cX10_end 24 = .ok (.istore_n 2, 1) := by decide +kernel
theorem dX10_end_25 : decode cX10_end 25 = .ok (.aload_n 0, 1) := by decide +kernel
theorem dX10_end_26 : decode cX10_end 26 = .ok (.getfield 10, 3) := by decide +kernel
theorem dX10_end_29 : decode cX10_end 29 = .ok (.iload_n 1, 1) := by decide +kernel
theorem dX10_end_30 : decode cX10_end 30 = .ok (.putfield 53, 3) := by decide +kernel
theorem dX10_end_33 : decode cX10_end 33 = .ok (.iload_n 2, 1) := by decide +kernel
theorem dX10_end_34 : decode cX10_end 34 = .ok (.ireturn, 1) := by decide +kernel
theorem dX10_text_0 : decode cX10_text 0 = .ok (.aload_n 0, 1) := by decide +kernel
theorem dX10_text_1 : decode cX10_text 1 = .ok (.getfield 10, 3) := by decide +kernel
theorem dX10_text_4 : decode cX10_text 4 = .ok (.invokevirtual 61, 3) := by decide +kernel
theorem dX10_text_7 : decode cX10_text 7 = .ok (.istore_n 1, 1) := by decide +kernel
theorem dX10_text_8 : decode cX10_text 8 = .ok (.aload_n 0, 1) := by decide +kernel
theorem dX10_text_9 : decode cX10_text 9 = .ok (.getfield 10, 3) := by decide +kernel
theorem dX10_text_12 : decode cX10_text 12 = .ok (.iconst 0, 1) := by decide +kernel
theorem dX10_text_13 : decode cX10_text 13 = .ok (.putfield 53, 3) := by decide +kernel
theorem dX10_text_16 : decode cX10_text 16 = .ok (.iload_n 1, 1) := by decide +kernel
theorem dX10_text_17 : decode cX10_text 17 = .ok (.ifCond .ne 14, 3) := by decide +kernel
theorem dX10_text_20 : decode cX10_text 20 = .ok (.bipush (-10), 2) := by decide +kernel
theorem dX10_text_22 : decode cX10_text 22 = .ok (.aload_n 0, 1) := by decide +kernel
theorem dX10_text_23 : decode cX10_text 23 = .ok (.getfield 10, 3) := by decide +kernel
theorem dX10_text_26 : decode cX10_text 26 = .ok (.getfield 65, 3) := by decide +kernel
theorem dX10_text_29 : decode cX10_text 29 = .ok (.isub, 1) := by decide +kernel
theorem dX10_text_30 : decode cX10_text 30 = .ok (.ireturn, 1) := by decide +kernel
theorem dX10_text_31 : decode cX10_text 31 = .ok (.aload_n 0, 1) := by decide +kernel
theorem dX10_text_32 : decode cX10_text 32 = .ok (.getfield 19, 3) := by decide +kernel
theorem dX10_text_35 : decode cX10_text 35 = .ok (.aload_n 0, 1) := by decide +kernel
theorem dX10_text_36 : decode cX10_text 36 = .ok (.getfield 10, 3) := by decide +kernel
theorem dX10_text_39 : decode cX10_text 39 = .ok (.getfield 68, 3) := by decide +kernel
theorem dX10_text_42 : decode cX10_text 42 = .ok (.invokevirtual 71, 3) := by decide +kernel
theorem dX10_text_45 : decode cX10_text 45 = .ok (.aload_n 0, 1) := by decide +kernel
theorem dX10_text_46 : decode cX10_text 46 = .ok (.getfield 26, 3) := by decide +kernel
theorem dX10_text_49 : decode cX10_text 49 = .ok (.invokevirtual 75, 3) := by decide +kernel
theorem dX10_text_52 : decode cX10_text 52 = .ok (.aload_n 0, 1) := by decide +kernel
theorem dX10_text_53 : decode cX10_text 53 = .ok (.invokevirtual 78, 3) := by decide +kernel
theorem dX10_text_56 : decode cX10_text 56 = .ok (.aload_n 0, 1) := by decide +kernel
theorem dX10_text_57 : decode cX10_text 57 = .ok (.getfield 10, 3) := by decide +kernel
theorem dX10_text_60 : decode cX10_text 60 = .ok (.getfield 81, 3) := by decide +kernel
theorem dX10_text_63 : decode cX10_text 63 = .ok (.ireturn, 1) := by decide +kernel
theorem dX10_fault_0 : decode cX10_fault 0 = .ok (.aload_n 0, 1) := by decide +kernel
theorem dX10_fault_1 : decode cX10_fault 1 = .ok (.getfield 10, 3) := by decide +kernel
theorem dX10_fault_4 : decode cX10_fault 4 = .ok (.getfield 84, 3) := by decide +kernel
theorem dX10_fault_7 : decode cX10_fault 7 = .ok (.ireturn, 1) := by decide +kernel
theorem dX10_rule_0 : decode cX10_rule 0 = .ok (.iload_n 1, 1) := by decide +kernel
theorem dX10_rule_1 : decode cX10_rule 1 = .ok (.tableswitch 150 0 17 #[87, 95, 103, 103, 103, 115, 123, 131, 150, 150, 150, 150, 150, 150, 150, 150, 150, 142], 87) := by decide +kernel
theorem dX10_rule_88 : decode cX10_rule 88 = .ok (.aload_n 0, 1) := by decide +kernel
theorem dX10_rule_89 : decode cX10_rule 89 = .ok (.getfield 19, 3) := by decide +kernel
theorem dX10_rule_92 : decode cX10_rule 92 = .ok (.getfield 87, 3) := by decide +kernel
theorem dX10_rule_95 : decode cX10_rule 95 = .ok (.ireturn, 1) := by decide +kernel
theorem dX10_rule_96 : decode cX10_rule 96 = .ok (.aload_n 0, 1) := by decide +kernel
theorem dX10_rule_97 : decode cX10_rule 97 = .ok (.getfield 19, 3) := by decide +kernel
theorem dX10_rule_100 : decode cX10_rule 100 = .ok (.getfield 90, 3) := by decide +kernel
theorem dX10_rule_103 : decode cX10_rule 103 = .ok (.ireturn, 1) := by decide +kernel
theorem dX10_rule_104 : decode cX10_rule 104 = .ok (.aload_n 0, 1) := by decide +kernel
theorem dX10_rule_105 : decode cX10_rule 105 = .ok (.getfield 19, 3) := by decide +kernel
theorem dX10_rule_108 : decode cX10_rule 108 = .ok (.getfield 93, 3) := by decide +kernel
theorem dX10_rule_111 : decode cX10_rule 111 = .ok (.iload_n 1, 1) := by decide +kernel
theorem dX10_rule_112 : decode cX10_rule 112 = .ok (.iconst 1, 1) := by decide +kernel
theorem dX10_rule_113 : decode cX10_rule 113 = .ok (.isub, 1) := by decide +kernel
theorem dX10_rule_114 : decode cX10_rule 114 = .ok (.iaload, 1) := by decide +kernel
theorem dX10_rule_115 : decode cX10_rule 115 = .ok (.ireturn, 1) := by decide +kernel
theorem dX10_rule_116 : decode cX10_rule 116 = .ok (.aload_n 0, 1) := by decide +kernel
theorem dX10_rule_117 : decode cX10_rule 117 = .ok (.getfield 26, 3) := by decide +kernel
theorem dX10_rule_120 : decode cX10_rule 120 = .ok (.getfield 97, 3) := by decide +kernel
theorem dX10_rule_123 : decode cX10_rule 123 = .ok (.ireturn, 1) := by decide +kernel
theorem dX10_rule_124 : decode cX10_rule 124 = .ok (.aload_n 0, 1) := by decide +kernel
theorem dX10_rule_125 : decode cX10_rule 125 = .ok (.getfield 26, 3) := by decide +kernel
theorem dX10_rule_128 : decode cX10_rule 128 = .ok (.getfield 100, 3) := by decide +kernel
theorem dX10_rule_131 : decode cX10_rule 131 = .ok (.ireturn, 1) := by decide +kernel
theorem dX10_rule_132 : decode cX10_rule 132 = .ok (.aload_n 0, 1) := by decide +kernel
theorem dX10_rule_133 : decode cX10_rule 133 = .ok (.getfield 26, 3) := by decide +kernel
theorem dX10_rule_136 : decode cX10_rule 136 = .ok (.getfield 103, 3) := by decide +kernel
theorem dX10_rule_139 : decode cX10_rule 139 = .ok (.getfield 107, 3) := by decide +kernel
theorem dX10_rule_142 : decode cX10_rule 142 = .ok (.ireturn, 1) := by decide +kernel
theorem dX10_rule_143 : decode cX10_rule 143 = .ok (.aload_n 0, 1) := by decide +kernel
theorem dX10_rule_144 : decode cX10_rule 144 = .ok (.getfield 26, 3) := by decide +kernel
theorem dX10_rule_147 : decode cX10_rule 147 = .ok (.getfield 112, 3) := by decide +kernel
theorem dX10_rule_150 : decode cX10_rule 150 = .ok (.ireturn, 1) := by decide +kernel
theorem dX10_rule_151 : decode cX10_rule 151 = .ok (.iload_n 1, 1) := by decide +kernel
theorem dX10_rule_152 : decode cX10_rule 152 = .ok (.bipush 8, 2) := by decide +kernel
theorem dX10_rule_154 : decode cX10_rule 154 = .ok (.if_icmp .lt 27, 3) := by decide +kernel
theorem dX10_rule_157 : decode cX10_rule 157 = .ok (.iload_n 1, 1) := by decide +kernel
theorem dX10_rule_158 : decode cX10_rule 158 = .ok (.bipush 17, 2) := by decide +kernel
theorem dX10_rule_160 : decode cX10_rule 160 = .ok (.if_icmp .ge 21, 3) := by decide +kernel
theorem dX10_rule_163 : decode cX10_rule 163 = .ok (.aload_n 0, 1) := by decide +kernel
theorem dX10_rule_164 : decode cX10_rule 164 = .ok (.getfield 26, 3) := by decide +kernel
theorem dX10_rule_167 : decode cX10_rule 167 = .ok (.getfield 115, 3) := by decide +kernel
theorem dX10_rule_170 : decode cX10_rule 170 = .ok (.getfield 119, 3) := by decide +kernel
theorem dX10_rule_173 : decode cX10_rule 173 = .ok (.iload_n 1, 1) := by decide +kernel
theorem dX10_rule_174 : decode cX10_rule 174 = .ok (.bipush 8, 2) := by decide +kernel
theorem dX10_rule_176 : decode cX10_rule 176 = .ok (.isub, 1) := by decide +kernel
theorem dX10_rule_177 : decode cX10_rule 177 = .ok (.iaload, 1) := by decide +kernel
theorem dX10_rule_178 : decode cX10_rule 178 = .ok (.goto 4, 3) := by decide +kernel
theorem dX10_rule_181 : decode cX10_rule 181 = .ok (.iconst (-1), 1) := by decide +kernel
theorem dX10_rule_182 : decode cX10_rule 182 = .ok (.ireturn, 1) := by decide +kernel
theorem dX10_house_0 : decode cX10_house 0 = .ok (.aload_n 0, 1) := by decide +kernel
theorem dX10_house_1 : decode cX10_house 1 = .ok (.iload_n 1, 1) := by decide +kernel
theorem dX10_house_2 : decode cX10_house 2 = .ok (.invokevirtual 124, 3) := by decide +kernel
theorem dX10_house_5 : decode cX10_house 5 = .ok (.ifCond .ne 5, 3) := by decide +kernel
theorem dX10_house_8 : decode cX10_house 8 = .ok (.iconst (-1), 1) := by decide +kernel
theorem dX10_house_9 : decode cX10_house 9 = .ok (.ireturn, 1) := by decide +kernel
theorem dX10_house_10 : decode cX10_house 10 = .ok (.iload_n 2, 1) := by decide +kernel
theorem dX10_house_11 : decode cX10_house 11 = .ok (.tableswitch 104 0 5 #[37, 47, 57, 69, 82, 95], 37) := by decide +kernel
theorem dX10_house_48 : decode cX10_house 48 = .ok (.aload_n 0, 1) := by decide +kernel
theorem dX10_house_49 : decode cX10_house 49 = .ok (.getfield 19, 3) := by decide +kernel
theorem dX10_house_52 : decode cX10_house 52 = .ok (.getfield 128, 3) := by decide +kernel
theorem dX10_house_55 : decode cX10_house 55 = .ok (.iload_n 1, 1) := by decide +kernel
theorem dX10_house_56 : decode cX10_house 56 = .ok (.iaload, 1) := by decide +kernel
theorem dX10_house_57 : decode cX10_house 57 = .ok (.ireturn, 1) := by decide +kernel
theorem dX10_house_58 : decode cX10_house 58 = .ok (.aload_n 0, 1) := by decide +kernel
theorem dX10_house_59 : decode cX10_house 59 = .ok (.getfield 26, 3) := by decide +kernel
theorem dX10_house_62 : decode cX10_house 62 = .ok (.getfield 131, 3) := by decide +kernel
theorem dX10_house_65 : decode cX10_house 65 = .ok (.iload_n 1, 1) := by decide +kernel
theorem dX10_house_66 : decode cX10_house 66 = .ok (.iaload, 1) := by decide +kernel
theorem dX10_house_67 : decode cX10_house 67 = .ok (.ireturn, 1) := by decide +kernel
theorem dX10_house_68 : decode cX10_house 68 = .ok (.aload_n 0, 1) := by decide +kernel
theorem dX10_house_69 : decode cX10_house 69 = .ok (.getfield 26, 3) := by decide +kernel
theorem dX10_house_72 : decode cX10_house 72 = .ok (.getfield 103, 3) := by decide +kernel
theorem dX10_house_75 : decode cX10_house 75 = .ok (.iload_n 1, 1) := by decide +kernel
theorem dX10_house_76 : decode cX10_house 76 = .ok (.invokevirtual 134, 3) := by decide +kernel
theorem dX10_house_79 : decode cX10_house 79 = .ok (.ireturn, 1) := by decide +kernel
theorem dX10_house_80 : decode cX10_house 80 = .ok (.aload_n 0, 1) := by decide +kernel
theorem dX10_house_81 : decode cX10_house 81 = .ok (.getfield 26, 3) := by decide +kernel
theorem dX10_house_84 : decode cX10_house 84 = .ok (.getfield 138, 3) := by decide +kernel
theorem dX10_house_87 : decode cX10_house 87 = .ok (.iload_n 1, 1) := by decide +kernel
theorem dX10_house_88 : decode cX10_house 88 = .ok (.aaload, 1) := by decide +kernel
theorem dX10_house_89 : decode cX10_house 89 = .ok (.getfield 142, 3) := by decide +kernel
theorem dX10_house_92 : decode cX10_house 92 = .ok (.ireturn, 1) := by decide +kernel
theorem dX10_house_93 : decode cX10_house 93 = .ok (.aload_n 0, 1) := by decide +kernel
theorem dX10_house_94 : decode cX10_house 94 = .ok (.getfield 26, 3) := by decide +kernel
theorem dX10_house_97 : decode cX10_house 97 = .ok (.getfield 138, 3) := by decide +kernel
theorem dX10_house_100 : decode cX10_house 100 = .ok (.iload_n 1, 1) := by decide +kernel
theorem dX10_house_101 : decode cX10_house 101 = .ok (.aaload, 1) := by decide +kernel
theorem dX10_house_102 : decode cX10_house 102 = .ok (.invokevirtual 147, 3) := by decide +kernel
theorem dX10_house_105 : decode cX10_house 105 = .ok (.ireturn, 1) := by decide +kernel
theorem dX10_house_106 : decode cX10_house 106 = .ok (.aload_n 0, 1) := by decide +kernel
theorem dX10_house_107 : decode cX10_house 107 = .ok (.getfield 19, 3) := by decide +kernel
theorem dX10_house_110 : decode cX10_house 110 = .ok (.iload_n 1, 1) := by decide +kernel
theorem dX10_house_111 : decode cX10_house 111 = .ok (.invokevirtual 151, 3) := by decide +kernel
theorem dX10_house_114 : decode cX10_house 114 = .ok (.ireturn, 1) := by decide +kernel
theorem dX10_house_115 : decode cX10_house 115 = .ok (.iconst (-1), 1) := by decide +kernel
theorem dX10_house_116 : decode cX10_house 116 = .ok (.ireturn, 1) := by decide +kernel
theorem dX10_receiver_0 : decode cX10_receiver 0 = .ok (.aload_n 0, 1) := by decide +kernel
theorem dX10_receiver_1 : decode cX10_receiver 1 = .ok (.iload_n 1, 1) := by decide +kernel
theorem dX10_receiver_2 : decode cX10_receiver 2 = .ok (.invokevirtual 154, 3) := by decide +kernel
theorem dX10_receiver_5 : decode cX10_receiver 5 = .ok (.ifCond .eq 16, 3) := by decide +kernel
theorem dX10_receiver_8 : decode cX10_receiver 8 = .ok (.iload_n 2, 1) := by decide +kernel
theorem dX10_receiver_9 : decode cX10_receiver 9 = .ok (.ifCond .lt 12, 3) := by decide +kernel
theorem dX10_receiver_12 : decode cX10_receiver 12 = .ok (.iload_n 3, 1) := by decide +kernel
theorem dX10_receiver_13 : decode cX10_receiver 13 = .ok (.ifCond .lt 8, 3) := by decide +kernel
theorem dX10_receiver_16 : decode cX10_receiver 16 = .ok (.iload_n 3, 1) := by decide +kernel
theorem dX10_receiver_17 : decode cX10_receiver 17 = .ok (.iconst 2, 1) := by decide +kernel
theorem dX10_receiver_18 : decode cX10_receiver 18 = .ok (.if_icmp .le 5, 3) := by decide +kernel
theorem dX10_receiver_21 : decode cX10_receiver 21 = .ok (.iconst (-1), 1) := by decide +kernel
theorem dX10_receiver_22 : decode cX10_receiver 22 = .ok (.ireturn, 1) := by decide +kernel
theorem dX10_receiver_23 : decode cX10_receiver 23 = .ok (.iload_n 2, 1) := by decide +kernel
theorem dX10_receiver_24 : decode cX10_receiver 24 = .ok (.aload_n 0, 1) := by decide +kernel
theorem dX10_receiver_25 : decode cX10_receiver 25 = .ok (.getfield 19, 3) := by decide +kernel
theorem dX10_receiver_28 : decode cX10_receiver 28 = .ok (.getfield 157, 3) := by decide +kernel
theorem dX10_receiver_31 : decode cX10_receiver 31 = .ok (.iload_n 1, 1) := by decide +kernel
theorem dX10_receiver_32 : decode cX10_receiver 32 = .ok (.iaload, 1) := by decide +kernel
theorem dX10_receiver_33 : decode cX10_receiver 33 = .ok (.if_icmp .lt 6, 3) := by decide +kernel
theorem dX10_receiver_36 : decode cX10_receiver 36 = .ok (.bipush (-4), 2) := by decide +kernel
theorem dX10_receiver_38 : decode cX10_receiver 38 = .ok (.ireturn, 1) := by decide +kernel
theorem dX10_receiver_39 : decode cX10_receiver 39 = .ok (.iload_n 1, 1) := by decide +kernel
theorem dX10_receiver_40 : decode cX10_receiver 40 = .ok (.iconst 3, 1) := by decide +kernel
theorem dX10_receiver_41 : decode cX10_receiver 41 = .ok (.imul, 1) := by decide +kernel
theorem dX10_receiver_42 : decode cX10_receiver 42 = .ok (.iload_n 2, 1) := by decide +kernel
theorem dX10_receiver_43 : decode cX10_receiver 43 = .ok (.iadd, 1) := by decide +kernel
theorem dX10_receiver_44 : decode cX10_receiver 44 = .ok (.istore 4, 2) := by decide +kernel
theorem dX10_receiver_46 : decode cX10_receiver 46 = .ok (.iload_n 3, 1) := by decide +kernel
theorem dX10_receiver_47 : decode cX10_receiver 47 = .ok (.iconst 2, 1) := by decide +kernel
theorem dX10_receiver_48 : decode cX10_receiver 48 = .ok (.if_icmp .ne 30, 3) := by decide +kernel
theorem dX10_receiver_51 : decode cX10_receiver 51 = .ok (.aload_n 0, 1) := by decide +kernel
theorem dX10_receiver_52 : decode cX10_receiver 52 = .ok (.getfield 19, 3) := by decide +kernel
theorem dX10_receiver_55 : decode cX10_receiver 55 = .ok (.aload_n 0, 1) := by decide +kernel
theorem dX10_receiver_56 : decode cX10_receiver 56 = .ok (.getfield 19, 3) := by decide +kernel
theorem dX10_receiver_59 : decode cX10_receiver 59 = .ok (.getfield 160, 3) := by decide +kernel
theorem dX10_receiver_62 : decode cX10_receiver 62 = .ok (.iload 4, 2) := by decide +kernel
theorem dX10_receiver_64 : decode cX10_receiver 64 = .ok (.iaload, 1) := by decide +kernel
theorem dX10_receiver_65 : decode cX10_receiver 65 = .ok (.iload_n 1, 1) := by decide +kernel
theorem dX10_receiver_66 : decode cX10_receiver 66 = .ok (.invokevirtual 163, 3) := by decide +kernel
theorem dX10_receiver_69 : decode cX10_receiver 69 = .ok (.ifCond .eq 7, 3) := by decide +kernel
theorem dX10_receiver_72 : decode cX10_receiver 72 = .ok (.iconst 1, 1) := by decide +kernel
theorem dX10_receiver_73 : decode cX10_receiver 73 = .ok (.goto 4, 3) := by decide +kernel
theorem dX10_receiver_76 : decode cX10_receiver 76 = .ok (.iconst 0, 1) := by decide +kernel
theorem dX10_receiver_77 : decode cX10_receiver 77 = .ok (.ireturn, 1) := by decide +kernel
theorem dX10_receiver_78 : decode cX10_receiver 78 = .ok (.iload_n 3, 1) := by decide +kernel
theorem dX10_receiver_79 : decode cX10_receiver 79 = .ok (.ifCond .ne 16, 3) := by decide +kernel
theorem dX10_receiver_82 : decode cX10_receiver 82 = .ok (.aload_n 0, 1) := by decide +kernel
theorem dX10_receiver_83 : decode cX10_receiver 83 = .ok (.getfield 19, 3) := by decide +kernel
theorem dX10_receiver_86 : decode cX10_receiver 86 = .ok (.getfield 160, 3) := by decide +kernel
theorem dX10_receiver_89 : decode cX10_receiver 89 = .ok (.iload 4, 2) := by decide +kernel
theorem dX10_receiver_91 : decode cX10_receiver 91 = .ok (.iaload, 1) := by decide +kernel
theorem dX10_receiver_92 : decode cX10_receiver 92 = .ok (.goto 13, 3) := by decide +kernel
theorem dX10_receiver_95 : decode cX10_receiver 95 = .ok (.aload_n 0, 1) := by decide +kernel
theorem dX10_receiver_96 : decode cX10_receiver 96 = .ok (.getfield 19, 3) := by decide +kernel
theorem dX10_receiver_99 : decode cX10_receiver 99 = .ok (.getfield 167, 3) := by decide +kernel
theorem dX10_receiver_102 : decode cX10_receiver 102 = .ok (.iload 4, 2) := by decide +kernel
theorem dX10_receiver_104 : decode cX10_receiver 104 = .ok (.iaload, 1) := by decide +kernel
theorem dX10_receiver_105 : decode cX10_receiver 105 = .ok (.ireturn, 1) := by decide +kernel
theorem dX10_address_0 : decode cX10_address 0 = .ok (.iload_n 1, 1) := by decide +kernel
theorem dX10_address_1 : decode cX10_address 1 = .ok (.invokestatic 170, 3) := by decide +kernel
theorem dX10_address_4 : decode cX10_address 4 = .ok (.ifCond .eq 12, 3) := by decide +kernel
theorem dX10_address_7 : decode cX10_address 7 = .ok (.iload_n 2, 1) := by decide +kernel
theorem dX10_address_8 : decode cX10_address 8 = .ok (.ifCond .lt 8, 3) := by decide +kernel
theorem dX10_address_11 : decode cX10_address 11 = .ok (.iload_n 2, 1) := by decide +kernel
theorem dX10_address_12 : decode cX10_address 12 = .ok (.iconst 3, 1) := by decide +kernel
theorem dX10_address_13 : decode cX10_address 13 = .ok (.if_icmp .le 5, 3) := by decide +kernel
theorem dX10_address_16 : decode cX10_address 16 = .ok (.iconst (-1), 1) := by decide +kernel
theorem dX10_address_17 : decode cX10_address 17 = .ok (.ireturn, 1) := by decide +kernel
theorem dX10_address_18 : decode cX10_address 18 = .ok (.aload_n 0, 1) := by decide +kernel
theorem dX10_address_19 : decode cX10_address 19 = .ok (.getfield 19, 3) := by decide +kernel
theorem dX10_address_22 : decode cX10_address 22 = .ok (.getfield 173, 3) := by decide +kernel
theorem dX10_address_25 : decode cX10_address 25 = .ok (.iload_n 1, 1) := by decide +kernel
theorem dX10_address_26 : decode cX10_address 26 = .ok (.iaload, 1) := by decide +kernel
theorem dX10_address_27 : decode cX10_address 27 = .ok (.istore_n 3, 1) := by decide +kernel
theorem dX10_address_28 : decode cX10_address 28 = .ok (.iload_n 2, 1) := by decide +kernel
theorem dX10_address_29 : decode cX10_address 29 = .ok (.ifCond .ne 5, 3) := by decide +kernel
theorem dX10_address_32 : decode cX10_address 32 = .ok (.iload_n 3, 1) := by decide +kernel
theorem dX10_address_33 : decode cX10_address 33 = .ok (.ireturn, 1) := by decide +kernel
theorem dX10_address_34 : decode cX10_address 34 = .ok (.iload_n 3, 1) := by decide +kernel
theorem dX10_address_35 : decode cX10_address 35 = .ok (.iconst 3, 1) := by decide +kernel
theorem dX10_address_36 : decode cX10_address 36 = .ok (.if_icmp .ne 18, 3) := by decide +kernel
theorem dX10_address_39 : decode cX10_address 39 = .ok (.iload_n 2, 1) := by decide +kernel
theorem dX10_address_40 : decode cX10_address 40 = .ok (.iconst 1, 1) := by decide +kernel
theorem dX10_address_41 : decode cX10_address 41 = .ok (.if_icmp .ne 13, 3) := by decide +kernel
theorem dX10_address_44 : decode cX10_address 44 = .ok (.aload_n 0, 1) := by decide +kernel
theorem dX10_address_45 : decode cX10_address 45 = .ok (.getfield 19, 3) := by decide +kernel
theorem dX10_address_48 : decode cX10_address 48 = .ok (.getfield 176, 3) := by decide +kernel
theorem dX10_address_51 : decode cX10_address 51 = .ok (.iload_n 1, 1) := by decide +kernel
theorem dX10_address_52 : decode cX10_address 52 = .ok (.iaload, 1) := by decide +kernel
theorem dX10_address_53 : decode cX10_address 53 = .ok (.ireturn, 1) := by decide +kernel
theorem dX10_address_54 : decode cX10_address 54 = .ok (.iload_n 3, 1) := by decide +kernel
theorem dX10_address_55 : decode cX10_address 55 = .ok (.iconst 1, 1) := by decide +kernel
theorem dX10_address_56 : decode cX10_address 56 = .ok (.if_icmp .ne 18, 3) := by decide +kernel
theorem dX10_address_59 : decode cX10_address 59 = .ok (.aload_n 0, 1) := by decide +kernel
theorem dX10_address_60 : decode cX10_address 60 = .ok (.getfield 26, 3) := by decide +kernel
theorem dX10_address_63 : decode cX10_address 63 = .ok (.getfield 179, 3) := by decide +kernel
theorem dX10_address_66 : decode cX10_address 66 = .ok (.iload_n 1, 1) := by decide +kernel
theorem dX10_address_67 : decode cX10_address 67 = .ok (.iload_n 2, 1) := by decide +kernel
theorem dX10_address_68 : decode cX10_address 68 = .ok (.invokevirtual 183, 3) := by decide +kernel
theorem dX10_address_71 : decode cX10_address 71 = .ok (.goto 5, 3) := by decide +kernel
theorem dX10_address_74 : decode cX10_address 74 = .ok (.bipush (-4), 2) := by decide +kernel
theorem dX10_address_76 : decode cX10_address 76 = .ok (.ireturn, 1) := by decide +kernel
theorem dX10_leads_0 : decode cX10_leads 0 = .ok (.iload_n 1, 1) := by decide +kernel
theorem dX10_leads_1 : decode cX10_leads 1 = .ok (.invokestatic 170, 3) := by decide +kernel
theorem dX10_leads_4 : decode cX10_leads 4 = .ok (.ifCond .eq 7, 3) := by decide +kernel
theorem dX10_leads_7 : decode cX10_leads 7 = .ok (.iload_n 2, 1) := by decide +kernel
theorem dX10_leads_8 : decode cX10_leads 8 = .ok (.ifCond .ge 5, 3) := by decide +kernel
theorem dX10_leads_11 : decode cX10_leads 11 = .ok (.iconst (-1), 1) := by decide +kernel
theorem dX10_leads_12 : decode cX10_leads 12 = .ok (.ireturn, 1) := by decide +kernel
theorem dX10_leads_13 : decode cX10_leads 13 = .ok (.iload_n 2, 1) := by decide +kernel
theorem dX10_leads_14 : decode cX10_leads 14 = .ok (.aload_n 0, 1) := by decide +kernel
theorem dX10_leads_15 : decode cX10_leads 15 = .ok (.getfield 19, 3) := by decide +kernel
theorem dX10_leads_18 : decode cX10_leads 18 = .ok (.getfield 176, 3) := by decide +kernel
theorem dX10_leads_21 : decode cX10_leads 21 = .ok (.iload_n 1, 1) := by decide +kernel
theorem dX10_leads_22 : decode cX10_leads 22 = .ok (.iaload, 1) := by decide +kernel
theorem dX10_leads_23 : decode cX10_leads 23 = .ok (.if_icmp .ge 15, 3) := by decide +kernel
theorem dX10_leads_26 : decode cX10_leads 26 = .ok (.aload_n 0, 1) := by decide +kernel
theorem dX10_leads_27 : decode cX10_leads 27 = .ok (.getfield 19, 3) := by decide +kernel
theorem dX10_leads_30 : decode cX10_leads 30 = .ok (.iload_n 1, 1) := by decide +kernel
theorem dX10_leads_31 : decode cX10_leads 31 = .ok (.iload_n 2, 1) := by decide +kernel
theorem dX10_leads_32 : decode cX10_leads 32 = .ok (.invokevirtual 189, 3) := by decide +kernel
theorem dX10_leads_35 : decode cX10_leads 35 = .ok (.goto 5, 3) := by decide +kernel
theorem dX10_leads_38 : decode cX10_leads 38 = .ok (.bipush (-4), 2) := by decide +kernel
theorem dX10_leads_40 : decode cX10_leads 40 = .ok (.ireturn, 1) := by decide +kernel
theorem dX10_reaches_0 : decode cX10_reaches 0 = .ok (.iload_n 1, 1) := by decide +kernel
theorem dX10_reaches_1 : decode cX10_reaches 1 = .ok (.invokestatic 170, 3) := by decide +kernel
theorem dX10_reaches_4 : decode cX10_reaches 4 = .ok (.ifCond .eq 7, 3) := by decide +kernel
theorem dX10_reaches_7 : decode cX10_reaches 7 = .ok (.iload_n 2, 1) := by decide +kernel
theorem dX10_reaches_8 : decode cX10_reaches 8 = .ok (.ifCond .ge 5, 3) := by decide +kernel
theorem dX10_reaches_11 : decode cX10_reaches 11 = .ok (.iconst (-1), 1) := by decide +kernel
theorem dX10_reaches_12 : decode cX10_reaches 12 = .ok (.ireturn, 1) := by decide +kernel
theorem dX10_reaches_13 : decode cX10_reaches 13 = .ok (.aload_n 0, 1) := by decide +kernel
theorem dX10_reaches_14 : decode cX10_reaches 14 = .ok (.getfield 19, 3) := by decide +kernel
theorem dX10_reaches_17 : decode cX10_reaches 17 = .ok (.iload_n 1, 1) := by decide +kernel
theorem dX10_reaches_18 : decode cX10_reaches 18 = .ok (.invokevirtual 192, 3) := by decide +kernel
theorem dX10_reaches_21 : decode cX10_reaches 21 = .ok (.istore_n 3, 1) := by decide +kernel
theorem dX10_reaches_22 : decode cX10_reaches 22 = .ok (.iload_n 2, 1) := by decide +kernel
theorem dX10_reaches_23 : decode cX10_reaches 23 = .ok (.istore 4, 2) := by decide +kernel
theorem dX10_reaches_25 : decode cX10_reaches 25 = .ok (.iconst 0, 1) := by decide +kernel
theorem dX10_reaches_26 : decode cX10_reaches 26 = .ok (.istore 5, 2) := by decide +kernel
theorem dX10_reaches_28 : decode cX10_reaches 28 = .ok (.iload 5, 2) := by decide +kernel
theorem dX10_reaches_30 : decode cX10_reaches 30 = .ok (.bipush 32, 2) := by decide +kernel
theorem dX10_reaches_32 : decode cX10_reaches 32 = .ok (.if_icmp .ge 44, 3) := by decide +kernel
theorem dX10_reaches_35 : decode cX10_reaches 35 = .ok (.iload_n 3, 1) := by decide +kernel
theorem dX10_reaches_36 : decode cX10_reaches 36 = .ok (.iload 5, 2) := by decide +kernel
theorem dX10_reaches_38 : decode cX10_reaches 38 = .ok (.iushr, 1) := by decide +kernel
theorem dX10_reaches_39 : decode cX10_reaches 39 = .ok (.iconst 1, 1) := by decide +kernel
theorem dX10_reaches_40 : decode cX10_reaches 40 = .ok (.iand, 1) := by decide +kernel
theorem dX10_reaches_41 : decode cX10_reaches 41 = .ok (.iconst 1, 1) := by decide +kernel
theorem dX10_reaches_42 : decode cX10_reaches 42 = .ok (.if_icmp .ne 28, 3) := by decide +kernel
theorem dX10_reaches_45 : decode cX10_reaches 45 = .ok (.aload_n 0, 1) := by decide +kernel
theorem dX10_reaches_46 : decode cX10_reaches 46 = .ok (.getfield 19, 3) := by decide +kernel
theorem dX10_reaches_49 : decode cX10_reaches 49 = .ok (.getfield 173, 3) := by decide +kernel
theorem dX10_reaches_52 : decode cX10_reaches 52 = .ok (.iload 5, 2) := by decide +kernel
theorem dX10_reaches_54 : decode cX10_reaches 54 = .ok (.iaload, 1) := by decide +kernel
theorem dX10_reaches_55 : decode cX10_reaches 55 = .ok (.iconst 1, 1) := by decide +kernel
theorem dX10_reaches_56 : decode cX10_reaches 56 = .ok (.if_icmp .ne 14, 3) := by decide +kernel
theorem dX10_reaches_59 : decode cX10_reaches 59 = .ok (.iload 4, 2) := by decide +kernel
theorem dX10_reaches_61 : decode cX10_reaches 61 = .ok (.ifCond .ne 6, 3) := by decide +kernel
theorem dX10_reaches_64 : decode cX10_reaches 64 = .ok (.iload 5, 2) := by decide +kernel
theorem dX10_reaches_66 : decode cX10_reaches 66 = .ok (.ireturn, 1) := by decide +kernel
theorem dX10_reaches_67 : decode cX10_reaches 67 = .ok (.iinc 4 (-1), 3) := by decide +kernel
theorem dX10_reaches_70 : decode cX10_reaches 70 = .ok (.iinc 5 1, 3) := by decide +kernel
theorem dX10_reaches_73 : decode cX10_reaches 73 = .ok (.goto (-45), 3) := by decide +kernel
theorem dX10_reaches_76 : decode cX10_reaches 76 = .ok (.bipush (-4), 2) := by decide +kernel
theorem dX10_reaches_78 : decode cX10_reaches 78 = .ok (.ireturn, 1) := by decide +kernel
theorem dX10_send_0 : decode cX10_send 0 = .ok (.aload_n 0, 1) := by decide +kernel
theorem dX10_send_1 : decode cX10_send 1 = .ok (.getfield 35, 3) := by decide +kernel
theorem dX10_send_4 : decode cX10_send 4 = .ok (.iload_n 1, 1) := by decide +kernel
theorem dX10_send_5 : decode cX10_send 5 = .ok (.iload_n 2, 1) := by decide +kernel
theorem dX10_send_6 : decode cX10_send 6 = .ok (.iload_n 3, 1) := by decide +kernel
theorem dX10_send_7 : decode cX10_send 7 = .ok (.invokevirtual 195, 3) := by decide +kernel
theorem dX10_send_10 : decode cX10_send 10 = .ok (.ireturn, 1) := by decide +kernel
theorem dX10_tick_0 : decode cX10_tick 0 = .ok (.iload_n 1, 1) := by decide +kernel
theorem dX10_tick_1 : decode cX10_tick 1 = .ok (.iconst 1, 1) := by decide +kernel
theorem dX10_tick_2 : decode cX10_tick 2 = .ok (.if_icmp .lt 9, 3) := by decide +kernel
theorem dX10_tick_5 : decode cX10_tick 5 = .ok (.iload_n 1, 1) := by decide +kernel
theorem dX10_tick_6 : decode cX10_tick 6 = .ok (.bipush 20, 2) := by decide +kernel
theorem dX10_tick_8 : decode cX10_tick 8 = .ok (.if_icmp .le 5, 3) := by decide +kernel
theorem dX10_tick_11 : decode cX10_tick 11 = .ok (.iconst (-1), 1) := by decide +kernel
theorem dX10_tick_12 : decode cX10_tick 12 = .ok (.ireturn, 1) := by decide +kernel
theorem dX10_tick_13 : decode cX10_tick 13 = .ok (.aload_n 0, 1) := by decide +kernel
theorem dX10_tick_14 : decode cX10_tick 14 = .ok (.getfield 26, 3) := by decide +kernel
theorem dX10_tick_17 : decode cX10_tick 17 = .ok (.getfield 115, 3) := by decide +kernel
theorem dX10_tick_20 : decode cX10_tick 20 = .ok (.getfield 119, 3) := by decide +kernel
theorem dX10_tick_23 : decode cX10_tick 23 = .ok (.iconst 2, 1) := by decide +kernel
theorem dX10_tick_24 : decode cX10_tick 24 = .ok (.iaload, 1) := by decide +kernel
theorem dX10_tick_25 : decode cX10_tick 25 = .ok (.istore_n 2, 1) := by decide +kernel
theorem dX10_tick_26 : decode cX10_tick 26 = .ok (.iconst 0, 1) := by decide +kernel
theorem dX10_tick_27 : decode cX10_tick 27 = .ok (.istore_n 3, 1) := by decide +kernel
theorem dX10_tick_28 : decode cX10_tick 28 = .ok (.iload_n 3, 1) := by decide +kernel
theorem dX10_tick_29 : decode cX10_tick 29 = .ok (.iload_n 1, 1) := by decide +kernel
theorem dX10_tick_30 : decode cX10_tick 30 = .ok (.if_icmp .ge 16, 3) := by decide +kernel
theorem dX10_tick_33 : decode cX10_tick 33 = .ok (.aload_n 0, 1) := by decide +kernel
theorem dX10_tick_34 : decode cX10_tick 34 = .ok (.getfield 35, 3) := by decide +kernel
theorem dX10_tick_37 : decode cX10_tick 37 = .ok (.invokevirtual 199, 3) := by decide +kernel
theorem dX10_tick_40 : decode cX10_tick 40 = .ok (.iinc 3 1, 3) := by decide +kernel
theorem dX10_tick_43 : decode cX10_tick 43 = .ok (.goto (-15), 3) := by decide +kernel
theorem dX10_tick_46 : decode cX10_tick 46 = .ok (.aload_n 0, 1) := by decide +kernel
theorem dX10_tick_47 : decode cX10_tick 47 = .ok (.getfield 26, 3) := by decide +kernel
theorem dX10_tick_50 : decode cX10_tick 50 = .ok (.getfield 115, 3) := by decide +kernel
theorem dX10_tick_53 : decode cX10_tick 53 = .ok (.getfield 119, 3) := by decide +kernel
theorem dX10_tick_56 : decode cX10_tick 56 = .ok (.iconst 2, 1) := by decide +kernel
theorem dX10_tick_57 : decode cX10_tick 57 = .ok (.iaload, 1) := by decide +kernel
theorem dX10_tick_58 : decode cX10_tick 58 = .ok (.iload_n 2, 1) := by decide +kernel
theorem dX10_tick_59 : decode cX10_tick 59 = .ok (.isub, 1) := by decide +kernel
theorem dX10_tick_60 : decode cX10_tick 60 = .ok (.ireturn, 1) := by decide +kernel
theorem dX10_run_0 : decode cX10_run 0 = .ok (.iload_n 1, 1) := by decide +kernel
theorem dX10_run_1 : decode cX10_run 1 = .ok (.iconst 1, 1) := by decide +kernel
theorem dX10_run_2 : decode cX10_run 2 = .ok (.if_icmp .lt 9, 3) := by decide +kernel
theorem dX10_run_5 : decode cX10_run 5 = .ok (.iload_n 1, 1) := by decide +kernel
theorem dX10_run_6 : decode cX10_run 6 = .ok (.bipush 60, 2) := by decide +kernel
theorem dX10_run_8 : decode cX10_run 8 = .ok (.if_icmp .le 5, 3) := by decide +kernel
theorem dX10_run_11 : decode cX10_run 11 = .ok (.iconst (-1), 1) := by decide +kernel
theorem dX10_run_12 : decode cX10_run 12 = .ok (.ireturn, 1) := by decide +kernel
theorem dX10_run_13 : decode cX10_run 13 = .ok (.iconst 0, 1) := by decide +kernel
theorem dX10_run_14 : decode cX10_run 14 = .ok (.istore_n 2, 1) := by decide +kernel
theorem dX10_run_15 : decode cX10_run 15 = .ok (.iload_n 2, 1) := by decide +kernel
theorem dX10_run_16 : decode cX10_run 16 = .ok (.iload_n 1, 1) := by decide +kernel
theorem dX10_run_17 : decode cX10_run 17 = .ok (.if_icmp .ge 29, 3) := by decide +kernel
theorem dX10_run_20 : decode cX10_run 20 = .ok (.aload_n 0, 1) := by decide +kernel
theorem dX10_run_21 : decode cX10_run 21 = .ok (.getfield 26, 3) := by decide +kernel
theorem dX10_run_24 : decode cX10_run 24 = .ok (.getfield 103, 3) := by decide +kernel
theorem dX10_run_27 : decode cX10_run 27 = .ok (.getfield 107, 3) := by decide +kernel
theorem dX10_run_30 : decode cX10_run 30 = .ok (.ifCond .le 16, 3) := by decide +kernel
theorem dX10_run_33 : decode cX10_run 33 = .ok (.aload_n 0, 1) := by decide +kernel
theorem dX10_run_34 : decode cX10_run 34 = .ok (.getfield 35, 3) := by decide +kernel
theorem dX10_run_37 : decode cX10_run 37 = .ok (.invokevirtual 199, 3) := by decide +kernel
theorem dX10_run_40 : decode cX10_run 40 = .ok (.iinc 2 1, 3) := by decide +kernel
theorem dX10_run_43 : decode cX10_run 43 = .ok (.goto (-28), 3) := by decide +kernel
theorem dX10_run_46 : decode cX10_run 46 = .ok (.iload_n 2, 1) := by decide +kernel
theorem dX10_run_47 : decode cX10_run 47 = .ok (.ireturn, 1) := by decide +kernel
theorem dX10_set_0 : decode cX10_set 0 = .ok (.aload_n 0, 1) := by decide +kernel
theorem dX10_set_1 : decode cX10_set 1 = .ok (.iload_n 1, 1) := by decide +kernel
theorem dX10_set_2 : decode cX10_set 2 = .ok (.invokevirtual 124, 3) := by decide +kernel
theorem dX10_set_5 : decode cX10_set 5 = .ok (.ifCond .eq 12, 3) := by decide +kernel
theorem dX10_set_8 : decode cX10_set 8 = .ok (.iload_n 2, 1) := by decide +kernel
theorem dX10_set_9 : decode cX10_set 9 = .ok (.ifCond .lt 8, 3) := by decide +kernel
theorem dX10_set_12 : decode cX10_set 12 = .ok (.iload_n 2, 1) := by decide +kernel
theorem dX10_set_13 : decode cX10_set 13 = .ok (.iconst 1, 1) := by decide +kernel
theorem dX10_set_14 : decode cX10_set 14 = .ok (.if_icmp .le 5, 3) := by decide +kernel
theorem dX10_set_17 : decode cX10_set 17 = .ok (.iconst (-1), 1) := by decide +kernel
theorem dX10_set_18 : decode cX10_set 18 = .ok (.ireturn, 1) := by decide +kernel
theorem dX10_set_19 : decode cX10_set 19 = .ok (.aload_n 0, 1) := by decide +kernel
theorem dX10_set_20 : decode cX10_set 20 = .ok (.getfield 26, 3) := by decide +kernel
theorem dX10_set_23 : decode cX10_set 23 = .ok (.getfield 131, 3) := by decide +kernel
theorem dX10_set_26 : decode cX10_set 26 = .ok (.iload_n 1, 1) := by decide +kernel
theorem dX10_set_27 : decode cX10_set 27 = .ok (.iaload, 1) := by decide +kernel
theorem dX10_set_28 : decode cX10_set 28 = .ok (.istore_n 3, 1) := by decide +kernel
theorem dX10_set_29 : decode cX10_set 29 = .ok (.aload_n 0, 1) := by decide +kernel
theorem dX10_set_30 : decode cX10_set 30 = .ok (.getfield 26, 3) := by decide +kernel
theorem dX10_set_33 : decode cX10_set 33 = .ok (.getfield 131, 3) := by decide +kernel
theorem dX10_set_36 : decode cX10_set 36 = .ok (.iload_n 1, 1) := by decide +kernel
theorem dX10_set_37 : decode cX10_set 37 = .ok (.iload_n 2, 1) := by decide +kernel
theorem dX10_set_38 : decode cX10_set 38 = .ok (.iastore, 1) := by decide +kernel
theorem dX10_set_39 : decode cX10_set 39 = .ok (.iload_n 3, 1) := by decide +kernel
theorem dX10_set_40 : decode cX10_set 40 = .ok (.ireturn, 1) := by decide +kernel
theorem dX10_item_0 : decode cX10_item 0 = .ok (.aload_n 0, 1) := by decide +kernel
theorem dX10_item_1 : decode cX10_item 1 = .ok (.iload_n 1, 1) := by decide +kernel
theorem dX10_item_2 : decode cX10_item 2 = .ok (.invokevirtual 124, 3) := by decide +kernel
theorem dX10_item_5 : decode cX10_item 5 = .ok (.ifCond .eq 17, 3) := by decide +kernel
theorem dX10_item_8 : decode cX10_item 8 = .ok (.iload_n 2, 1) := by decide +kernel
theorem dX10_item_9 : decode cX10_item 9 = .ok (.ifCond .lt 13, 3) := by decide +kernel
theorem dX10_item_12 : decode cX10_item 12 = .ok (.iload_n 3, 1) := by decide +kernel
theorem dX10_item_13 : decode cX10_item 13 = .ok (.ifCond .lt 9, 3) := by decide +kernel
theorem dX10_item_16 : decode cX10_item 16 = .ok (.iload_n 3, 1) := by decide +kernel
theorem dX10_item_17 : decode cX10_item 17 = .ok (.bipush 6, 2) := by decide +kernel
theorem dX10_item_19 : decode cX10_item 19 = .ok (.if_icmp .le 5, 3) := by decide +kernel
theorem dX10_item_22 : decode cX10_item 22 = .ok (.iconst (-1), 1) := by decide +kernel
theorem dX10_item_23 : decode cX10_item 23 = .ok (.ireturn, 1) := by decide +kernel
theorem dX10_item_24 : decode cX10_item 24 = .ok (.aload_n 0, 1) := by decide +kernel
theorem dX10_item_25 : decode cX10_item 25 = .ok (.getfield 26, 3) := by decide +kernel
theorem dX10_item_28 : decode cX10_item 28 = .ok (.getfield 103, 3) := by decide +kernel
theorem dX10_item_31 : decode cX10_item 31 = .ok (.iload_n 1, 1) := by decide +kernel
theorem dX10_item_32 : decode cX10_item 32 = .ok (.iload_n 2, 1) := by decide +kernel
theorem dX10_item_33 : decode cX10_item 33 = .ok (.invokevirtual 202, 3) := by decide +kernel
theorem dX10_item_36 : decode cX10_item 36 = .ok (.astore 4, 2) := by decide +kernel
theorem dX10_item_38 : decode cX10_item 38 = .ok (.aload 4, 2) := by decide +kernel
theorem dX10_item_40 : decode cX10_item 40 = .ok (.ifnonnull 8, 3) := by decide +kernel
theorem dX10_item_43 : decode cX10_item 43 = .ok (.bipush (-4), 2) := by decide +kernel
theorem dX10_item_45 : decode cX10_item 45 = .ok (.goto 9, 3) := by decide +kernel
theorem dX10_item_48 : decode cX10_item 48 = .ok (.aload 4, 2) := by decide +kernel
theorem dX10_item_50 : decode cX10_item 50 = .ok (.iload_n 3, 1) := by decide +kernel
theorem dX10_item_51 : decode cX10_item 51 = .ok (.invokevirtual 206, 3) := by decide +kernel
theorem dX10_item_54 : decode cX10_item 54 = .ok (.ireturn, 1) := by decide +kernel
theorem dX10_asks_0 : decode cX10_asks 0 = .ok (.aload_n 0, 1) := by decide +kernel
theorem dX10_asks_1 : decode cX10_asks 1 = .ok (.iload_n 1, 1) := by decide +kernel
theorem dX10_asks_2 : decode cX10_asks 2 = .ok (.invokevirtual 124, 3) := by decide +kernel
theorem dX10_asks_5 : decode cX10_asks 5 = .ok (.ifCond .eq 15, 3) := by decide +kernel
theorem dX10_asks_8 : decode cX10_asks 8 = .ok (.aload_n 0, 1) := by decide +kernel
theorem dX10_asks_9 : decode cX10_asks 9 = .ok (.iload_n 2, 1) := by decide +kernel
theorem dX10_asks_10 : decode cX10_asks 10 = .ok (.invokevirtual 154, 3) := by decide +kernel
theorem dX10_asks_13 : decode cX10_asks 13 = .ok (.ifCond .eq 7, 3) := by decide +kernel
theorem dX10_asks_16 : decode cX10_asks 16 = .ok (.iload_n 3, 1) := by decide +kernel
theorem dX10_asks_17 : decode cX10_asks 17 = .ok (.ifCond .ge 5, 3) := by decide +kernel
theorem dX10_asks_20 : decode cX10_asks 20 = .ok (.iconst (-1), 1) := by decide +kernel
theorem dX10_asks_21 : decode cX10_asks 21 = .ok (.ireturn, 1) := by decide +kernel
theorem dX10_asks_22 : decode cX10_asks 22 = .ok (.aload_n 0, 1) := by decide +kernel
theorem dX10_asks_23 : decode cX10_asks 23 = .ok (.getfield 19, 3) := by decide +kernel
theorem dX10_asks_26 : decode cX10_asks 26 = .ok (.iload_n 1, 1) := by decide +kernel
theorem dX10_asks_27 : decode cX10_asks 27 = .ok (.iload_n 2, 1) := by decide +kernel
theorem dX10_asks_28 : decode cX10_asks 28 = .ok (.iload_n 3, 1) := by decide +kernel
theorem dX10_asks_29 : decode cX10_asks 29 = .ok (.invokevirtual 210, 3) := by decide +kernel
theorem dX10_asks_32 : decode cX10_asks 32 = .ok (.ireturn, 1) := by decide +kernel
theorem dX10_stranger_0 : decode cX10_stranger 0 = .ok (.aload_n 0, 1) := by decide +kernel
theorem dX10_stranger_1 : decode cX10_stranger 1 = .ok (.iload_n 1, 1) := by decide +kernel
theorem dX10_stranger_2 : decode cX10_stranger 2 = .ok (.invokevirtual 124, 3) := by decide +kernel
theorem dX10_stranger_5 : decode cX10_stranger 5 = .ok (.ifCond .eq 16, 3) := by decide +kernel
theorem dX10_stranger_8 : decode cX10_stranger 8 = .ok (.iload_n 2, 1) := by decide +kernel
theorem dX10_stranger_9 : decode cX10_stranger 9 = .ok (.ifCond .lt 12, 3) := by decide +kernel
theorem dX10_stranger_12 : decode cX10_stranger 12 = .ok (.iload_n 3, 1) := by decide +kernel
theorem dX10_stranger_13 : decode cX10_stranger 13 = .ok (.ifCond .lt 8, 3) := by decide +kernel
theorem dX10_stranger_16 : decode cX10_stranger 16 = .ok (.iload_n 3, 1) := by decide +kernel
theorem dX10_stranger_17 : decode cX10_stranger 17 = .ok (.iconst 5, 1) := by decide +kernel
theorem dX10_stranger_18 : decode cX10_stranger 18 = .ok (.if_icmp .lt 5, 3) := by decide +kernel
theorem dX10_stranger_21 : decode cX10_stranger 21 = .ok (.iconst (-1), 1) := by decide +kernel
theorem dX10_stranger_22 : decode cX10_stranger 22 = .ok (.ireturn, 1) := by decide +kernel
theorem dX10_stranger_23 : decode cX10_stranger 23 = .ok (.aload_n 0, 1) := by decide +kernel
theorem dX10_stranger_24 : decode cX10_stranger 24 = .ok (.getfield 26, 3) := by decide +kernel
theorem dX10_stranger_27 : decode cX10_stranger 27 = .ok (.getfield 138, 3) := by decide +kernel
theorem dX10_stranger_30 : decode cX10_stranger 30 = .ok (.iload_n 1, 1) := by decide +kernel
theorem dX10_stranger_31 : decode cX10_stranger 31 = .ok (.aaload, 1) := by decide +kernel
theorem dX10_stranger_32 : decode cX10_stranger 32 = .ok (.astore 4, 2) := by decide +kernel
theorem dX10_stranger_34 : decode cX10_stranger 34 = .ok (.iload_n 2, 1) := by decide +kernel
theorem dX10_stranger_35 : decode cX10_stranger 35 = .ok (.aload 4, 2) := by decide +kernel
theorem dX10_stranger_37 : decode cX10_stranger 37 = .ok (.getfield 142, 3) := by decide +kernel
theorem dX10_stranger_40 : decode cX10_stranger 40 = .ok (.if_icmp .ge 17, 3) := by decide +kernel
theorem dX10_stranger_43 : decode cX10_stranger 43 = .ok (.aload 4, 2) := by decide +kernel
theorem dX10_stranger_45 : decode cX10_stranger 45 = .ok (.getfield 213, 3) := by decide +kernel
theorem dX10_stranger_48 : decode cX10_stranger 48 = .ok (.iload_n 2, 1) := by decide +kernel
theorem dX10_stranger_49 : decode cX10_stranger 49 = .ok (.iconst 5, 1) := by decide +kernel
theorem dX10_stranger_50 : decode cX10_stranger 50 = .ok (.imul, 1) := by decide +kernel
theorem dX10_stranger_51 : decode cX10_stranger 51 = .ok (.iload_n 3, 1) := by decide +kernel
theorem dX10_stranger_52 : decode cX10_stranger 52 = .ok (.iadd, 1) := by decide +kernel
theorem dX10_stranger_53 : decode cX10_stranger 53 = .ok (.iaload, 1) := by decide +kernel
theorem dX10_stranger_54 : decode cX10_stranger 54 = .ok (.goto 5, 3) := by decide +kernel
theorem dX10_stranger_57 : decode cX10_stranger 57 = .ok (.bipush (-4), 2) := by decide +kernel
theorem dX10_stranger_59 : decode cX10_stranger 59 = .ok (.ireturn, 1) := by decide +kernel
theorem dX10_log_0 : decode cX10_log 0 = .ok (.iload_n 1, 1) := by decide +kernel
theorem dX10_log_1 : decode cX10_log 1 = .ok (.ifCond .lt 12, 3) := by decide +kernel
theorem dX10_log_4 : decode cX10_log 4 = .ok (.iload_n 2, 1) := by decide +kernel
theorem dX10_log_5 : decode cX10_log 5 = .ok (.ifCond .lt 8, 3) := by decide +kernel
theorem dX10_log_8 : decode cX10_log 8 = .ok (.iload_n 2, 1) := by decide +kernel
theorem dX10_log_9 : decode cX10_log 9 = .ok (.iconst 5, 1) := by decide +kernel
theorem dX10_log_10 : decode cX10_log 10 = .ok (.if_icmp .lt 5, 3) := by decide +kernel
theorem dX10_log_13 : decode cX10_log 13 = .ok (.iconst (-1), 1) := by decide +kernel
theorem dX10_log_14 : decode cX10_log 14 = .ok (.ireturn, 1) := by decide +kernel
theorem dX10_log_15 : decode cX10_log 15 = .ok (.iload_n 1, 1) := by decide +kernel
theorem dX10_log_16 : decode cX10_log 16 = .ok (.aload_n 0, 1) := by decide +kernel
theorem dX10_log_17 : decode cX10_log 17 = .ok (.getfield 26, 3) := by decide +kernel
theorem dX10_log_20 : decode cX10_log 20 = .ok (.getfield 115, 3) := by decide +kernel
theorem dX10_log_23 : decode cX10_log 23 = .ok (.getfield 216, 3) := by decide +kernel
theorem dX10_log_26 : decode cX10_log 26 = .ok (.if_icmp .ge 18, 3) := by decide +kernel
theorem dX10_log_29 : decode cX10_log 29 = .ok (.aload_n 0, 1) := by decide +kernel
theorem dX10_log_30 : decode cX10_log 30 = .ok (.getfield 26, 3) := by decide +kernel
theorem dX10_log_33 : decode cX10_log 33 = .ok (.getfield 115, 3) := by decide +kernel
theorem dX10_log_36 : decode cX10_log 36 = .ok (.iload_n 1, 1) := by decide +kernel
theorem dX10_log_37 : decode cX10_log 37 = .ok (.iload_n 2, 1) := by decide +kernel
theorem dX10_log_38 : decode cX10_log 38 = .ok (.invokevirtual 219, 3) := by decide +kernel
theorem dX10_log_41 : decode cX10_log 41 = .ok (.goto 5, 3) := by decide +kernel
theorem dX10_log_44 : decode cX10_log 44 = .ok (.bipush (-4), 2) := by decide +kernel
theorem dX10_log_46 : decode cX10_log 46 = .ok (.ireturn, 1) := by decide +kernel
theorem dX10_draw_0 : decode cX10_draw 0 = .ok (.iload_n 2, 1) := by decide +kernel
theorem dX10_draw_1 : decode cX10_draw 1 = .ok (.iconst 1, 1) := by decide +kernel
theorem dX10_draw_2 : decode cX10_draw 2 = .ok (.if_icmp .lt 9, 3) := by decide +kernel
theorem dX10_draw_5 : decode cX10_draw 5 = .ok (.iload_n 2, 1) := by decide +kernel
theorem dX10_draw_6 : decode cX10_draw 6 = .ok (.bipush 10, 2) := by decide +kernel
theorem dX10_draw_8 : decode cX10_draw 8 = .ok (.if_icmp .le 5, 3) := by decide +kernel
theorem dX10_draw_11 : decode cX10_draw 11 = .ok (.iconst (-1), 1) := by decide +kernel
theorem dX10_draw_12 : decode cX10_draw 12 = .ok (.ireturn, 1) := by decide +kernel
theorem dX10_draw_13 : decode cX10_draw 13 = .ok (.aload_n 0, 1) := by decide +kernel
theorem dX10_draw_14 : decode cX10_draw 14 = .ok (.getfield 19, 3) := by decide +kernel
theorem dX10_draw_17 : decode cX10_draw 17 = .ok (.getfield 87, 3) := by decide +kernel
theorem dX10_draw_20 : decode cX10_draw 20 = .ok (.iconst 1, 1) := by decide +kernel
theorem dX10_draw_21 : decode cX10_draw 21 = .ok (.if_icmp .ge 6, 3) := by decide +kernel
theorem dX10_draw_24 : decode cX10_draw 24 = .ok (.bipush (-2), 2) := by decide +kernel
theorem dX10_draw_26 : decode cX10_draw 26 = .ok (.ireturn, 1) := by decide +kernel
theorem dX10_draw_27 : decode cX10_draw 27 = .ok (.iload_n 1, 1) := by decide +kernel
theorem dX10_draw_28 : decode cX10_draw 28 = .ok (.istore_n 3, 1) := by decide +kernel
theorem dX10_draw_29 : decode cX10_draw 29 = .ok (.iconst 0, 1) := by decide +kernel
theorem dX10_draw_30 : decode cX10_draw 30 = .ok (.istore 4, 2) := by decide +kernel
theorem dX10_draw_32 : decode cX10_draw 32 = .ok (.iconst 0, 1) := by decide +kernel
theorem dX10_draw_33 : decode cX10_draw 33 = .ok (.istore 5, 2) := by decide +kernel
theorem dX10_draw_35 : decode cX10_draw 35 = .ok (.iload 5, 2) := by decide +kernel
theorem dX10_draw_37 : decode cX10_draw 37 = .ok (.iload_n 2, 1) := by decide +kernel
theorem dX10_draw_38 : decode cX10_draw 38 = .ok (.if_icmp .ge 75, 3) := by decide +kernel
theorem dX10_draw_41 : decode cX10_draw 41 = .ok (.iload_n 3, 1) := by decide +kernel
theorem dX10_draw_42 : decode cX10_draw 42 = .ok (.invokestatic 220, 3) := by decide +kernel
theorem dX10_draw_45 : decode cX10_draw 45 = .ok (.istore_n 3, 1) := by decide +kernel
theorem dX10_draw_46 : decode cX10_draw 46 = .ok (.iload_n 3, 1) := by decide +kernel
theorem dX10_draw_47 : decode cX10_draw 47 = .ok (.invokestatic 223, 3) := by decide +kernel
theorem dX10_draw_50 : decode cX10_draw 50 = .ok (.aload_n 0, 1) := by decide +kernel
theorem dX10_draw_51 : decode cX10_draw 51 = .ok (.getfield 19, 3) := by decide +kernel
theorem dX10_draw_54 : decode cX10_draw 54 = .ok (.getfield 87, 3) := by decide +kernel
theorem dX10_draw_57 : decode cX10_draw 57 = .ok (.irem, 1) := by decide +kernel
theorem dX10_draw_58 : decode cX10_draw 58 = .ok (.istore 6, 2) := by decide +kernel
theorem dX10_draw_60 : decode cX10_draw 60 = .ok (.iload_n 3, 1) := by decide +kernel
theorem dX10_draw_61 : decode cX10_draw 61 = .ok (.invokestatic 220, 3) := by decide +kernel
theorem dX10_draw_64 : decode cX10_draw 64 = .ok (.istore_n 3, 1) := by decide +kernel
theorem dX10_draw_65 : decode cX10_draw 65 = .ok (.iload_n 3, 1) := by decide +kernel
theorem dX10_draw_66 : decode cX10_draw 66 = .ok (.invokestatic 223, 3) := by decide +kernel
theorem dX10_draw_69 : decode cX10_draw 69 = .ok (.bipush 32, 2) := by decide +kernel
theorem dX10_draw_71 : decode cX10_draw 71 = .ok (.irem, 1) := by decide +kernel
theorem dX10_draw_72 : decode cX10_draw 72 = .ok (.istore 7, 2) := by decide +kernel
theorem dX10_draw_74 : decode cX10_draw 74 = .ok (.iload_n 3, 1) := by decide +kernel
theorem dX10_draw_75 : decode cX10_draw 75 = .ok (.invokestatic 220, 3) := by decide +kernel
theorem dX10_draw_78 : decode cX10_draw 78 = .ok (.istore_n 3, 1) := by decide +kernel
theorem dX10_draw_79 : decode cX10_draw 79 = .ok (.iload_n 3, 1) := by decide +kernel
theorem dX10_draw_80 : decode cX10_draw 80 = .ok (.invokestatic 223, 3) := by decide +kernel
theorem dX10_draw_83 : decode cX10_draw 83 = .ok (.bipush 32, 2) := by decide +kernel
theorem dX10_draw_85 : decode cX10_draw 85 = .ok (.irem, 1) := by decide +kernel
theorem dX10_draw_86 : decode cX10_draw 86 = .ok (.istore 8, 2) := by decide +kernel
theorem dX10_draw_88 : decode cX10_draw 88 = .ok (.aload_n 0, 1) := by decide +kernel
theorem dX10_draw_89 : decode cX10_draw 89 = .ok (.getfield 35, 3) := by decide +kernel
theorem dX10_draw_92 : decode cX10_draw 92 = .ok (.iload 6, 2) := by decide +kernel
theorem dX10_draw_94 : decode cX10_draw 94 = .ok (.iload 7, 2) := by decide +kernel
theorem dX10_draw_96 : decode cX10_draw 96 = .ok (.iload 8, 2) := by decide +kernel
theorem dX10_draw_98 : decode cX10_draw 98 = .ok (.invokevirtual 195, 3) := by decide +kernel
theorem dX10_draw_101 : decode cX10_draw 101 = .ok (.ifCond .lt 6, 3) := by decide +kernel
theorem dX10_draw_104 : decode cX10_draw 104 = .ok (.iinc 4 1, 3) := by decide +kernel
theorem dX10_draw_107 : decode cX10_draw 107 = .ok (.iinc 5 1, 3) := by decide +kernel
theorem dX10_draw_110 : decode cX10_draw 110 = .ok (.goto (-75), 3) := by decide +kernel
theorem dX10_draw_113 : decode cX10_draw 113 = .ok (.iload 4, 2) := by decide +kernel
theorem dX10_draw_115 : decode cX10_draw 115 = .ok (.ireturn, 1) := by decide +kernel
theorem dX10_keep_0 : decode cX10_keep 0 = .ok (.iload_n 1, 1) := by decide +kernel
theorem dX10_keep_1 : decode cX10_keep 1 = .ok (.invokestatic 226, 3) := by decide +kernel
theorem dX10_keep_4 : decode cX10_keep 4 = .ok (.ifCond .ne 5, 3) := by decide +kernel
theorem dX10_keep_7 : decode cX10_keep 7 = .ok (.iconst (-1), 1) := by decide +kernel
theorem dX10_keep_8 : decode cX10_keep 8 = .ok (.ireturn, 1) := by decide +kernel
theorem dX10_keep_9 : decode cX10_keep 9 = .ok (.aload_n 0, 1) := by decide +kernel
theorem dX10_keep_10 : decode cX10_keep 10 = .ok (.getfield 43, 3) := by decide +kernel
theorem dX10_keep_13 : decode cX10_keep 13 = .ok (.iload_n 1, 1) := by decide +kernel
theorem dX10_keep_14 : decode cX10_keep 14 = .ok (.baload, 1) := by decide +kernel
theorem dX10_keep_15 : decode cX10_keep 15 = .ok (.ifCond .eq 7, 3) := by decide +kernel
theorem dX10_keep_18 : decode cX10_keep 18 = .ok (.iconst 1, 1) := by decide +kernel
theorem dX10_keep_19 : decode cX10_keep 19 = .ok (.goto 4, 3) := by decide +kernel
theorem dX10_keep_22 : decode cX10_keep 22 = .ok (.iconst 0, 1) := by decide +kernel
theorem dX10_keep_23 : decode cX10_keep 23 = .ok (.istore_n 2, 1) := by decide +kernel
theorem dX10_keep_24 : decode cX10_keep 24 = .ok (.aload_n 0, 1) := by decide +kernel
theorem dX10_keep_25 : decode cX10_keep 25 = .ok (.getfield 39, 3) := by decide +kernel
theorem dX10_keep_28 : decode cX10_keep 28 = .ok (.iload_n 1, 1) := by decide +kernel
theorem dX10_keep_29 : decode cX10_keep 29 = .ok (.aaload, 1) := by decide +kernel
theorem dX10_keep_30 : decode cX10_keep 30 = .ok (.aload_n 0, 1) := by decide +kernel
theorem dX10_keep_31 : decode cX10_keep 31 = .ok (.getfield 26, 3) := by decide +kernel
theorem dX10_keep_34 : decode cX10_keep 34 = .ok (.invokevirtual 229, 3) := by decide +kernel
theorem dX10_keep_37 : decode cX10_keep 37 = .ok (.aload_n 0, 1) := by decide +kernel
theorem dX10_keep_38 : decode cX10_keep 38 = .ok (.getfield 43, 3) := by decide +kernel
theorem dX10_keep_41 : decode cX10_keep 41 = .ok (.iload_n 1, 1) := by decide +kernel
theorem dX10_keep_42 : decode cX10_keep 42 = .ok (.iconst 1, 1) := by decide +kernel
theorem dX10_keep_43 : decode cX10_keep 43 = .ok (.bastore, 1) := by decide +kernel
theorem dX10_keep_44 : decode cX10_keep 44 = .ok (.iload_n 2, 1) := by decide +kernel
theorem dX10_keep_45 : decode cX10_keep 45 = .ok (.ireturn, 1) := by decide +kernel
theorem dX10_back_0 : decode cX10_back 0 = .ok (.iload_n 1, 1) := by decide +kernel
theorem dX10_back_1 : decode cX10_back 1 = .ok (.invokestatic 226, 3) := by decide +kernel
theorem dX10_back_4 : decode cX10_back 4 = .ok (.ifCond .ne 5, 3) := by decide +kernel
theorem dX10_back_7 : decode cX10_back 7 = .ok (.iconst (-1), 1) := by decide +kernel
theorem dX10_back_8 : decode cX10_back 8 = .ok (.ireturn, 1) := by decide +kernel
theorem dX10_back_9 : decode cX10_back 9 = .ok (.aload_n 0, 1) := by decide +kernel
theorem dX10_back_10 : decode cX10_back 10 = .ok (.getfield 43, 3) := by decide +kernel
theorem dX10_back_13 : decode cX10_back 13 = .ok (.iload_n 1, 1) := by decide +kernel
theorem dX10_back_14 : decode cX10_back 14 = .ok (.baload, 1) := by decide +kernel
theorem dX10_back_15 : decode cX10_back 15 = .ok (.ifCond .ne 6, 3) := by decide +kernel
theorem dX10_back_18 : decode cX10_back 18 = .ok (.bipush (-2), 2) := by decide +kernel
theorem dX10_back_20 : decode cX10_back 20 = .ok (.ireturn, 1) := by decide +kernel
theorem dX10_back_21 : decode cX10_back 21 = .ok (.aload_n 0, 1) := by decide +kernel
theorem dX10_back_22 : decode cX10_back 22 = .ok (.getfield 26, 3) := by decide +kernel
theorem dX10_back_25 : decode cX10_back 25 = .ok (.aload_n 0, 1) := by decide +kernel
theorem dX10_back_26 : decode cX10_back 26 = .ok (.getfield 39, 3) := by decide +kernel
theorem dX10_back_29 : decode cX10_back 29 = .ok (.iload_n 1, 1) := by decide +kernel
theorem dX10_back_30 : decode cX10_back 30 = .ok (.aaload, 1) := by decide +kernel
theorem dX10_back_31 : decode cX10_back 31 = .ok (.invokevirtual 229, 3) := by decide +kernel
theorem dX10_back_34 : decode cX10_back 34 = .ok (.aload_n 0, 1) := by decide +kernel
theorem dX10_back_35 : decode cX10_back 35 = .ok (.getfield 26, 3) := by decide +kernel
theorem dX10_back_38 : decode cX10_back 38 = .ok (.getfield 103, 3) := by decide +kernel
theorem dX10_back_41 : decode cX10_back 41 = .ok (.getfield 107, 3) := by decide +kernel
theorem dX10_back_44 : decode cX10_back 44 = .ok (.ireturn, 1) := by decide +kernel
theorem dX10_sheet_0 : decode cX10_sheet 0 = .ok (.iload_n 1, 1) := by decide +kernel
theorem dX10_sheet_1 : decode cX10_sheet 1 = .ok (.invokestatic 232, 3) := by decide +kernel
theorem dX10_sheet_4 : decode cX10_sheet 4 = .ok (.ifCond .eq 16, 3) := by decide +kernel
theorem dX10_sheet_7 : decode cX10_sheet 7 = .ok (.iload_n 2, 1) := by decide +kernel
theorem dX10_sheet_8 : decode cX10_sheet 8 = .ok (.invokestatic 235, 3) := by decide +kernel
theorem dX10_sheet_11 : decode cX10_sheet 11 = .ok (.ifCond .eq 9, 3) := by decide +kernel
theorem dX10_sheet_14 : decode cX10_sheet 14 = .ok (.iload_n 3, 1) := by decide +kernel
theorem dX10_sheet_15 : decode cX10_sheet 15 = .ok (.bipush 40, 2) := by decide +kernel
theorem dX10_sheet_17 : decode cX10_sheet 17 = .ok (.if_icmp .le 5, 3) := by decide +kernel
theorem dX10_sheet_20 : decode cX10_sheet 20 = .ok (.iconst (-1), 1) := by decide +kernel
theorem dX10_sheet_21 : decode cX10_sheet 21 = .ok (.ireturn, 1) := by decide +kernel
theorem dX10_sheet_22 : decode cX10_sheet 22 = .ok (.iload_n 3, 1) := by decide +kernel
theorem dX10_sheet_23 : decode cX10_sheet 23 = .ok (.ifCond .ge 6, 3) := by decide +kernel
theorem dX10_sheet_26 : decode cX10_sheet 26 = .ok (.bipush (-14), 2) := by decide +kernel
theorem dX10_sheet_28 : decode cX10_sheet 28 = .ok (.ireturn, 1) := by decide +kernel
theorem dX10_sheet_29 : decode cX10_sheet 29 = .ok (.aload_n 0, 1) := by decide +kernel
theorem dX10_sheet_30 : decode cX10_sheet 30 = .ok (.getfield 49, 3) := by decide +kernel
theorem dX10_sheet_33 : decode cX10_sheet 33 = .ok (.iload_n 1, 1) := by decide +kernel
theorem dX10_sheet_34 : decode cX10_sheet 34 = .ok (.new 47, 3) := by decide +kernel
theorem dX10_sheet_37 : decode cX10_sheet 37 = .ok (.dup, 1) := by decide +kernel
theorem dX10_sheet_38 : decode cX10_sheet 38 = .ok (.iload_n 2, 1) := by decide +kernel
theorem dX10_sheet_39 : decode cX10_sheet 39 = .ok (.iload_n 3, 1) := by decide +kernel
theorem dX10_sheet_40 : decode cX10_sheet 40 = .ok (.invokespecial 238, 3) := by decide +kernel
theorem dX10_sheet_43 : decode cX10_sheet 43 = .ok (.aastore, 1) := by decide +kernel
theorem dX10_sheet_44 : decode cX10_sheet 44 = .ok (.iconst 1, 1) := by decide +kernel
theorem dX10_sheet_45 : decode cX10_sheet 45 = .ok (.ireturn, 1) := by decide +kernel
theorem dX10_lay_0 : decode cX10_lay 0 = .ok (.iload_n 1, 1) := by decide +kernel
theorem dX10_lay_1 : decode cX10_lay 1 = .ok (.invokestatic 232, 3) := by decide +kernel
theorem dX10_lay_4 : decode cX10_lay 4 = .ok (.ifCond .ne 5, 3) := by decide +kernel
theorem dX10_lay_7 : decode cX10_lay 7 = .ok (.iconst (-1), 1) := by decide +kernel
theorem dX10_lay_8 : decode cX10_lay 8 = .ok (.ireturn, 1) := by decide +kernel
theorem dX10_lay_9 : decode cX10_lay 9 = .ok (.aload_n 0, 1) := by decide +kernel
theorem dX10_lay_10 : decode cX10_lay 10 = .ok (.getfield 49, 3) := by decide +kernel
theorem dX10_lay_13 : decode cX10_lay 13 = .ok (.iload_n 1, 1) := by decide +kernel
theorem dX10_lay_14 : decode cX10_lay 14 = .ok (.aaload, 1) := by decide +kernel
theorem dX10_lay_15 : decode cX10_lay 15 = .ok (.astore 4, 2) := by decide +kernel
theorem dX10_lay_17 : decode cX10_lay 17 = .ok (.aload 4, 2) := by decide +kernel
theorem dX10_lay_19 : decode cX10_lay 19 = .ok (.ifnonnull 6, 3) := by decide +kernel
theorem dX10_lay_22 : decode cX10_lay 22 = .ok (.bipush (-11), 2) := by decide +kernel
theorem dX10_lay_24 : decode cX10_lay 24 = .ok (.ireturn, 1) := by decide +kernel
theorem dX10_lay_25 : decode cX10_lay 25 = .ok (.iload_n 2, 1) := by decide +kernel
theorem dX10_lay_26 : decode cX10_lay 26 = .ok (.ifCond .lt 12, 3) := by decide +kernel
theorem dX10_lay_29 : decode cX10_lay 29 = .ok (.iload_n 2, 1) := by decide +kernel
theorem dX10_lay_30 : decode cX10_lay 30 = .ok (.aload 4, 2) := by decide +kernel
theorem dX10_lay_32 : decode cX10_lay 32 = .ok (.getfield 241, 3) := by decide +kernel
theorem dX10_lay_35 : decode cX10_lay 35 = .ok (.if_icmp .lt 6, 3) := by decide +kernel
theorem dX10_lay_38 : decode cX10_lay 38 = .ok (.bipush (-13), 2) := by decide +kernel
theorem dX10_lay_40 : decode cX10_lay 40 = .ok (.ireturn, 1) := by decide +kernel
theorem dX10_lay_41 : decode cX10_lay 41 = .ok (.aload 4, 2) := by decide +kernel
theorem dX10_lay_43 : decode cX10_lay 43 = .ok (.iload_n 2, 1) := by decide +kernel
theorem dX10_lay_44 : decode cX10_lay 44 = .ok (.iload_n 3, 1) := by decide +kernel
theorem dX10_lay_45 : decode cX10_lay 45 = .ok (.invokevirtual 244, 3) := by decide +kernel
theorem dX10_lay_48 : decode cX10_lay 48 = .ok (.iconst 1, 1) := by decide +kernel
theorem dX10_lay_49 : decode cX10_lay 49 = .ok (.ireturn, 1) := by decide +kernel
theorem dX10_post_0 : decode cX10_post 0 = .ok (.iload_n 1, 1) := by decide +kernel
theorem dX10_post_1 : decode cX10_post 1 = .ok (.invokestatic 232, 3) := by decide +kernel
theorem dX10_post_4 : decode cX10_post 4 = .ok (.ifCond .eq 22, 3) := by decide +kernel
theorem dX10_post_7 : decode cX10_post 7 = .ok (.iload_n 2, 1) := by decide +kernel
theorem dX10_post_8 : decode cX10_post 8 = .ok (.invokestatic 235, 3) := by decide +kernel
theorem dX10_post_11 : decode cX10_post 11 = .ok (.ifCond .eq 15, 3) := by decide +kernel
theorem dX10_post_14 : decode cX10_post 14 = .ok (.iload 4, 2) := by decide +kernel
theorem dX10_post_16 : decode cX10_post 16 = .ok (.ifCond .lt 10, 3) := by decide +kernel
theorem dX10_post_19 : decode cX10_post 19 = .ok (.iload 4, 2) := by decide +kernel
theorem dX10_post_21 : decode cX10_post 21 = .ok (.bipush 6, 2) := by decide +kernel
theorem dX10_post_23 : decode cX10_post 23 = .ok (.if_icmp .le 5, 3) := by decide +kernel
theorem dX10_post_26 : decode cX10_post 26 = .ok (.iconst (-1), 1) := by decide +kernel
theorem dX10_post_27 : decode cX10_post 27 = .ok (.ireturn, 1) := by decide +kernel
theorem dX10_post_28 : decode cX10_post 28 = .ok (.aload_n 0, 1) := by decide +kernel
theorem dX10_post_29 : decode cX10_post 29 = .ok (.getfield 49, 3) := by decide +kernel
theorem dX10_post_32 : decode cX10_post 32 = .ok (.iload_n 1, 1) := by decide +kernel
theorem dX10_post_33 : decode cX10_post 33 = .ok (.aaload, 1) := by decide +kernel
theorem dX10_post_34 : decode cX10_post 34 = .ok (.astore 5, 2) := by decide +kernel
theorem dX10_post_36 : decode cX10_post 36 = .ok (.aload 5, 2) := by decide +kernel
theorem dX10_post_38 : decode cX10_post 38 = .ok (.iload_n 2, 1) := by decide +kernel
theorem dX10_post_39 : decode cX10_post 39 = .ok (.iload_n 3, 1) := by decide +kernel
theorem dX10_post_40 : decode cX10_post 40 = .ok (.iconst 3, 1) := by decide +kernel
theorem dX10_post_41 : decode cX10_post 41 = .ok (.iload 4, 2) := by decide +kernel
theorem dX10_post_43 : decode cX10_post 43 = .ok (.imul, 1) := by decide +kernel
theorem dX10_post_44 : decode cX10_post 44 = .ok (.invokestatic 247, 3) := by decide +kernel
theorem dX10_post_47 : decode cX10_post 47 = .ok (.istore 6, 2) := by decide +kernel
theorem dX10_post_49 : decode cX10_post 49 = .ok (.aload 5, 2) := by decide +kernel
theorem dX10_post_51 : decode cX10_post 51 = .ok (.ifnull 8, 3) := by decide +kernel
theorem dX10_post_54 : decode cX10_post 54 = .ok (.iload 6, 2) := by decide +kernel
theorem dX10_post_56 : decode cX10_post 56 = .ok (.ifCond .eq 9, 3) := by decide +kernel
theorem dX10_post_59 : decode cX10_post 59 = .ok (.bipush (-10), 2) := by decide +kernel
theorem dX10_post_61 : decode cX10_post 61 = .ok (.iload 6, 2) := by decide +kernel
theorem dX10_post_63 : decode cX10_post 63 = .ok (.isub, 1) := by decide +kernel
theorem dX10_post_64 : decode cX10_post 64 = .ok (.ireturn, 1) := by decide +kernel
theorem dX10_post_65 : decode cX10_post 65 = .ok (.new 47, 3) := by decide +kernel
theorem dX10_post_68 : decode cX10_post 68 = .ok (.dup, 1) := by decide +kernel
theorem dX10_post_69 : decode cX10_post 69 = .ok (.iload_n 2, 1) := by decide +kernel
theorem dX10_post_70 : decode cX10_post 70 = .ok (.iconst 3, 1) := by decide +kernel
theorem dX10_post_71 : decode cX10_post 71 = .ok (.iload 4, 2) := by decide +kernel
theorem dX10_post_73 : decode cX10_post 73 = .ok (.imul, 1) := by decide +kernel
theorem dX10_post_74 : decode cX10_post 74 = .ok (.invokespecial 238, 3) := by decide +kernel
theorem dX10_post_77 : decode cX10_post 77 = .ok (.astore 7, 2) := by decide +kernel
theorem dX10_post_79 : decode cX10_post 79 = .ok (.aload 7, 2) := by decide +kernel
theorem dX10_post_81 : decode cX10_post 81 = .ok (.aload 5, 2) := by decide +kernel
theorem dX10_post_83 : decode cX10_post 83 = .ok (.iload_n 3, 1) := by decide +kernel
theorem dX10_post_84 : decode cX10_post 84 = .ok (.invokevirtual 251, 3) := by decide +kernel
theorem dX10_post_87 : decode cX10_post 87 = .ok (.aload_n 0, 1) := by decide +kernel
theorem dX10_post_88 : decode cX10_post 88 = .ok (.getfield 35, 3) := by decide +kernel
theorem dX10_post_91 : decode cX10_post 91 = .ok (.aload 7, 2) := by decide +kernel
theorem dX10_post_93 : decode cX10_post 93 = .ok (.iload 4, 2) := by decide +kernel
theorem dX10_post_95 : decode cX10_post 95 = .ok (.invokevirtual 255, 3) := by decide +kernel
theorem dX10_post_98 : decode cX10_post 98 = .ok (.ireturn, 1) := by decide +kernel
theorem dX10_count_0 : decode cX10_count 0 = .ok (.iload_n 1, 1) := by decide +kernel
theorem dX10_count_1 : decode cX10_count 1 = .ok (.tableswitch 89 0 2 #[27, 57, 65], 27) := by decide +kernel
theorem dX10_count_28 : decode cX10_count 28 = .ok (.aload_n 0, 1) := by decide +kernel
theorem dX10_count_29 : decode cX10_count 29 = .ok (.getfield 43, 3) := by decide +kernel
theorem dX10_count_32 : decode cX10_count 32 = .ok (.iconst 0, 1) := by decide +kernel
theorem dX10_count_33 : decode cX10_count 33 = .ok (.baload, 1) := by decide +kernel
theorem dX10_count_34 : decode cX10_count 34 = .ok (.ifCond .eq 7, 3) := by decide +kernel
theorem dX10_count_37 : decode cX10_count 37 = .ok (.iconst 1, 1) := by decide +kernel
theorem dX10_count_38 : decode cX10_count 38 = .ok (.goto 4, 3) := by decide +kernel
theorem dX10_count_41 : decode cX10_count 41 = .ok (.iconst 0, 1) := by decide +kernel
theorem dX10_count_42 : decode cX10_count 42 = .ok (.aload_n 0, 1) := by decide +kernel
theorem dX10_count_43 : decode cX10_count 43 = .ok (.getfield 43, 3) := by decide +kernel
theorem dX10_count_46 : decode cX10_count 46 = .ok (.iconst 1, 1) := by decide +kernel
theorem dX10_count_47 : decode cX10_count 47 = .ok (.baload, 1) := by decide +kernel
theorem dX10_count_48 : decode cX10_count 48 = .ok (.ifCond .eq 7, 3) := by decide +kernel
theorem dX10_count_51 : decode cX10_count 51 = .ok (.iconst 1, 1) := by decide +kernel
theorem dX10_count_52 : decode cX10_count 52 = .ok (.goto 4, 3) := by decide +kernel
theorem dX10_count_55 : decode cX10_count 55 = .ok (.iconst 0, 1) := by decide +kernel
theorem dX10_count_56 : decode cX10_count 56 = .ok (.iadd, 1) := by decide +kernel
theorem dX10_count_57 : decode cX10_count 57 = .ok (.ireturn, 1) := by decide +kernel
theorem dX10_count_58 : decode cX10_count 58 = .ok (.aload_n 0, 1) := by decide +kernel
theorem dX10_count_59 : decode cX10_count 59 = .ok (.getfield 10, 3) := by decide +kernel
theorem dX10_count_62 : decode cX10_count 62 = .ok (.getfield 53, 3) := by decide +kernel
theorem dX10_count_65 : decode cX10_count 65 = .ok (.ireturn, 1) := by decide +kernel
theorem dX10_count_66 : decode cX10_count 66 = .ok (.aload_n 0, 1) := by decide +kernel
theorem dX10_count_67 : decode cX10_count 67 = .ok (.getfield 49, 3) := by decide +kernel
theorem dX10_count_70 : decode cX10_count 70 = .ok (.iconst 0, 1) := by decide +kernel
theorem dX10_count_71 : decode cX10_count 71 = .ok (.aaload, 1) := by decide +kernel
theorem dX10_count_72 : decode cX10_count 72 = .ok (.ifnonnull 8, 3) := by decide +kernel
theorem dX10_count_75 : decode cX10_count 75 = .ok (.bipush (-4), 2) := by decide +kernel
theorem dX10_count_77 : decode cX10_count 77 = .ok (.goto 12, 3) := by decide +kernel
theorem dX10_count_80 : decode cX10_count 80 = .ok (.aload_n 0, 1) := by decide +kernel
theorem dX10_count_81 : decode cX10_count 81 = .ok (.getfield 49, 3) := by decide +kernel
theorem dX10_count_84 : decode cX10_count 84 = .ok (.iconst 0, 1) := by decide +kernel
theorem dX10_count_85 : decode cX10_count 85 = .ok (.aaload, 1) := by decide +kernel
theorem dX10_count_86 : decode cX10_count 86 = .ok (.getfield 241, 3) := by decide +kernel
theorem dX10_count_89 : decode cX10_count 89 = .ok (.ireturn, 1) := by decide +kernel
theorem dX10_count_90 : decode cX10_count 90 = .ok (.iconst (-1), 1) := by decide +kernel
theorem dX10_count_91 : decode cX10_count 91 = .ok (.ireturn, 1) := by decide +kernel
theorem dX10_isHouse_0 : decode cX10_isHouse 0 = .ok (.iload_n 1, 1) := by decide +kernel
theorem dX10_isHouse_1 : decode cX10_isHouse 1 = .ok (.ifCond .lt 18, 3) := by decide +kernel
theorem dX10_isHouse_4 : decode cX10_isHouse 4 = .ok (.iload_n 1, 1) := by decide +kernel
theorem dX10_isHouse_5 : decode cX10_isHouse 5 = .ok (.aload_n 0, 1) := by decide +kernel
theorem dX10_isHouse_6 : decode cX10_isHouse 6 = .ok (.getfield 19, 3) := by decide +kernel
theorem dX10_isHouse_9 : decode cX10_isHouse 9 = .ok (.getfield 87, 3) := by decide +kernel
theorem dX10_isHouse_12 : decode cX10_isHouse 12 = .ok (.if_icmp .ge 7, 3) := by decide +kernel
theorem dX10_isHouse_15 : decode cX10_isHouse 15 = .ok (.iconst 1, 1) := by decide +kernel
theorem dX10_isHouse_16 : decode cX10_isHouse 16 = .ok (.goto 4, 3) := by decide +kernel
theorem dX10_isHouse_19 : decode cX10_isHouse 19 = .ok (.iconst 0, 1) := by decide +kernel
theorem dX10_isHouse_20 : decode cX10_isHouse 20 = .ok (.ireturn, 1) := by decide +kernel
theorem dX10_isDomain_0 : decode cX10_isDomain 0 = .ok (.iload_n 1, 1) := by decide +kernel
theorem dX10_isDomain_1 : decode cX10_isDomain 1 = .ok (.ifCond .lt 18, 3) := by decide +kernel
theorem dX10_isDomain_4 : decode cX10_isDomain 4 = .ok (.iload_n 1, 1) := by decide +kernel
theorem dX10_isDomain_5 : decode cX10_isDomain 5 = .ok (.aload_n 0, 1) := by decide +kernel
theorem dX10_isDomain_6 : decode cX10_isDomain 6 = .ok (.getfield 19, 3) := by decide +kernel
theorem dX10_isDomain_9 : decode cX10_isDomain 9 = .ok (.getfield 90, 3) := by decide +kernel
theorem dX10_isDomain_12 : decode cX10_isDomain 12 = .ok (.if_icmp .ge 7, 3) := by decide +kernel
theorem dX10_isDomain_15 : decode cX10_isDomain 15 = .ok (.iconst 1, 1) := by decide +kernel
theorem dX10_isDomain_16 : decode cX10_isDomain 16 = .ok (.goto 4, 3) := by decide +kernel
theorem dX10_isDomain_19 : decode cX10_isDomain 19 = .ok (.iconst 0, 1) := by decide +kernel
theorem dX10_isDomain_20 : decode cX10_isDomain 20 = .ok (.ireturn, 1) := by decide +kernel
theorem dX10_isAddress_0 : decode cX10_isAddress 0 = .ok (.iload_n 0, 1) := by decide +kernel
theorem dX10_isAddress_1 : decode cX10_isAddress 1 = .ok (.ifCond .lt 13, 3) := by decide +kernel
theorem dX10_isAddress_4 : decode cX10_isAddress 4 = .ok (.iload_n 0, 1) := by decide +kernel
theorem dX10_isAddress_5 : decode cX10_isAddress 5 = .ok (.bipush 32, 2) := by decide +kernel
theorem dX10_isAddress_7 : decode cX10_isAddress 7 = .ok (.if_icmp .ge 7, 3) := by decide +kernel
theorem dX10_isAddress_10 : decode cX10_isAddress 10 = .ok (.iconst 1, 1) := by decide +kernel
theorem dX10_isAddress_11 : decode cX10_isAddress 11 = .ok (.goto 4, 3) := by decide +kernel
theorem dX10_isAddress_14 : decode cX10_isAddress 14 = .ok (.iconst 0, 1) := by decide +kernel
theorem dX10_isAddress_15 : decode cX10_isAddress 15 = .ok (.ireturn, 1) := by decide +kernel
theorem dX10_isImage_0 : decode cX10_isImage 0 = .ok (.iload_n 0, 1) := by decide +kernel
theorem dX10_isImage_1 : decode cX10_isImage 1 = .ok (.ifCond .lt 12, 3) := by decide +kernel
theorem dX10_isImage_4 : decode cX10_isImage 4 = .ok (.iload_n 0, 1) := by decide +kernel
theorem dX10_isImage_5 : decode cX10_isImage 5 = .ok (.iconst 2, 1) := by decide +kernel
theorem dX10_isImage_6 : decode cX10_isImage 6 = .ok (.if_icmp .ge 7, 3) := by decide +kernel
theorem dX10_isImage_9 : decode cX10_isImage 9 = .ok (.iconst 1, 1) := by decide +kernel
theorem dX10_isImage_10 : decode cX10_isImage 10 = .ok (.goto 4, 3) := by decide +kernel
theorem dX10_isImage_13 : decode cX10_isImage 13 = .ok (.iconst 0, 1) := by decide +kernel
theorem dX10_isImage_14 : decode cX10_isImage 14 = .ok (.ireturn, 1) := by decide +kernel
theorem dX10_isSheet_0 : decode cX10_isSheet 0 = .ok (.iload_n 0, 1) := by decide +kernel
theorem dX10_isSheet_1 : decode cX10_isSheet 1 = .ok (.ifCond .lt 12, 3) := by decide +kernel
theorem dX10_isSheet_4 : decode cX10_isSheet 4 = .ok (.iload_n 0, 1) := by decide +kernel
theorem dX10_isSheet_5 : decode cX10_isSheet 5 = .ok (.iconst 4, 1) := by decide +kernel
theorem dX10_isSheet_6 : decode cX10_isSheet 6 = .ok (.if_icmp .ge 7, 3) := by decide +kernel
theorem dX10_isSheet_9 : decode cX10_isSheet 9 = .ok (.iconst 1, 1) := by decide +kernel
theorem dX10_isSheet_10 : decode cX10_isSheet 10 = .ok (.goto 4, 3) := by decide +kernel
theorem dX10_isSheet_13 : decode cX10_isSheet 13 = .ok (.iconst 0, 1) := by decide +kernel
theorem dX10_isSheet_14 : decode cX10_isSheet 14 = .ok (.ireturn, 1) := by decide +kernel
theorem dX10_isLane_0 : decode cX10_isLane 0 = .ok (.iload_n 0, 1) := by decide +kernel
theorem dX10_isLane_1 : decode cX10_isLane 1 = .ok (.ifCond .eq 8, 3) := by decide +kernel
theorem dX10_isLane_4 : decode cX10_isLane 4 = .ok (.iload_n 0, 1) := by decide +kernel
theorem dX10_isLane_5 : decode cX10_isLane 5 = .ok (.iconst 1, 1) := by decide +kernel
theorem dX10_isLane_6 : decode cX10_isLane 6 = .ok (.if_icmp .ne 7, 3) := by decide +kernel
theorem dX10_isLane_9 : decode cX10_isLane 9 = .ok (.iconst 1, 1) := by decide +kernel
theorem dX10_isLane_10 : decode cX10_isLane 10 = .ok (.goto 4, 3) := by decide +kernel
theorem dX10_isLane_13 : decode cX10_isLane 13 = .ok (.iconst 0, 1) := by decide +kernel
theorem dX10_isLane_14 : decode cX10_isLane 14 = .ok (.ireturn, 1) := by decide +kernel
theorem dX10_forgetImages_0 : decode cX10_forgetImages 0 = .ok (.iconst 0, 1) := by decide +kernel
theorem dX10_forgetImages_1 : decode cX10_forgetImages 1 = .ok (.istore_n 1, 1) := by decide +kernel
theorem dX10_forgetImages_2 : decode cX10_forgetImages 2 = .ok (.iload_n 1, 1) := by decide +kernel
theorem dX10_forgetImages_3 : decode cX10_forgetImages 3 = .ok (.iconst 2, 1) := by decide +kernel
theorem dX10_forgetImages_4 : decode cX10_forgetImages 4 = .ok (.if_icmp .ge 16, 3) := by decide +kernel
theorem dX10_forgetImages_7 : decode cX10_forgetImages 7 = .ok (.aload_n 0, 1) := by decide +kernel
theorem dX10_forgetImages_8 : decode cX10_forgetImages 8 = .ok (.getfield 43, 3) := by decide +kernel
theorem dX10_forgetImages_11 : decode cX10_forgetImages 11 = .ok (.iload_n 1, 1) := by decide +kernel
theorem dX10_forgetImages_12 : decode cX10_forgetImages 12 = .ok (.iconst 0, 1) := by decide +kernel
theorem dX10_forgetImages_13 : decode cX10_forgetImages 13 = .ok (.bastore, 1) := by decide +kernel
theorem dX10_forgetImages_14 : decode cX10_forgetImages 14 = .ok (.iinc 1 1, 3) := by decide +kernel
theorem dX10_forgetImages_17 : decode cX10_forgetImages 17 = .ok (.goto (-15), 3) := by decide +kernel
theorem dX10_forgetImages_20 : decode cX10_forgetImages 20 = .ok (.return_, 1) := by decide +kernel
theorem dX10_nextSeed_0 : decode cX10_nextSeed 0 = .ok (.iload_n 0, 1) := by decide +kernel
theorem dX10_nextSeed_1 : decode cX10_nextSeed 1 = .ok (.ldc_w 259, 3) := by decide +kernel
theorem dX10_nextSeed_4 : decode cX10_nextSeed 4 = .ok (.imul, 1) := by decide +kernel
theorem dX10_nextSeed_5 : decode cX10_nextSeed 5 = .ok (.sipush 12345, 3) := by decide +kernel
theorem dX10_nextSeed_8 : decode cX10_nextSeed 8 = .ok (.iadd, 1) := by decide +kernel
theorem dX10_nextSeed_9 : decode cX10_nextSeed 9 = .ok (.ireturn, 1) := by decide +kernel
theorem dX10_got_0 : decode cX10_got 0 = .ok (.iload_n 0, 1) := by decide +kernel
theorem dX10_got_1 : decode cX10_got 1 = .ok (.bipush 16, 2) := by decide +kernel
theorem dX10_got_3 : decode cX10_got 3 = .ok (.iushr, 1) := by decide +kernel
theorem dX10_got_4 : decode cX10_got 4 = .ok (.sipush 32767, 3) := by decide +kernel
theorem dX10_got_7 : decode cX10_got 7 = .ok (.iand, 1) := by decide +kernel
theorem dX10_got_8 : decode cX10_got 8 = .ok (.ireturn, 1) := by decide +kernel
theorem dX10_copyFault_0 : decode cX10_copyFault 0 = .ok (.aload_n 0, 1) := by decide +kernel
theorem dX10_copyFault_1 : decode cX10_copyFault 1 = .ok (.ifnonnull 5, 3) := by decide +kernel
theorem dX10_copyFault_4 : decode cX10_copyFault 4 = .ok (.iconst 1, 1) := by decide +kernel
theorem dX10_copyFault_5 : decode cX10_copyFault 5 = .ok (.ireturn, 1) := by decide +kernel
theorem dX10_copyFault_6 : decode cX10_copyFault 6 = .ok (.aload_n 0, 1) := by decide +kernel
theorem dX10_copyFault_7 : decode cX10_copyFault 7 = .ok (.getfield 260, 3) := by decide +kernel
theorem dX10_copyFault_10 : decode cX10_copyFault 10 = .ok (.iload_n 1, 1) := by decide +kernel
theorem dX10_copyFault_11 : decode cX10_copyFault 11 = .ok (.if_icmp .eq 5, 3) := by decide +kernel
theorem dX10_copyFault_14 : decode cX10_copyFault 14 = .ok (.iconst 2, 1) := by decide +kernel
theorem dX10_copyFault_15 : decode cX10_copyFault 15 = .ok (.ireturn, 1) := by decide +kernel
theorem dX10_copyFault_16 : decode cX10_copyFault 16 = .ok (.iload_n 2, 1) := by decide +kernel
theorem dX10_copyFault_17 : decode cX10_copyFault 17 = .ok (.ifCond .lt 13, 3) := by decide +kernel
theorem dX10_copyFault_20 : decode cX10_copyFault 20 = .ok (.iload_n 2, 1) := by decide +kernel
theorem dX10_copyFault_21 : decode cX10_copyFault 21 = .ok (.aload_n 0, 1) := by decide +kernel
theorem dX10_copyFault_22 : decode cX10_copyFault 22 = .ok (.getfield 241, 3) := by decide +kernel
theorem dX10_copyFault_25 : decode cX10_copyFault 25 = .ok (.iload_n 3, 1) := by decide +kernel
theorem dX10_copyFault_26 : decode cX10_copyFault 26 = .ok (.isub, 1) := by decide +kernel
theorem dX10_copyFault_27 : decode cX10_copyFault 27 = .ok (.if_icmp .le 7, 3) := by decide +kernel
theorem dX10_copyFault_30 : decode cX10_copyFault 30 = .ok (.iconst 3, 1) := by decide +kernel
theorem dX10_copyFault_31 : decode cX10_copyFault 31 = .ok (.goto 4, 3) := by decide +kernel
theorem dX10_copyFault_34 : decode cX10_copyFault 34 = .ok (.iconst 0, 1) := by decide +kernel
theorem dX10_copyFault_35 : decode cX10_copyFault 35 = .ok (.ireturn, 1) := by decide +kernel
