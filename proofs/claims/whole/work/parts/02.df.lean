/-! rows that decode: printed -/
theorem dX11_target_8 : decode cX11_target 8 = .ok (.iload_n 1, 1) := by decide +kernel
theorem dX11_target_9 : decode cX11_target 9 = .ok (.imul, 1) := by decide +kernel
theorem dX11_target_10 : decode cX11_target 10 = .ok (.iadd, 1) := by decide +kernel
theorem dX11_target_11 : decode cX11_target 11 = .ok (.iconst 2, 1) := by decide +kernel
theorem dX11_target_12 : decode cX11_target 12 = .ok (.iadd, 1) := by decide +kernel
theorem dX11_target_13 : decode cX11_target 13 = .ok (.iload_n 2, 1) := by decide +kernel
theorem dX11_target_14 : decode cX11_target 14 = .ok (.iadd, 1) := by decide +kernel
theorem dX11_target_15 : decode cX11_target 15 = .ok (.iaload, 1) := by decide +kernel
theorem dX11_target_16 : decode cX11_target 16 = .ok (.ireturn, 1) := by decide +kernel
theorem dX11_ofKind_0 : decode cX11_ofKind 0 = .ok (.iconst 0, 1) := by decide +kernel
theorem dX11_ofKind_1 : decode cX11_ofKind 1 = .ok (.istore_n 2, 1) := by decide +kernel
theorem dX11_ofKind_2 : decode cX11_ofKind 2 = .ok (.iconst 0, 1) := by decide +kernel
theorem dX11_ofKind_3 : decode cX11_ofKind 3 = .ok (.istore_n 3, 1) := by decide +kernel
theorem dX11_ofKind_4 : decode cX11_ofKind 4 = .ok (.iload_n 3, 1) := by decide +kernel
theorem dX11_ofKind_5 : decode cX11_ofKind 5 = .ok (.bipush 32, 2) := by decide +kernel
theorem dX11_ofKind_7 : decode cX11_ofKind 7 = .ok (.if_icmp .ge 29, 3) := by decide +kernel
theorem dX11_ofKind_10 : decode cX11_ofKind 10 = .ok (.iload_n 2, 1) := by decide +kernel
theorem dX11_ofKind_11 : decode cX11_ofKind 11 = .ok (.aload_n 0, 1) := by decide +kernel
theorem dX11_ofKind_12 : decode cX11_ofKind 12 = .ok (.iload_n 3, 1) := by decide +kernel
theorem dX11_ofKind_13 : decode cX11_ofKind 13 = .ok (.invokevirtual 156, 3) := by decide +kernel
theorem dX11_ofKind_16 : decode cX11_ofKind 16 = .ok (.iload_n 1, 1) := by decide +kernel
theorem dX11_ofKind_17 : decode cX11_ofKind 17 = .ok (.if_icmp .ne 7, 3) := by decide +kernel
theorem dX11_ofKind_20 : decode cX11_ofKind 20 = .ok (.iconst 1, 1) := by decide +kernel
theorem dX11_ofKind_21 : decode cX11_ofKind 21 = .ok (.goto 4, 3) := by decide +kernel
theorem dX11_ofKind_24 : decode cX11_ofKind 24 = .ok (.iconst 0, 1) := by decide +kernel
theorem dX11_ofKind_25 : decode cX11_ofKind 25 = .ok (.invokestatic 104, 3) := by decide +kernel
theorem dX11_ofKind_28 : decode cX11_ofKind 28 = .ok (.iadd, 1) := by decide +kernel
theorem dX11_ofKind_29 : decode cX11_ofKind 29 = .ok (.istore_n 2, 1) := by decide +kernel
theorem dX11_ofKind_30 : decode cX11_ofKind 30 = .ok (.iinc 3 1, 3) := by decide +kernel
theorem dX11_ofKind_33 : decode cX11_ofKind 33 = .ok (.goto (-29), 3) := by decide +kernel
theorem dX11_ofKind_36 : decode cX11_ofKind 36 = .ok (.iload_n 2, 1) := by decide +kernel
theorem dX11_ofKind_37 : decode cX11_ofKind 37 = .ok (.ireturn, 1) := by decide +kernel
theorem dX11_rule_0 : decode cX11_rule 0 = .ok (.iload_n 1, 1) := by decide +kernel
theorem dX11_rule_1 : decode cX11_rule 1 = .ok (.i2l, 1) := by decide +kernel
theorem dX11_rule_2 : decode cX11_rule 2 = .ok (.lconst 0, 1) := by decide +kernel
theorem dX11_rule_3 : decode cX11_rule 3 = .ok (.ldc2_w 159, 3) := by decide +kernel
theorem dX11_rule_6 : decode cX11_rule 6 = .ok (.invokestatic 52, 3) := by decide +kernel
theorem dX11_rule_9 : decode cX11_rule 9 = .ok (.ifCond .ne 5, 3) := by decide +kernel
theorem dX11_rule_12 : decode cX11_rule 12 = .ok (.iconst (-1), 1) := by decide +kernel
theorem dX11_rule_13 : decode cX11_rule 13 = .ok (.ireturn, 1) := by decide +kernel
theorem dX11_rule_14 : decode cX11_rule 14 = .ok (.iload_n 1, 1) := by decide +kernel
theorem dX11_rule_15 : decode cX11_rule 15 = .ok (.iconst 2, 1) := by decide +kernel
theorem dX11_rule_16 : decode cX11_rule 16 = .ok (.if_icmp .ge 10, 3) := by decide +kernel
theorem dX11_rule_19 : decode cX11_rule 19 = .ok (.aload_n 0, 1) := by decide +kernel
theorem dX11_rule_20 : decode cX11_rule 20 = .ok (.getfield 7, 3) := by decide +kernel
theorem dX11_rule_23 : decode cX11_rule 23 = .ok (.iload_n 1, 1) := by decide +kernel
theorem dX11_rule_24 : decode cX11_rule 24 = .ok (.iaload, 1) := by decide +kernel
theorem dX11_rule_25 : decode cX11_rule 25 = .ok (.ireturn, 1) := by decide +kernel
theorem dX11_rule_26 : decode cX11_rule 26 = .ok (.iload_n 1, 1) := by decide +kernel
theorem dX11_rule_27 : decode cX11_rule 27 = .ok (.iconst 5, 1) := by decide +kernel
theorem dX11_rule_28 : decode cX11_rule 28 = .ok (.if_icmp .ge 11, 3) := by decide +kernel
theorem dX11_rule_31 : decode cX11_rule 31 = .ok (.aload_n 0, 1) := by decide +kernel
theorem dX11_rule_32 : decode cX11_rule 32 = .ok (.iload_n 1, 1) := by decide +kernel
theorem dX11_rule_33 : decode cX11_rule 33 = .ok (.iconst 1, 1) := by decide +kernel
theorem dX11_rule_34 : decode cX11_rule 34 = .ok (.isub, 1) := by decide +kernel
theorem dX11_rule_35 : decode cX11_rule 35 = .ok (.invokevirtual 161, 3) := by decide +kernel
theorem dX11_rule_38 : decode cX11_rule 38 = .ok (.ireturn, 1) := by decide +kernel
theorem dX11_rule_39 : decode cX11_rule 39 = .ok (.iload_n 1, 1) := by decide +kernel
theorem dX11_rule_40 : decode cX11_rule 40 = .ok (.bipush 8, 2) := by decide +kernel
theorem dX11_rule_42 : decode cX11_rule 42 = .ok (.if_icmp .ge 14, 3) := by decide +kernel
theorem dX11_rule_45 : decode cX11_rule 45 = .ok (.aload_n 0, 1) := by decide +kernel
theorem dX11_rule_46 : decode cX11_rule 46 = .ok (.getfield 7, 3) := by decide +kernel
theorem dX11_rule_49 : decode cX11_rule 49 = .ok (.iconst 2, 1) := by decide +kernel
theorem dX11_rule_50 : decode cX11_rule 50 = .ok (.iload_n 1, 1) := by decide +kernel
theorem dX11_rule_51 : decode cX11_rule 51 = .ok (.iadd, 1) := by decide +kernel
theorem dX11_rule_52 : decode cX11_rule 52 = .ok (.iconst 5, 1) := by decide +kernel
theorem dX11_rule_53 : decode cX11_rule 53 = .ok (.isub, 1) := by decide +kernel
theorem dX11_rule_54 : decode cX11_rule 54 = .ok (.iaload, 1) := by decide +kernel
theorem dX11_rule_55 : decode cX11_rule 55 = .ok (.ireturn, 1) := by decide +kernel
theorem dX11_rule_56 : decode cX11_rule 56 = .ok (.iload_n 1, 1) := by decide +kernel
theorem dX11_rule_57 : decode cX11_rule 57 = .ok (.bipush 17, 2) := by decide +kernel
theorem dX11_rule_59 : decode cX11_rule 59 = .ok (.if_icmp .ne 13, 3) := by decide +kernel
theorem dX11_rule_62 : decode cX11_rule 62 = .ok (.aload_n 0, 1) := by decide +kernel
theorem dX11_rule_63 : decode cX11_rule 63 = .ok (.getfield 7, 3) := by decide +kernel
theorem dX11_rule_66 : decode cX11_rule 66 = .ok (.bipush 6, 2) := by decide +kernel
theorem dX11_rule_68 : decode cX11_rule 68 = .ok (.iaload, 1) := by decide +kernel
theorem dX11_rule_69 : decode cX11_rule 69 = .ok (.goto 15, 3) := by decide +kernel
theorem dX11_rule_72 : decode cX11_rule 72 = .ok (.aload_n 0, 1) := by decide +kernel
theorem dX11_rule_73 : decode cX11_rule 73 = .ok (.getfield 7, 3) := by decide +kernel
theorem dX11_rule_76 : decode cX11_rule 76 = .ok (.bipush 7, 2) := by decide +kernel
theorem dX11_rule_78 : decode cX11_rule 78 = .ok (.iload_n 1, 1) := by decide +kernel
theorem dX11_rule_79 : decode cX11_rule 79 = .ok (.iadd, 1) := by decide +kernel
theorem dX11_rule_80 : decode cX11_rule 80 = .ok (.bipush 8, 2) := by decide +kernel
theorem dX11_rule_82 : decode cX11_rule 82 = .ok (.isub, 1) := by decide +kernel
theorem dX11_rule_83 : decode cX11_rule 83 = .ok (.iaload, 1) := by decide +kernel
theorem dX11_rule_84 : decode cX11_rule 84 = .ok (.ireturn, 1) := by decide +kernel
theorem dX11_itemsIn_0 : decode cX11_itemsIn 0 = .ok (.iconst 0, 1) := by decide +kernel
theorem dX11_itemsIn_1 : decode cX11_itemsIn 1 = .ok (.istore_n 2, 1) := by decide +kernel
theorem dX11_itemsIn_2 : decode cX11_itemsIn 2 = .ok (.iconst 0, 1) := by decide +kernel
theorem dX11_itemsIn_3 : decode cX11_itemsIn 3 = .ok (.istore_n 3, 1) := by decide +kernel
theorem dX11_itemsIn_4 : decode cX11_itemsIn 4 = .ok (.iload_n 3, 1) := by decide +kernel
theorem dX11_itemsIn_5 : decode cX11_itemsIn 5 = .ok (.aload_n 0, 1) := by decide +kernel
theorem dX11_itemsIn_6 : decode cX11_itemsIn 6 = .ok (.getfield 7, 3) := by decide +kernel
theorem dX11_itemsIn_9 : decode cX11_itemsIn 9 = .ok (.iconst 4, 1) := by decide +kernel
theorem dX11_itemsIn_10 : decode cX11_itemsIn 10 = .ok (.iaload, 1) := by decide +kernel
theorem dX11_itemsIn_11 : decode cX11_itemsIn 11 = .ok (.if_icmp .ge 30, 3) := by decide +kernel
theorem dX11_itemsIn_14 : decode cX11_itemsIn 14 = .ok (.iload_n 2, 1) := by decide +kernel
theorem dX11_itemsIn_15 : decode cX11_itemsIn 15 = .ok (.aload_n 0, 1) := by decide +kernel
theorem dX11_itemsIn_16 : decode cX11_itemsIn 16 = .ok (.iload_n 3, 1) := by decide +kernel
theorem dX11_itemsIn_17 : decode cX11_itemsIn 17 = .ok (.iconst 0, 1) := by decide +kernel
theorem dX11_itemsIn_18 : decode cX11_itemsIn 18 = .ok (.invokevirtual 164, 3) := by decide +kernel
theorem dX11_itemsIn_21 : decode cX11_itemsIn 21 = .ok (.iload_n 1, 1) := by decide +kernel
theorem dX11_itemsIn_22 : decode cX11_itemsIn 22 = .ok (.if_icmp .ne 7, 3) := by decide +kernel
theorem dX11_itemsIn_25 : decode cX11_itemsIn 25 = .ok (.iconst 1, 1) := by decide +kernel
theorem dX11_itemsIn_26 : decode cX11_itemsIn 26 = .ok (.goto 4, 3) := by decide +kernel
theorem dX11_itemsIn_29 : decode cX11_itemsIn 29 = .ok (.iconst 0, 1) := by decide +kernel
theorem dX11_itemsIn_30 : decode cX11_itemsIn 30 = .ok (.invokestatic 104, 3) := by decide +kernel
theorem dX11_itemsIn_33 : decode cX11_itemsIn 33 = .ok (.iadd, 1) := by decide +kernel
theorem dX11_itemsIn_34 : decode cX11_itemsIn 34 = .ok (.istore_n 2, 1) := by decide +kernel
theorem dX11_itemsIn_35 : decode cX11_itemsIn 35 = .ok (.iinc 3 1, 3) := by decide +kernel
theorem dX11_itemsIn_38 : decode cX11_itemsIn 38 = .ok (.goto (-34), 3) := by decide +kernel
theorem dX11_itemsIn_41 : decode cX11_itemsIn 41 = .ok (.iload_n 2, 1) := by decide +kernel
theorem dX11_itemsIn_42 : decode cX11_itemsIn 42 = .ok (.ireturn, 1) := by decide +kernel
theorem dX11_passedIn_0 : decode cX11_passedIn 0 = .ok (.iconst 0, 1) := by decide +kernel
theorem dX11_passedIn_1 : decode cX11_passedIn 1 = .ok (.istore_n 2, 1) := by decide +kernel
theorem dX11_passedIn_2 : decode cX11_passedIn 2 = .ok (.iconst 0, 1) := by decide +kernel
theorem dX11_passedIn_3 : decode cX11_passedIn 3 = .ok (.istore_n 3, 1) := by decide +kernel
theorem dX11_passedIn_4 : decode cX11_passedIn 4 = .ok (.iload_n 3, 1) := by decide +kernel
theorem dX11_passedIn_5 : decode cX11_passedIn 5 = .ok (.aload_n 0, 1) := by decide +kernel
theorem dX11_passedIn_6 : decode cX11_passedIn 6 = .ok (.iload_n 1, 1) := by decide +kernel
theorem dX11_passedIn_7 : decode cX11_passedIn 7 = .ok (.invokevirtual 167, 3) := by decide +kernel
theorem dX11_passedIn_10 : decode cX11_passedIn 10 = .ok (.if_icmp .ge 19, 3) := by decide +kernel
theorem dX11_passedIn_13 : decode cX11_passedIn 13 = .ok (.iload_n 2, 1) := by decide +kernel
theorem dX11_passedIn_14 : decode cX11_passedIn 14 = .ok (.aload_n 0, 1) := by decide +kernel
theorem dX11_passedIn_15 : decode cX11_passedIn 15 = .ok (.iload_n 1, 1) := by decide +kernel
theorem dX11_passedIn_16 : decode cX11_passedIn 16 = .ok (.iload_n 3, 1) := by decide +kernel
theorem dX11_passedIn_17 : decode cX11_passedIn 17 = .ok (.iconst 4, 1) := by decide +kernel
theorem dX11_passedIn_18 : decode cX11_passedIn 18 = .ok (.invokevirtual 170, 3) := by decide +kernel
theorem dX11_passedIn_21 : decode cX11_passedIn 21 = .ok (.iadd, 1) := by decide +kernel
theorem dX11_passedIn_22 : decode cX11_passedIn 22 = .ok (.istore_n 2, 1) := by decide +kernel
theorem dX11_passedIn_23 : decode cX11_passedIn 23 = .ok (.iinc 3 1, 3) := by decide +kernel
theorem dX11_passedIn_26 : decode cX11_passedIn 26 = .ok (.goto (-22), 3) := by decide +kernel
theorem dX11_passedIn_29 : decode cX11_passedIn 29 = .ok (.iload_n 2, 1) := by decide +kernel
theorem dX11_passedIn_30 : decode cX11_passedIn 30 = .ok (.ireturn, 1) := by decide +kernel
theorem dX11_lastsOf_0 : decode cX11_lastsOf 0 = .ok (.iconst 0, 1) := by decide +kernel
theorem dX11_lastsOf_1 : decode cX11_lastsOf 1 = .ok (.istore_n 2, 1) := by decide +kernel
theorem dX11_lastsOf_2 : decode cX11_lastsOf 2 = .ok (.iconst 0, 1) := by decide +kernel
theorem dX11_lastsOf_3 : decode cX11_lastsOf 3 = .ok (.istore_n 3, 1) := by decide +kernel
theorem dX11_lastsOf_4 : decode cX11_lastsOf 4 = .ok (.iload_n 3, 1) := by decide +kernel
theorem dX11_lastsOf_5 : decode cX11_lastsOf 5 = .ok (.aload_n 0, 1) := by decide +kernel
theorem dX11_lastsOf_6 : decode cX11_lastsOf 6 = .ok (.getfield 7, 3) := by decide +kernel
theorem dX11_lastsOf_9 : decode cX11_lastsOf 9 = .ok (.iconst 1, 1) := by decide +kernel
theorem dX11_lastsOf_10 : decode cX11_lastsOf 10 = .ok (.iaload, 1) := by decide +kernel
theorem dX11_lastsOf_11 : decode cX11_lastsOf 11 = .ok (.if_icmp .ge 21, 3) := by decide +kernel
theorem dX11_lastsOf_14 : decode cX11_lastsOf 14 = .ok (.iload_n 2, 1) := by decide +kernel
theorem dX11_lastsOf_15 : decode cX11_lastsOf 15 = .ok (.aload_n 0, 1) := by decide +kernel
theorem dX11_lastsOf_16 : decode cX11_lastsOf 16 = .ok (.iload_n 1, 1) := by decide +kernel
theorem dX11_lastsOf_17 : decode cX11_lastsOf 17 = .ok (.iload_n 3, 1) := by decide +kernel
theorem dX11_lastsOf_18 : decode cX11_lastsOf 18 = .ok (.invokevirtual 173, 3) := by decide +kernel
theorem dX11_lastsOf_21 : decode cX11_lastsOf 21 = .ok (.invokestatic 104, 3) := by decide +kernel
theorem dX11_lastsOf_24 : decode cX11_lastsOf 24 = .ok (.iadd, 1) := by decide +kernel
theorem dX11_lastsOf_25 : decode cX11_lastsOf 25 = .ok (.istore_n 2, 1) := by decide +kernel
theorem dX11_lastsOf_26 : decode cX11_lastsOf 26 = .ok (.iinc 3 1, 3) := by decide +kernel
theorem dX11_lastsOf_29 : decode cX11_lastsOf 29 = .ok (.goto (-25), 3) := by decide +kernel
theorem dX11_lastsOf_32 : decode cX11_lastsOf 32 = .ok (.iload_n 2, 1) := by decide +kernel
theorem dX11_lastsOf_33 : decode cX11_lastsOf 33 = .ok (.ireturn, 1) := by decide +kernel
theorem dX11_house_0 : decode cX11_house 0 = .ok (.aload_n 0, 1) := by decide +kernel
theorem dX11_house_1 : decode cX11_house 1 = .ok (.iload_n 1, 1) := by decide +kernel
theorem dX11_house_2 : decode cX11_house 2 = .ok (.invokevirtual 177, 3) := by decide +kernel
theorem dX11_house_5 : decode cX11_house 5 = .ok (.ifCond .ne 5, 3) := by decide +kernel
theorem dX11_house_8 : decode cX11_house 8 = .ok (.iconst (-1), 1) := by decide +kernel
theorem dX11_house_9 : decode cX11_house 9 = .ok (.ireturn, 1) := by decide +kernel
theorem dX11_house_10 : decode cX11_house 10 = .ok (.iload_n 2, 1) := by decide +kernel
theorem dX11_house_11 : decode cX11_house 11 = .ok (.tableswitch 75 0 5 #[37, 37, 51, 57, 63, 69], 37) := by decide +kernel
theorem dX11_house_48 : decode cX11_house 48 = .ok (.aload_n 0, 1) := by decide +kernel
theorem dX11_house_49 : decode cX11_house 49 = .ok (.getfield 7, 3) := by decide +kernel
theorem dX11_house_52 : decode cX11_house 52 = .ok (.bipush 16, 2) := by decide +kernel
theorem dX11_house_54 : decode cX11_house 54 = .ok (.iconst 2, 1) := by decide +kernel
theorem dX11_house_55 : decode cX11_house 55 = .ok (.iload_n 1, 1) := by decide +kernel
theorem dX11_house_56 : decode cX11_house 56 = .ok (.imul, 1) := by decide +kernel
theorem dX11_house_57 : decode cX11_house 57 = .ok (.iadd, 1) := by decide +kernel
theorem dX11_house_58 : decode cX11_house 58 = .ok (.iload_n 2, 1) := by decide +kernel
theorem dX11_house_59 : decode cX11_house 59 = .ok (.iadd, 1) := by decide +kernel
theorem dX11_house_60 : decode cX11_house 60 = .ok (.iaload, 1) := by decide +kernel
theorem dX11_house_61 : decode cX11_house 61 = .ok (.ireturn, 1) := by decide +kernel
theorem dX11_house_62 : decode cX11_house 62 = .ok (.aload_n 0, 1) := by decide +kernel
theorem dX11_house_63 : decode cX11_house 63 = .ok (.iload_n 1, 1) := by decide +kernel
theorem dX11_house_64 : decode cX11_house 64 = .ok (.invokevirtual 181, 3) := by decide +kernel
theorem dX11_house_67 : decode cX11_house 67 = .ok (.ireturn, 1) := by decide +kernel
theorem dX11_house_68 : decode cX11_house 68 = .ok (.aload_n 0, 1) := by decide +kernel
theorem dX11_house_69 : decode cX11_house 69 = .ok (.iload_n 1, 1) := by decide +kernel
theorem dX11_house_70 : decode cX11_house 70 = .ok (.invokevirtual 167, 3) := by decide +kernel
theorem dX11_house_73 : decode cX11_house 73 = .ok (.ireturn, 1) := by decide +kernel
theorem dX11_house_74 : decode cX11_house 74 = .ok (.aload_n 0, 1) := by decide +kernel
theorem dX11_house_75 : decode cX11_house 75 = .ok (.iload_n 1, 1) := by decide +kernel
theorem dX11_house_76 : decode cX11_house 76 = .ok (.invokevirtual 184, 3) := by decide +kernel
theorem dX11_house_79 : decode cX11_house 79 = .ok (.ireturn, 1) := by decide +kernel
theorem dX11_house_80 : decode cX11_house 80 = .ok (.aload_n 0, 1) := by decide +kernel
theorem dX11_house_81 : decode cX11_house 81 = .ok (.iload_n 1, 1) := by decide +kernel
theorem dX11_house_82 : decode cX11_house 82 = .ok (.invokevirtual 187, 3) := by decide +kernel
theorem dX11_house_85 : decode cX11_house 85 = .ok (.ireturn, 1) := by decide +kernel
theorem dX11_house_86 : decode cX11_house 86 = .ok (.iconst (-1), 1) := by decide +kernel
theorem dX11_house_87 : decode cX11_house 87 = .ok (.ireturn, 1) := by decide +kernel
theorem dX11_receiver_0 : decode cX11_receiver 0 = .ok (.iload_n 1, 1) := by decide +kernel
theorem dX11_receiver_1 : decode cX11_receiver 1 = .ok (.i2l, 1) := by decide +kernel
theorem dX11_receiver_2 : decode cX11_receiver 2 = .ok (.lconst 0, 1) := by decide +kernel
theorem dX11_receiver_3 : decode cX11_receiver 3 = .ok (.aload_n 0, 1) := by decide +kernel
theorem dX11_receiver_4 : decode cX11_receiver 4 = .ok (.getfield 7, 3) := by decide +kernel
theorem dX11_receiver_7 : decode cX11_receiver 7 = .ok (.iconst 1, 1) := by decide +kernel
theorem dX11_receiver_8 : decode cX11_receiver 8 = .ok (.iaload, 1) := by decide +kernel
theorem dX11_receiver_9 : decode cX11_receiver 9 = .ok (.iconst 1, 1) := by decide +kernel
theorem dX11_receiver_10 : decode cX11_receiver 10 = .ok (.isub, 1) := by decide +kernel
theorem dX11_receiver_11 : decode cX11_receiver 11 = .ok (.i2l, 1) := by decide +kernel
theorem dX11_receiver_12 : decode cX11_receiver 12 = .ok (.invokestatic 52, 3) := by decide +kernel
theorem dX11_receiver_15 : decode cX11_receiver 15 = .ok (.ifCond .eq 19, 3) := by decide +kernel
theorem dX11_receiver_18 : decode cX11_receiver 18 = .ok (.iload_n 2, 1) := by decide +kernel
theorem dX11_receiver_19 : decode cX11_receiver 19 = .ok (.ifCond .lt 15, 3) := by decide +kernel
theorem dX11_receiver_22 : decode cX11_receiver 22 = .ok (.iload_n 3, 1) := by decide +kernel
theorem dX11_receiver_23 : decode cX11_receiver 23 = .ok (.i2l, 1) := by decide +kernel
theorem dX11_receiver_24 : decode cX11_receiver 24 = .ok (.lconst 0, 1) := by decide +kernel
theorem dX11_receiver_25 : decode cX11_receiver 25 = .ok (.ldc2_w 190, 3) := by decide +kernel
theorem dX11_receiver_28 : decode cX11_receiver 28 = .ok (.invokestatic 52, 3) := by decide +kernel
theorem dX11_receiver_31 : decode cX11_receiver 31 = .ok (.ifCond .ne 5, 3) := by decide +kernel
theorem dX11_receiver_34 : decode cX11_receiver 34 = .ok (.iconst (-1), 1) := by decide +kernel
theorem dX11_receiver_35 : decode cX11_receiver 35 = .ok (.ireturn, 1) := by decide +kernel
theorem dX11_receiver_36 : decode cX11_receiver 36 = .ok (.iload_n 2, 1) := by decide +kernel
theorem dX11_receiver_37 : decode cX11_receiver 37 = .ok (.aload_n 0, 1) := by decide +kernel
theorem dX11_receiver_38 : decode cX11_receiver 38 = .ok (.iload_n 1, 1) := by decide +kernel
theorem dX11_receiver_39 : decode cX11_receiver 39 = .ok (.invokevirtual 145, 3) := by decide +kernel
theorem dX11_receiver_42 : decode cX11_receiver 42 = .ok (.if_icmp .lt 6, 3) := by decide +kernel
theorem dX11_receiver_45 : decode cX11_receiver 45 = .ok (.bipush (-4), 2) := by decide +kernel
theorem dX11_receiver_47 : decode cX11_receiver 47 = .ok (.ireturn, 1) := by decide +kernel
theorem dX11_receiver_48 : decode cX11_receiver 48 = .ok (.iload_n 3, 1) := by decide +kernel
theorem dX11_receiver_49 : decode cX11_receiver 49 = .ok (.iconst 2, 1) := by decide +kernel
theorem dX11_receiver_50 : decode cX11_receiver 50 = .ok (.if_icmp .ge 13, 3) := by decide +kernel
theorem dX11_receiver_53 : decode cX11_receiver 53 = .ok (.aload_n 0, 1) := by decide +kernel
theorem dX11_receiver_54 : decode cX11_receiver 54 = .ok (.iload_n 1, 1) := by decide +kernel
theorem dX11_receiver_55 : decode cX11_receiver 55 = .ok (.iload_n 2, 1) := by decide +kernel
theorem dX11_receiver_56 : decode cX11_receiver 56 = .ok (.iload_n 3, 1) := by decide +kernel
theorem dX11_receiver_57 : decode cX11_receiver 57 = .ok (.invokevirtual 148, 3) := by decide +kernel
theorem dX11_receiver_60 : decode cX11_receiver 60 = .ok (.goto 18, 3) := by decide +kernel
theorem dX11_receiver_63 : decode cX11_receiver 63 = .ok (.aload_n 0, 1) := by decide +kernel
theorem dX11_receiver_64 : decode cX11_receiver 64 = .ok (.aload_n 0, 1) := by decide +kernel
theorem dX11_receiver_65 : decode cX11_receiver 65 = .ok (.iload_n 1, 1) := by decide +kernel
theorem dX11_receiver_66 : decode cX11_receiver 66 = .ok (.iload_n 2, 1) := by decide +kernel
theorem dX11_receiver_67 : decode cX11_receiver 67 = .ok (.iconst 0, 1) := by decide +kernel
theorem dX11_receiver_68 : decode cX11_receiver 68 = .ok (.invokevirtual 148, 3) := by decide +kernel
theorem dX11_receiver_71 : decode cX11_receiver 71 = .ok (.iload_n 1, 1) := by decide +kernel
theorem dX11_receiver_72 : decode cX11_receiver 72 = .ok (.invokevirtual 173, 3) := by decide +kernel
theorem dX11_receiver_75 : decode cX11_receiver 75 = .ok (.invokestatic 104, 3) := by decide +kernel
theorem dX11_receiver_78 : decode cX11_receiver 78 = .ok (.ireturn, 1) := by decide +kernel
theorem dX11_ofBox_0 : decode cX11_ofBox 0 = .ok (.aload_n 0, 1) := by decide +kernel
theorem dX11_ofBox_1 : decode cX11_ofBox 1 = .ok (.getfield 7, 3) := by decide +kernel
theorem dX11_ofBox_4 : decode cX11_ofBox 4 = .ok (.sipush 246, 3) := by decide +kernel
theorem dX11_ofBox_7 : decode cX11_ofBox 7 = .ok (.bipush 11, 2) := by decide +kernel
theorem dX11_ofBox_9 : decode cX11_ofBox 9 = .ok (.iload_n 1, 1) := by decide +kernel
theorem dX11_ofBox_10 : decode cX11_ofBox 10 = .ok (.imul, 1) := by decide +kernel
theorem dX11_ofBox_11 : decode cX11_ofBox 11 = .ok (.iadd, 1) := by decide +kernel
theorem dX11_ofBox_12 : decode cX11_ofBox 12 = .ok (.iload_n 2, 1) := by decide +kernel
theorem dX11_ofBox_13 : decode cX11_ofBox 13 = .ok (.iadd, 1) := by decide +kernel
theorem dX11_ofBox_14 : decode cX11_ofBox 14 = .ok (.iaload, 1) := by decide +kernel
theorem dX11_ofBox_15 : decode cX11_ofBox 15 = .ok (.ireturn, 1) := by decide +kernel
theorem dX11_address_0 : decode cX11_address 0 = .ok (.iload_n 1, 1) := by decide +kernel
theorem dX11_address_1 : decode cX11_address 1 = .ok (.invokestatic 192, 3) := by decide +kernel
theorem dX11_address_4 : decode cX11_address 4 = .ok (.ifCond .eq 15, 3) := by decide +kernel
theorem dX11_address_7 : decode cX11_address 7 = .ok (.iload_n 2, 1) := by decide +kernel
theorem dX11_address_8 : decode cX11_address 8 = .ok (.i2l, 1) := by decide +kernel
theorem dX11_address_9 : decode cX11_address 9 = .ok (.lconst 0, 1) := by decide +kernel
theorem dX11_address_10 : decode cX11_address 10 = .ok (.ldc2_w 195, 3) := by decide +kernel
theorem dX11_address_13 : decode cX11_address 13 = .ok (.invokestatic 52, 3) := by decide +kernel
theorem dX11_address_16 : decode cX11_address 16 = .ok (.ifCond .ne 5, 3) := by decide +kernel
theorem dX11_address_19 : decode cX11_address 19 = .ok (.iconst (-1), 1) := by decide +kernel
theorem dX11_address_20 : decode cX11_address 20 = .ok (.ireturn, 1) := by decide +kernel
theorem dX11_address_21 : decode cX11_address 21 = .ok (.iload_n 2, 1) := by decide +kernel
theorem dX11_address_22 : decode cX11_address 22 = .ok (.ifCond .ne 9, 3) := by decide +kernel
theorem dX11_address_25 : decode cX11_address 25 = .ok (.aload_n 0, 1) := by decide +kernel
theorem dX11_address_26 : decode cX11_address 26 = .ok (.iload_n 1, 1) := by decide +kernel
theorem dX11_address_27 : decode cX11_address 27 = .ok (.invokevirtual 156, 3) := by decide +kernel
theorem dX11_address_30 : decode cX11_address 30 = .ok (.ireturn, 1) := by decide +kernel
theorem dX11_address_31 : decode cX11_address 31 = .ok (.aload_n 0, 1) := by decide +kernel
theorem dX11_address_32 : decode cX11_address 32 = .ok (.iload_n 1, 1) := by decide +kernel
theorem dX11_address_33 : decode cX11_address 33 = .ok (.invokevirtual 156, 3) := by decide +kernel
theorem dX11_address_36 : decode cX11_address 36 = .ok (.iconst 1, 1) := by decide +kernel
theorem dX11_address_37 : decode cX11_address 37 = .ok (.if_icmp .eq 28, 3) := by decide +kernel
theorem dX11_address_40 : decode cX11_address 40 = .ok (.iload_n 2, 1) := by decide +kernel
theorem dX11_address_41 : decode cX11_address 41 = .ok (.iconst 1, 1) := by decide +kernel
theorem dX11_address_42 : decode cX11_address 42 = .ok (.if_icmp .ne 20, 3) := by decide +kernel
theorem dX11_address_45 : decode cX11_address 45 = .ok (.aload_n 0, 1) := by decide +kernel
theorem dX11_address_46 : decode cX11_address 46 = .ok (.iload_n 1, 1) := by decide +kernel
theorem dX11_address_47 : decode cX11_address 47 = .ok (.invokevirtual 156, 3) := by decide +kernel
theorem dX11_address_50 : decode cX11_address 50 = .ok (.iconst 3, 1) := by decide +kernel
theorem dX11_address_51 : decode cX11_address 51 = .ok (.if_icmp .ne 11, 3) := by decide +kernel
theorem dX11_address_54 : decode cX11_address 54 = .ok (.aload_n 0, 1) := by decide +kernel
theorem dX11_address_55 : decode cX11_address 55 = .ok (.iload_n 1, 1) := by decide +kernel
theorem dX11_address_56 : decode cX11_address 56 = .ok (.invokevirtual 197, 3) := by decide +kernel
theorem dX11_address_59 : decode cX11_address 59 = .ok (.goto 5, 3) := by decide +kernel
theorem dX11_address_62 : decode cX11_address 62 = .ok (.bipush (-4), 2) := by decide +kernel
theorem dX11_address_64 : decode cX11_address 64 = .ok (.ireturn, 1) := by decide +kernel
theorem dX11_address_65 : decode cX11_address 65 = .ok (.iload_n 2, 1) := by decide +kernel
theorem dX11_address_66 : decode cX11_address 66 = .ok (.iconst 1, 1) := by decide +kernel
theorem dX11_address_67 : decode cX11_address 67 = .ok (.if_icmp .ne 10, 3) := by decide +kernel
theorem dX11_address_70 : decode cX11_address 70 = .ok (.aload_n 0, 1) := by decide +kernel
theorem dX11_address_71 : decode cX11_address 71 = .ok (.iload_n 1, 1) := by decide +kernel
theorem dX11_address_72 : decode cX11_address 72 = .ok (.iconst 0, 1) := by decide +kernel
theorem dX11_address_73 : decode cX11_address 73 = .ok (.invokevirtual 200, 3) := by decide +kernel
theorem dX11_address_76 : decode cX11_address 76 = .ok (.ireturn, 1) := by decide +kernel
theorem dX11_address_77 : decode cX11_address 77 = .ok (.aload_n 0, 1) := by decide +kernel
theorem dX11_address_78 : decode cX11_address 78 = .ok (.iload_n 1, 1) := by decide +kernel
theorem dX11_address_79 : decode cX11_address 79 = .ok (.iconst 0, 1) := by decide +kernel
theorem dX11_address_80 : decode cX11_address 80 = .ok (.invokevirtual 200, 3) := by decide +kernel
theorem dX11_address_83 : decode cX11_address 83 = .ok (.ifCond .ne 8, 3) := by decide +kernel
theorem dX11_address_86 : decode cX11_address 86 = .ok (.bipush (-4), 2) := by decide +kernel
theorem dX11_address_88 : decode cX11_address 88 = .ok (.goto 30, 3) := by decide +kernel
theorem dX11_address_91 : decode cX11_address 91 = .ok (.iload_n 2, 1) := by decide +kernel
theorem dX11_address_92 : decode cX11_address 92 = .ok (.iconst 2, 1) := by decide +kernel
theorem dX11_address_93 : decode cX11_address 93 = .ok (.if_icmp .ne 19, 3) := by decide +kernel
theorem dX11_address_96 : decode cX11_address 96 = .ok (.aload_n 0, 1) := by decide +kernel
theorem dX11_address_97 : decode cX11_address 97 = .ok (.iload_n 1, 1) := by decide +kernel
theorem dX11_address_98 : decode cX11_address 98 = .ok (.iconst 2, 1) := by decide +kernel
theorem dX11_address_99 : decode cX11_address 99 = .ok (.aload_n 0, 1) := by decide +kernel
theorem dX11_address_100 : decode cX11_address 100 = .ok (.iload_n 1, 1) := by decide +kernel
theorem dX11_address_101 : decode cX11_address 101 = .ok (.iconst 2, 1) := by decide +kernel
theorem dX11_address_102 : decode cX11_address 102 = .ok (.invokevirtual 200, 3) := by decide +kernel
theorem dX11_address_105 : decode cX11_address 105 = .ok (.iadd, 1) := by decide +kernel
theorem dX11_address_106 : decode cX11_address 106 = .ok (.invokevirtual 200, 3) := by decide +kernel
theorem dX11_address_109 : decode cX11_address 109 = .ok (.goto 9, 3) := by decide +kernel
theorem dX11_address_112 : decode cX11_address 112 = .ok (.aload_n 0, 1) := by decide +kernel
theorem dX11_address_113 : decode cX11_address 113 = .ok (.iload_n 1, 1) := by decide +kernel
theorem dX11_address_114 : decode cX11_address 114 = .ok (.iconst 1, 1) := by decide +kernel
theorem dX11_address_115 : decode cX11_address 115 = .ok (.invokevirtual 200, 3) := by decide +kernel
theorem dX11_address_118 : decode cX11_address 118 = .ok (.ireturn, 1) := by decide +kernel
theorem dX11_leads_0 : decode cX11_leads 0 = .ok (.iload_n 1, 1) := by decide +kernel
theorem dX11_leads_1 : decode cX11_leads 1 = .ok (.invokestatic 192, 3) := by decide +kernel
theorem dX11_leads_4 : decode cX11_leads 4 = .ok (.ifCond .eq 7, 3) := by decide +kernel
theorem dX11_leads_7 : decode cX11_leads 7 = .ok (.iload_n 2, 1) := by decide +kernel
theorem dX11_leads_8 : decode cX11_leads 8 = .ok (.ifCond .ge 5, 3) := by decide +kernel
theorem dX11_leads_11 : decode cX11_leads 11 = .ok (.iconst (-1), 1) := by decide +kernel
theorem dX11_leads_12 : decode cX11_leads 12 = .ok (.ireturn, 1) := by decide +kernel
theorem dX11_leads_13 : decode cX11_leads 13 = .ok (.iload_n 2, 1) := by decide +kernel
theorem dX11_leads_14 : decode cX11_leads 14 = .ok (.aload_n 0, 1) := by decide +kernel
theorem dX11_leads_15 : decode cX11_leads 15 = .ok (.iload_n 1, 1) := by decide +kernel
theorem dX11_leads_16 : decode cX11_leads 16 = .ok (.invokevirtual 197, 3) := by decide +kernel
theorem dX11_leads_19 : decode cX11_leads 19 = .ok (.if_icmp .ge 12, 3) := by decide +kernel
theorem dX11_leads_22 : decode cX11_leads 22 = .ok (.aload_n 0, 1) := by decide +kernel
theorem dX11_leads_23 : decode cX11_leads 23 = .ok (.iload_n 1, 1) := by decide +kernel
theorem dX11_leads_24 : decode cX11_leads 24 = .ok (.iload_n 2, 1) := by decide +kernel
theorem dX11_leads_25 : decode cX11_leads 25 = .ok (.invokevirtual 203, 3) := by decide +kernel
theorem dX11_leads_28 : decode cX11_leads 28 = .ok (.goto 5, 3) := by decide +kernel
theorem dX11_leads_31 : decode cX11_leads 31 = .ok (.bipush (-4), 2) := by decide +kernel
theorem dX11_leads_33 : decode cX11_leads 33 = .ok (.ireturn, 1) := by decide +kernel
theorem dX11_reaches_0 : decode cX11_reaches 0 = .ok (.iload_n 1, 1) := by decide +kernel
theorem dX11_reaches_1 : decode cX11_reaches 1 = .ok (.invokestatic 192, 3) := by decide +kernel
theorem dX11_reaches_4 : decode cX11_reaches 4 = .ok (.ifCond .eq 7, 3) := by decide +kernel
theorem dX11_reaches_7 : decode cX11_reaches 7 = .ok (.iload_n 2, 1) := by decide +kernel
theorem dX11_reaches_8 : decode cX11_reaches 8 = .ok (.ifCond .ge 5, 3) := by decide +kernel
theorem dX11_reaches_11 : decode cX11_reaches 11 = .ok (.iconst (-1), 1) := by decide +kernel
theorem dX11_reaches_12 : decode cX11_reaches 12 = .ok (.ireturn, 1) := by decide +kernel
theorem dX11_reaches_13 : decode cX11_reaches 13 = .ok (.iconst 0, 1) := by decide +kernel
theorem dX11_reaches_14 : decode cX11_reaches 14 = .ok (.istore_n 3, 1) := by decide +kernel
theorem dX11_reaches_15 : decode cX11_reaches 15 = .ok (.iload_n 3, 1) := by decide +kernel
theorem dX11_reaches_16 : decode cX11_reaches 16 = .ok (.bipush 32, 2) := by decide +kernel
theorem dX11_reaches_18 : decode cX11_reaches 18 = .ok (.if_icmp .ge 25, 3) := by decide +kernel
theorem dX11_reaches_21 : decode cX11_reaches 21 = .ok (.aload_n 0, 1) := by decide +kernel
theorem dX11_reaches_22 : decode cX11_reaches 22 = .ok (.getfield 29, 3) := by decide +kernel
theorem dX11_reaches_25 : decode cX11_reaches 25 = .ok (.iload_n 3, 1) := by decide +kernel
theorem dX11_reaches_26 : decode cX11_reaches 26 = .ok (.iload_n 3, 1) := by decide +kernel
theorem dX11_reaches_27 : decode cX11_reaches 27 = .ok (.iload_n 1, 1) := by decide +kernel
theorem dX11_reaches_28 : decode cX11_reaches 28 = .ok (.if_icmp .ne 7, 3) := by decide +kernel
theorem dX11_reaches_31 : decode cX11_reaches 31 = .ok (.iconst 1, 1) := by decide +kernel
theorem dX11_reaches_32 : decode cX11_reaches 32 = .ok (.goto 4, 3) := by decide +kernel
theorem dX11_reaches_35 : decode cX11_reaches 35 = .ok (.iconst 0, 1) := by decide +kernel
theorem dX11_reaches_36 : decode cX11_reaches 36 = .ok (.bastore, 1) := by decide +kernel
theorem dX11_reaches_37 : decode cX11_reaches 37 = .ok (.iinc 3 1, 3) := by decide +kernel
theorem dX11_reaches_40 : decode cX11_reaches 40 = .ok (.goto (-25), 3) := by decide +kernel
theorem dX11_reaches_43 : decode cX11_reaches 43 = .ok (.iconst 1, 1) := by decide +kernel
theorem dX11_reaches_44 : decode cX11_reaches 44 = .ok (.istore_n 3, 1) := by decide +kernel
theorem dX11_reaches_45 : decode cX11_reaches 45 = .ok (.iload_n 3, 1) := by decide +kernel
theorem dX11_reaches_46 : decode cX11_reaches 46 = .ok (.ifCond .eq 94, 3) := by decide +kernel
theorem dX11_reaches_49 : decode cX11_reaches 49 = .ok (.iconst 0, 1) := by decide +kernel
theorem dX11_reaches_50 : decode cX11_reaches 50 = .ok (.istore_n 3, 1) := by decide +kernel
theorem dX11_reaches_51 : decode cX11_reaches 51 = .ok (.iconst 0, 1) := by decide +kernel
theorem dX11_reaches_52 : decode cX11_reaches 52 = .ok (.istore 4, 2) := by decide +kernel
theorem dX11_reaches_54 : decode cX11_reaches 54 = .ok (.iload 4, 2) := by decide +kernel
theorem dX11_reaches_56 : decode cX11_reaches 56 = .ok (.bipush 32, 2) := by decide +kernel
theorem dX11_reaches_58 : decode cX11_reaches 58 = .ok (.if_icmp .ge 79, 3) := by decide +kernel
theorem dX11_reaches_61 : decode cX11_reaches 61 = .ok (.iconst 0, 1) := by decide +kernel
theorem dX11_reaches_62 : decode cX11_reaches 62 = .ok (.istore 5, 2) := by decide +kernel
theorem dX11_reaches_64 : decode cX11_reaches 64 = .ok (.iload 5, 2) := by decide +kernel
theorem dX11_reaches_66 : decode cX11_reaches 66 = .ok (.aload_n 0, 1) := by decide +kernel
theorem dX11_reaches_67 : decode cX11_reaches 67 = .ok (.iload 4, 2) := by decide +kernel
theorem dX11_reaches_69 : decode cX11_reaches 69 = .ok (.invokevirtual 197, 3) := by decide +kernel
theorem dX11_reaches_72 : decode cX11_reaches 72 = .ok (.if_icmp .ge 59, 3) := by decide +kernel
theorem dX11_reaches_75 : decode cX11_reaches 75 = .ok (.aload_n 0, 1) := by decide +kernel
theorem dX11_reaches_76 : decode cX11_reaches 76 = .ok (.getfield 29, 3) := by decide +kernel
theorem dX11_reaches_79 : decode cX11_reaches 79 = .ok (.iload 4, 2) := by decide +kernel
theorem dX11_reaches_81 : decode cX11_reaches 81 = .ok (.baload, 1) := by decide +kernel
theorem dX11_reaches_82 : decode cX11_reaches 82 = .ok (.ifCond .eq 49, 3) := by decide +kernel
theorem dX11_reaches_85 : decode cX11_reaches 85 = .ok (.iload_n 3, 1) := by decide +kernel
theorem dX11_reaches_86 : decode cX11_reaches 86 = .ok (.ifCond .ne 19, 3) := by decide +kernel
theorem dX11_reaches_89 : decode cX11_reaches 89 = .ok (.aload_n 0, 1) := by decide +kernel
theorem dX11_reaches_90 : decode cX11_reaches 90 = .ok (.getfield 29, 3) := by decide +kernel
theorem dX11_reaches_93 : decode cX11_reaches 93 = .ok (.aload_n 0, 1) := by decide +kernel
theorem dX11_reaches_94 : decode cX11_reaches 94 = .ok (.iload 4, 2) := by decide +kernel
theorem dX11_reaches_96 : decode cX11_reaches 96 = .ok (.iload 5, 2) := by decide +kernel
theorem dX11_reaches_98 : decode cX11_reaches 98 = .ok (.invokevirtual 203, 3) := by decide +kernel
theorem dX11_reaches_101 : decode cX11_reaches 101 = .ok (.baload, 1) := by decide +kernel
theorem dX11_reaches_102 : decode cX11_reaches 102 = .ok (.ifCond .ne 7, 3) := by decide +kernel
theorem dX11_reaches_105 : decode cX11_reaches 105 = .ok (.iconst 1, 1) := by decide +kernel
theorem dX11_reaches_106 : decode cX11_reaches 106 = .ok (.goto 4, 3) := by decide +kernel
theorem dX11_reaches_109 : decode cX11_reaches 109 = .ok (.iconst 0, 1) := by decide +kernel
theorem dX11_reaches_110 : decode cX11_reaches 110 = .ok (.istore_n 3, 1) := by decide +kernel
theorem dX11_reaches_111 : decode cX11_reaches 111 = .ok (.aload_n 0, 1) := by decide +kernel
theorem dX11_reaches_112 : decode cX11_reaches 112 = .ok (.getfield 29, 3) := by decide +kernel
theorem dX11_reaches_115 : decode cX11_reaches 115 = .ok (.aload_n 0, 1) := by decide +kernel
theorem dX11_reaches_116 : decode cX11_reaches 116 = .ok (.iload 4, 2) := by decide +kernel
theorem dX11_reaches_118 : decode cX11_reaches 118 = .ok (.iload 5, 2) := by decide +kernel
theorem dX11_reaches_120 : decode cX11_reaches 120 = .ok (.invokevirtual 203, 3) := by decide +kernel
theorem dX11_reaches_123 : decode cX11_reaches 123 = .ok (.iconst 1, 1) := by decide +kernel
theorem dX11_reaches_124 : decode cX11_reaches 124 = .ok (.bastore, 1) := by decide +kernel
theorem dX11_reaches_125 : decode cX11_reaches 125 = .ok (.iinc 5 1, 3) := by decide +kernel
theorem dX11_reaches_128 : decode cX11_reaches 128 = .ok (.goto (-64), 3) := by decide +kernel
theorem dX11_reaches_131 : decode cX11_reaches 131 = .ok (.iinc 4 1, 3) := by decide +kernel
theorem dX11_reaches_134 : decode cX11_reaches 134 = .ok (.goto (-80), 3) := by decide +kernel
theorem dX11_reaches_137 : decode cX11_reaches 137 = .ok (.goto (-92), 3) := by decide +kernel
theorem dX11_reaches_140 : decode cX11_reaches 140 = .ok (.iload_n 2, 1) := by decide +kernel
theorem dX11_reaches_141 : decode cX11_reaches 141 = .ok (.istore 4, 2) := by decide +kernel
theorem dX11_reaches_143 : decode cX11_reaches 143 = .ok (.iconst 0, 1) := by decide +kernel
theorem dX11_reaches_144 : decode cX11_reaches 144 = .ok (.istore 5, 2) := by decide +kernel
theorem dX11_reaches_146 : decode cX11_reaches 146 = .ok (.iload 5, 2) := by decide +kernel
theorem dX11_reaches_148 : decode cX11_reaches 148 = .ok (.bipush 32, 2) := by decide +kernel
theorem dX11_reaches_150 : decode cX11_reaches 150 = .ok (.if_icmp .ge 40, 3) := by decide +kernel
theorem dX11_reaches_153 : decode cX11_reaches 153 = .ok (.aload_n 0, 1) := by decide +kernel
theorem dX11_reaches_154 : decode cX11_reaches 154 = .ok (.getfield 29, 3) := by decide +kernel
theorem dX11_reaches_157 : decode cX11_reaches 157 = .ok (.iload 5, 2) := by decide +kernel
theorem dX11_reaches_159 : decode cX11_reaches 159 = .ok (.baload, 1) := by decide +kernel
theorem dX11_reaches_160 : decode cX11_reaches 160 = .ok (.ifCond .eq 24, 3) := by decide +kernel
theorem dX11_reaches_163 : decode cX11_reaches 163 = .ok (.aload_n 0, 1) := by decide +kernel
theorem dX11_reaches_164 : decode cX11_reaches 164 = .ok (.iload 5, 2) := by decide +kernel
theorem dX11_reaches_166 : decode cX11_reaches 166 = .ok (.invokevirtual 156, 3) := by decide +kernel
theorem dX11_reaches_169 : decode cX11_reaches 169 = .ok (.iconst 1, 1) := by decide +kernel
theorem dX11_reaches_170 : decode cX11_reaches 170 = .ok (.if_icmp .ne 14, 3) := by decide +kernel
theorem dX11_reaches_173 : decode cX11_reaches 173 = .ok (.iload 4, 2) := by decide +kernel
theorem dX11_reaches_175 : decode cX11_reaches 175 = .ok (.ifCond .ne 6, 3) := by decide +kernel
theorem dX11_reaches_178 : decode cX11_reaches 178 = .ok (.iload 5, 2) := by decide +kernel
theorem dX11_reaches_180 : decode cX11_reaches 180 = .ok (.ireturn, 1) := by decide +kernel
theorem dX11_reaches_181 : decode cX11_reaches 181 = .ok (.iinc 4 (-1), 3) := by decide +kernel
theorem dX11_reaches_184 : decode cX11_reaches 184 = .ok (.iinc 5 1, 3) := by decide +kernel
theorem dX11_reaches_187 : decode cX11_reaches 187 = .ok (.goto (-41), 3) := by decide +kernel
theorem dX11_reaches_190 : decode cX11_reaches 190 = .ok (.bipush (-4), 2) := by decide +kernel
theorem dX11_reaches_192 : decode cX11_reaches 192 = .ok (.ireturn, 1) := by decide +kernel
theorem dX11_ofItem_0 : decode cX11_ofItem 0 = .ok (.aload_n 0, 1) := by decide +kernel
theorem dX11_ofItem_1 : decode cX11_ofItem 1 = .ok (.getfield 7, 3) := by decide +kernel
theorem dX11_ofItem_4 : decode cX11_ofItem 4 = .ok (.sipush 803, 3) := by decide +kernel
theorem dX11_ofItem_7 : decode cX11_ofItem 7 = .ok (.bipush 8, 2) := by decide +kernel
theorem dX11_ofItem_9 : decode cX11_ofItem 9 = .ok (.iload_n 1, 1) := by decide +kernel
theorem dX11_ofItem_10 : decode cX11_ofItem 10 = .ok (.imul, 1) := by decide +kernel
theorem dX11_ofItem_11 : decode cX11_ofItem 11 = .ok (.iadd, 1) := by decide +kernel
theorem dX11_ofItem_12 : decode cX11_ofItem 12 = .ok (.iload_n 2, 1) := by decide +kernel
theorem dX11_ofItem_13 : decode cX11_ofItem 13 = .ok (.iadd, 1) := by decide +kernel
theorem dX11_ofItem_14 : decode cX11_ofItem 14 = .ok (.iaload, 1) := by decide +kernel
theorem dX11_ofItem_15 : decode cX11_ofItem 15 = .ok (.ireturn, 1) := by decide +kernel
theorem dX11_lays_0 : decode cX11_lays 0 = .ok (.aload_n 0, 1) := by decide +kernel
theorem dX11_lays_1 : decode cX11_lays 1 = .ok (.getfield 7, 3) := by decide +kernel
theorem dX11_lays_4 : decode cX11_lays 4 = .ok (.sipush 803, 3) := by decide +kernel
theorem dX11_lays_7 : decode cX11_lays 7 = .ok (.bipush 8, 2) := by decide +kernel
theorem dX11_lays_9 : decode cX11_lays 9 = .ok (.iload_n 1, 1) := by decide +kernel
theorem dX11_lays_10 : decode cX11_lays 10 = .ok (.imul, 1) := by decide +kernel
theorem dX11_lays_11 : decode cX11_lays 11 = .ok (.iadd, 1) := by decide +kernel
theorem dX11_lays_12 : decode cX11_lays 12 = .ok (.iload_n 2, 1) := by decide +kernel
theorem dX11_lays_13 : decode cX11_lays 13 = .ok (.iadd, 1) := by decide +kernel
theorem dX11_lays_14 : decode cX11_lays 14 = .ok (.iload_n 3, 1) := by decide +kernel
theorem dX11_lays_15 : decode cX11_lays 15 = .ok (.iastore, 1) := by decide +kernel
theorem dX11_lays_16 : decode cX11_lays 16 = .ok (.return_, 1) := by decide +kernel
theorem dX11_comes_0 : decode cX11_comes 0 = .ok (.aload_n 0, 1) := by decide +kernel
theorem dX11_comes_1 : decode cX11_comes 1 = .ok (.getfield 7, 3) := by decide +kernel
theorem dX11_comes_4 : decode cX11_comes 4 = .ok (.iconst 4, 1) := by decide +kernel
theorem dX11_comes_5 : decode cX11_comes 5 = .ok (.iaload, 1) := by decide +kernel
theorem dX11_comes_6 : decode cX11_comes 6 = .ok (.istore 7, 2) := by decide +kernel
theorem dX11_comes_8 : decode cX11_comes 8 = .ok (.aload_n 0, 1) := by decide +kernel
theorem dX11_comes_9 : decode cX11_comes 9 = .ok (.iload 7, 2) := by decide +kernel
theorem dX11_comes_11 : decode cX11_comes 11 = .ok (.iconst 0, 1) := by decide +kernel
theorem dX11_comes_12 : decode cX11_comes 12 = .ok (.iload_n 1, 1) := by decide +kernel
theorem dX11_comes_13 : decode cX11_comes 13 = .ok (.invokevirtual 206, 3) := by decide +kernel
theorem dX11_comes_16 : decode cX11_comes 16 = .ok (.aload_n 0, 1) := by decide +kernel
theorem dX11_comes_17 : decode cX11_comes 17 = .ok (.iload 7, 2) := by decide +kernel
theorem dX11_comes_19 : decode cX11_comes 19 = .ok (.iconst 1, 1) := by decide +kernel
theorem dX11_comes_20 : decode cX11_comes 20 = .ok (.iload_n 2, 1) := by decide +kernel
theorem dX11_comes_21 : decode cX11_comes 21 = .ok (.invokevirtual 206, 3) := by decide +kernel
theorem dX11_comes_24 : decode cX11_comes 24 = .ok (.aload_n 0, 1) := by decide +kernel
theorem dX11_comes_25 : decode cX11_comes 25 = .ok (.iload 7, 2) := by decide +kernel
theorem dX11_comes_27 : decode cX11_comes 27 = .ok (.iconst 2, 1) := by decide +kernel
theorem dX11_comes_28 : decode cX11_comes 28 = .ok (.iload_n 3, 1) := by decide +kernel
theorem dX11_comes_29 : decode cX11_comes 29 = .ok (.invokevirtual 206, 3) := by decide +kernel
theorem dX11_comes_32 : decode cX11_comes 32 = .ok (.aload_n 0, 1) := by decide +kernel
theorem dX11_comes_33 : decode cX11_comes 33 = .ok (.iload 7, 2) := by decide +kernel
theorem dX11_comes_35 : decode cX11_comes 35 = .ok (.iconst 3, 1) := by decide +kernel
theorem dX11_comes_36 : decode cX11_comes 36 = .ok (.iload 4, 2) := by decide +kernel
theorem dX11_comes_38 : decode cX11_comes 38 = .ok (.invokevirtual 206, 3) := by decide +kernel
theorem dX11_comes_41 : decode cX11_comes 41 = .ok (.aload_n 0, 1) := by decide +kernel
theorem dX11_comes_42 : decode cX11_comes 42 = .ok (.iload 7, 2) := by decide +kernel
theorem dX11_comes_44 : decode cX11_comes 44 = .ok (.iconst 4, 1) := by decide +kernel
theorem dX11_comes_45 : decode cX11_comes 45 = .ok (.iconst 0, 1) := by decide +kernel
theorem dX11_comes_46 : decode cX11_comes 46 = .ok (.invokevirtual 206, 3) := by decide +kernel
theorem dX11_comes_49 : decode cX11_comes 49 = .ok (.aload_n 0, 1) := by decide +kernel
theorem dX11_comes_50 : decode cX11_comes 50 = .ok (.iload 7, 2) := by decide +kernel
theorem dX11_comes_52 : decode cX11_comes 52 = .ok (.iconst 5, 1) := by decide +kernel
theorem dX11_comes_53 : decode cX11_comes 53 = .ok (.iload 5, 2) := by decide +kernel
theorem dX11_comes_55 : decode cX11_comes 55 = .ok (.invokevirtual 206, 3) := by decide +kernel
theorem dX11_comes_58 : decode cX11_comes 58 = .ok (.aload_n 0, 1) := by decide +kernel
theorem dX11_comes_59 : decode cX11_comes 59 = .ok (.iload 7, 2) := by decide +kernel
theorem dX11_comes_61 : decode cX11_comes 61 = .ok (.bipush 6, 2) := by decide +kernel
theorem dX11_comes_63 : decode cX11_comes 63 = .ok (.aload_n 0, 1) := by decide +kernel
theorem dX11_comes_64 : decode cX11_comes 64 = .ok (.getfield 7, 3) := by decide +kernel
theorem dX11_comes_67 : decode cX11_comes 67 = .ok (.iconst 2, 1) := by decide +kernel
theorem dX11_comes_68 : decode cX11_comes 68 = .ok (.iaload, 1) := by decide +kernel
theorem dX11_comes_69 : decode cX11_comes 69 = .ok (.iconst 1, 1) := by decide +kernel
theorem dX11_comes_70 : decode cX11_comes 70 = .ok (.iadd, 1) := by decide +kernel
theorem dX11_comes_71 : decode cX11_comes 71 = .ok (.invokevirtual 206, 3) := by decide +kernel
theorem dX11_comes_74 : decode cX11_comes 74 = .ok (.aload_n 0, 1) := by decide +kernel
theorem dX11_comes_75 : decode cX11_comes 75 = .ok (.iload 7, 2) := by decide +kernel
theorem dX11_comes_77 : decode cX11_comes 77 = .ok (.bipush 7, 2) := by decide +kernel
theorem dX11_comes_79 : decode cX11_comes 79 = .ok (.iload 6, 2) := by decide +kernel
theorem dX11_comes_81 : decode cX11_comes 81 = .ok (.invokevirtual 206, 3) := by decide +kernel
theorem dX11_comes_84 : decode cX11_comes 84 = .ok (.aload_n 0, 1) := by decide +kernel
theorem dX11_comes_85 : decode cX11_comes 85 = .ok (.getfield 7, 3) := by decide +kernel
theorem dX11_comes_88 : decode cX11_comes 88 = .ok (.iconst 4, 1) := by decide +kernel
theorem dX11_comes_89 : decode cX11_comes 89 = .ok (.dup2, 1) := by decide +kernel
theorem dX11_comes_90 : decode cX11_comes 90 = .ok (.iaload, 1) := by decide +kernel
theorem dX11_comes_91 : decode cX11_comes 91 = .ok (.iconst 1, 1) := by decide +kernel
theorem dX11_comes_92 : decode cX11_comes 92 = .ok (.iadd, 1) := by decide +kernel
theorem dX11_comes_93 : decode cX11_comes 93 = .ok (.iastore, 1) := by decide +kernel
theorem dX11_comes_94 : decode cX11_comes 94 = .ok (.return_, 1) := by decide +kernel
theorem dX11_leaves_0 : decode cX11_leaves 0 = .ok (.sipush 803, 3) := by decide +kernel
theorem dX11_leaves_3 : decode cX11_leaves 3 = .ok (.bipush 8, 2) := by decide +kernel
theorem dX11_leaves_5 : decode cX11_leaves 5 = .ok (.iload_n 1, 1) := by decide +kernel
theorem dX11_leaves_6 : decode cX11_leaves 6 = .ok (.imul, 1) := by decide +kernel
theorem dX11_leaves_7 : decode cX11_leaves 7 = .ok (.iadd, 1) := by decide +kernel
theorem dX11_leaves_8 : decode cX11_leaves 8 = .ok (.istore_n 2, 1) := by decide +kernel
theorem dX11_leaves_9 : decode cX11_leaves 9 = .ok (.iload_n 2, 1) := by decide +kernel
theorem dX11_leaves_10 : decode cX11_leaves 10 = .ok (.sipush 803, 3) := by decide +kernel
theorem dX11_leaves_13 : decode cX11_leaves 13 = .ok (.bipush 8, 2) := by decide +kernel
theorem dX11_leaves_15 : decode cX11_leaves 15 = .ok (.aload_n 0, 1) := by decide +kernel
theorem dX11_leaves_16 : decode cX11_leaves 16 = .ok (.getfield 7, 3) := by decide +kernel
theorem dX11_leaves_19 : decode cX11_leaves 19 = .ok (.iconst 4, 1) := by decide +kernel
theorem dX11_leaves_20 : decode cX11_leaves 20 = .ok (.iaload, 1) := by decide +kernel
theorem dX11_leaves_21 : decode cX11_leaves 21 = .ok (.iconst 1, 1) := by decide +kernel
theorem dX11_leaves_22 : decode cX11_leaves 22 = .ok (.isub, 1) := by decide +kernel
theorem dX11_leaves_23 : decode cX11_leaves 23 = .ok (.imul, 1) := by decide +kernel
theorem dX11_leaves_24 : decode cX11_leaves 24 = .ok (.iadd, 1) := by decide +kernel
theorem dX11_leaves_25 : decode cX11_leaves 25 = .ok (.if_icmp .ge 24, 3) := by decide +kernel
theorem dX11_leaves_28 : decode cX11_leaves 28 = .ok (.aload_n 0, 1) := by decide +kernel
theorem dX11_leaves_29 : decode cX11_leaves 29 = .ok (.getfield 7, 3) := by decide +kernel
theorem dX11_leaves_32 : decode cX11_leaves 32 = .ok (.iload_n 2, 1) := by decide +kernel
theorem dX11_leaves_33 : decode cX11_leaves 33 = .ok (.aload_n 0, 1) := by decide +kernel
theorem dX11_leaves_34 : decode cX11_leaves 34 = .ok (.getfield 7, 3) := by decide +kernel
theorem dX11_leaves_37 : decode cX11_leaves 37 = .ok (.iload_n 2, 1) := by decide +kernel
theorem dX11_leaves_38 : decode cX11_leaves 38 = .ok (.bipush 8, 2) := by decide +kernel
theorem dX11_leaves_40 : decode cX11_leaves 40 = .ok (.iadd, 1) := by decide +kernel
theorem dX11_leaves_41 : decode cX11_leaves 41 = .ok (.iaload, 1) := by decide +kernel
theorem dX11_leaves_42 : decode cX11_leaves 42 = .ok (.iastore, 1) := by decide +kernel
theorem dX11_leaves_43 : decode cX11_leaves 43 = .ok (.iinc 2 1, 3) := by decide +kernel
theorem dX11_leaves_46 : decode cX11_leaves 46 = .ok (.goto (-37), 3) := by decide +kernel
theorem dX11_leaves_49 : decode cX11_leaves 49 = .ok (.aload_n 0, 1) := by decide +kernel
theorem dX11_leaves_50 : decode cX11_leaves 50 = .ok (.getfield 7, 3) := by decide +kernel
theorem dX11_leaves_53 : decode cX11_leaves 53 = .ok (.iconst 4, 1) := by decide +kernel
theorem dX11_leaves_54 : decode cX11_leaves 54 = .ok (.dup2, 1) := by decide +kernel
theorem dX11_leaves_55 : decode cX11_leaves 55 = .ok (.iaload, 1) := by decide +kernel
theorem dX11_leaves_56 : decode cX11_leaves 56 = .ok (.iconst 1, 1) := by decide +kernel
theorem dX11_leaves_57 : decode cX11_leaves 57 = .ok (.isub, 1) := by decide +kernel
theorem dX11_leaves_58 : decode cX11_leaves 58 = .ok (.iastore, 1) := by decide +kernel
theorem dX11_leaves_59 : decode cX11_leaves 59 = .ok (.return_, 1) := by decide +kernel
theorem dX11_logs_0 : decode cX11_logs 0 = .ok (.aload_n 0, 1) := by decide +kernel
theorem dX11_logs_1 : decode cX11_logs 1 = .ok (.getfield 7, 3) := by decide +kernel
theorem dX11_logs_4 : decode cX11_logs 4 = .ok (.iconst 5, 1) := by decide +kernel
theorem dX11_logs_5 : decode cX11_logs 5 = .ok (.iaload, 1) := by decide +kernel
theorem dX11_logs_6 : decode cX11_logs 6 = .ok (.bipush 60, 2) := by decide +kernel
theorem dX11_logs_8 : decode cX11_logs 8 = .ok (.if_icmp .ne 48, 3) := by decide +kernel
theorem dX11_logs_11 : decode cX11_logs 11 = .ok (.sipush 1283, 3) := by decide +kernel
theorem dX11_logs_14 : decode cX11_logs 14 = .ok (.istore 5, 2) := by decide +kernel
theorem dX11_logs_16 : decode cX11_logs 16 = .ok (.iload 5, 2) := by decide +kernel
theorem dX11_logs_18 : decode cX11_logs 18 = .ok (.sipush 1578, 3) := by decide +kernel
theorem dX11_logs_21 : decode cX11_logs 21 = .ok (.if_icmp .ge 25, 3) := by decide +kernel
theorem dX11_logs_24 : decode cX11_logs 24 = .ok (.aload_n 0, 1) := by decide +kernel
theorem dX11_logs_25 : decode cX11_logs 25 = .ok (.getfield 7, 3) := by decide +kernel
theorem dX11_logs_28 : decode cX11_logs 28 = .ok (.iload 5, 2) := by decide +kernel
theorem dX11_logs_30 : decode cX11_logs 30 = .ok (.aload_n 0, 1) := by decide +kernel
theorem dX11_logs_31 : decode cX11_logs 31 = .ok (.getfield 7, 3) := by decide +kernel
theorem dX11_logs_34 : decode cX11_logs 34 = .ok (.iload 5, 2) := by decide +kernel
theorem dX11_logs_36 : decode cX11_logs 36 = .ok (.iconst 5, 1) := by decide +kernel
theorem dX11_logs_37 : decode cX11_logs 37 = .ok (.iadd, 1) := by decide +kernel
theorem dX11_logs_38 : decode cX11_logs 38 = .ok (.iaload, 1) := by decide +kernel
theorem dX11_logs_39 : decode cX11_logs 39 = .ok (.iastore, 1) := by decide +kernel
theorem dX11_logs_40 : decode cX11_logs 40 = .ok (.iinc 5 1, 3) := by decide +kernel
theorem dX11_logs_43 : decode cX11_logs 43 = .ok (.goto (-27), 3) := by decide +kernel
theorem dX11_logs_46 : decode cX11_logs 46 = .ok (.aload_n 0, 1) := by decide +kernel
theorem dX11_logs_47 : decode cX11_logs 47 = .ok (.getfield 7, 3) := by decide +kernel
theorem dX11_logs_50 : decode cX11_logs 50 = .ok (.iconst 5, 1) := by decide +kernel
theorem dX11_logs_51 : decode cX11_logs 51 = .ok (.dup2, 1) := by decide +kernel
theorem dX11_logs_52 : decode cX11_logs 52 = .ok (.iaload, 1) := by decide +kernel
theorem dX11_logs_53 : decode cX11_logs 53 = .ok (.iconst 1, 1) := by decide +kernel
theorem dX11_logs_54 : decode cX11_logs 54 = .ok (.isub, 1) := by decide +kernel
theorem dX11_logs_55 : decode cX11_logs 55 = .ok (.iastore, 1) := by decide +kernel
theorem dX11_logs_56 : decode cX11_logs 56 = .ok (.sipush 1283, 3) := by decide +kernel
theorem dX11_logs_59 : decode cX11_logs 59 = .ok (.iconst 5, 1) := by decide +kernel
theorem dX11_logs_60 : decode cX11_logs 60 = .ok (.aload_n 0, 1) := by decide +kernel
theorem dX11_logs_61 : decode cX11_logs 61 = .ok (.getfield 7, 3) := by decide +kernel
theorem dX11_logs_64 : decode cX11_logs 64 = .ok (.iconst 5, 1) := by decide +kernel
theorem dX11_logs_65 : decode cX11_logs 65 = .ok (.iaload, 1) := by decide +kernel
theorem dX11_logs_66 : decode cX11_logs 66 = .ok (.imul, 1) := by decide +kernel
theorem dX11_logs_67 : decode cX11_logs 67 = .ok (.iadd, 1) := by decide +kernel
theorem dX11_logs_68 : decode cX11_logs 68 = .ok (.istore 5, 2) := by decide +kernel
theorem dX11_logs_70 : decode cX11_logs 70 = .ok (.aload_n 0, 1) := by decide +kernel
theorem dX11_logs_71 : decode cX11_logs 71 = .ok (.getfield 7, 3) := by decide +kernel
theorem dX11_logs_74 : decode cX11_logs 74 = .ok (.iload 5, 2) := by decide +kernel
theorem dX11_logs_76 : decode cX11_logs 76 = .ok (.iload_n 1, 1) := by decide +kernel
theorem dX11_logs_77 : decode cX11_logs 77 = .ok (.iastore, 1) := by decide +kernel
theorem dX11_logs_78 : decode cX11_logs 78 = .ok (.aload_n 0, 1) := by decide +kernel
theorem dX11_logs_79 : decode cX11_logs 79 = .ok (.getfield 7, 3) := by decide +kernel
theorem dX11_logs_82 : decode cX11_logs 82 = .ok (.iload 5, 2) := by decide +kernel
theorem dX11_logs_84 : decode cX11_logs 84 = .ok (.iconst 1, 1) := by decide +kernel
theorem dX11_logs_85 : decode cX11_logs 85 = .ok (.iadd, 1) := by decide +kernel
theorem dX11_logs_86 : decode cX11_logs 86 = .ok (.aload_n 0, 1) := by decide +kernel
theorem dX11_logs_87 : decode cX11_logs 87 = .ok (.getfield 7, 3) := by decide +kernel
theorem dX11_logs_90 : decode cX11_logs 90 = .ok (.iconst 2, 1) := by decide +kernel
theorem dX11_logs_91 : decode cX11_logs 91 = .ok (.iaload, 1) := by decide +kernel
theorem dX11_logs_92 : decode cX11_logs 92 = .ok (.iastore, 1) := by decide +kernel
theorem dX11_logs_93 : decode cX11_logs 93 = .ok (.aload_n 0, 1) := by decide +kernel
theorem dX11_logs_94 : decode cX11_logs 94 = .ok (.getfield 7, 3) := by decide +kernel
theorem dX11_logs_97 : decode cX11_logs 97 = .ok (.iload 5, 2) := by decide +kernel
theorem dX11_logs_99 : decode cX11_logs 99 = .ok (.iconst 2, 1) := by decide +kernel
theorem dX11_logs_100 : decode cX11_logs 100 = .ok (.iadd, 1) := by decide +kernel
theorem dX11_logs_101 : decode cX11_logs 101 = .ok (.iload_n 2, 1) := by decide +kernel
theorem dX11_logs_102 : decode cX11_logs 102 = .ok (.iastore, 1) := by decide +kernel
theorem dX11_logs_103 : decode cX11_logs 103 = .ok (.aload_n 0, 1) := by decide +kernel
theorem dX11_logs_104 : decode cX11_logs 104 = .ok (.getfield 7, 3) := by decide +kernel
theorem dX11_logs_107 : decode cX11_logs 107 = .ok (.iload 5, 2) := by decide +kernel
theorem dX11_logs_109 : decode cX11_logs 109 = .ok (.iconst 3, 1) := by decide +kernel
theorem dX11_logs_110 : decode cX11_logs 110 = .ok (.iadd, 1) := by decide +kernel
theorem dX11_logs_111 : decode cX11_logs 111 = .ok (.iload_n 3, 1) := by decide +kernel
theorem dX11_logs_112 : decode cX11_logs 112 = .ok (.iastore, 1) := by decide +kernel
theorem dX11_logs_113 : decode cX11_logs 113 = .ok (.aload_n 0, 1) := by decide +kernel
theorem dX11_logs_114 : decode cX11_logs 114 = .ok (.getfield 7, 3) := by decide +kernel
theorem dX11_logs_117 : decode cX11_logs 117 = .ok (.iload 5, 2) := by decide +kernel
theorem dX11_logs_119 : decode cX11_logs 119 = .ok (.iconst 4, 1) := by decide +kernel
theorem dX11_logs_120 : decode cX11_logs 120 = .ok (.iadd, 1) := by decide +kernel
theorem dX11_logs_121 : decode cX11_logs 121 = .ok (.iload 4, 2) := by decide +kernel
theorem dX11_logs_123 : decode cX11_logs 123 = .ok (.iastore, 1) := by decide +kernel
theorem dX11_logs_124 : decode cX11_logs 124 = .ok (.aload_n 0, 1) := by decide +kernel
theorem dX11_logs_125 : decode cX11_logs 125 = .ok (.getfield 7, 3) := by decide +kernel
theorem dX11_logs_128 : decode cX11_logs 128 = .ok (.iconst 5, 1) := by decide +kernel
theorem dX11_logs_129 : decode cX11_logs 129 = .ok (.dup2, 1) := by decide +kernel
theorem dX11_logs_130 : decode cX11_logs 130 = .ok (.iaload, 1) := by decide +kernel
theorem dX11_logs_131 : decode cX11_logs 131 = .ok (.iconst 1, 1) := by decide +kernel
theorem dX11_logs_132 : decode cX11_logs 132 = .ok (.iadd, 1) := by decide +kernel
theorem dX11_logs_133 : decode cX11_logs 133 = .ok (.iastore, 1) := by decide +kernel
theorem dX11_logs_134 : decode cX11_logs 134 = .ok (.aload_n 0, 1) := by decide +kernel
theorem dX11_logs_135 : decode cX11_logs 135 = .ok (.getfield 7, 3) := by decide +kernel
theorem dX11_logs_138 : decode cX11_logs 138 = .ok (.bipush 7, 2) := by decide +kernel
theorem dX11_logs_140 : decode cX11_logs 140 = .ok (.iload_n 1, 1) := by decide +kernel
theorem dX11_logs_141 : decode cX11_logs 141 = .ok (.iadd, 1) := by decide +kernel
theorem dX11_logs_142 : decode cX11_logs 142 = .ok (.dup2, 1) := by decide +kernel
theorem dX11_logs_143 : decode cX11_logs 143 = .ok (.iaload, 1) := by decide +kernel
theorem dX11_logs_144 : decode cX11_logs 144 = .ok (.iconst 1, 1) := by decide +kernel
theorem dX11_logs_145 : decode cX11_logs 145 = .ok (.iadd, 1) := by decide +kernel
theorem dX11_logs_146 : decode cX11_logs 146 = .ok (.iastore, 1) := by decide +kernel
theorem dX11_logs_147 : decode cX11_logs 147 = .ok (.return_, 1) := by decide +kernel
theorem dX11_logsItem_0 : decode cX11_logsItem 0 = .ok (.aload_n 0, 1) := by decide +kernel
theorem dX11_logsItem_1 : decode cX11_logsItem 1 = .ok (.iload_n 1, 1) := by decide +kernel
theorem dX11_logsItem_2 : decode cX11_logsItem 2 = .ok (.aload_n 0, 1) := by decide +kernel
theorem dX11_logsItem_3 : decode cX11_logsItem 3 = .ok (.iload_n 2, 1) := by decide +kernel
theorem dX11_logsItem_4 : decode cX11_logsItem 4 = .ok (.iconst 1, 1) := by decide +kernel
theorem dX11_logsItem_5 : decode cX11_logsItem 5 = .ok (.invokevirtual 164, 3) := by decide +kernel
theorem dX11_logsItem_8 : decode cX11_logsItem 8 = .ok (.iload_n 3, 1) := by decide +kernel
theorem dX11_logsItem_9 : decode cX11_logsItem 9 = .ok (.aload_n 0, 1) := by decide +kernel
theorem dX11_logsItem_10 : decode cX11_logsItem 10 = .ok (.iload_n 2, 1) := by decide +kernel
theorem dX11_logsItem_11 : decode cX11_logsItem 11 = .ok (.iconst 3, 1) := by decide +kernel
theorem dX11_logsItem_12 : decode cX11_logsItem 12 = .ok (.invokevirtual 164, 3) := by decide +kernel
theorem dX11_logsItem_15 : decode cX11_logsItem 15 = .ok (.invokevirtual 210, 3) := by decide +kernel
theorem dX11_logsItem_18 : decode cX11_logsItem 18 = .ok (.return_, 1) := by decide +kernel
theorem dX11_send_0 : decode cX11_send 0 = .ok (.aload_n 0, 1) := by decide +kernel
theorem dX11_send_1 : decode cX11_send 1 = .ok (.iload_n 1, 1) := by decide +kernel
theorem dX11_send_2 : decode cX11_send 2 = .ok (.invokevirtual 177, 3) := by decide +kernel
theorem dX11_send_5 : decode cX11_send 5 = .ok (.ifCond .eq 17, 3) := by decide +kernel
theorem dX11_send_8 : decode cX11_send 8 = .ok (.iload_n 2, 1) := by decide +kernel
theorem dX11_send_9 : decode cX11_send 9 = .ok (.invokestatic 192, 3) := by decide +kernel
theorem dX11_send_12 : decode cX11_send 12 = .ok (.ifCond .eq 10, 3) := by decide +kernel
theorem dX11_send_15 : decode cX11_send 15 = .ok (.iload_n 3, 1) := by decide +kernel
theorem dX11_send_16 : decode cX11_send 16 = .ok (.invokestatic 192, 3) := by decide +kernel
theorem dX11_send_19 : decode cX11_send 19 = .ok (.ifCond .ne 5, 3) := by decide +kernel
theorem dX11_send_22 : decode cX11_send 22 = .ok (.iconst (-1), 1) := by decide +kernel
theorem dX11_send_23 : decode cX11_send 23 = .ok (.ireturn, 1) := by decide +kernel
theorem dX11_send_24 : decode cX11_send 24 = .ok (.aload_n 0, 1) := by decide +kernel
theorem dX11_send_25 : decode cX11_send 25 = .ok (.getfield 7, 3) := by decide +kernel
theorem dX11_send_28 : decode cX11_send 28 = .ok (.iconst 4, 1) := by decide +kernel
theorem dX11_send_29 : decode cX11_send 29 = .ok (.iaload, 1) := by decide +kernel
theorem dX11_send_30 : decode cX11_send 30 = .ok (.bipush 60, 2) := by decide +kernel
theorem dX11_send_32 : decode cX11_send 32 = .ok (.if_icmp .ne 6, 3) := by decide +kernel
theorem dX11_send_35 : decode cX11_send 35 = .ok (.bipush (-3), 2) := by decide +kernel
theorem dX11_send_37 : decode cX11_send 37 = .ok (.ireturn, 1) := by decide +kernel
theorem dX11_send_38 : decode cX11_send 38 = .ok (.aload_n 0, 1) := by decide +kernel
theorem dX11_send_39 : decode cX11_send 39 = .ok (.getfield 7, 3) := by decide +kernel
theorem dX11_send_42 : decode cX11_send 42 = .ok (.iconst 3, 1) := by decide +kernel
theorem dX11_send_43 : decode cX11_send 43 = .ok (.iaload, 1) := by decide +kernel
theorem dX11_send_44 : decode cX11_send 44 = .ok (.istore 4, 2) := by decide +kernel
theorem dX11_send_46 : decode cX11_send 46 = .ok (.aload_n 0, 1) := by decide +kernel
theorem dX11_send_47 : decode cX11_send 47 = .ok (.getfield 7, 3) := by decide +kernel
theorem dX11_send_50 : decode cX11_send 50 = .ok (.iconst 3, 1) := by decide +kernel
theorem dX11_send_51 : decode cX11_send 51 = .ok (.dup2, 1) := by decide +kernel
theorem dX11_send_52 : decode cX11_send 52 = .ok (.iaload, 1) := by decide +kernel
theorem dX11_send_53 : decode cX11_send 53 = .ok (.iconst 1, 1) := by decide +kernel
theorem dX11_send_54 : decode cX11_send 54 = .ok (.iadd, 1) := by decide +kernel
theorem dX11_send_55 : decode cX11_send 55 = .ok (.iastore, 1) := by decide +kernel
theorem dX11_send_56 : decode cX11_send 56 = .ok (.aload_n 0, 1) := by decide +kernel
theorem dX11_send_57 : decode cX11_send 57 = .ok (.iload_n 1, 1) := by decide +kernel
theorem dX11_send_58 : decode cX11_send 58 = .ok (.iload 4, 2) := by decide +kernel
theorem dX11_send_60 : decode cX11_send 60 = .ok (.iload_n 2, 1) := by decide +kernel
theorem dX11_send_61 : decode cX11_send 61 = .ok (.iload_n 3, 1) := by decide +kernel
theorem dX11_send_62 : decode cX11_send 62 = .ok (.iconst 0, 1) := by decide +kernel
theorem dX11_send_63 : decode cX11_send 63 = .ok (.iconst 0, 1) := by decide +kernel
theorem dX11_send_64 : decode cX11_send 64 = .ok (.invokevirtual 214, 3) := by decide +kernel
theorem dX11_send_67 : decode cX11_send 67 = .ok (.aload_n 0, 1) := by decide +kernel
theorem dX11_send_68 : decode cX11_send 68 = .ok (.iconst 0, 1) := by decide +kernel
theorem dX11_send_69 : decode cX11_send 69 = .ok (.iload 4, 2) := by decide +kernel
theorem dX11_send_71 : decode cX11_send 71 = .ok (.iload_n 1, 1) := by decide +kernel
theorem dX11_send_72 : decode cX11_send 72 = .ok (.iload_n 3, 1) := by decide +kernel
theorem dX11_send_73 : decode cX11_send 73 = .ok (.invokevirtual 210, 3) := by decide +kernel
theorem dX11_send_76 : decode cX11_send 76 = .ok (.iload 4, 2) := by decide +kernel
theorem dX11_send_78 : decode cX11_send 78 = .ok (.ireturn, 1) := by decide +kernel
theorem dX11_known_0 : decode cX11_known 0 = .ok (.aload_n 0, 1) := by decide +kernel
theorem dX11_known_1 : decode cX11_known 1 = .ok (.getfield 7, 3) := by decide +kernel
theorem dX11_known_4 : decode cX11_known 4 = .ok (.sipush 598, 3) := by decide +kernel
theorem dX11_known_7 : decode cX11_known 7 = .ok (.bipush 41, 2) := by decide +kernel
theorem dX11_known_9 : decode cX11_known 9 = .ok (.iload_n 1, 1) := by decide +kernel
theorem dX11_known_10 : decode cX11_known 10 = .ok (.imul, 1) := by decide +kernel
theorem dX11_known_11 : decode cX11_known 11 = .ok (.iadd, 1) := by decide +kernel
theorem dX11_known_12 : decode cX11_known 12 = .ok (.iaload, 1) := by decide +kernel
theorem dX11_known_13 : decode cX11_known 13 = .ok (.ireturn, 1) := by decide +kernel
theorem dX11_strangerAt_0 : decode cX11_strangerAt 0 = .ok (.sipush 598, 3) := by decide +kernel
theorem dX11_strangerAt_3 : decode cX11_strangerAt 3 = .ok (.bipush 41, 2) := by decide +kernel
theorem dX11_strangerAt_5 : decode cX11_strangerAt 5 = .ok (.iload_n 1, 1) := by decide +kernel
theorem dX11_strangerAt_6 : decode cX11_strangerAt 6 = .ok (.imul, 1) := by decide +kernel
theorem dX11_strangerAt_7 : decode cX11_strangerAt 7 = .ok (.iadd, 1) := by decide +kernel
theorem dX11_strangerAt_8 : decode cX11_strangerAt 8 = .ok (.iconst 1, 1) := by decide +kernel
theorem dX11_strangerAt_9 : decode cX11_strangerAt 9 = .ok (.iadd, 1) := by decide +kernel
theorem dX11_strangerAt_10 : decode cX11_strangerAt 10 = .ok (.iconst 5, 1) := by decide +kernel
theorem dX11_strangerAt_11 : decode cX11_strangerAt 11 = .ok (.iload_n 2, 1) := by decide +kernel
theorem dX11_strangerAt_12 : decode cX11_strangerAt 12 = .ok (.imul, 1) := by decide +kernel
theorem dX11_strangerAt_13 : decode cX11_strangerAt 13 = .ok (.iadd, 1) := by decide +kernel
theorem dX11_strangerAt_14 : decode cX11_strangerAt 14 = .ok (.ireturn, 1) := by decide +kernel
theorem dX11_ofStranger_0 : decode cX11_ofStranger 0 = .ok (.aload_n 0, 1) := by decide +kernel
theorem dX11_ofStranger_1 : decode cX11_ofStranger 1 = .ok (.getfield 7, 3) := by decide +kernel
theorem dX11_ofStranger_4 : decode cX11_ofStranger 4 = .ok (.aload_n 0, 1) := by decide +kernel
theorem dX11_ofStranger_5 : decode cX11_ofStranger 5 = .ok (.iload_n 1, 1) := by decide +kernel
theorem dX11_ofStranger_6 : decode cX11_ofStranger 6 = .ok (.iload_n 2, 1) := by decide +kernel
theorem dX11_ofStranger_7 : decode cX11_ofStranger 7 = .ok (.invokevirtual 218, 3) := by decide +kernel
theorem dX11_ofStranger_10 : decode cX11_ofStranger 10 = .ok (.iload_n 3, 1) := by decide +kernel
theorem dX11_ofStranger_11 : decode cX11_ofStranger 11 = .ok (.iadd, 1) := by decide +kernel
theorem dX11_ofStranger_12 : decode cX11_ofStranger 12 = .ok (.iaload, 1) := by decide +kernel
theorem dX11_ofStranger_13 : decode cX11_ofStranger 13 = .ok (.ireturn, 1) := by decide +kernel
theorem dX11_forgets_0 : decode cX11_forgets 0 = .ok (.aload_n 0, 1) := by decide +kernel
theorem dX11_forgets_1 : decode cX11_forgets 1 = .ok (.iload_n 1, 1) := by decide +kernel
theorem dX11_forgets_2 : decode cX11_forgets 2 = .ok (.iload_n 2, 1) := by decide +kernel
theorem dX11_forgets_3 : decode cX11_forgets 3 = .ok (.invokevirtual 218, 3) := by decide +kernel
theorem dX11_forgets_6 : decode cX11_forgets 6 = .ok (.istore_n 3, 1) := by decide +kernel
theorem dX11_forgets_7 : decode cX11_forgets 7 = .ok (.iload_n 3, 1) := by decide +kernel
theorem dX11_forgets_8 : decode cX11_forgets 8 = .ok (.aload_n 0, 1) := by decide +kernel
theorem dX11_forgets_9 : decode cX11_forgets 9 = .ok (.iload_n 1, 1) := by decide +kernel
theorem dX11_forgets_10 : decode cX11_forgets 10 = .ok (.aload_n 0, 1) := by decide +kernel
theorem dX11_forgets_11 : decode cX11_forgets 11 = .ok (.iload_n 1, 1) := by decide +kernel
theorem dX11_forgets_12 : decode cX11_forgets 12 = .ok (.invokevirtual 167, 3) := by decide +kernel
theorem dX11_forgets_15 : decode cX11_forgets 15 = .ok (.iconst 1, 1) := by decide +kernel
theorem dX11_forgets_16 : decode cX11_forgets 16 = .ok (.isub, 1) := by decide +kernel
theorem dX11_forgets_17 : decode cX11_forgets 17 = .ok (.invokevirtual 218, 3) := by decide +kernel
theorem dX11_forgets_20 : decode cX11_forgets 20 = .ok (.if_icmp .ge 23, 3) := by decide +kernel
theorem dX11_forgets_23 : decode cX11_forgets 23 = .ok (.aload_n 0, 1) := by decide +kernel
theorem dX11_forgets_24 : decode cX11_forgets 24 = .ok (.getfield 7, 3) := by decide +kernel
theorem dX11_forgets_27 : decode cX11_forgets 27 = .ok (.iload_n 3, 1) := by decide +kernel
theorem dX11_forgets_28 : decode cX11_forgets 28 = .ok (.aload_n 0, 1) := by decide +kernel
theorem dX11_forgets_29 : decode cX11_forgets 29 = .ok (.getfield 7, 3) := by decide +kernel
theorem dX11_forgets_32 : decode cX11_forgets 32 = .ok (.iload_n 3, 1) := by decide +kernel
theorem dX11_forgets_33 : decode cX11_forgets 33 = .ok (.iconst 5, 1) := by decide +kernel
theorem dX11_forgets_34 : decode cX11_forgets 34 = .ok (.iadd, 1) := by decide +kernel
theorem dX11_forgets_35 : decode cX11_forgets 35 = .ok (.iaload, 1) := by decide +kernel
theorem dX11_forgets_36 : decode cX11_forgets 36 = .ok (.iastore, 1) := by decide +kernel
theorem dX11_forgets_37 : decode cX11_forgets 37 = .ok (.iinc 3 1, 3) := by decide +kernel
theorem dX11_forgets_40 : decode cX11_forgets 40 = .ok (.goto (-33), 3) := by decide +kernel
theorem dX11_forgets_43 : decode cX11_forgets 43 = .ok (.aload_n 0, 1) := by decide +kernel
theorem dX11_forgets_44 : decode cX11_forgets 44 = .ok (.getfield 7, 3) := by decide +kernel
theorem dX11_forgets_47 : decode cX11_forgets 47 = .ok (.sipush 598, 3) := by decide +kernel
theorem dX11_forgets_50 : decode cX11_forgets 50 = .ok (.bipush 41, 2) := by decide +kernel
theorem dX11_forgets_52 : decode cX11_forgets 52 = .ok (.iload_n 1, 1) := by decide +kernel
theorem dX11_forgets_53 : decode cX11_forgets 53 = .ok (.imul, 1) := by decide +kernel
theorem dX11_forgets_54 : decode cX11_forgets 54 = .ok (.iadd, 1) := by decide +kernel
theorem dX11_forgets_55 : decode cX11_forgets 55 = .ok (.dup2, 1) := by decide +kernel
theorem dX11_forgets_56 : decode cX11_forgets 56 = .ok (.iaload, 1) := by decide +kernel
theorem dX11_forgets_57 : decode cX11_forgets 57 = .ok (.iconst 1, 1) := by decide +kernel
theorem dX11_forgets_58 : decode cX11_forgets 58 = .ok (.isub, 1) := by decide +kernel
theorem dX11_forgets_59 : decode cX11_forgets 59 = .ok (.iastore, 1) := by decide +kernel
theorem dX11_forgets_60 : decode cX11_forgets 60 = .ok (.return_, 1) := by decide +kernel
theorem dX11_putsDown_0 : decode cX11_putsDown 0 = .ok (.aload_n 0, 1) := by decide +kernel
theorem dX11_putsDown_1 : decode cX11_putsDown 1 = .ok (.iload_n 1, 1) := by decide +kernel
theorem dX11_putsDown_2 : decode cX11_putsDown 2 = .ok (.invokevirtual 167, 3) := by decide +kernel
theorem dX11_putsDown_5 : decode cX11_putsDown 5 = .ok (.bipush 8, 2) := by decide +kernel
theorem dX11_putsDown_7 : decode cX11_putsDown 7 = .ok (.if_icmp .ne 9, 3) := by decide +kernel
theorem dX11_putsDown_10 : decode cX11_putsDown 10 = .ok (.aload_n 0, 1) := by decide +kernel
theorem dX11_putsDown_11 : decode cX11_putsDown 11 = .ok (.iload_n 1, 1) := by decide +kernel
theorem dX11_putsDown_12 : decode cX11_putsDown 12 = .ok (.iconst 0, 1) := by decide +kernel
theorem dX11_putsDown_13 : decode cX11_putsDown 13 = .ok (.invokevirtual 221, 3) := by decide +kernel
theorem dX11_putsDown_16 : decode cX11_putsDown 16 = .ok (.aload_n 0, 1) := by decide +kernel
theorem dX11_putsDown_17 : decode cX11_putsDown 17 = .ok (.iload_n 1, 1) := by decide +kernel
theorem dX11_putsDown_18 : decode cX11_putsDown 18 = .ok (.aload_n 0, 1) := by decide +kernel
theorem dX11_putsDown_19 : decode cX11_putsDown 19 = .ok (.iload_n 1, 1) := by decide +kernel
theorem dX11_putsDown_20 : decode cX11_putsDown 20 = .ok (.invokevirtual 167, 3) := by decide +kernel
theorem dX11_putsDown_23 : decode cX11_putsDown 23 = .ok (.invokevirtual 218, 3) := by decide +kernel
theorem dX11_putsDown_26 : decode cX11_putsDown 26 = .ok (.istore 5, 2) := by decide +kernel
theorem dX11_putsDown_28 : decode cX11_putsDown 28 = .ok (.aload_n 0, 1) := by decide +kernel
theorem dX11_putsDown_29 : decode cX11_putsDown 29 = .ok (.getfield 7, 3) := by decide +kernel
theorem dX11_putsDown_32 : decode cX11_putsDown 32 = .ok (.iload 5, 2) := by decide +kernel
theorem dX11_putsDown_34 : decode cX11_putsDown 34 = .ok (.iload_n 2, 1) := by decide +kernel
theorem dX11_putsDown_35 : decode cX11_putsDown 35 = .ok (.iastore, 1) := by decide +kernel
theorem dX11_putsDown_36 : decode cX11_putsDown 36 = .ok (.aload_n 0, 1) := by decide +kernel
theorem dX11_putsDown_37 : decode cX11_putsDown 37 = .ok (.getfield 7, 3) := by decide +kernel
theorem dX11_putsDown_40 : decode cX11_putsDown 40 = .ok (.iload 5, 2) := by decide +kernel
theorem dX11_putsDown_42 : decode cX11_putsDown 42 = .ok (.iconst 1, 1) := by decide +kernel
theorem dX11_putsDown_43 : decode cX11_putsDown 43 = .ok (.iadd, 1) := by decide +kernel
theorem dX11_putsDown_44 : decode cX11_putsDown 44 = .ok (.iload_n 3, 1) := by decide +kernel
theorem dX11_putsDown_45 : decode cX11_putsDown 45 = .ok (.iastore, 1) := by decide +kernel
theorem dX11_putsDown_46 : decode cX11_putsDown 46 = .ok (.aload_n 0, 1) := by decide +kernel
theorem dX11_putsDown_47 : decode cX11_putsDown 47 = .ok (.getfield 7, 3) := by decide +kernel
theorem dX11_putsDown_50 : decode cX11_putsDown 50 = .ok (.iload 5, 2) := by decide +kernel
theorem dX11_putsDown_52 : decode cX11_putsDown 52 = .ok (.iconst 2, 1) := by decide +kernel
theorem dX11_putsDown_53 : decode cX11_putsDown 53 = .ok (.iadd, 1) := by decide +kernel
theorem dX11_putsDown_54 : decode cX11_putsDown 54 = .ok (.iload 4, 2) := by decide +kernel
theorem dX11_putsDown_56 : decode cX11_putsDown 56 = .ok (.iastore, 1) := by decide +kernel
theorem dX11_putsDown_57 : decode cX11_putsDown 57 = .ok (.aload_n 0, 1) := by decide +kernel
theorem dX11_putsDown_58 : decode cX11_putsDown 58 = .ok (.getfield 7, 3) := by decide +kernel
theorem dX11_putsDown_61 : decode cX11_putsDown 61 = .ok (.iload 5, 2) := by decide +kernel
theorem dX11_putsDown_63 : decode cX11_putsDown 63 = .ok (.iconst 3, 1) := by decide +kernel
theorem dX11_putsDown_64 : decode cX11_putsDown 64 = .ok (.iadd, 1) := by decide +kernel
theorem dX11_putsDown_65 : decode cX11_putsDown 65 = .ok (.aload_n 0, 1) := by decide +kernel
theorem dX11_putsDown_66 : decode cX11_putsDown 66 = .ok (.getfield 7, 3) := by decide +kernel
theorem dX11_putsDown_69 : decode cX11_putsDown 69 = .ok (.iconst 2, 1) := by decide +kernel
theorem dX11_putsDown_70 : decode cX11_putsDown 70 = .ok (.iaload, 1) := by decide +kernel
theorem dX11_putsDown_71 : decode cX11_putsDown 71 = .ok (.iastore, 1) := by decide +kernel
theorem dX11_putsDown_72 : decode cX11_putsDown 72 = .ok (.aload_n 0, 1) := by decide +kernel
theorem dX11_putsDown_73 : decode cX11_putsDown 73 = .ok (.getfield 7, 3) := by decide +kernel
theorem dX11_putsDown_76 : decode cX11_putsDown 76 = .ok (.iload 5, 2) := by decide +kernel
theorem dX11_putsDown_78 : decode cX11_putsDown 78 = .ok (.iconst 4, 1) := by decide +kernel
theorem dX11_putsDown_79 : decode cX11_putsDown 79 = .ok (.iadd, 1) := by decide +kernel
theorem dX11_putsDown_80 : decode cX11_putsDown 80 = .ok (.iconst 0, 1) := by decide +kernel
theorem dX11_putsDown_81 : decode cX11_putsDown 81 = .ok (.iastore, 1) := by decide +kernel
theorem dX11_putsDown_82 : decode cX11_putsDown 82 = .ok (.aload_n 0, 1) := by decide +kernel
theorem dX11_putsDown_83 : decode cX11_putsDown 83 = .ok (.getfield 7, 3) := by decide +kernel
theorem dX11_putsDown_86 : decode cX11_putsDown 86 = .ok (.sipush 598, 3) := by decide +kernel
theorem dX11_putsDown_89 : decode cX11_putsDown 89 = .ok (.bipush 41, 2) := by decide +kernel
theorem dX11_putsDown_91 : decode cX11_putsDown 91 = .ok (.iload_n 1, 1) := by decide +kernel
theorem dX11_putsDown_92 : decode cX11_putsDown 92 = .ok (.imul, 1) := by decide +kernel
theorem dX11_putsDown_93 : decode cX11_putsDown 93 = .ok (.iadd, 1) := by decide +kernel
theorem dX11_putsDown_94 : decode cX11_putsDown 94 = .ok (.dup2, 1) := by decide +kernel
theorem dX11_putsDown_95 : decode cX11_putsDown 95 = .ok (.iaload, 1) := by decide +kernel
theorem dX11_putsDown_96 : decode cX11_putsDown 96 = .ok (.iconst 1, 1) := by decide +kernel
theorem dX11_putsDown_97 : decode cX11_putsDown 97 = .ok (.iadd, 1) := by decide +kernel
theorem dX11_putsDown_98 : decode cX11_putsDown 98 = .ok (.iastore, 1) := by decide +kernel
theorem dX11_putsDown_99 : decode cX11_putsDown 99 = .ok (.return_, 1) := by decide +kernel
theorem dX11_whichStranger_0 : decode cX11_whichStranger 0 = .ok (.iconst 0, 1) := by decide +kernel
theorem dX11_whichStranger_1 : decode cX11_whichStranger 1 = .ok (.istore 5, 2) := by decide +kernel
theorem dX11_whichStranger_3 : decode cX11_whichStranger 3 = .ok (.iload 5, 2) := by decide +kernel
theorem dX11_whichStranger_5 : decode cX11_whichStranger 5 = .ok (.aload_n 0, 1) := by decide +kernel
theorem dX11_whichStranger_6 : decode cX11_whichStranger 6 = .ok (.iload_n 1, 1) := by decide +kernel
theorem dX11_whichStranger_7 : decode cX11_whichStranger 7 = .ok (.invokevirtual 167, 3) := by decide +kernel
theorem dX11_whichStranger_10 : decode cX11_whichStranger 10 = .ok (.if_icmp .ge 49, 3) := by decide +kernel
theorem dX11_whichStranger_13 : decode cX11_whichStranger 13 = .ok (.aload_n 0, 1) := by decide +kernel
theorem dX11_whichStranger_14 : decode cX11_whichStranger 14 = .ok (.iload_n 1, 1) := by decide +kernel
theorem dX11_whichStranger_15 : decode cX11_whichStranger 15 = .ok (.iload 5, 2) := by decide +kernel
theorem dX11_whichStranger_17 : decode cX11_whichStranger 17 = .ok (.iconst 0, 1) := by decide +kernel
theorem dX11_whichStranger_18 : decode cX11_whichStranger 18 = .ok (.invokevirtual 170, 3) := by decide +kernel
theorem dX11_whichStranger_21 : decode cX11_whichStranger 21 = .ok (.iload_n 2, 1) := by decide +kernel
theorem dX11_whichStranger_22 : decode cX11_whichStranger 22 = .ok (.if_icmp .ne 31, 3) := by decide +kernel
theorem dX11_whichStranger_25 : decode cX11_whichStranger 25 = .ok (.aload_n 0, 1) := by decide +kernel
theorem dX11_whichStranger_26 : decode cX11_whichStranger 26 = .ok (.iload_n 1, 1) := by decide +kernel
theorem dX11_whichStranger_27 : decode cX11_whichStranger 27 = .ok (.iload 5, 2) := by decide +kernel
theorem dX11_whichStranger_29 : decode cX11_whichStranger 29 = .ok (.iconst 1, 1) := by decide +kernel
theorem dX11_whichStranger_30 : decode cX11_whichStranger 30 = .ok (.invokevirtual 170, 3) := by decide +kernel
theorem dX11_whichStranger_33 : decode cX11_whichStranger 33 = .ok (.iload_n 3, 1) := by decide +kernel
theorem dX11_whichStranger_34 : decode cX11_whichStranger 34 = .ok (.if_icmp .ne 19, 3) := by decide +kernel
theorem dX11_whichStranger_37 : decode cX11_whichStranger 37 = .ok (.aload_n 0, 1) := by decide +kernel
theorem dX11_whichStranger_38 : decode cX11_whichStranger 38 = .ok (.iload_n 1, 1) := by decide +kernel
theorem dX11_whichStranger_39 : decode cX11_whichStranger 39 = .ok (.iload 5, 2) := by decide +kernel
theorem dX11_whichStranger_41 : decode cX11_whichStranger 41 = .ok (.iconst 2, 1) := by decide +kernel
theorem dX11_whichStranger_42 : decode cX11_whichStranger 42 = .ok (.invokevirtual 170, 3) := by decide +kernel
theorem dX11_whichStranger_45 : decode cX11_whichStranger 45 = .ok (.iload 4, 2) := by decide +kernel
theorem dX11_whichStranger_47 : decode cX11_whichStranger 47 = .ok (.if_icmp .ne 6, 3) := by decide +kernel
theorem dX11_whichStranger_50 : decode cX11_whichStranger 50 = .ok (.iload 5, 2) := by decide +kernel
theorem dX11_whichStranger_52 : decode cX11_whichStranger 52 = .ok (.ireturn, 1) := by decide +kernel
theorem dX11_whichStranger_53 : decode cX11_whichStranger 53 = .ok (.iinc 5 1, 3) := by decide +kernel
theorem dX11_whichStranger_56 : decode cX11_whichStranger 56 = .ok (.goto (-53), 3) := by decide +kernel
theorem dX11_whichStranger_59 : decode cX11_whichStranger 59 = .ok (.bipush (-4), 2) := by decide +kernel
theorem dX11_whichStranger_61 : decode cX11_whichStranger 61 = .ok (.ireturn, 1) := by decide +kernel
theorem dX11_takes_0 : decode cX11_takes 0 = .ok (.aload_n 0, 1) := by decide +kernel
theorem dX11_takes_1 : decode cX11_takes 1 = .ok (.getfield 7, 3) := by decide +kernel
theorem dX11_takes_4 : decode cX11_takes 4 = .ok (.bipush 16, 2) := by decide +kernel
theorem dX11_takes_6 : decode cX11_takes 6 = .ok (.iconst 2, 1) := by decide +kernel
theorem dX11_takes_7 : decode cX11_takes 7 = .ok (.iload_n 1, 1) := by decide +kernel
theorem dX11_takes_8 : decode cX11_takes 8 = .ok (.imul, 1) := by decide +kernel
theorem dX11_takes_9 : decode cX11_takes 9 = .ok (.iadd, 1) := by decide +kernel
theorem dX11_takes_10 : decode cX11_takes 10 = .ok (.iaload, 1) := by decide +kernel
theorem dX11_takes_11 : decode cX11_takes 11 = .ok (.ifCond .ne 5, 3) := by decide +kernel
theorem dX11_takes_14 : decode cX11_takes 14 = .ok (.iconst 1, 1) := by decide +kernel
theorem dX11_takes_15 : decode cX11_takes 15 = .ok (.ireturn, 1) := by decide +kernel
theorem dX11_takes_16 : decode cX11_takes 16 = .ok (.aload_n 0, 1) := by decide +kernel
theorem dX11_takes_17 : decode cX11_takes 17 = .ok (.iload_n 1, 1) := by decide +kernel
theorem dX11_takes_18 : decode cX11_takes 18 = .ok (.iload_n 2, 1) := by decide +kernel
theorem dX11_takes_19 : decode cX11_takes 19 = .ok (.iload_n 3, 1) := by decide +kernel
theorem dX11_takes_20 : decode cX11_takes 20 = .ok (.iload 4, 2) := by decide +kernel
theorem dX11_takes_22 : decode cX11_takes 22 = .ok (.invokevirtual 225, 3) := by decide +kernel
theorem dX11_takes_25 : decode cX11_takes 25 = .ok (.istore 5, 2) := by decide +kernel
theorem dX11_takes_27 : decode cX11_takes 27 = .ok (.iload 5, 2) := by decide +kernel
theorem dX11_takes_29 : decode cX11_takes 29 = .ok (.bipush (-4), 2) := by decide +kernel
theorem dX11_takes_31 : decode cX11_takes 31 = .ok (.if_icmp .ne 14, 3) := by decide +kernel
theorem dX11_takes_34 : decode cX11_takes 34 = .ok (.aload_n 0, 1) := by decide +kernel
theorem dX11_takes_35 : decode cX11_takes 35 = .ok (.iload_n 1, 1) := by decide +kernel
theorem dX11_takes_36 : decode cX11_takes 36 = .ok (.iload_n 2, 1) := by decide +kernel
theorem dX11_takes_37 : decode cX11_takes 37 = .ok (.iload_n 3, 1) := by decide +kernel
theorem dX11_takes_38 : decode cX11_takes 38 = .ok (.iload 4, 2) := by decide +kernel
theorem dX11_takes_40 : decode cX11_takes 40 = .ok (.invokevirtual 229, 3) := by decide +kernel
theorem dX11_takes_43 : decode cX11_takes 43 = .ok (.iconst 0, 1) := by decide +kernel
theorem dX11_takes_44 : decode cX11_takes 44 = .ok (.ireturn, 1) := by decide +kernel
theorem dX11_takes_45 : decode cX11_takes 45 = .ok (.aload_n 0, 1) := by decide +kernel
theorem dX11_takes_46 : decode cX11_takes 46 = .ok (.getfield 7, 3) := by decide +kernel
theorem dX11_takes_49 : decode cX11_takes 49 = .ok (.iconst 2, 1) := by decide +kernel
theorem dX11_takes_50 : decode cX11_takes 50 = .ok (.iaload, 1) := by decide +kernel
theorem dX11_takes_51 : decode cX11_takes 51 = .ok (.aload_n 0, 1) := by decide +kernel
theorem dX11_takes_52 : decode cX11_takes 52 = .ok (.iload_n 1, 1) := by decide +kernel
theorem dX11_takes_53 : decode cX11_takes 53 = .ok (.iload 5, 2) := by decide +kernel
theorem dX11_takes_55 : decode cX11_takes 55 = .ok (.iconst 3, 1) := by decide +kernel
theorem dX11_takes_56 : decode cX11_takes 56 = .ok (.invokevirtual 170, 3) := by decide +kernel
theorem dX11_takes_59 : decode cX11_takes 59 = .ok (.isub, 1) := by decide +kernel
theorem dX11_takes_60 : decode cX11_takes 60 = .ok (.istore 6, 2) := by decide +kernel
theorem dX11_takes_62 : decode cX11_takes 62 = .ok (.aload_n 0, 1) := by decide +kernel
theorem dX11_takes_63 : decode cX11_takes 63 = .ok (.iload_n 1, 1) := by decide +kernel
theorem dX11_takes_64 : decode cX11_takes 64 = .ok (.iload 5, 2) := by decide +kernel
theorem dX11_takes_66 : decode cX11_takes 66 = .ok (.iconst 4, 1) := by decide +kernel
theorem dX11_takes_67 : decode cX11_takes 67 = .ok (.invokevirtual 170, 3) := by decide +kernel
theorem dX11_takes_70 : decode cX11_takes 70 = .ok (.iconst 1, 1) := by decide +kernel
theorem dX11_takes_71 : decode cX11_takes 71 = .ok (.if_icmp .eq 18, 3) := by decide +kernel
theorem dX11_takes_74 : decode cX11_takes 74 = .ok (.iload 6, 2) := by decide +kernel
theorem dX11_takes_76 : decode cX11_takes 76 = .ok (.i2l, 1) := by decide +kernel
theorem dX11_takes_77 : decode cX11_takes 77 = .ok (.ldc2_w 195, 3) := by decide +kernel
theorem dX11_takes_80 : decode cX11_takes 80 = .ok (.ldc2_w 232, 3) := by decide +kernel
theorem dX11_takes_83 : decode cX11_takes 83 = .ok (.invokestatic 52, 3) := by decide +kernel
theorem dX11_takes_86 : decode cX11_takes 86 = .ok (.ifCond .eq 20, 3) := by decide +kernel
theorem dX11_takes_89 : decode cX11_takes 89 = .ok (.aload_n 0, 1) := by decide +kernel
theorem dX11_takes_90 : decode cX11_takes 90 = .ok (.getfield 7, 3) := by decide +kernel
theorem dX11_takes_93 : decode cX11_takes 93 = .ok (.aload_n 0, 1) := by decide +kernel
theorem dX11_takes_94 : decode cX11_takes 94 = .ok (.iload_n 1, 1) := by decide +kernel
theorem dX11_takes_95 : decode cX11_takes 95 = .ok (.iload 5, 2) := by decide +kernel
theorem dX11_takes_97 : decode cX11_takes 97 = .ok (.invokevirtual 218, 3) := by decide +kernel
theorem dX11_takes_100 : decode cX11_takes 100 = .ok (.iconst 4, 1) := by decide +kernel
theorem dX11_takes_101 : decode cX11_takes 101 = .ok (.iadd, 1) := by decide +kernel
theorem dX11_takes_102 : decode cX11_takes 102 = .ok (.iconst 1, 1) := by decide +kernel
theorem dX11_takes_103 : decode cX11_takes 103 = .ok (.iastore, 1) := by decide +kernel
theorem dX11_takes_104 : decode cX11_takes 104 = .ok (.iconst 1, 1) := by decide +kernel
theorem dX11_takes_105 : decode cX11_takes 105 = .ok (.ireturn, 1) := by decide +kernel
theorem dX11_takes_106 : decode cX11_takes 106 = .ok (.iload 6, 2) := by decide +kernel
theorem dX11_takes_108 : decode cX11_takes 108 = .ok (.bipush 20, 2) := by decide +kernel
theorem dX11_takes_110 : decode cX11_takes 110 = .ok (.if_icmp .le 19, 3) := by decide +kernel
theorem dX11_takes_113 : decode cX11_takes 113 = .ok (.aload_n 0, 1) := by decide +kernel
theorem dX11_takes_114 : decode cX11_takes 114 = .ok (.iload_n 1, 1) := by decide +kernel
theorem dX11_takes_115 : decode cX11_takes 115 = .ok (.iload 5, 2) := by decide +kernel
theorem dX11_takes_117 : decode cX11_takes 117 = .ok (.invokevirtual 221, 3) := by decide +kernel
theorem dX11_takes_120 : decode cX11_takes 120 = .ok (.aload_n 0, 1) := by decide +kernel
theorem dX11_takes_121 : decode cX11_takes 121 = .ok (.iload_n 1, 1) := by decide +kernel
theorem dX11_takes_122 : decode cX11_takes 122 = .ok (.iload_n 2, 1) := by decide +kernel
theorem dX11_takes_123 : decode cX11_takes 123 = .ok (.iload_n 3, 1) := by decide +kernel
theorem dX11_takes_124 : decode cX11_takes 124 = .ok (.iload 4, 2) := by decide +kernel
theorem dX11_takes_126 : decode cX11_takes 126 = .ok (.invokevirtual 229, 3) := by decide +kernel
theorem dX11_takes_129 : decode cX11_takes 129 = .ok (.iconst 0, 1) := by decide +kernel
theorem dX11_takes_130 : decode cX11_takes 130 = .ok (.ireturn, 1) := by decide +kernel
theorem dX11_asked_0 : decode cX11_asked 0 = .ok (.aload_n 0, 1) := by decide +kernel
theorem dX11_asked_1 : decode cX11_asked 1 = .ok (.iload_n 1, 1) := by decide +kernel
theorem dX11_asked_2 : decode cX11_asked 2 = .ok (.iload_n 2, 1) := by decide +kernel
theorem dX11_asked_3 : decode cX11_asked 3 = .ok (.invokevirtual 152, 3) := by decide +kernel
theorem dX11_asked_6 : decode cX11_asked 6 = .ok (.istore 4, 2) := by decide +kernel
theorem dX11_asked_8 : decode cX11_asked 8 = .ok (.iload_n 3, 1) := by decide +kernel
theorem dX11_asked_9 : decode cX11_asked 9 = .ok (.istore 5, 2) := by decide +kernel
theorem dX11_asked_11 : decode cX11_asked 11 = .ok (.iconst 0, 1) := by decide +kernel
theorem dX11_asked_12 : decode cX11_asked 12 = .ok (.istore 6, 2) := by decide +kernel
theorem dX11_asked_14 : decode cX11_asked 14 = .ok (.iload 6, 2) := by decide +kernel
theorem dX11_asked_16 : decode cX11_asked 16 = .ok (.bipush 9, 2) := by decide +kernel
theorem dX11_asked_18 : decode cX11_asked 18 = .ok (.if_icmp .gt 66, 3) := by decide +kernel
theorem dX11_asked_21 : decode cX11_asked 21 = .ok (.iload 4, 2) := by decide +kernel
theorem dX11_asked_23 : decode cX11_asked 23 = .ok (.bipush (-4), 2) := by decide +kernel
theorem dX11_asked_25 : decode cX11_asked 25 = .ok (.if_icmp .eq 10, 3) := by decide +kernel
theorem dX11_asked_28 : decode cX11_asked 28 = .ok (.iload 6, 2) := by decide +kernel
theorem dX11_asked_30 : decode cX11_asked 30 = .ok (.iload 4, 2) := by decide +kernel
theorem dX11_asked_32 : decode cX11_asked 32 = .ok (.if_icmp .ge 52, 3) := by decide +kernel
theorem dX11_asked_35 : decode cX11_asked 35 = .ok (.iconst 0, 1) := by decide +kernel
theorem dX11_asked_36 : decode cX11_asked 36 = .ok (.istore 7, 2) := by decide +kernel
theorem dX11_asked_38 : decode cX11_asked 38 = .ok (.iload 7, 2) := by decide +kernel
theorem dX11_asked_40 : decode cX11_asked 40 = .ok (.aload_n 0, 1) := by decide +kernel
theorem dX11_asked_41 : decode cX11_asked 41 = .ok (.getfield 7, 3) := by decide +kernel
theorem dX11_asked_44 : decode cX11_asked 44 = .ok (.iconst 0, 1) := by decide +kernel
theorem dX11_asked_45 : decode cX11_asked 45 = .ok (.iaload, 1) := by decide +kernel
theorem dX11_asked_46 : decode cX11_asked 46 = .ok (.if_icmp .ge 32, 3) := by decide +kernel
theorem dX11_asked_49 : decode cX11_asked 49 = .ok (.aload_n 0, 1) := by decide +kernel
theorem dX11_asked_50 : decode cX11_asked 50 = .ok (.iload 7, 2) := by decide +kernel
theorem dX11_asked_52 : decode cX11_asked 52 = .ok (.iload_n 2, 1) := by decide +kernel
theorem dX11_asked_53 : decode cX11_asked 53 = .ok (.invokevirtual 152, 3) := by decide +kernel
theorem dX11_asked_56 : decode cX11_asked 56 = .ok (.iload 6, 2) := by decide +kernel
theorem dX11_asked_58 : decode cX11_asked 58 = .ok (.if_icmp .ne 14, 3) := by decide +kernel
theorem dX11_asked_61 : decode cX11_asked 61 = .ok (.iload 5, 2) := by decide +kernel
theorem dX11_asked_63 : decode cX11_asked 63 = .ok (.ifCond .ne 6, 3) := by decide +kernel
theorem dX11_asked_66 : decode cX11_asked 66 = .ok (.iload 7, 2) := by decide +kernel
theorem dX11_asked_68 : decode cX11_asked 68 = .ok (.ireturn, 1) := by decide +kernel
theorem dX11_asked_69 : decode cX11_asked 69 = .ok (.iinc 5 (-1), 3) := by decide +kernel
theorem dX11_asked_72 : decode cX11_asked 72 = .ok (.iinc 7 1, 3) := by decide +kernel
theorem dX11_asked_75 : decode cX11_asked 75 = .ok (.goto (-37), 3) := by decide +kernel
theorem dX11_asked_78 : decode cX11_asked 78 = .ok (.iinc 6 1, 3) := by decide +kernel
theorem dX11_asked_81 : decode cX11_asked 81 = .ok (.goto (-67), 3) := by decide +kernel
theorem dX11_asked_84 : decode cX11_asked 84 = .ok (.bipush (-4), 2) := by decide +kernel
theorem dX11_asked_86 : decode cX11_asked 86 = .ok (.ireturn, 1) := by decide +kernel
theorem dX11_bounces_0 : decode cX11_bounces 0 = .ok (.aload_n 0, 1) := by decide +kernel
theorem dX11_bounces_1 : decode cX11_bounces 1 = .ok (.iload_n 1, 1) := by decide +kernel
theorem dX11_bounces_2 : decode cX11_bounces 2 = .ok (.iconst 0, 1) := by decide +kernel
theorem dX11_bounces_3 : decode cX11_bounces 3 = .ok (.invokevirtual 164, 3) := by decide +kernel
theorem dX11_bounces_6 : decode cX11_bounces 6 = .ok (.istore_n 2, 1) := by decide +kernel
theorem dX11_bounces_7 : decode cX11_bounces 7 = .ok (.aload_n 0, 1) := by decide +kernel
theorem dX11_bounces_8 : decode cX11_bounces 8 = .ok (.iload_n 1, 1) := by decide +kernel
theorem dX11_bounces_9 : decode cX11_bounces 9 = .ok (.iconst 2, 1) := by decide +kernel
theorem dX11_bounces_10 : decode cX11_bounces 10 = .ok (.invokevirtual 164, 3) := by decide +kernel
theorem dX11_bounces_13 : decode cX11_bounces 13 = .ok (.istore_n 3, 1) := by decide +kernel
theorem dX11_bounces_14 : decode cX11_bounces 14 = .ok (.aload_n 0, 1) := by decide +kernel
theorem dX11_bounces_15 : decode cX11_bounces 15 = .ok (.iload_n 3, 1) := by decide +kernel
theorem dX11_bounces_16 : decode cX11_bounces 16 = .ok (.bipush (-4), 2) := by decide +kernel
theorem dX11_bounces_18 : decode cX11_bounces 18 = .ok (.if_icmp .ne 8, 3) := by decide +kernel
theorem dX11_bounces_21 : decode cX11_bounces 21 = .ok (.bipush 8, 2) := by decide +kernel
theorem dX11_bounces_23 : decode cX11_bounces 23 = .ok (.goto 5, 3) := by decide +kernel
theorem dX11_bounces_26 : decode cX11_bounces 26 = .ok (.bipush 7, 2) := by decide +kernel
theorem dX11_bounces_28 : decode cX11_bounces 28 = .ok (.iload_n 1, 1) := by decide +kernel
theorem dX11_bounces_29 : decode cX11_bounces 29 = .ok (.iload_n 2, 1) := by decide +kernel
theorem dX11_bounces_30 : decode cX11_bounces 30 = .ok (.invokevirtual 234, 3) := by decide +kernel
theorem dX11_bounces_33 : decode cX11_bounces 33 = .ok (.aload_n 0, 1) := by decide +kernel
theorem dX11_bounces_34 : decode cX11_bounces 34 = .ok (.iload_n 1, 1) := by decide +kernel
theorem dX11_bounces_35 : decode cX11_bounces 35 = .ok (.invokevirtual 237, 3) := by decide +kernel
theorem dX11_bounces_38 : decode cX11_bounces 38 = .ok (.iload_n 3, 1) := by decide +kernel
theorem dX11_bounces_39 : decode cX11_bounces 39 = .ok (.bipush (-4), 2) := by decide +kernel
theorem dX11_bounces_41 : decode cX11_bounces 41 = .ok (.if_icmp .eq 29, 3) := by decide +kernel
theorem dX11_bounces_44 : decode cX11_bounces 44 = .ok (.aload_n 0, 1) := by decide +kernel
theorem dX11_bounces_45 : decode cX11_bounces 45 = .ok (.iload_n 2, 1) := by decide +kernel
theorem dX11_bounces_46 : decode cX11_bounces 46 = .ok (.aload_n 0, 1) := by decide +kernel
theorem dX11_bounces_47 : decode cX11_bounces 47 = .ok (.getfield 7, 3) := by decide +kernel
theorem dX11_bounces_50 : decode cX11_bounces 50 = .ok (.iconst 3, 1) := by decide +kernel
theorem dX11_bounces_51 : decode cX11_bounces 51 = .ok (.iaload, 1) := by decide +kernel
theorem dX11_bounces_52 : decode cX11_bounces 52 = .ok (.bipush (-4), 2) := by decide +kernel
theorem dX11_bounces_54 : decode cX11_bounces 54 = .ok (.iload_n 3, 1) := by decide +kernel
theorem dX11_bounces_55 : decode cX11_bounces 55 = .ok (.iconst 0, 1) := by decide +kernel
theorem dX11_bounces_56 : decode cX11_bounces 56 = .ok (.iconst 0, 1) := by decide +kernel
theorem dX11_bounces_57 : decode cX11_bounces 57 = .ok (.invokevirtual 214, 3) := by decide +kernel
theorem dX11_bounces_60 : decode cX11_bounces 60 = .ok (.aload_n 0, 1) := by decide +kernel
theorem dX11_bounces_61 : decode cX11_bounces 61 = .ok (.getfield 7, 3) := by decide +kernel
theorem dX11_bounces_64 : decode cX11_bounces 64 = .ok (.iconst 3, 1) := by decide +kernel
theorem dX11_bounces_65 : decode cX11_bounces 65 = .ok (.dup2, 1) := by decide +kernel
theorem dX11_bounces_66 : decode cX11_bounces 66 = .ok (.iaload, 1) := by decide +kernel
theorem dX11_bounces_67 : decode cX11_bounces 67 = .ok (.iconst 1, 1) := by decide +kernel
theorem dX11_bounces_68 : decode cX11_bounces 68 = .ok (.iadd, 1) := by decide +kernel
theorem dX11_bounces_69 : decode cX11_bounces 69 = .ok (.iastore, 1) := by decide +kernel
theorem dX11_bounces_70 : decode cX11_bounces 70 = .ok (.return_, 1) := by decide +kernel
theorem dX11_hasHad_0 : decode cX11_hasHad 0 = .ok (.iconst 0, 1) := by decide +kernel
theorem dX11_hasHad_1 : decode cX11_hasHad 1 = .ok (.istore_n 3, 1) := by decide +kernel
theorem dX11_hasHad_2 : decode cX11_hasHad 2 = .ok (.iconst 0, 1) := by decide +kernel
theorem dX11_hasHad_3 : decode cX11_hasHad 3 = .ok (.istore 4, 2) := by decide +kernel
theorem dX11_hasHad_5 : decode cX11_hasHad 5 = .ok (.iload 4, 2) := by decide +kernel
theorem dX11_hasHad_7 : decode cX11_hasHad 7 = .ok (.aload_n 0, 1) := by decide +kernel
theorem dX11_hasHad_8 : decode cX11_hasHad 8 = .ok (.iload_n 1, 1) := by decide +kernel
theorem dX11_hasHad_9 : decode cX11_hasHad 9 = .ok (.iconst 2, 1) := by decide +kernel
theorem dX11_hasHad_10 : decode cX11_hasHad 10 = .ok (.invokevirtual 200, 3) := by decide +kernel
theorem dX11_hasHad_13 : decode cX11_hasHad 13 = .ok (.if_icmp .ge 32, 3) := by decide +kernel
theorem dX11_hasHad_16 : decode cX11_hasHad 16 = .ok (.iload_n 3, 1) := by decide +kernel
theorem dX11_hasHad_17 : decode cX11_hasHad 17 = .ok (.ifCond .ne 16, 3) := by decide +kernel
theorem dX11_hasHad_20 : decode cX11_hasHad 20 = .ok (.aload_n 0, 1) := by decide +kernel
theorem dX11_hasHad_21 : decode cX11_hasHad 21 = .ok (.iload_n 1, 1) := by decide +kernel
theorem dX11_hasHad_22 : decode cX11_hasHad 22 = .ok (.iconst 3, 1) := by decide +kernel
theorem dX11_hasHad_23 : decode cX11_hasHad 23 = .ok (.iload 4, 2) := by decide +kernel
theorem dX11_hasHad_25 : decode cX11_hasHad 25 = .ok (.iadd, 1) := by decide +kernel
theorem dX11_hasHad_26 : decode cX11_hasHad 26 = .ok (.invokevirtual 200, 3) := by decide +kernel
theorem dX11_hasHad_29 : decode cX11_hasHad 29 = .ok (.iload_n 2, 1) := by decide +kernel
theorem dX11_hasHad_30 : decode cX11_hasHad 30 = .ok (.if_icmp .ne 7, 3) := by decide +kernel
theorem dX11_hasHad_33 : decode cX11_hasHad 33 = .ok (.iconst 1, 1) := by decide +kernel
theorem dX11_hasHad_34 : decode cX11_hasHad 34 = .ok (.goto 4, 3) := by decide +kernel
theorem dX11_hasHad_37 : decode cX11_hasHad 37 = .ok (.iconst 0, 1) := by decide +kernel
theorem dX11_hasHad_38 : decode cX11_hasHad 38 = .ok (.istore_n 3, 1) := by decide +kernel
theorem dX11_hasHad_39 : decode cX11_hasHad 39 = .ok (.iinc 4 1, 3) := by decide +kernel
theorem dX11_hasHad_42 : decode cX11_hasHad 42 = .ok (.goto (-37), 3) := by decide +kernel
theorem dX11_hasHad_45 : decode cX11_hasHad 45 = .ok (.iload_n 3, 1) := by decide +kernel
theorem dX11_hasHad_46 : decode cX11_hasHad 46 = .ok (.ireturn, 1) := by decide +kernel
theorem dX11_gives_0 : decode cX11_gives 0 = .ok (.aload_n 0, 1) := by decide +kernel
theorem dX11_gives_1 : decode cX11_gives 1 = .ok (.iload_n 1, 1) := by decide +kernel
theorem dX11_gives_2 : decode cX11_gives 2 = .ok (.iconst 3, 1) := by decide +kernel
theorem dX11_gives_3 : decode cX11_gives 3 = .ok (.invokevirtual 164, 3) := by decide +kernel
theorem dX11_gives_6 : decode cX11_gives 6 = .ok (.istore_n 2, 1) := by decide +kernel
theorem dX11_gives_7 : decode cX11_gives 7 = .ok (.sipush 246, 3) := by decide +kernel
theorem dX11_gives_10 : decode cX11_gives 10 = .ok (.bipush 11, 2) := by decide +kernel
theorem dX11_gives_12 : decode cX11_gives 12 = .ok (.iload_n 2, 1) := by decide +kernel
theorem dX11_gives_13 : decode cX11_gives 13 = .ok (.imul, 1) := by decide +kernel
theorem dX11_gives_14 : decode cX11_gives 14 = .ok (.iadd, 1) := by decide +kernel
theorem dX11_gives_15 : decode cX11_gives 15 = .ok (.istore_n 3, 1) := by decide +kernel
theorem dX11_gives_16 : decode cX11_gives 16 = .ok (.aload_n 0, 1) := by decide +kernel
theorem dX11_gives_17 : decode cX11_gives 17 = .ok (.iload_n 2, 1) := by decide +kernel
theorem dX11_gives_18 : decode cX11_gives 18 = .ok (.aload_n 0, 1) := by decide +kernel
theorem dX11_gives_19 : decode cX11_gives 19 = .ok (.iload_n 1, 1) := by decide +kernel
theorem dX11_gives_20 : decode cX11_gives 20 = .ok (.iconst 1, 1) := by decide +kernel
theorem dX11_gives_21 : decode cX11_gives 21 = .ok (.invokevirtual 164, 3) := by decide +kernel
theorem dX11_gives_24 : decode cX11_gives 24 = .ok (.invokevirtual 240, 3) := by decide +kernel
theorem dX11_gives_27 : decode cX11_gives 27 = .ok (.istore 4, 2) := by decide +kernel
theorem dX11_gives_29 : decode cX11_gives 29 = .ok (.aload_n 0, 1) := by decide +kernel
theorem dX11_gives_30 : decode cX11_gives 30 = .ok (.iload 4, 2) := by decide +kernel
theorem dX11_gives_32 : decode cX11_gives 32 = .ok (.ifCond .eq 7, 3) := by decide +kernel
theorem dX11_gives_35 : decode cX11_gives 35 = .ok (.iconst 3, 1) := by decide +kernel
theorem dX11_gives_36 : decode cX11_gives 36 = .ok (.goto 4, 3) := by decide +kernel
theorem dX11_gives_39 : decode cX11_gives 39 = .ok (.iconst 2, 1) := by decide +kernel
theorem dX11_gives_40 : decode cX11_gives 40 = .ok (.iload_n 1, 1) := by decide +kernel
theorem dX11_gives_41 : decode cX11_gives 41 = .ok (.aload_n 0, 1) := by decide +kernel
theorem dX11_gives_42 : decode cX11_gives 42 = .ok (.iload_n 1, 1) := by decide +kernel
theorem dX11_gives_43 : decode cX11_gives 43 = .ok (.iconst 0, 1) := by decide +kernel
theorem dX11_gives_44 : decode cX11_gives 44 = .ok (.invokevirtual 164, 3) := by decide +kernel
theorem dX11_gives_47 : decode cX11_gives 47 = .ok (.invokevirtual 234, 3) := by decide +kernel
theorem dX11_gives_50 : decode cX11_gives 50 = .ok (.iload 4, 2) := by decide +kernel
theorem dX11_gives_52 : decode cX11_gives 52 = .ok (.ifCond .ne 123, 3) := by decide +kernel
theorem dX11_gives_55 : decode cX11_gives 55 = .ok (.aload_n 0, 1) := by decide +kernel
theorem dX11_gives_56 : decode cX11_gives 56 = .ok (.getfield 7, 3) := by decide +kernel
theorem dX11_gives_59 : decode cX11_gives 59 = .ok (.iload_n 3, 1) := by decide +kernel
theorem dX11_gives_60 : decode cX11_gives 60 = .ok (.iconst 2, 1) := by decide +kernel
theorem dX11_gives_61 : decode cX11_gives 61 = .ok (.iadd, 1) := by decide +kernel
theorem dX11_gives_62 : decode cX11_gives 62 = .ok (.iaload, 1) := by decide +kernel
theorem dX11_gives_63 : decode cX11_gives 63 = .ok (.bipush 8, 2) := by decide +kernel
theorem dX11_gives_65 : decode cX11_gives 65 = .ok (.if_icmp .ne 51, 3) := by decide +kernel
theorem dX11_gives_68 : decode cX11_gives 68 = .ok (.iconst 3, 1) := by decide +kernel
theorem dX11_gives_69 : decode cX11_gives 69 = .ok (.istore 5, 2) := by decide +kernel
theorem dX11_gives_71 : decode cX11_gives 71 = .ok (.iload 5, 2) := by decide +kernel
theorem dX11_gives_73 : decode cX11_gives 73 = .ok (.bipush 10, 2) := by decide +kernel
theorem dX11_gives_75 : decode cX11_gives 75 = .ok (.if_icmp .ge 29, 3) := by decide +kernel
theorem dX11_gives_78 : decode cX11_gives 78 = .ok (.aload_n 0, 1) := by decide +kernel
theorem dX11_gives_79 : decode cX11_gives 79 = .ok (.getfield 7, 3) := by decide +kernel
theorem dX11_gives_82 : decode cX11_gives 82 = .ok (.iload_n 3, 1) := by decide +kernel
theorem dX11_gives_83 : decode cX11_gives 83 = .ok (.iload 5, 2) := by decide +kernel
theorem dX11_gives_85 : decode cX11_gives 85 = .ok (.iadd, 1) := by decide +kernel
theorem dX11_gives_86 : decode cX11_gives 86 = .ok (.aload_n 0, 1) := by decide +kernel
theorem dX11_gives_87 : decode cX11_gives 87 = .ok (.getfield 7, 3) := by decide +kernel
theorem dX11_gives_90 : decode cX11_gives 90 = .ok (.iload_n 3, 1) := by decide +kernel
theorem dX11_gives_91 : decode cX11_gives 91 = .ok (.iload 5, 2) := by decide +kernel
theorem dX11_gives_93 : decode cX11_gives 93 = .ok (.iadd, 1) := by decide +kernel
theorem dX11_gives_94 : decode cX11_gives 94 = .ok (.iconst 1, 1) := by decide +kernel
theorem dX11_gives_95 : decode cX11_gives 95 = .ok (.iadd, 1) := by decide +kernel
theorem dX11_gives_96 : decode cX11_gives 96 = .ok (.iaload, 1) := by decide +kernel
theorem dX11_gives_97 : decode cX11_gives 97 = .ok (.iastore, 1) := by decide +kernel
theorem dX11_gives_98 : decode cX11_gives 98 = .ok (.iinc 5 1, 3) := by decide +kernel
theorem dX11_gives_101 : decode cX11_gives 101 = .ok (.goto (-30), 3) := by decide +kernel
theorem dX11_gives_104 : decode cX11_gives 104 = .ok (.aload_n 0, 1) := by decide +kernel
theorem dX11_gives_105 : decode cX11_gives 105 = .ok (.getfield 7, 3) := by decide +kernel
theorem dX11_gives_108 : decode cX11_gives 108 = .ok (.iload_n 3, 1) := by decide +kernel
theorem dX11_gives_109 : decode cX11_gives 109 = .ok (.iconst 2, 1) := by decide +kernel
theorem dX11_gives_110 : decode cX11_gives 110 = .ok (.iadd, 1) := by decide +kernel
theorem dX11_gives_111 : decode cX11_gives 111 = .ok (.dup2, 1) := by decide +kernel
theorem dX11_gives_112 : decode cX11_gives 112 = .ok (.iaload, 1) := by decide +kernel
theorem dX11_gives_113 : decode cX11_gives 113 = .ok (.iconst 1, 1) := by decide +kernel
theorem dX11_gives_114 : decode cX11_gives 114 = .ok (.isub, 1) := by decide +kernel
theorem dX11_gives_115 : decode cX11_gives 115 = .ok (.iastore, 1) := by decide +kernel
theorem dX11_gives_116 : decode cX11_gives 116 = .ok (.aload_n 0, 1) := by decide +kernel
theorem dX11_gives_117 : decode cX11_gives 117 = .ok (.getfield 7, 3) := by decide +kernel
theorem dX11_gives_120 : decode cX11_gives 120 = .ok (.iload_n 3, 1) := by decide +kernel
theorem dX11_gives_121 : decode cX11_gives 121 = .ok (.iconst 3, 1) := by decide +kernel
theorem dX11_gives_122 : decode cX11_gives 122 = .ok (.iadd, 1) := by decide +kernel
theorem dX11_gives_123 : decode cX11_gives 123 = .ok (.aload_n 0, 1) := by decide +kernel
theorem dX11_gives_124 : decode cX11_gives 124 = .ok (.getfield 7, 3) := by decide +kernel
theorem dX11_gives_127 : decode cX11_gives 127 = .ok (.iload_n 3, 1) := by decide +kernel
theorem dX11_gives_128 : decode cX11_gives 128 = .ok (.iconst 2, 1) := by decide +kernel
theorem dX11_gives_129 : decode cX11_gives 129 = .ok (.iadd, 1) := by decide +kernel
theorem dX11_gives_130 : decode cX11_gives 130 = .ok (.iaload, 1) := by decide +kernel
theorem dX11_gives_131 : decode cX11_gives 131 = .ok (.iadd, 1) := by decide +kernel
theorem dX11_gives_132 : decode cX11_gives 132 = .ok (.aload_n 0, 1) := by decide +kernel
theorem dX11_gives_133 : decode cX11_gives 133 = .ok (.iload_n 1, 1) := by decide +kernel
theorem dX11_gives_134 : decode cX11_gives 134 = .ok (.iconst 1, 1) := by decide +kernel
theorem dX11_gives_135 : decode cX11_gives 135 = .ok (.invokevirtual 164, 3) := by decide +kernel
theorem dX11_gives_138 : decode cX11_gives 138 = .ok (.iastore, 1) := by decide +kernel
theorem dX11_gives_139 : decode cX11_gives 139 = .ok (.aload_n 0, 1) := by decide +kernel
theorem dX11_gives_140 : decode cX11_gives 140 = .ok (.getfield 7, 3) := by decide +kernel
theorem dX11_gives_143 : decode cX11_gives 143 = .ok (.iload_n 3, 1) := by decide +kernel
theorem dX11_gives_144 : decode cX11_gives 144 = .ok (.iconst 2, 1) := by decide +kernel
theorem dX11_gives_145 : decode cX11_gives 145 = .ok (.iadd, 1) := by decide +kernel
theorem dX11_gives_146 : decode cX11_gives 146 = .ok (.dup2, 1) := by decide +kernel
theorem dX11_gives_147 : decode cX11_gives 147 = .ok (.iaload, 1) := by decide +kernel
theorem dX11_gives_148 : decode cX11_gives 148 = .ok (.iconst 1, 1) := by decide +kernel
theorem dX11_gives_149 : decode cX11_gives 149 = .ok (.iadd, 1) := by decide +kernel
theorem dX11_gives_150 : decode cX11_gives 150 = .ok (.iastore, 1) := by decide +kernel
theorem dX11_gives_151 : decode cX11_gives 151 = .ok (.aload_n 0, 1) := by decide +kernel
theorem dX11_gives_152 : decode cX11_gives 152 = .ok (.getfield 7, 3) := by decide +kernel
theorem dX11_gives_155 : decode cX11_gives 155 = .ok (.iload_n 3, 1) := by decide +kernel
theorem dX11_gives_156 : decode cX11_gives 156 = .ok (.dup2, 1) := by decide +kernel
