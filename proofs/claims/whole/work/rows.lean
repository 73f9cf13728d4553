section
/-- a private method of a class that the tables say can be made, by its rows of tables_1 -/
def lw_okq (q : MethodName × Nat) : Prop := (q.1.cls ≠ "java/lang/invoke/MethodHandle" ∧ q.1.cls ≠ "java/lang/invoke/VarHandle") ∧ Cond.instantiable q.1.cls q.2 ∈ tables_1 ∧ Cond.privateMethod q.1 ∈ tables_1 ∧ Cond.instanceMethod q.1 ∈ tables_1
theorem lw_p0 : lw_okq (⟨"WaryHouses", "forgetImages", "()V"⟩, 7) := ⟨⟨by decide +kernel, by decide +kernel⟩, List.mem_of_getElem? (i := 22) (by decide +kernel), List.mem_of_getElem? (i := 550) (by decide +kernel), List.mem_of_getElem? (i := 551) (by decide +kernel)⟩
theorem lw_p1 : lw_okq (⟨"WaryHouses", "isHouse", "(I)Z"⟩, 7) := ⟨⟨by decide +kernel, by decide +kernel⟩, List.mem_of_getElem? (i := 22) (by decide +kernel), List.mem_of_getElem? (i := 566) (by decide +kernel), List.mem_of_getElem? (i := 567) (by decide +kernel)⟩
theorem lw_p2 : lw_okq (⟨"WaryHouses", "isDomain", "(I)Z"⟩, 7) := ⟨⟨by decide +kernel, by decide +kernel⟩, List.mem_of_getElem? (i := 22) (by decide +kernel), List.mem_of_getElem? (i := 595) (by decide +kernel), List.mem_of_getElem? (i := 596) (by decide +kernel)⟩
theorem lw_p3 : lw_okq (⟨"WaryHousesModel", "anew", "()V"⟩, 22) := ⟨⟨by decide +kernel, by decide +kernel⟩, List.mem_of_getElem? (i := 897) (by decide +kernel), List.mem_of_getElem? (i := 903) (by decide +kernel), List.mem_of_getElem? (i := 904) (by decide +kernel)⟩
theorem lw_p4 : lw_okq (⟨"WaryHousesModel", "reads", "()V"⟩, 22) := ⟨⟨by decide +kernel, by decide +kernel⟩, List.mem_of_getElem? (i := 897) (by decide +kernel), List.mem_of_getElem? (i := 990) (by decide +kernel), List.mem_of_getElem? (i := 991) (by decide +kernel)⟩
theorem lw_p5 : lw_okq (⟨"WaryHousesModel", "byteAt", "(I)I"⟩, 22) := ⟨⟨by decide +kernel, by decide +kernel⟩, List.mem_of_getElem? (i := 897) (by decide +kernel), List.mem_of_getElem? (i := 994) (by decide +kernel), List.mem_of_getElem? (i := 995) (by decide +kernel)⟩
theorem lw_p6 : lw_okq (⟨"WaryHousesModel", "requires", "(ZI)V"⟩, 22) := ⟨⟨by decide +kernel, by decide +kernel⟩, List.mem_of_getElem? (i := 897) (by decide +kernel), List.mem_of_getElem? (i := 1002) (by decide +kernel), List.mem_of_getElem? (i := 1003) (by decide +kernel)⟩
theorem lw_p7 : lw_okq (⟨"WaryHousesModel", "readLine", "()V"⟩, 22) := ⟨⟨by decide +kernel, by decide +kernel⟩, List.mem_of_getElem? (i := 897) (by decide +kernel), List.mem_of_getElem? (i := 1006) (by decide +kernel), List.mem_of_getElem? (i := 1007) (by decide +kernel)⟩
theorem lw_p8 : lw_okq (⟨"WaryHousesModel", "lineNow", "()I"⟩, 22) := ⟨⟨by decide +kernel, by decide +kernel⟩, List.mem_of_getElem? (i := 897) (by decide +kernel), List.mem_of_getElem? (i := 1010) (by decide +kernel), List.mem_of_getElem? (i := 1011) (by decide +kernel)⟩
theorem lw_p9 : lw_okq (⟨"WaryHousesModel", "is", "(IIIII)Z"⟩, 22) := ⟨⟨by decide +kernel, by decide +kernel⟩, List.mem_of_getElem? (i := 897) (by decide +kernel), List.mem_of_getElem? (i := 1014) (by decide +kernel), List.mem_of_getElem? (i := 1015) (by decide +kernel)⟩
theorem lw_p10 : lw_okq (⟨"WaryHousesModel", "readHouse", "()V"⟩, 22) := ⟨⟨by decide +kernel, by decide +kernel⟩, List.mem_of_getElem? (i := 897) (by decide +kernel), List.mem_of_getElem? (i := 1018) (by decide +kernel), List.mem_of_getElem? (i := 1019) (by decide +kernel)⟩
theorem lw_p11 : lw_okq (⟨"WaryHousesModel", "readDomain", "()V"⟩, 22) := ⟨⟨by decide +kernel, by decide +kernel⟩, List.mem_of_getElem? (i := 897) (by decide +kernel), List.mem_of_getElem? (i := 1025) (by decide +kernel), List.mem_of_getElem? (i := 1026) (by decide +kernel)⟩
theorem lw_p12 : lw_okq (⟨"WaryHousesModel", "readReceiver", "(I)V"⟩, 22) := ⟨⟨by decide +kernel, by decide +kernel⟩, List.mem_of_getElem? (i := 897) (by decide +kernel), List.mem_of_getElem? (i := 1029) (by decide +kernel), List.mem_of_getElem? (i := 1030) (by decide +kernel)⟩
theorem lw_p13 : lw_okq (⟨"WaryHousesModel", "numberNow", "(I)I"⟩, 22) := ⟨⟨by decide +kernel, by decide +kernel⟩, List.mem_of_getElem? (i := 897) (by decide +kernel), List.mem_of_getElem? (i := 1033) (by decide +kernel), List.mem_of_getElem? (i := 1034) (by decide +kernel)⟩
theorem lw_p14 : lw_okq (⟨"WaryHousesModel", "readNumber", "(I)I"⟩, 22) := ⟨⟨by decide +kernel, by decide +kernel⟩, List.mem_of_getElem? (i := 897) (by decide +kernel), List.mem_of_getElem? (i := 1037) (by decide +kernel), List.mem_of_getElem? (i := 1038) (by decide +kernel)⟩
theorem lw_p15 : lw_okq (⟨"WaryHousesModel", "readAddress", "(I)V"⟩, 22) := ⟨⟨by decide +kernel, by decide +kernel⟩, List.mem_of_getElem? (i := 897) (by decide +kernel), List.mem_of_getElem? (i := 1041) (by decide +kernel), List.mem_of_getElem? (i := 1042) (by decide +kernel)⟩
def lw_privs_1 : List (MethodName × Nat) := [(⟨"WaryHouses", "forgetImages", "()V"⟩, 7), (⟨"WaryHouses", "isHouse", "(I)Z"⟩, 7), (⟨"WaryHouses", "isDomain", "(I)Z"⟩, 7), (⟨"WaryHousesModel", "anew", "()V"⟩, 22), (⟨"WaryHousesModel", "reads", "()V"⟩, 22), (⟨"WaryHousesModel", "byteAt", "(I)I"⟩, 22), (⟨"WaryHousesModel", "requires", "(ZI)V"⟩, 22), (⟨"WaryHousesModel", "readLine", "()V"⟩, 22), (⟨"WaryHousesModel", "lineNow", "()I"⟩, 22), (⟨"WaryHousesModel", "is", "(IIIII)Z"⟩, 22), (⟨"WaryHousesModel", "readHouse", "()V"⟩, 22), (⟨"WaryHousesModel", "readDomain", "()V"⟩, 22), (⟨"WaryHousesModel", "readReceiver", "(I)V"⟩, 22), (⟨"WaryHousesModel", "numberNow", "(I)I"⟩, 22), (⟨"WaryHousesModel", "readNumber", "(I)I"⟩, 22), (⟨"WaryHousesModel", "readAddress", "(I)V"⟩, 22)]
theorem lw_r1 : ∀ q ∈ lw_privs_1, lw_okq q := List.forall_mem_cons.mpr ⟨lw_p0, List.forall_mem_cons.mpr ⟨lw_p1, List.forall_mem_cons.mpr ⟨lw_p2, List.forall_mem_cons.mpr ⟨lw_p3, List.forall_mem_cons.mpr ⟨lw_p4, List.forall_mem_cons.mpr ⟨lw_p5, List.forall_mem_cons.mpr ⟨lw_p6, List.forall_mem_cons.mpr ⟨lw_p7, List.forall_mem_cons.mpr ⟨lw_p8, List.forall_mem_cons.mpr ⟨lw_p9, List.forall_mem_cons.mpr ⟨lw_p10, List.forall_mem_cons.mpr ⟨lw_p11, List.forall_mem_cons.mpr ⟨lw_p12, List.forall_mem_cons.mpr ⟨lw_p13, List.forall_mem_cons.mpr ⟨lw_p14, List.forall_mem_cons.mpr ⟨lw_p15, fun _ h => absurd h List.not_mem_nil⟩⟩⟩⟩⟩⟩⟩⟩⟩⟩⟩⟩⟩⟩⟩⟩
theorem lw_p16 : lw_okq (⟨"WaryHousesModel", "addressNow", "()I"⟩, 22) := ⟨⟨by decide +kernel, by decide +kernel⟩, List.mem_of_getElem? (i := 897) (by decide +kernel), List.mem_of_getElem? (i := 1045) (by decide +kernel), List.mem_of_getElem? (i := 1046) (by decide +kernel)⟩
theorem lw_p17 : lw_okq (⟨"WaryHousesModel", "readTarget", "(I)V"⟩, 22) := ⟨⟨by decide +kernel, by decide +kernel⟩, List.mem_of_getElem? (i := 897) (by decide +kernel), List.mem_of_getElem? (i := 1049) (by decide +kernel), List.mem_of_getElem? (i := 1050) (by decide +kernel)⟩
theorem lw_p18 : lw_okq (⟨"WaryHousesModel", "ofKind", "(I)I"⟩, 22) := ⟨⟨by decide +kernel, by decide +kernel⟩, List.mem_of_getElem? (i := 897) (by decide +kernel), List.mem_of_getElem? (i := 1062) (by decide +kernel), List.mem_of_getElem? (i := 1063) (by decide +kernel)⟩
theorem lw_p19 : lw_okq (⟨"WaryHousesModel", "kindOf", "(I)I"⟩, 22) := ⟨⟨by decide +kernel, by decide +kernel⟩, List.mem_of_getElem? (i := 897) (by decide +kernel), List.mem_of_getElem? (i := 1066) (by decide +kernel), List.mem_of_getElem? (i := 1067) (by decide +kernel)⟩
theorem lw_p20 : lw_okq (⟨"WaryHousesModel", "isHouse", "(I)Z"⟩, 22) := ⟨⟨by decide +kernel, by decide +kernel⟩, List.mem_of_getElem? (i := 897) (by decide +kernel), List.mem_of_getElem? (i := 1074) (by decide +kernel), List.mem_of_getElem? (i := 1075) (by decide +kernel)⟩
theorem lw_p21 : lw_okq (⟨"WaryHousesModel", "itemsIn", "(I)I"⟩, 22) := ⟨⟨by decide +kernel, by decide +kernel⟩, List.mem_of_getElem? (i := 897) (by decide +kernel), List.mem_of_getElem? (i := 1078) (by decide +kernel), List.mem_of_getElem? (i := 1079) (by decide +kernel)⟩
theorem lw_p22 : lw_okq (⟨"WaryHousesModel", "ofItem", "(II)I"⟩, 22) := ⟨⟨by decide +kernel, by decide +kernel⟩, List.mem_of_getElem? (i := 897) (by decide +kernel), List.mem_of_getElem? (i := 1082) (by decide +kernel), List.mem_of_getElem? (i := 1083) (by decide +kernel)⟩
theorem lw_p23 : lw_okq (⟨"WaryHousesModel", "known", "(I)I"⟩, 22) := ⟨⟨by decide +kernel, by decide +kernel⟩, List.mem_of_getElem? (i := 897) (by decide +kernel), List.mem_of_getElem? (i := 1086) (by decide +kernel), List.mem_of_getElem? (i := 1087) (by decide +kernel)⟩
theorem lw_p24 : lw_okq (⟨"WaryHousesModel", "passedIn", "(I)I"⟩, 22) := ⟨⟨by decide +kernel, by decide +kernel⟩, List.mem_of_getElem? (i := 897) (by decide +kernel), List.mem_of_getElem? (i := 1090) (by decide +kernel), List.mem_of_getElem? (i := 1091) (by decide +kernel)⟩
theorem lw_p25 : lw_okq (⟨"WaryHousesModel", "ofStranger", "(III)I"⟩, 22) := ⟨⟨by decide +kernel, by decide +kernel⟩, List.mem_of_getElem? (i := 897) (by decide +kernel), List.mem_of_getElem? (i := 1094) (by decide +kernel), List.mem_of_getElem? (i := 1095) (by decide +kernel)⟩
theorem lw_p26 : lw_okq (⟨"WaryHousesModel", "strangerAt", "(II)I"⟩, 22) := ⟨⟨by decide +kernel, by decide +kernel⟩, List.mem_of_getElem? (i := 897) (by decide +kernel), List.mem_of_getElem? (i := 1098) (by decide +kernel), List.mem_of_getElem? (i := 1099) (by decide +kernel)⟩
theorem lw_p27 : lw_okq (⟨"WaryHousesModel", "lastsOf", "(I)I"⟩, 22) := ⟨⟨by decide +kernel, by decide +kernel⟩, List.mem_of_getElem? (i := 897) (by decide +kernel), List.mem_of_getElem? (i := 1102) (by decide +kernel), List.mem_of_getElem? (i := 1103) (by decide +kernel)⟩
theorem lw_p28 : lw_okq (⟨"WaryHousesModel", "isLast", "(II)Z"⟩, 22) := ⟨⟨by decide +kernel, by decide +kernel⟩, List.mem_of_getElem? (i := 897) (by decide +kernel), List.mem_of_getElem? (i := 1106) (by decide +kernel), List.mem_of_getElem? (i := 1107) (by decide +kernel)⟩
theorem lw_p29 : lw_okq (⟨"WaryHousesModel", "preferenceOf", "(II)I"⟩, 22) := ⟨⟨by decide +kernel, by decide +kernel⟩, List.mem_of_getElem? (i := 897) (by decide +kernel), List.mem_of_getElem? (i := 1110) (by decide +kernel), List.mem_of_getElem? (i := 1111) (by decide +kernel)⟩
theorem lw_p30 : lw_okq (⟨"WaryHousesModel", "receivers", "(I)I"⟩, 22) := ⟨⟨by decide +kernel, by decide +kernel⟩, List.mem_of_getElem? (i := 897) (by decide +kernel), List.mem_of_getElem? (i := 1114) (by decide +kernel), List.mem_of_getElem? (i := 1115) (by decide +kernel)⟩
theorem lw_p31 : lw_okq (⟨"WaryHousesModel", "receiverOf", "(III)I"⟩, 22) := ⟨⟨by decide +kernel, by decide +kernel⟩, List.mem_of_getElem? (i := 897) (by decide +kernel), List.mem_of_getElem? (i := 1118) (by decide +kernel), List.mem_of_getElem? (i := 1119) (by decide +kernel)⟩
def lw_privs_2 : List (MethodName × Nat) := [(⟨"WaryHousesModel", "addressNow", "()I"⟩, 22), (⟨"WaryHousesModel", "readTarget", "(I)V"⟩, 22), (⟨"WaryHousesModel", "ofKind", "(I)I"⟩, 22), (⟨"WaryHousesModel", "kindOf", "(I)I"⟩, 22), (⟨"WaryHousesModel", "isHouse", "(I)Z"⟩, 22), (⟨"WaryHousesModel", "itemsIn", "(I)I"⟩, 22), (⟨"WaryHousesModel", "ofItem", "(II)I"⟩, 22), (⟨"WaryHousesModel", "known", "(I)I"⟩, 22), (⟨"WaryHousesModel", "passedIn", "(I)I"⟩, 22), (⟨"WaryHousesModel", "ofStranger", "(III)I"⟩, 22), (⟨"WaryHousesModel", "strangerAt", "(II)I"⟩, 22), (⟨"WaryHousesModel", "lastsOf", "(I)I"⟩, 22), (⟨"WaryHousesModel", "isLast", "(II)Z"⟩, 22), (⟨"WaryHousesModel", "preferenceOf", "(II)I"⟩, 22), (⟨"WaryHousesModel", "receivers", "(I)I"⟩, 22), (⟨"WaryHousesModel", "receiverOf", "(III)I"⟩, 22)]
theorem lw_r2 : ∀ q ∈ lw_privs_2, lw_okq q := List.forall_mem_cons.mpr ⟨lw_p16, List.forall_mem_cons.mpr ⟨lw_p17, List.forall_mem_cons.mpr ⟨lw_p18, List.forall_mem_cons.mpr ⟨lw_p19, List.forall_mem_cons.mpr ⟨lw_p20, List.forall_mem_cons.mpr ⟨lw_p21, List.forall_mem_cons.mpr ⟨lw_p22, List.forall_mem_cons.mpr ⟨lw_p23, List.forall_mem_cons.mpr ⟨lw_p24, List.forall_mem_cons.mpr ⟨lw_p25, List.forall_mem_cons.mpr ⟨lw_p26, List.forall_mem_cons.mpr ⟨lw_p27, List.forall_mem_cons.mpr ⟨lw_p28, List.forall_mem_cons.mpr ⟨lw_p29, List.forall_mem_cons.mpr ⟨lw_p30, List.forall_mem_cons.mpr ⟨lw_p31, fun _ h => absurd h List.not_mem_nil⟩⟩⟩⟩⟩⟩⟩⟩⟩⟩⟩⟩⟩⟩⟩⟩
theorem lw_p32 : lw_okq (⟨"WaryHousesModel", "targets", "(I)I"⟩, 22) := ⟨⟨by decide +kernel, by decide +kernel⟩, List.mem_of_getElem? (i := 897) (by decide +kernel), List.mem_of_getElem? (i := 1136) (by decide +kernel), List.mem_of_getElem? (i := 1137) (by decide +kernel)⟩
theorem lw_p33 : lw_okq (⟨"WaryHousesModel", "ofBox", "(II)I"⟩, 22) := ⟨⟨by decide +kernel, by decide +kernel⟩, List.mem_of_getElem? (i := 897) (by decide +kernel), List.mem_of_getElem? (i := 1140) (by decide +kernel), List.mem_of_getElem? (i := 1141) (by decide +kernel)⟩
theorem lw_p34 : lw_okq (⟨"WaryHousesModel", "target", "(II)I"⟩, 22) := ⟨⟨by decide +kernel, by decide +kernel⟩, List.mem_of_getElem? (i := 897) (by decide +kernel), List.mem_of_getElem? (i := 1148) (by decide +kernel), List.mem_of_getElem? (i := 1149) (by decide +kernel)⟩
theorem lw_p35 : lw_okq (⟨"WaryHousesModel", "comes", "(IIIIII)V"⟩, 22) := ⟨⟨by decide +kernel, by decide +kernel⟩, List.mem_of_getElem? (i := 897) (by decide +kernel), List.mem_of_getElem? (i := 1160) (by decide +kernel), List.mem_of_getElem? (i := 1161) (by decide +kernel)⟩
theorem lw_p36 : lw_okq (⟨"WaryHousesModel", "lays", "(III)V"⟩, 22) := ⟨⟨by decide +kernel, by decide +kernel⟩, List.mem_of_getElem? (i := 897) (by decide +kernel), List.mem_of_getElem? (i := 1164) (by decide +kernel), List.mem_of_getElem? (i := 1165) (by decide +kernel)⟩
theorem lw_p37 : lw_okq (⟨"WaryHousesModel", "logs", "(IIII)V"⟩, 22) := ⟨⟨by decide +kernel, by decide +kernel⟩, List.mem_of_getElem? (i := 897) (by decide +kernel), List.mem_of_getElem? (i := 1168) (by decide +kernel), List.mem_of_getElem? (i := 1169) (by decide +kernel)⟩
theorem lw_p38 : lw_okq (⟨"WaryHousesModel", "ticks", "()V"⟩, 22) := ⟨⟨by decide +kernel, by decide +kernel⟩, List.mem_of_getElem? (i := 897) (by decide +kernel), List.mem_of_getElem? (i := 1177) (by decide +kernel), List.mem_of_getElem? (i := 1178) (by decide +kernel)⟩
theorem lw_p39 : lw_okq (⟨"WaryHousesModel", "isHandled", "(I)Z"⟩, 22) := ⟨⟨by decide +kernel, by decide +kernel⟩, List.mem_of_getElem? (i := 897) (by decide +kernel), List.mem_of_getElem? (i := 1181) (by decide +kernel), List.mem_of_getElem? (i := 1182) (by decide +kernel)⟩
theorem lw_p40 : lw_okq (⟨"WaryHousesModel", "bounces", "(I)V"⟩, 22) := ⟨⟨by decide +kernel, by decide +kernel⟩, List.mem_of_getElem? (i := 897) (by decide +kernel), List.mem_of_getElem? (i := 1185) (by decide +kernel), List.mem_of_getElem? (i := 1186) (by decide +kernel)⟩
theorem lw_p41 : lw_okq (⟨"WaryHousesModel", "logsItem", "(III)V"⟩, 22) := ⟨⟨by decide +kernel, by decide +kernel⟩, List.mem_of_getElem? (i := 897) (by decide +kernel), List.mem_of_getElem? (i := 1189) (by decide +kernel), List.mem_of_getElem? (i := 1190) (by decide +kernel)⟩
theorem lw_p42 : lw_okq (⟨"WaryHousesModel", "leaves", "(I)V"⟩, 22) := ⟨⟨by decide +kernel, by decide +kernel⟩, List.mem_of_getElem? (i := 897) (by decide +kernel), List.mem_of_getElem? (i := 1193) (by decide +kernel), List.mem_of_getElem? (i := 1194) (by decide +kernel)⟩
theorem lw_p43 : lw_okq (⟨"WaryHousesModel", "arrives", "(I)Z"⟩, 22) := ⟨⟨by decide +kernel, by decide +kernel⟩, List.mem_of_getElem? (i := 897) (by decide +kernel), List.mem_of_getElem? (i := 1197) (by decide +kernel), List.mem_of_getElem? (i := 1198) (by decide +kernel)⟩
theorem lw_p44 : lw_okq (⟨"WaryHousesModel", "gives", "(I)V"⟩, 22) := ⟨⟨by decide +kernel, by decide +kernel⟩, List.mem_of_getElem? (i := 897) (by decide +kernel), List.mem_of_getElem? (i := 1201) (by decide +kernel), List.mem_of_getElem? (i := 1202) (by decide +kernel)⟩
theorem lw_p45 : lw_okq (⟨"WaryHousesModel", "hasHad", "(II)Z"⟩, 22) := ⟨⟨by decide +kernel, by decide +kernel⟩, List.mem_of_getElem? (i := 897) (by decide +kernel), List.mem_of_getElem? (i := 1205) (by decide +kernel), List.mem_of_getElem? (i := 1206) (by decide +kernel)⟩
theorem lw_p46 : lw_okq (⟨"WaryHousesModel", "opens", "(I)Z"⟩, 22) := ⟨⟨by decide +kernel, by decide +kernel⟩, List.mem_of_getElem? (i := 897) (by decide +kernel), List.mem_of_getElem? (i := 1209) (by decide +kernel), List.mem_of_getElem? (i := 1210) (by decide +kernel)⟩
theorem lw_p47 : lw_okq (⟨"WaryHousesModel", "isShut", "(II)Z"⟩, 22) := ⟨⟨by decide +kernel, by decide +kernel⟩, List.mem_of_getElem? (i := 897) (by decide +kernel), List.mem_of_getElem? (i := 1213) (by decide +kernel), List.mem_of_getElem? (i := 1214) (by decide +kernel)⟩
def lw_privs_3 : List (MethodName × Nat) := [(⟨"WaryHousesModel", "targets", "(I)I"⟩, 22), (⟨"WaryHousesModel", "ofBox", "(II)I"⟩, 22), (⟨"WaryHousesModel", "target", "(II)I"⟩, 22), (⟨"WaryHousesModel", "comes", "(IIIIII)V"⟩, 22), (⟨"WaryHousesModel", "lays", "(III)V"⟩, 22), (⟨"WaryHousesModel", "logs", "(IIII)V"⟩, 22), (⟨"WaryHousesModel", "ticks", "()V"⟩, 22), (⟨"WaryHousesModel", "isHandled", "(I)Z"⟩, 22), (⟨"WaryHousesModel", "bounces", "(I)V"⟩, 22), (⟨"WaryHousesModel", "logsItem", "(III)V"⟩, 22), (⟨"WaryHousesModel", "leaves", "(I)V"⟩, 22), (⟨"WaryHousesModel", "arrives", "(I)Z"⟩, 22), (⟨"WaryHousesModel", "gives", "(I)V"⟩, 22), (⟨"WaryHousesModel", "hasHad", "(II)Z"⟩, 22), (⟨"WaryHousesModel", "opens", "(I)Z"⟩, 22), (⟨"WaryHousesModel", "isShut", "(II)Z"⟩, 22)]
theorem lw_r3 : ∀ q ∈ lw_privs_3, lw_okq q := List.forall_mem_cons.mpr ⟨lw_p32, List.forall_mem_cons.mpr ⟨lw_p33, List.forall_mem_cons.mpr ⟨lw_p34, List.forall_mem_cons.mpr ⟨lw_p35, List.forall_mem_cons.mpr ⟨lw_p36, List.forall_mem_cons.mpr ⟨lw_p37, List.forall_mem_cons.mpr ⟨lw_p38, List.forall_mem_cons.mpr ⟨lw_p39, List.forall_mem_cons.mpr ⟨lw_p40, List.forall_mem_cons.mpr ⟨lw_p41, List.forall_mem_cons.mpr ⟨lw_p42, List.forall_mem_cons.mpr ⟨lw_p43, List.forall_mem_cons.mpr ⟨lw_p44, List.forall_mem_cons.mpr ⟨lw_p45, List.forall_mem_cons.mpr ⟨lw_p46, List.forall_mem_cons.mpr ⟨lw_p47, fun _ h => absurd h List.not_mem_nil⟩⟩⟩⟩⟩⟩⟩⟩⟩⟩⟩⟩⟩⟩⟩⟩
theorem lw_p48 : lw_okq (⟨"WaryHousesModel", "travels", "(I)Z"⟩, 22) := ⟨⟨by decide +kernel, by decide +kernel⟩, List.mem_of_getElem? (i := 897) (by decide +kernel), List.mem_of_getElem? (i := 1217) (by decide +kernel), List.mem_of_getElem? (i := 1218) (by decide +kernel)⟩
theorem lw_p49 : lw_okq (⟨"WaryHousesModel", "asked", "(III)I"⟩, 22) := ⟨⟨by decide +kernel, by decide +kernel⟩, List.mem_of_getElem? (i := 897) (by decide +kernel), List.mem_of_getElem? (i := 1221) (by decide +kernel), List.mem_of_getElem? (i := 1222) (by decide +kernel)⟩
theorem lw_p50 : lw_okq (⟨"WaryHousesModel", "takes", "(IIII)Z"⟩, 22) := ⟨⟨by decide +kernel, by decide +kernel⟩, List.mem_of_getElem? (i := 897) (by decide +kernel), List.mem_of_getElem? (i := 1225) (by decide +kernel), List.mem_of_getElem? (i := 1226) (by decide +kernel)⟩
theorem lw_p51 : lw_okq (⟨"WaryHousesModel", "whichStranger", "(IIII)I"⟩, 22) := ⟨⟨by decide +kernel, by decide +kernel⟩, List.mem_of_getElem? (i := 897) (by decide +kernel), List.mem_of_getElem? (i := 1229) (by decide +kernel), List.mem_of_getElem? (i := 1230) (by decide +kernel)⟩
theorem lw_p52 : lw_okq (⟨"WaryHousesModel", "putsDown", "(IIII)V"⟩, 22) := ⟨⟨by decide +kernel, by decide +kernel⟩, List.mem_of_getElem? (i := 897) (by decide +kernel), List.mem_of_getElem? (i := 1233) (by decide +kernel), List.mem_of_getElem? (i := 1234) (by decide +kernel)⟩
theorem lw_p53 : lw_okq (⟨"WaryHousesModel", "forgets", "(II)V"⟩, 22) := ⟨⟨by decide +kernel, by decide +kernel⟩, List.mem_of_getElem? (i := 897) (by decide +kernel), List.mem_of_getElem? (i := 1237) (by decide +kernel), List.mem_of_getElem? (i := 1238) (by decide +kernel)⟩
theorem lw_p54 : lw_okq (⟨"WaryHousesModel", "itemOf", "(II)I"⟩, 22) := ⟨⟨by decide +kernel, by decide +kernel⟩, List.mem_of_getElem? (i := 897) (by decide +kernel), List.mem_of_getElem? (i := 1255) (by decide +kernel), List.mem_of_getElem? (i := 1256) (by decide +kernel)⟩
theorem lw_p55 : lw_okq (⟨"WaryHousesModel", "marksOf", "(I)I"⟩, 22) := ⟨⟨by decide +kernel, by decide +kernel⟩, List.mem_of_getElem? (i := 897) (by decide +kernel), List.mem_of_getElem? (i := 1259) (by decide +kernel), List.mem_of_getElem? (i := 1260) (by decide +kernel)⟩
theorem lw_p56 : lw_okq (⟨"WaryHousesModel", "gets", "()I"⟩, 22) := ⟨⟨by decide +kernel, by decide +kernel⟩, List.mem_of_getElem? (i := 897) (by decide +kernel), List.mem_of_getElem? (i := 1281) (by decide +kernel), List.mem_of_getElem? (i := 1282) (by decide +kernel)⟩
def lw_privs_4 : List (MethodName × Nat) := [(⟨"WaryHousesModel", "travels", "(I)Z"⟩, 22), (⟨"WaryHousesModel", "asked", "(III)I"⟩, 22), (⟨"WaryHousesModel", "takes", "(IIII)Z"⟩, 22), (⟨"WaryHousesModel", "whichStranger", "(IIII)I"⟩, 22), (⟨"WaryHousesModel", "putsDown", "(IIII)V"⟩, 22), (⟨"WaryHousesModel", "forgets", "(II)V"⟩, 22), (⟨"WaryHousesModel", "itemOf", "(II)I"⟩, 22), (⟨"WaryHousesModel", "marksOf", "(I)I"⟩, 22), (⟨"WaryHousesModel", "gets", "()I"⟩, 22)]
theorem lw_r4 : ∀ q ∈ lw_privs_4, lw_okq q := List.forall_mem_cons.mpr ⟨lw_p48, List.forall_mem_cons.mpr ⟨lw_p49, List.forall_mem_cons.mpr ⟨lw_p50, List.forall_mem_cons.mpr ⟨lw_p51, List.forall_mem_cons.mpr ⟨lw_p52, List.forall_mem_cons.mpr ⟨lw_p53, List.forall_mem_cons.mpr ⟨lw_p54, List.forall_mem_cons.mpr ⟨lw_p55, List.forall_mem_cons.mpr ⟨lw_p56, fun _ h => absurd h List.not_mem_nil⟩⟩⟩⟩⟩⟩⟩⟩⟩
def lw_privs : List (MethodName × Nat) := lw_privs_1 ++ (lw_privs_2 ++ (lw_privs_3 ++ (lw_privs_4)))
def lw_tbl : List Cond := k2_sels lw_privs ++ tables_1
theorem lw_privs_ok : ∀ q ∈ lw_privs, lw_okq q := by
  show ∀ q ∈ lw_privs_1 ++ (lw_privs_2 ++ (lw_privs_3 ++ (lw_privs_4))), lw_okq q
  exact List.forall_mem_append.mpr ⟨lw_r1, List.forall_mem_append.mpr ⟨lw_r2, List.forall_mem_append.mpr ⟨lw_r3, lw_r4⟩⟩⟩
def RX0 : String := "WaryHouses$Book"
def TX0 : u_T := fun k => match k with
  | 0 => ("WaryHouses$Book", "tally", "[I", true)
  | 1 => ("WaryHouses$Book", "cells", "[I", true)
  | 2 => ("WaryHouses$Book", "first", "I", false)
  | _ => ("WaryHouses$Book", "held", "I", false)
def tyX0 : Nat → FieldType := fun k => match k with
  | 0 => .array .int
  | 1 => .array .int
  | 2 => .int
  | _ => .int
theorem nmX0 : ∀ a, a < 4 → ∀ b, b < 4 → a ≠ b → (TX0 a).2.1 ≠ (TX0 b).2.1 := by decide +kernel
theorem tyX0_ok : ∀ k, k < 4 → parseFieldDescriptor (TX0 k).2.2.1 = some (tyX0 k) := by decide +kernel
abbrev cX0_init : ByteArray := prog_2_method_1_code
def yX0_init : MethodName := ⟨RX0, "<init>", "()V"⟩
abbrev cX0_clear : ByteArray := prog_2_method_2_code
def yX0_clear : MethodName := ⟨RX0, "clear", "()V"⟩
abbrev cX0_copyFrom : ByteArray := prog_2_method_3_code
def yX0_copyFrom : MethodName := ⟨RX0, "copyFrom", "(LWaryHouses$Book;)V"⟩
abbrev cX0_write : ByteArray := prog_2_method_4_code
def yX0_write : MethodName := ⟨RX0, "write", "(IILWaryHouses$Item;I)V"⟩
abbrev cX0_answer : ByteArray := prog_2_method_5_code
def yX0_answer : MethodName := ⟨RX0, "answer", "(II)I"⟩
def RX1 : String := "WaryHouses$Boxes"
def TX1 : u_T := fun k => match k with
  | 0 => ("WaryHouses$Boxes", "given", "[I", true)
  | 1 => ("WaryHouses$Boxes", "latestFrom", "[I", true)
  | _ => ("WaryHouses$Boxes", "latest", "[I", true)
def tyX1 : Nat → FieldType := fun k => match k with
  | 0 => .array .int
  | 1 => .array .int
  | _ => .array .int
theorem nmX1 : ∀ a, a < 3 → ∀ b, b < 3 → a ≠ b → (TX1 a).2.1 ≠ (TX1 b).2.1 := by decide +kernel
theorem tyX1_ok : ∀ k, k < 3 → parseFieldDescriptor (TX1 k).2.2.1 = some (tyX1 k) := by decide +kernel
abbrev cX1_init : ByteArray := prog_3_method_1_code
def yX1_init : MethodName := ⟨RX1, "<init>", "()V"⟩
abbrev cX1_clear : ByteArray := prog_3_method_2_code
def yX1_clear : MethodName := ⟨RX1, "clear", "()V"⟩
abbrev cX1_copyFrom : ByteArray := prog_3_method_3_code
def yX1_copyFrom : MethodName := ⟨RX1, "copyFrom", "(LWaryHouses$Boxes;)V"⟩
abbrev cX1_answer : ByteArray := prog_3_method_4_code
def yX1_answer : MethodName := ⟨RX1, "answer", "(II)I"⟩
abbrev cX1_knows : ByteArray := prog_3_method_5_code
def yX1_knows : MethodName := ⟨RX1, "knows", "(II)Z"⟩
abbrev cX1_put : ByteArray := prog_3_method_6_code
def yX1_put : MethodName := ⟨RX1, "put", "(III)V"⟩
def RX2 : String := "WaryHouses$Carrier"
def TX2 : u_T := fun k => match k with
  | 0 => ("WaryHouses$Carrier", "plan", "LWaryHouses$Plan;", true)
  | _ => ("WaryHouses$Carrier", "now", "LWaryHouses$Round;", true)
def tyX2 : Nat → FieldType := fun k => match k with
  | 0 => .object "WaryHouses$Plan"
  | _ => .object "WaryHouses$Round"
theorem nmX2 : ∀ a, a < 2 → ∀ b, b < 2 → a ≠ b → (TX2 a).2.1 ≠ (TX2 b).2.1 := by decide +kernel
theorem tyX2_ok : ∀ k, k < 2 → parseFieldDescriptor (TX2 k).2.2.1 = some (tyX2 k) := by decide +kernel
abbrev cX2_init : ByteArray := prog_4_method_1_code
def yX2_init : MethodName := ⟨RX2, "<init>", "(LWaryHouses$Plan;LWaryHouses$Round;)V"⟩
abbrev cX2_refusal : ByteArray := prog_4_method_2_code
def yX2_refusal : MethodName := ⟨RX2, "refusal", "(IIII)I"⟩
abbrev cX2_takeLetter : ByteArray := prog_4_method_3_code
def yX2_takeLetter : MethodName := ⟨RX2, "takeLetter", "(III)I"⟩
abbrev cX2_takeAll : ByteArray := prog_4_method_4_code
def yX2_takeAll : MethodName := ⟨RX2, "takeAll", "(LWaryHouses$Sheet;I)I"⟩
abbrev cX2_passTick : ByteArray := prog_4_method_5_code
def yX2_passTick : MethodName := ⟨RX2, "passTick", "()V"⟩
abbrev cX2_takeTurn : ByteArray := prog_4_method_6_code
def yX2_takeTurn : MethodName := ⟨RX2, "takeTurn", "(I)V"⟩
abbrev cX2_handle : ByteArray := prog_4_method_7_code
def yX2_handle : MethodName := ⟨RX2, "handle", "(LWaryHouses$Item;)V"⟩
abbrev cX2_give : ByteArray := prog_4_method_8_code
def yX2_give : MethodName := ⟨RX2, "give", "(LWaryHouses$Item;)V"⟩
abbrev cX2_followAlias : ByteArray := prog_4_method_9_code
def yX2_followAlias : MethodName := ⟨RX2, "followAlias", "(LWaryHouses$Item;)V"⟩
abbrev cX2_openList : ByteArray := prog_4_method_10_code
def yX2_openList : MethodName := ⟨RX2, "openList", "(LWaryHouses$Item;)V"⟩
abbrev cX2_unmarked : ByteArray := prog_4_method_11_code
def yX2_unmarked : MethodName := ⟨RX2, "unmarked", "(II)I"⟩
abbrev cX2_passOn : ByteArray := prog_4_method_12_code
def yX2_passOn : MethodName := ⟨RX2, "passOn", "(LWaryHouses$Item;I)Z"⟩
abbrev cX2_tryLater : ByteArray := prog_4_method_13_code
def yX2_tryLater : MethodName := ⟨RX2, "tryLater", "(LWaryHouses$Item;)V"⟩
abbrev cX2_bounce : ByteArray := prog_4_method_14_code
def yX2_bounce : MethodName := ⟨RX2, "bounce", "(LWaryHouses$Item;)V"⟩
def RX3 : String := "WaryHouses$Item"
def TX3 : u_T := fun k => match k with
  | 0 => ("WaryHouses$Item", "at", "I", false)
  | 1 => ("WaryHouses$Item", "letter", "I", false)
  | 2 => ("WaryHouses$Item", "from", "I", false)
  | 3 => ("WaryHouses$Item", "to", "I", false)
  | 4 => ("WaryHouses$Item", "tries", "I", false)
  | 5 => ("WaryHouses$Item", "hops", "I", false)
  | 6 => ("WaryHouses$Item", "due", "I", false)
  | _ => ("WaryHouses$Item", "marks", "I", false)
def tyX3 : Nat → FieldType := fun k => match k with
  | 0 => .int
  | 1 => .int
  | 2 => .int
  | 3 => .int
  | 4 => .int
  | 5 => .int
  | 6 => .int
  | _ => .int
theorem nmX3 : ∀ a, a < 8 → ∀ b, b < 8 → a ≠ b → (TX3 a).2.1 ≠ (TX3 b).2.1 := by decide +kernel
theorem tyX3_ok : ∀ k, k < 8 → parseFieldDescriptor (TX3 k).2.2.1 = some (tyX3 k) := by decide +kernel
abbrev cX3_init : ByteArray := prog_5_method_1_code
def yX3_init : MethodName := ⟨RX3, "<init>", "()V"⟩
abbrev cX3_answer : ByteArray := prog_5_method_2_code
def yX3_answer : MethodName := ⟨RX3, "answer", "(I)I"⟩
abbrev cX3_copyFrom : ByteArray := prog_5_method_3_code
def yX3_copyFrom : MethodName := ⟨RX3, "copyFrom", "(LWaryHouses$Item;)V"⟩
def RX4 : String := "WaryHouses$Mail"
def TX4 : u_T := fun k => match k with
  | 0 => ("WaryHouses$Mail", "rows", "[LWaryHouses$Item;", true)
  | 1 => ("WaryHouses$Mail", "used", "I", false)
  | _ => ("WaryHouses$Mail", "living", "I", false)
def tyX4 : Nat → FieldType := fun k => match k with
  | 0 => .array (.object "WaryHouses$Item")
  | 1 => .int
  | _ => .int
theorem nmX4 : ∀ a, a < 3 → ∀ b, b < 3 → a ≠ b → (TX4 a).2.1 ≠ (TX4 b).2.1 := by decide +kernel
theorem tyX4_ok : ∀ k, k < 3 → parseFieldDescriptor (TX4 k).2.2.1 = some (tyX4 k) := by decide +kernel
abbrev cX4_init : ByteArray := prog_6_method_1_code
def yX4_init : MethodName := ⟨RX4, "<init>", "()V"⟩
abbrev cX4_clear : ByteArray := prog_6_method_2_code
def yX4_clear : MethodName := ⟨RX4, "clear", "()V"⟩
abbrev cX4_copyFrom : ByteArray := prog_6_method_3_code
def yX4_copyFrom : MethodName := ⟨RX4, "copyFrom", "(LWaryHouses$Mail;)V"⟩
abbrev cX4_add : ByteArray := prog_6_method_4_code
def yX4_add : MethodName := ⟨RX4, "add", "(IIIII)LWaryHouses$Item;"⟩
abbrev cX4_addOnward : ByteArray := prog_6_method_5_code
def yX4_addOnward : MethodName := ⟨RX4, "addOnward", "(LWaryHouses$Item;IIII)V"⟩
abbrev cX4_remove : ByteArray := prog_6_method_6_code
def yX4_remove : MethodName := ⟨RX4, "remove", "(LWaryHouses$Item;)V"⟩
abbrev cX4_closeGaps : ByteArray := prog_6_method_7_code
def yX4_closeGaps : MethodName := ⟨RX4, "closeGaps", "()V"⟩
abbrev cX4_itemsIn : ByteArray := prog_6_method_8_code
def yX4_itemsIn : MethodName := ⟨RX4, "itemsIn", "(I)I"⟩
abbrev cX4_find : ByteArray := prog_6_method_9_code
def yX4_find : MethodName := ⟨RX4, "find", "(II)LWaryHouses$Item;"⟩
def RX5 : String := "WaryHouses$Plan"
def TX5 : u_T := fun k => match k with
  | 0 => ("WaryHouses$Plan", "houses", "I", false)
  | 1 => ("WaryHouses$Plan", "domains", "I", false)
  | 2 => ("WaryHouses$Plan", "wary", "[I", true)
  | 3 => ("WaryHouses$Plan", "receivers", "[I", true)
  | 4 => ("WaryHouses$Plan", "receiverHouse", "[I", true)
  | 5 => ("WaryHouses$Plan", "preference", "[I", true)
  | 6 => ("WaryHouses$Plan", "ranked", "[I", true)
  | 7 => ("WaryHouses$Plan", "kind", "[I", true)
  | 8 => ("WaryHouses$Plan", "told", "[I", true)
  | 9 => ("WaryHouses$Plan", "leadCount", "[I", true)
  | _ => ("WaryHouses$Plan", "leadTo", "[I", true)
def tyX5 : Nat → FieldType := fun k => match k with
  | 0 => .int
  | 1 => .int
  | 2 => .array .int
  | 3 => .array .int
  | 4 => .array .int
  | 5 => .array .int
  | 6 => .array .int
  | 7 => .array .int
  | 8 => .array .int
  | 9 => .array .int
  | _ => .array .int
theorem nmX5 : ∀ a, a < 11 → ∀ b, b < 11 → a ≠ b → (TX5 a).2.1 ≠ (TX5 b).2.1 := by decide +kernel
theorem tyX5_ok : ∀ k, k < 11 → parseFieldDescriptor (TX5 k).2.2.1 = some (tyX5 k) := by decide +kernel
abbrev cX5_init : ByteArray := prog_7_method_1_code
def yX5_init : MethodName := ⟨RX5, "<init>", "()V"⟩
abbrev cX5_clear : ByteArray := prog_7_method_2_code
def yX5_clear : MethodName := ⟨RX5, "clear", "()V"⟩
abbrev cX5_copyFrom : ByteArray := prog_7_method_3_code
def yX5_copyFrom : MethodName := ⟨RX5, "copyFrom", "(LWaryHouses$Plan;)V"⟩
abbrev cX5_addHouse : ByteArray := prog_7_method_4_code
def yX5_addHouse : MethodName := ⟨RX5, "addHouse", "(Z)V"⟩
abbrev cX5_addReceiver : ByteArray := prog_7_method_5_code
def yX5_addReceiver : MethodName := ⟨RX5, "addReceiver", "(III)V"⟩
abbrev cX5_isAskedAhead : ByteArray := prog_7_method_6_code
def yX5_isAskedAhead : MethodName := ⟨RX5, "isAskedAhead", "(II)Z"⟩
abbrev cX5_tell : ByteArray := prog_7_method_7_code
def yX5_tell : MethodName := ⟨RX5, "tell", "(II)V"⟩
abbrev cX5_addLead : ByteArray := prog_7_method_8_code
def yX5_addLead : MethodName := ⟨RX5, "addLead", "(II)V"⟩
abbrev cX5_lead : ByteArray := prog_7_method_9_code
def yX5_lead : MethodName := ⟨RX5, "lead", "(II)I"⟩
abbrev cX5_hasLead : ByteArray := prog_7_method_10_code
def yX5_hasLead : MethodName := ⟨RX5, "hasLead", "(II)Z"⟩
abbrev cX5_hasReceivers : ByteArray := prog_7_method_11_code
def yX5_hasReceivers : MethodName := ⟨RX5, "hasReceivers", "(I)Z"⟩
abbrev cX5_preferenceOf : ByteArray := prog_7_method_12_code
def yX5_preferenceOf : MethodName := ⟨RX5, "preferenceOf", "(II)I"⟩
abbrev cX5_isLast : ByteArray := prog_7_method_13_code
def yX5_isLast : MethodName := ⟨RX5, "isLast", "(II)Z"⟩
abbrev cX5_domainsEndingIn : ByteArray := prog_7_method_14_code
def yX5_domainsEndingIn : MethodName := ⟨RX5, "domainsEndingIn", "(I)I"⟩
abbrev cX5_asked : ByteArray := prog_7_method_15_code
def yX5_asked : MethodName := ⟨RX5, "asked", "(III)I"⟩
abbrev cX5_reachedFrom : ByteArray := prog_7_method_16_code
def yX5_reachedFrom : MethodName := ⟨RX5, "reachedFrom", "(I)I"⟩
abbrev cX5_leadBits : ByteArray := prog_7_method_17_code
def yX5_leadBits : MethodName := ⟨RX5, "leadBits", "(I)I"⟩
def RX6 : String := "WaryHouses$Round"
def TX6 : u_T := fun k => match k with
  | 0 => ("WaryHouses$Round", "clock", "I", false)
  | 1 => ("WaryHouses$Round", "letters", "I", false)
  | 2 => ("WaryHouses$Round", "ofLists", "I", false)
  | 3 => ("WaryHouses$Round", "up", "[I", true)
  | 4 => ("WaryHouses$Round", "mail", "LWaryHouses$Mail;", true)
  | 5 => ("WaryHouses$Round", "boxes", "LWaryHouses$Boxes;", true)
  | 6 => ("WaryHouses$Round", "book", "LWaryHouses$Book;", true)
  | _ => ("WaryHouses$Round", "strangers", "[LWaryHouses$Strangers;", true)
def tyX6 : Nat → FieldType := fun k => match k with
  | 0 => .int
  | 1 => .int
  | 2 => .int
  | 3 => .array .int
  | 4 => .object "WaryHouses$Mail"
  | 5 => .object "WaryHouses$Boxes"
  | 6 => .object "WaryHouses$Book"
  | _ => .array (.object "WaryHouses$Strangers")
theorem nmX6 : ∀ a, a < 8 → ∀ b, b < 8 → a ≠ b → (TX6 a).2.1 ≠ (TX6 b).2.1 := by decide +kernel
theorem tyX6_ok : ∀ k, k < 8 → parseFieldDescriptor (TX6 k).2.2.1 = some (tyX6 k) := by decide +kernel
abbrev cX6_init : ByteArray := prog_8_method_1_code
def yX6_init : MethodName := ⟨RX6, "<init>", "()V"⟩
abbrev cX6_clear : ByteArray := prog_8_method_2_code
def yX6_clear : MethodName := ⟨RX6, "clear", "()V"⟩
abbrev cX6_copyFrom : ByteArray := prog_8_method_3_code
def yX6_copyFrom : MethodName := ⟨RX6, "copyFrom", "(LWaryHouses$Round;)V"⟩
def RX7 : String := "WaryHouses$Sheet"
def TX7 : u_T := fun k => match k with
  | 0 => ("WaryHouses$Sheet", "lane", "I", true)
  | 1 => ("WaryHouses$Sheet", "size", "I", true)
  | 2 => ("WaryHouses$Sheet", "bytes", "[B", true)
  | _ => ("WaryHouses$Sheet", "ints", "[I", true)
def tyX7 : Nat → FieldType := fun k => match k with
  | 0 => .int
  | 1 => .int
  | 2 => .array .byte
  | _ => .array .int
theorem nmX7 : ∀ a, a < 4 → ∀ b, b < 4 → a ≠ b → (TX7 a).2.1 ≠ (TX7 b).2.1 := by decide +kernel
theorem tyX7_ok : ∀ k, k < 4 → parseFieldDescriptor (TX7 k).2.2.1 = some (tyX7 k) := by decide +kernel
abbrev cX7_init : ByteArray := prog_9_method_1_code
def yX7_init : MethodName := ⟨RX7, "<init>", "(II)V"⟩
abbrev cX7_cell : ByteArray := prog_9_method_2_code
def yX7_cell : MethodName := ⟨RX7, "cell", "(I)I"⟩
abbrev cX7_put : ByteArray := prog_9_method_3_code
def yX7_put : MethodName := ⟨RX7, "put", "(II)V"⟩
abbrev cX7_fillFrom : ByteArray := prog_9_method_4_code
def yX7_fillFrom : MethodName := ⟨RX7, "fillFrom", "(LWaryHouses$Sheet;I)V"⟩
def RX8 : String := "WaryHouses$Strangers"
def TX8 : u_T := fun k => match k with
  | 0 => ("WaryHouses$Strangers", "cells", "[I", true)
  | _ => ("WaryHouses$Strangers", "known", "I", false)
def tyX8 : Nat → FieldType := fun k => match k with
  | 0 => .array .int
  | _ => .int
theorem nmX8 : ∀ a, a < 2 → ∀ b, b < 2 → a ≠ b → (TX8 a).2.1 ≠ (TX8 b).2.1 := by decide +kernel
theorem tyX8_ok : ∀ k, k < 2 → parseFieldDescriptor (TX8 k).2.2.1 = some (tyX8 k) := by decide +kernel
abbrev cX8_init : ByteArray := prog_10_method_1_code
def yX8_init : MethodName := ⟨RX8, "<init>", "()V"⟩
abbrev cX8_copyFrom : ByteArray := prog_10_method_2_code
def yX8_copyFrom : MethodName := ⟨RX8, "copyFrom", "(LWaryHouses$Strangers;)V"⟩
abbrev cX8_passed : ByteArray := prog_10_method_3_code
def yX8_passed : MethodName := ⟨RX8, "passed", "()I"⟩
abbrev cX8_lets : ByteArray := prog_10_method_4_code
def yX8_lets : MethodName := ⟨RX8, "lets", "(IIII)Z"⟩
abbrev cX8_find : ByteArray := prog_10_method_5_code
def yX8_find : MethodName := ⟨RX8, "find", "(III)I"⟩
abbrev cX8_putDown : ByteArray := prog_10_method_6_code
def yX8_putDown : MethodName := ⟨RX8, "putDown", "(IIII)V"⟩
abbrev cX8_forget : ByteArray := prog_10_method_7_code
def yX8_forget : MethodName := ⟨RX8, "forget", "(I)V"⟩
def RX9 : String := "WaryHouses$Tape"
def TX9 : u_T := fun k => match k with
  | 0 => ("WaryHouses$Tape", "bytes", "[B", true)
  | 1 => ("WaryHouses$Tape", "length", "I", false)
  | 2 => ("WaryHouses$Tape", "draft", "LWaryHouses$Plan;", true)
  | 3 => ("WaryHouses$Tape", "next", "I", false)
  | 4 => ("WaryHouses$Tape", "token", "I", false)
  | 5 => ("WaryHouses$Tape", "start", "I", false)
  | 6 => ("WaryHouses$Tape", "value", "I", false)
  | 7 => ("WaryHouses$Tape", "named", "I", false)
  | 8 => ("WaryHouses$Tape", "found", "I", false)
  | 9 => ("WaryHouses$Tape", "place", "I", false)
  | _ => ("WaryHouses$Tape", "lines", "I", false)
def tyX9 : Nat → FieldType := fun k => match k with
  | 0 => .array .byte
  | 1 => .int
  | 2 => .object "WaryHouses$Plan"
  | 3 => .int
  | 4 => .int
  | 5 => .int
  | 6 => .int
  | 7 => .int
  | 8 => .int
  | 9 => .int
  | _ => .int
theorem nmX9 : ∀ a, a < 11 → ∀ b, b < 11 → a ≠ b → (TX9 a).2.1 ≠ (TX9 b).2.1 := by decide +kernel
theorem tyX9_ok : ∀ k, k < 11 → parseFieldDescriptor (TX9 k).2.2.1 = some (tyX9 k) := by decide +kernel
abbrev cX9_init : ByteArray := prog_11_method_1_code
def yX9_init : MethodName := ⟨RX9, "<init>", "()V"⟩
abbrev cX9_readText : ByteArray := prog_11_method_2_code
def yX9_readText : MethodName := ⟨RX9, "readText", "()Z"⟩
abbrev cX9_readHouse : ByteArray := prog_11_method_3_code
def yX9_readHouse : MethodName := ⟨RX9, "readHouse", "()Z"⟩
abbrev cX9_readDomain : ByteArray := prog_11_method_4_code
def yX9_readDomain : MethodName := ⟨RX9, "readDomain", "()Z"⟩
abbrev cX9_readReceiver : ByteArray := prog_11_method_5_code
def yX9_readReceiver : MethodName := ⟨RX9, "readReceiver", "(I)Z"⟩
abbrev cX9_readTold : ByteArray := prog_11_method_6_code
def yX9_readTold : MethodName := ⟨RX9, "readTold", "(I)Z"⟩
abbrev cX9_readBox : ByteArray := prog_11_method_7_code
def yX9_readBox : MethodName := ⟨RX9, "readBox", "()Z"⟩
abbrev cX9_readAlias : ByteArray := prog_11_method_8_code
def yX9_readAlias : MethodName := ⟨RX9, "readAlias", "()Z"⟩
abbrev cX9_readList : ByteArray := prog_11_method_9_code
def yX9_readList : MethodName := ⟨RX9, "readList", "()Z"⟩
abbrev cX9_addressStands : ByteArray := prog_11_method_10_code
def yX9_addressStands : MethodName := ⟨RX9, "addressStands", "()Z"⟩
abbrev cX9_numberStands : ByteArray := prog_11_method_11_code
def yX9_numberStands : MethodName := ⟨RX9, "numberStands", "(I)Z"⟩
abbrev cX9_readSign : ByteArray := prog_11_method_12_code
def yX9_readSign : MethodName := ⟨RX9, "readSign", "()Z"⟩
abbrev cX9_signStands : ByteArray := prog_11_method_13_code
def yX9_signStands : MethodName := ⟨RX9, "signStands", "()Z"⟩
abbrev cX9_allIsThere : ByteArray := prog_11_method_14_code
def yX9_allIsThere : MethodName := ⟨RX9, "allIsThere", "()Z"⟩
abbrev cX9_readToken : ByteArray := prog_11_method_15_code
def yX9_readToken : MethodName := ⟨RX9, "readToken", "()Z"⟩
abbrev cX9_tokenOf : ByteArray := prog_11_method_16_code
def yX9_tokenOf : MethodName := ⟨RX9, "tokenOf", "(I)I"⟩
abbrev cX9_valueRead : ByteArray := prog_11_method_17_code
def yX9_valueRead : MethodName := ⟨RX9, "valueRead", "()I"⟩
abbrev cX9_isWord : ByteArray := prog_11_method_18_code
def yX9_isWord : MethodName := ⟨RX9, "isWord", "(Ljava/lang/String;)Z"⟩
abbrev cX9_refuse : ByteArray := prog_11_method_19_code
def yX9_refuse : MethodName := ⟨RX9, "refuse", "(I)Z"⟩
def RX10 : String := "WaryHouses"
def TX10 : u_T := fun k => match k with
  | 0 => ("WaryHouses", "tape", "LWaryHouses$Tape;", true)
  | 1 => ("WaryHouses", "plan", "LWaryHouses$Plan;", true)
  | 2 => ("WaryHouses", "now", "LWaryHouses$Round;", true)
  | 3 => ("WaryHouses", "carrier", "LWaryHouses$Carrier;", true)
  | 4 => ("WaryHouses", "images", "[LWaryHouses$Round;", true)
  | 5 => ("WaryHouses", "kept", "[Z", true)
  | _ => ("WaryHouses", "sheets", "[LWaryHouses$Sheet;", true)
def tyX10 : Nat → FieldType := fun k => match k with
  | 0 => .object "WaryHouses$Tape"
  | 1 => .object "WaryHouses$Plan"
  | 2 => .object "WaryHouses$Round"
  | 3 => .object "WaryHouses$Carrier"
  | 4 => .array (.object "WaryHouses$Round")
  | 5 => .array .boolean
  | _ => .array (.object "WaryHouses$Sheet")
theorem nmX10 : ∀ a, a < 7 → ∀ b, b < 7 → a ≠ b → (TX10 a).2.1 ≠ (TX10 b).2.1 := by decide +kernel
theorem tyX10_ok : ∀ k, k < 7 → parseFieldDescriptor (TX10 k).2.2.1 = some (tyX10 k) := by decide +kernel
abbrev cX10_init : ByteArray := prog_1_method_1_code
def yX10_init : MethodName := ⟨RX10, "<init>", "()V"⟩
abbrev cX10_feed : ByteArray := prog_1_method_2_code
def yX10_feed : MethodName := ⟨RX10, "feed", "(I)I"⟩
abbrev cX10_end : ByteArray := prog_1_method_3_code
def yX10_end : MethodName := ⟨RX10, "end", "(I)I"⟩
abbrev cX10_text : ByteArray := prog_1_method_4_code
def yX10_text : MethodName := ⟨RX10, "text", "()I"⟩
abbrev cX10_fault : ByteArray := prog_1_method_5_code
def yX10_fault : MethodName := ⟨RX10, "fault", "()I"⟩
abbrev cX10_rule : ByteArray := prog_1_method_6_code
def yX10_rule : MethodName := ⟨RX10, "rule", "(I)I"⟩
abbrev cX10_house : ByteArray := prog_1_method_7_code
def yX10_house : MethodName := ⟨RX10, "house", "(II)I"⟩
abbrev cX10_receiver : ByteArray := prog_1_method_8_code
def yX10_receiver : MethodName := ⟨RX10, "receiver", "(III)I"⟩
abbrev cX10_address : ByteArray := prog_1_method_9_code
def yX10_address : MethodName := ⟨RX10, "address", "(II)I"⟩
abbrev cX10_leads : ByteArray := prog_1_method_10_code
def yX10_leads : MethodName := ⟨RX10, "leads", "(II)I"⟩
abbrev cX10_reaches : ByteArray := prog_1_method_11_code
def yX10_reaches : MethodName := ⟨RX10, "reaches", "(II)I"⟩
abbrev cX10_send : ByteArray := prog_1_method_12_code
def yX10_send : MethodName := ⟨RX10, "send", "(III)I"⟩
abbrev cX10_tick : ByteArray := prog_1_method_13_code
def yX10_tick : MethodName := ⟨RX10, "tick", "(I)I"⟩
abbrev cX10_run : ByteArray := prog_1_method_14_code
def yX10_run : MethodName := ⟨RX10, "run", "(I)I"⟩
abbrev cX10_set : ByteArray := prog_1_method_15_code
def yX10_set : MethodName := ⟨RX10, "set", "(II)I"⟩
abbrev cX10_item : ByteArray := prog_1_method_16_code
def yX10_item : MethodName := ⟨RX10, "item", "(III)I"⟩
abbrev cX10_asks : ByteArray := prog_1_method_17_code
def yX10_asks : MethodName := ⟨RX10, "asks", "(III)I"⟩
abbrev cX10_stranger : ByteArray := prog_1_method_18_code
def yX10_stranger : MethodName := ⟨RX10, "stranger", "(III)I"⟩
abbrev cX10_log : ByteArray := prog_1_method_19_code
def yX10_log : MethodName := ⟨RX10, "log", "(II)I"⟩
abbrev cX10_draw : ByteArray := prog_1_method_20_code
def yX10_draw : MethodName := ⟨RX10, "draw", "(II)I"⟩
abbrev cX10_keep : ByteArray := prog_1_method_21_code
def yX10_keep : MethodName := ⟨RX10, "keep", "(I)I"⟩
abbrev cX10_back : ByteArray := prog_1_method_22_code
def yX10_back : MethodName := ⟨RX10, "back", "(I)I"⟩
abbrev cX10_sheet : ByteArray := prog_1_method_23_code
def yX10_sheet : MethodName := ⟨RX10, "sheet", "(III)I"⟩
abbrev cX10_lay : ByteArray := prog_1_method_24_code
def yX10_lay : MethodName := ⟨RX10, "lay", "(III)I"⟩
abbrev cX10_post : ByteArray := prog_1_method_25_code
def yX10_post : MethodName := ⟨RX10, "post", "(IIII)I"⟩
abbrev cX10_count : ByteArray := prog_1_method_26_code
def yX10_count : MethodName := ⟨RX10, "count", "(I)I"⟩
abbrev cX10_isHouse : ByteArray := prog_1_method_27_code
def yX10_isHouse : MethodName := ⟨RX10, "isHouse", "(I)Z"⟩
abbrev cX10_isDomain : ByteArray := prog_1_method_28_code
def yX10_isDomain : MethodName := ⟨RX10, "isDomain", "(I)Z"⟩
abbrev cX10_isAddress : ByteArray := prog_1_method_29_code
def yX10_isAddress : MethodName := ⟨RX10, "isAddress", "(I)Z"⟩
abbrev cX10_isImage : ByteArray := prog_1_method_30_code
def yX10_isImage : MethodName := ⟨RX10, "isImage", "(I)Z"⟩
abbrev cX10_isSheet : ByteArray := prog_1_method_31_code
def yX10_isSheet : MethodName := ⟨RX10, "isSheet", "(I)Z"⟩
abbrev cX10_isLane : ByteArray := prog_1_method_32_code
def yX10_isLane : MethodName := ⟨RX10, "isLane", "(I)Z"⟩
abbrev cX10_forgetImages : ByteArray := prog_1_method_33_code
def yX10_forgetImages : MethodName := ⟨RX10, "forgetImages", "()V"⟩
abbrev cX10_nextSeed : ByteArray := prog_1_method_34_code
def yX10_nextSeed : MethodName := ⟨RX10, "nextSeed", "(I)I"⟩
abbrev cX10_got : ByteArray := prog_1_method_35_code
def yX10_got : MethodName := ⟨RX10, "got", "(I)I"⟩
abbrev cX10_copyFault : ByteArray := prog_1_method_36_code
def yX10_copyFault : MethodName := ⟨RX10, "copyFault", "(LWaryHouses$Sheet;III)I"⟩
def RX11 : String := "WaryHousesModel"
def TX11 : u_T := fun k => match k with
  | 0 => ("WaryHousesModel", "st", "[I", true)
  | 1 => ("WaryHousesModel", "draft", "[I", true)
  | 2 => ("WaryHousesModel", "kept", "[I", true)
  | 3 => ("WaryHousesModel", "isKept", "[Z", true)
  | 4 => ("WaryHousesModel", "before", "[I", true)
  | 5 => ("WaryHousesModel", "tape", "[I", true)
  | 6 => ("WaryHousesModel", "taped", "I", false)
  | 7 => ("WaryHousesModel", "pos", "I", false)
  | 8 => ("WaryHousesModel", "begun", "I", false)
  | 9 => ("WaryHousesModel", "sort", "I", false)
  | 10 => ("WaryHousesModel", "figure", "I", false)
  | 11 => ("WaryHousesModel", "fault", "I", false)
  | 12 => ("WaryHousesModel", "wrongAt", "I", false)
  | 13 => ("WaryHousesModel", "highHouse", "I", false)
  | 14 => ("WaryHousesModel", "highDomain", "I", false)
  | 15 => ("WaryHousesModel", "isMet", "[Z", true)
  | 16 => ("WaryHousesModel", "opened", "[I", true)
  | 17 => ("WaryHousesModel", "shut", "[Z", true)
  | 18 => ("WaryHousesModel", "seeded", "I", false)
  | 19 => ("WaryHousesModel", "lanes", "[I", true)
  | 20 => ("WaryHousesModel", "sizes", "[I", true)
  | _ => ("WaryHousesModel", "cells", "[I", true)
def tyX11 : Nat → FieldType := fun k => match k with
  | 0 => .array .int
  | 1 => .array .int
  | 2 => .array .int
  | 3 => .array .boolean
  | 4 => .array .int
  | 5 => .array .int
  | 6 => .int
  | 7 => .int
  | 8 => .int
  | 9 => .int
  | 10 => .int
  | 11 => .int
  | 12 => .int
  | 13 => .int
  | 14 => .int
  | 15 => .array .boolean
  | 16 => .array .int
  | 17 => .array .boolean
  | 18 => .int
  | 19 => .array .int
  | 20 => .array .int
  | _ => .array .int
theorem nmX11 : ∀ a, a < 22 → ∀ b, b < 22 → a ≠ b → (TX11 a).2.1 ≠ (TX11 b).2.1 := by decide +kernel
theorem tyX11_ok : ∀ k, k < 22 → parseFieldDescriptor (TX11 k).2.2.1 = some (tyX11 k) := by decide +kernel
abbrev cX11_init : ByteArray := prog_13_method_1_code
def yX11_init : MethodName := ⟨RX11, "<init>", "()V"⟩
abbrev cX11_in : ByteArray := prog_13_method_3_code
def yX11_in : MethodName := ⟨RX11, "in", "(JJJ)Z"⟩
abbrev cX11_flag : ByteArray := prog_13_method_4_code
def yX11_flag : MethodName := ⟨RX11, "flag", "(Z)I"⟩
abbrev cX11_anew : ByteArray := prog_13_method_5_code
def yX11_anew : MethodName := ⟨RX11, "anew", "()V"⟩
abbrev cX11_feed : ByteArray := prog_13_method_6_code
def yX11_feed : MethodName := ⟨RX11, "feed", "(I)I"⟩
abbrev cX11_end : ByteArray := prog_13_method_7_code
def yX11_end : MethodName := ⟨RX11, "end", "(I)I"⟩
abbrev cX11_requires : ByteArray := prog_13_method_8_code
def yX11_requires : MethodName := ⟨RX11, "requires", "(ZI)V"⟩
abbrev cX11_byteAt : ByteArray := prog_13_method_9_code
def yX11_byteAt : MethodName := ⟨RX11, "byteAt", "(I)I"⟩
abbrev cX11_is : ByteArray := prog_13_method_10_code
def yX11_is : MethodName := ⟨RX11, "is", "(IIIII)Z"⟩
abbrev cX11_lineNow : ByteArray := prog_13_method_11_code
def yX11_lineNow : MethodName := ⟨RX11, "lineNow", "()I"⟩
abbrev cX11_reads : ByteArray := prog_13_method_12_code
def yX11_reads : MethodName := ⟨RX11, "reads", "()V"⟩
abbrev cX11_numberNow : ByteArray := prog_13_method_13_code
def yX11_numberNow : MethodName := ⟨RX11, "numberNow", "(I)I"⟩
abbrev cX11_readNumber : ByteArray := prog_13_method_14_code
def yX11_readNumber : MethodName := ⟨RX11, "readNumber", "(I)I"⟩
abbrev cX11_readHouse : ByteArray := prog_13_method_15_code
def yX11_readHouse : MethodName := ⟨RX11, "readHouse", "()V"⟩
abbrev cX11_readReceiver : ByteArray := prog_13_method_16_code
def yX11_readReceiver : MethodName := ⟨RX11, "readReceiver", "(I)V"⟩
abbrev cX11_readDomain : ByteArray := prog_13_method_17_code
def yX11_readDomain : MethodName := ⟨RX11, "readDomain", "()V"⟩
abbrev cX11_addressNow : ByteArray := prog_13_method_18_code
def yX11_addressNow : MethodName := ⟨RX11, "addressNow", "()I"⟩
abbrev cX11_readAddress : ByteArray := prog_13_method_19_code
def yX11_readAddress : MethodName := ⟨RX11, "readAddress", "(I)V"⟩
abbrev cX11_readTarget : ByteArray := prog_13_method_20_code
def yX11_readTarget : MethodName := ⟨RX11, "readTarget", "(I)V"⟩
abbrev cX11_readLine : ByteArray := prog_13_method_21_code
def yX11_readLine : MethodName := ⟨RX11, "readLine", "()V"⟩
abbrev cX11_text : ByteArray := prog_13_method_22_code
def yX11_text : MethodName := ⟨RX11, "text", "()I"⟩
abbrev cX11_fault : ByteArray := prog_13_method_23_code
def yX11_fault : MethodName := ⟨RX11, "fault", "()I"⟩
abbrev cX11_isHouse : ByteArray := prog_13_method_24_code
def yX11_isHouse : MethodName := ⟨RX11, "isHouse", "(I)Z"⟩
abbrev cX11_isAddress : ByteArray := prog_13_method_25_code
def yX11_isAddress : MethodName := ⟨RX11, "isAddress", "(I)Z"⟩
abbrev cX11_receivers : ByteArray := prog_13_method_26_code
def yX11_receivers : MethodName := ⟨RX11, "receivers", "(I)I"⟩
abbrev cX11_receiverOf : ByteArray := prog_13_method_27_code
def yX11_receiverOf : MethodName := ⟨RX11, "receiverOf", "(III)I"⟩
abbrev cX11_preferenceOf : ByteArray := prog_13_method_28_code
def yX11_preferenceOf : MethodName := ⟨RX11, "preferenceOf", "(II)I"⟩
abbrev cX11_isLast : ByteArray := prog_13_method_29_code
def yX11_isLast : MethodName := ⟨RX11, "isLast", "(II)Z"⟩
abbrev cX11_kindOf : ByteArray := prog_13_method_30_code
def yX11_kindOf : MethodName := ⟨RX11, "kindOf", "(I)I"⟩
abbrev cX11_targets : ByteArray := prog_13_method_31_code
def yX11_targets : MethodName := ⟨RX11, "targets", "(I)I"⟩
abbrev cX11_target : ByteArray := prog_13_method_32_code
def yX11_target : MethodName := ⟨RX11, "target", "(II)I"⟩
abbrev cX11_ofKind : ByteArray := prog_13_method_33_code
def yX11_ofKind : MethodName := ⟨RX11, "ofKind", "(I)I"⟩
abbrev cX11_rule : ByteArray := prog_13_method_34_code
def yX11_rule : MethodName := ⟨RX11, "rule", "(I)I"⟩
abbrev cX11_itemsIn : ByteArray := prog_13_method_35_code
def yX11_itemsIn : MethodName := ⟨RX11, "itemsIn", "(I)I"⟩
abbrev cX11_passedIn : ByteArray := prog_13_method_36_code
def yX11_passedIn : MethodName := ⟨RX11, "passedIn", "(I)I"⟩
abbrev cX11_lastsOf : ByteArray := prog_13_method_37_code
def yX11_lastsOf : MethodName := ⟨RX11, "lastsOf", "(I)I"⟩
abbrev cX11_house : ByteArray := prog_13_method_38_code
def yX11_house : MethodName := ⟨RX11, "house", "(II)I"⟩
abbrev cX11_receiver : ByteArray := prog_13_method_39_code
def yX11_receiver : MethodName := ⟨RX11, "receiver", "(III)I"⟩
abbrev cX11_ofBox : ByteArray := prog_13_method_40_code
def yX11_ofBox : MethodName := ⟨RX11, "ofBox", "(II)I"⟩
abbrev cX11_address : ByteArray := prog_13_method_41_code
def yX11_address : MethodName := ⟨RX11, "address", "(II)I"⟩
abbrev cX11_leads : ByteArray := prog_13_method_42_code
def yX11_leads : MethodName := ⟨RX11, "leads", "(II)I"⟩
abbrev cX11_reaches : ByteArray := prog_13_method_43_code
def yX11_reaches : MethodName := ⟨RX11, "reaches", "(II)I"⟩
abbrev cX11_ofItem : ByteArray := prog_13_method_44_code
def yX11_ofItem : MethodName := ⟨RX11, "ofItem", "(II)I"⟩
abbrev cX11_lays : ByteArray := prog_13_method_45_code
def yX11_lays : MethodName := ⟨RX11, "lays", "(III)V"⟩
abbrev cX11_comes : ByteArray := prog_13_method_46_code
def yX11_comes : MethodName := ⟨RX11, "comes", "(IIIIII)V"⟩
abbrev cX11_leaves : ByteArray := prog_13_method_47_code
def yX11_leaves : MethodName := ⟨RX11, "leaves", "(I)V"⟩
abbrev cX11_logs : ByteArray := prog_13_method_48_code
def yX11_logs : MethodName := ⟨RX11, "logs", "(IIII)V"⟩
abbrev cX11_logsItem : ByteArray := prog_13_method_49_code
def yX11_logsItem : MethodName := ⟨RX11, "logsItem", "(III)V"⟩
abbrev cX11_send : ByteArray := prog_13_method_50_code
def yX11_send : MethodName := ⟨RX11, "send", "(III)I"⟩
abbrev cX11_known : ByteArray := prog_13_method_51_code
def yX11_known : MethodName := ⟨RX11, "known", "(I)I"⟩
abbrev cX11_strangerAt : ByteArray := prog_13_method_52_code
def yX11_strangerAt : MethodName := ⟨RX11, "strangerAt", "(II)I"⟩
abbrev cX11_ofStranger : ByteArray := prog_13_method_53_code
def yX11_ofStranger : MethodName := ⟨RX11, "ofStranger", "(III)I"⟩
abbrev cX11_forgets : ByteArray := prog_13_method_54_code
def yX11_forgets : MethodName := ⟨RX11, "forgets", "(II)V"⟩
abbrev cX11_putsDown : ByteArray := prog_13_method_55_code
def yX11_putsDown : MethodName := ⟨RX11, "putsDown", "(IIII)V"⟩
abbrev cX11_whichStranger : ByteArray := prog_13_method_56_code
def yX11_whichStranger : MethodName := ⟨RX11, "whichStranger", "(IIII)I"⟩
abbrev cX11_takes : ByteArray := prog_13_method_57_code
def yX11_takes : MethodName := ⟨RX11, "takes", "(IIII)Z"⟩
abbrev cX11_asked : ByteArray := prog_13_method_58_code
def yX11_asked : MethodName := ⟨RX11, "asked", "(III)I"⟩
abbrev cX11_bounces : ByteArray := prog_13_method_59_code
def yX11_bounces : MethodName := ⟨RX11, "bounces", "(I)V"⟩
abbrev cX11_hasHad : ByteArray := prog_13_method_60_code
def yX11_hasHad : MethodName := ⟨RX11, "hasHad", "(II)Z"⟩
abbrev cX11_gives : ByteArray := prog_13_method_61_code
def yX11_gives : MethodName := ⟨RX11, "gives", "(I)V"⟩
abbrev cX11_isShut : ByteArray := prog_13_method_62_code
def yX11_isShut : MethodName := ⟨RX11, "isShut", "(II)Z"⟩
abbrev cX11_opens : ByteArray := prog_13_method_63_code
def yX11_opens : MethodName := ⟨RX11, "opens", "(I)Z"⟩
abbrev cX11_arrives : ByteArray := prog_13_method_64_code
def yX11_arrives : MethodName := ⟨RX11, "arrives", "(I)Z"⟩
abbrev cX11_travels : ByteArray := prog_13_method_65_code
def yX11_travels : MethodName := ⟨RX11, "travels", "(I)Z"⟩
abbrev cX11_isHandled : ByteArray := prog_13_method_66_code
def yX11_isHandled : MethodName := ⟨RX11, "isHandled", "(I)Z"⟩
abbrev cX11_ticks : ByteArray := prog_13_method_67_code
def yX11_ticks : MethodName := ⟨RX11, "ticks", "()V"⟩
abbrev cX11_tick : ByteArray := prog_13_method_68_code
def yX11_tick : MethodName := ⟨RX11, "tick", "(I)I"⟩
abbrev cX11_run : ByteArray := prog_13_method_69_code
def yX11_run : MethodName := ⟨RX11, "run", "(I)I"⟩
abbrev cX11_set : ByteArray := prog_13_method_70_code
def yX11_set : MethodName := ⟨RX11, "set", "(II)I"⟩
abbrev cX11_itemOf : ByteArray := prog_13_method_71_code
def yX11_itemOf : MethodName := ⟨RX11, "itemOf", "(II)I"⟩
abbrev cX11_marksOf : ByteArray := prog_13_method_72_code
def yX11_marksOf : MethodName := ⟨RX11, "marksOf", "(I)I"⟩
abbrev cX11_item : ByteArray := prog_13_method_73_code
def yX11_item : MethodName := ⟨RX11, "item", "(III)I"⟩
abbrev cX11_asks : ByteArray := prog_13_method_74_code
def yX11_asks : MethodName := ⟨RX11, "asks", "(III)I"⟩
abbrev cX11_stranger : ByteArray := prog_13_method_75_code
def yX11_stranger : MethodName := ⟨RX11, "stranger", "(III)I"⟩
abbrev cX11_log : ByteArray := prog_13_method_76_code
def yX11_log : MethodName := ⟨RX11, "log", "(II)I"⟩
abbrev cX11_gets : ByteArray := prog_13_method_77_code
def yX11_gets : MethodName := ⟨RX11, "gets", "()I"⟩
abbrev cX11_draw : ByteArray := prog_13_method_78_code
def yX11_draw : MethodName := ⟨RX11, "draw", "(II)I"⟩
abbrev cX11_keep : ByteArray := prog_13_method_79_code
def yX11_keep : MethodName := ⟨RX11, "keep", "(I)I"⟩
abbrev cX11_back : ByteArray := prog_13_method_80_code
def yX11_back : MethodName := ⟨RX11, "back", "(I)I"⟩
abbrev cX11_isSheet : ByteArray := prog_13_method_81_code
def yX11_isSheet : MethodName := ⟨RX11, "isSheet", "(II)Z"⟩
abbrev cX11_sheet : ByteArray := prog_13_method_82_code
def yX11_sheet : MethodName := ⟨RX11, "sheet", "(III)I"⟩
abbrev cX11_lay : ByteArray := prog_13_method_83_code
def yX11_lay : MethodName := ⟨RX11, "lay", "(III)I"⟩
abbrev cX11_post : ByteArray := prog_13_method_84_code
def yX11_post : MethodName := ⟨RX11, "post", "(IIII)I"⟩
abbrev cX11_count : ByteArray := prog_13_method_85_code
def yX11_count : MethodName := ⟨RX11, "count", "(I)I"⟩
def RJ6 : String := "java/lang/Integer"
abbrev cJ6_bitCount_0f7a4 : ByteArray := prog_14_method_49_code
def yJ6_bitCount_0f7a4 : MethodName := ⟨RJ6, "bitCount", "(I)I"⟩
def RJ9 : String := "java/lang/Math"
abbrev cJ9_min_7cf53 : ByteArray := prog_15_method_69_code
def yJ9_min_7cf53 : MethodName := ⟨RJ9, "min", "(II)I"⟩
def RJ0 : String := "java/lang/String"
abbrev cJ0_length_8abf5 : ByteArray := prog_16_method_54_code
def yJ0_length_8abf5 : MethodName := ⟨RJ0, "length", "()I"⟩
abbrev cJ0_charAt_5068e : ByteArray := prog_16_method_56_code
def yJ0_charAt_5068e : MethodName := ⟨RJ0, "charAt", "(I)C"⟩
abbrev cJ0_coder_7d493 : ByteArray := prog_16_method_152_code
def yJ0_coder_7d493 : MethodName := ⟨RJ0, "coder", "()B"⟩
abbrev cJ0_isLatin1_aae02 : ByteArray := prog_16_method_154_code
def yJ0_isLatin1_aae02 : MethodName := ⟨RJ0, "isLatin1", "()Z"⟩
abbrev cJ0_checkIndex_df160 : ByteArray := prog_16_method_155_code
def yJ0_checkIndex_df160 : MethodName := ⟨RJ0, "checkIndex", "(II)V"⟩
def RJ1 : String := "java/lang/StringLatin1"
abbrev cJ1_charAt_3b067 : ByteArray := prog_17_method_2_code
def yJ1_charAt_3b067 : MethodName := ⟨RJ1, "charAt", "([BI)C"⟩
def RJ2 : String := "java/lang/StringUTF16"
abbrev cJ2_getChar_3b067 : ByteArray := prog_18_method_5_code
def yJ2_getChar_3b067 : MethodName := ⟨RJ2, "getChar", "([BI)C"⟩
abbrev cJ2_length_9d52b : ByteArray := prog_18_method_6_code
def yJ2_length_9d52b : MethodName := ⟨RJ2, "length", "([B)I"⟩
abbrev cJ2_charAt_3b067 : ByteArray := prog_18_method_83_code
def yJ2_charAt_3b067 : MethodName := ⟨RJ2, "charAt", "([BI)C"⟩
abbrev cJ2_checkIndex_2214a : ByteArray := prog_18_method_91_code
def yJ2_checkIndex_2214a : MethodName := ⟨RJ2, "checkIndex", "(I[B)V"⟩
def RJ10 : String := "java/lang/System"
def RJ7 : String := "java/util/Arrays"
abbrev cJ7_fill_53178 : ByteArray := prog_20_method_103_code
def yJ7_fill_53178 : MethodName := ⟨RJ7, "fill", "([II)V"⟩
def RJ3 : String := "jdk/internal/util/Preconditions"
abbrev cJ3_checkIndex_8e157 : ByteArray := prog_21_method_11_code
def yJ3_checkIndex_8e157 : MethodName := ⟨RJ3, "checkIndex", "(IILjava/util/function/BiFunction;)I"⟩
def RL : String := "WaryHousesLaw"
abbrev cL_law : ByteArray := code
def yL_law : MethodName := ⟨RL, "law", "([I)Z"⟩
abbrev vwCl : List vw_C := [(RX0, TX0, 4), (RX1, TX1, 3), (RX2, TX2, 2), (RX3, TX3, 8), (RX4, TX4, 3), (RX5, TX5, 11), (RX6, TX6, 8), (RX7, TX7, 4), (RX8, TX8, 2), (RX9, TX9, 11), (RX10, TX10, 7), (RX11, TX11, 22)]
def gtbl : List Cond := lw_tbl.filter goodWord
theorem gm (i : Nat) {w : Cond} (h : lw_tbl[i]? = some w) (hg : goodWord w = true) : w ∈ gtbl := List.mem_filter.mpr ⟨List.mem_of_getElem? h, hg⟩
def isNest : Cond → Bool
  | .methodLinkNest .. => true
  | _ => false
def ntbl : List Cond := lw_tbl.filter isNest
theorem nm_ (i : Nat) {w : Cond} (h : lw_tbl[i]? = some w) (hg : isNest w = true) : w ∈ ntbl := List.mem_filter.mpr ⟨List.mem_of_getElem? h, hg⟩
abbrev MD : Type := MethodName × ByteArray × Nat × Option FieldType
def MOk (j : MD) : Prop := Cond.code j.1 j.2.1 j.2.2.1 j.2.2.2 ∈ gtbl ∧ Cond.initialized j.1.cls ∈ gtbl ∧ j.1.cls ≠ "java/lang/invoke/MethodHandle" ∧ j.1.cls ≠ "java/lang/invoke/VarHandle" ∧ plainName j.1.cls = true
def MInst (j : MD) : Prop := Cond.instanceMethod j.1 ∈ gtbl ∧ Cond.selects j.1.cls j.1 j.1 ∈ gtbl
def MStat (j : MD) : Prop := Cond.static j.1 ∈ gtbl
def MIni (j : MD) : Prop := Cond.instanceMethod j.1 ∈ gtbl ∧ j.1.name = "<init>"
abbrev MPar (j : MD) (n : Nat) : Prop := (parseMethodDescriptor j.1.desc).map (fun d => d.parameters.length) = some n
def MLk (own : String) (idx : Nat) (j : MD) : Prop := Cond.methodLink own idx j.1 ∈ gtbl
def MNk (own : String) (idx : Nat) (j : MD) : Prop := Cond.methodLinkNest own idx j.1 "WaryHouses" ∈ ntbl
def FLok (own : String) (idx ci k : Nat) (fin : Bool) : Prop := ∃ (C : String) (F : u_T) (N : Nat), vwCl[ci]? = some (C, F, N) ∧ k < N ∧ (F k).1 = C ∧ (F k).2.2.2 = fin ∧ Cond.fieldLink own idx (F k).1 (F k).2.1 (F k).2.2.1 ∈ gtbl
theorem gObj : Cond.instanceMethod objectInit ∈ gtbl ∧ Cond.code objectInit ⟨#[0xb1]⟩ 1 none ∈ gtbl := ⟨gm 84 (by decide +kernel) rfl, gm 85 (by decide +kernel) rfl⟩
abbrev mX10_init : MD := (yX10_init, cX10_init, 2, none)
theorem kX10_init : MOk mX10_init ∧ MIni mX10_init ∧ MPar mX10_init 0 := ⟨⟨gm 82 (by decide +kernel) rfl, gm 58 (by decide +kernel) rfl, by decide +kernel, by decide +kernel, by decide +kernel⟩, ⟨gm 81 (by decide +kernel) rfl, rfl⟩, by decide +kernel⟩
abbrev mX9_init : MD := (yX9_init, cX9_init, 1, none)
theorem kX9_init : MOk mX9_init ∧ MIni mX9_init ∧ MPar mX9_init 0 := ⟨⟨gm 90 (by decide +kernel) rfl, gm 59 (by decide +kernel) rfl, by decide +kernel, by decide +kernel, by decide +kernel⟩, ⟨gm 89 (by decide +kernel) rfl, rfl⟩, by decide +kernel⟩
abbrev mX5_init : MD := (yX5_init, cX5_init, 1, none)
theorem kX5_init : MOk mX5_init ∧ MIni mX5_init ∧ MPar mX5_init 0 := ⟨⟨gm 96 (by decide +kernel) rfl, gm 60 (by decide +kernel) rfl, by decide +kernel, by decide +kernel, by decide +kernel⟩, ⟨gm 95 (by decide +kernel) rfl, rfl⟩, by decide +kernel⟩
abbrev mX6_init : MD := (yX6_init, cX6_init, 2, none)
theorem kX6_init : MOk mX6_init ∧ MIni mX6_init ∧ MPar mX6_init 0 := ⟨⟨gm 198 (by decide +kernel) rfl, gm 61 (by decide +kernel) rfl, by decide +kernel, by decide +kernel, by decide +kernel⟩, ⟨gm 197 (by decide +kernel) rfl, rfl⟩, by decide +kernel⟩
abbrev mX4_init : MD := (yX4_init, cX4_init, 2, none)
theorem kX4_init : MOk mX4_init ∧ MIni mX4_init ∧ MPar mX4_init 0 := ⟨⟨gm 204 (by decide +kernel) rfl, gm 62 (by decide +kernel) rfl, by decide +kernel, by decide +kernel, by decide +kernel⟩, ⟨gm 203 (by decide +kernel) rfl, rfl⟩, by decide +kernel⟩
abbrev mX3_init : MD := (yX3_init, cX3_init, 1, none)
theorem kX3_init : MOk mX3_init ∧ MIni mX3_init ∧ MPar mX3_init 0 := ⟨⟨gm 211 (by decide +kernel) rfl, gm 63 (by decide +kernel) rfl, by decide +kernel, by decide +kernel, by decide +kernel⟩, ⟨gm 210 (by decide +kernel) rfl, rfl⟩, by decide +kernel⟩
abbrev mX1_init : MD := (yX1_init, cX1_init, 1, none)
theorem kX1_init : MOk mX1_init ∧ MIni mX1_init ∧ MPar mX1_init 0 := ⟨⟨gm 274 (by decide +kernel) rfl, gm 64 (by decide +kernel) rfl, by decide +kernel, by decide +kernel, by decide +kernel⟩, ⟨gm 273 (by decide +kernel) rfl, rfl⟩, by decide +kernel⟩
abbrev mX0_init : MD := (yX0_init, cX0_init, 1, none)
theorem kX0_init : MOk mX0_init ∧ MIni mX0_init ∧ MPar mX0_init 0 := ⟨⟨gm 290 (by decide +kernel) rfl, gm 65 (by decide +kernel) rfl, by decide +kernel, by decide +kernel, by decide +kernel⟩, ⟨gm 289 (by decide +kernel) rfl, rfl⟩, by decide +kernel⟩
abbrev mX8_init : MD := (yX8_init, cX8_init, 1, none)
theorem kX8_init : MOk mX8_init ∧ MIni mX8_init ∧ MPar mX8_init 0 := ⟨⟨gm 312 (by decide +kernel) rfl, gm 66 (by decide +kernel) rfl, by decide +kernel, by decide +kernel, by decide +kernel⟩, ⟨gm 311 (by decide +kernel) rfl, rfl⟩, by decide +kernel⟩
abbrev mX2_init : MD := (yX2_init, cX2_init, 3, none)
theorem kX2_init : MOk mX2_init ∧ MIni mX2_init ∧ MPar mX2_init 2 := ⟨⟨gm 369 (by decide +kernel) rfl, gm 67 (by decide +kernel) rfl, by decide +kernel, by decide +kernel, by decide +kernel⟩, ⟨gm 368 (by decide +kernel) rfl, rfl⟩, by decide +kernel⟩
abbrev mX10_feed : MD := (yX10_feed, cX10_feed, 2, (some .int))
theorem kX10_feed : MOk mX10_feed ∧ MInst mX10_feed ∧ MPar mX10_feed 1 := ⟨⟨gm 407 (by decide +kernel) rfl, gm 58 (by decide +kernel) rfl, by decide +kernel, by decide +kernel, by decide +kernel⟩, ⟨gm 405 (by decide +kernel) rfl, gm 406 (by decide +kernel) rfl⟩, by decide +kernel⟩
abbrev mX10_end : MD := (yX10_end, cX10_end, 3, (some .int))
theorem kX10_end : MOk mX10_end ∧ MInst mX10_end ∧ MPar mX10_end 1 := ⟨⟨gm 411 (by decide +kernel) rfl, gm 58 (by decide +kernel) rfl, by decide +kernel, by decide +kernel, by decide +kernel⟩, ⟨gm 409 (by decide +kernel) rfl, gm 410 (by decide +kernel) rfl⟩, by decide +kernel⟩
abbrev mX10_text : MD := (yX10_text, cX10_text, 2, (some .int))
theorem kX10_text : MOk mX10_text ∧ MInst mX10_text ∧ MPar mX10_text 0 := ⟨⟨gm 415 (by decide +kernel) rfl, gm 58 (by decide +kernel) rfl, by decide +kernel, by decide +kernel, by decide +kernel⟩, ⟨gm 413 (by decide +kernel) rfl, gm 414 (by decide +kernel) rfl⟩, by decide +kernel⟩
abbrev mX9_readText : MD := (yX9_readText, cX9_readText, 2, (some .boolean))
theorem kX9_readText : MOk mX9_readText ∧ MInst mX9_readText ∧ MPar mX9_readText 0 := ⟨⟨gm 419 (by decide +kernel) rfl, gm 59 (by decide +kernel) rfl, by decide +kernel, by decide +kernel, by decide +kernel⟩, ⟨gm 417 (by decide +kernel) rfl, gm 418 (by decide +kernel) rfl⟩, by decide +kernel⟩
abbrev mX5_clear : MD := (yX5_clear, cX5_clear, 1, none)
theorem kX5_clear : MOk mX5_clear ∧ MInst mX5_clear ∧ MPar mX5_clear 0 := ⟨⟨gm 423 (by decide +kernel) rfl, gm 60 (by decide +kernel) rfl, by decide +kernel, by decide +kernel, by decide +kernel⟩, ⟨gm 421 (by decide +kernel) rfl, gm 422 (by decide +kernel) rfl⟩, by decide +kernel⟩
abbrev mJ7_fill_53178 : MD := (yJ7_fill_53178, cJ7_fill_53178, 4, none)
theorem kJ7_fill_53178 : MOk mJ7_fill_53178 ∧ MStat mJ7_fill_53178 ∧ MPar mJ7_fill_53178 2 := ⟨⟨gm 426 (by decide +kernel) rfl, gm 69 (by decide +kernel) rfl, by decide +kernel, by decide +kernel, by decide +kernel⟩, gm 425 (by decide +kernel) rfl, by decide +kernel⟩
abbrev mX9_readToken : MD := (yX9_readToken, cX9_readToken, 1, (some .boolean))
theorem kX9_readToken : MOk mX9_readToken ∧ MInst mX9_readToken ∧ MPar mX9_readToken 0 := ⟨⟨gm 430 (by decide +kernel) rfl, gm 59 (by decide +kernel) rfl, by decide +kernel, by decide +kernel, by decide +kernel⟩, ⟨gm 428 (by decide +kernel) rfl, gm 429 (by decide +kernel) rfl⟩, by decide +kernel⟩
abbrev mX9_tokenOf : MD := (yX9_tokenOf, cX9_tokenOf, 1, (some .int))
theorem kX9_tokenOf : MOk mX9_tokenOf ∧ MStat mX9_tokenOf ∧ MPar mX9_tokenOf 1 := ⟨⟨gm 433 (by decide +kernel) rfl, gm 59 (by decide +kernel) rfl, by decide +kernel, by decide +kernel, by decide +kernel⟩, gm 432 (by decide +kernel) rfl, by decide +kernel⟩
abbrev mX9_refuse : MD := (yX9_refuse, cX9_refuse, 2, (some .boolean))
theorem kX9_refuse : MOk mX9_refuse ∧ MInst mX9_refuse ∧ MPar mX9_refuse 1 := ⟨⟨gm 437 (by decide +kernel) rfl, gm 59 (by decide +kernel) rfl, by decide +kernel, by decide +kernel, by decide +kernel⟩, ⟨gm 435 (by decide +kernel) rfl, gm 436 (by decide +kernel) rfl⟩, by decide +kernel⟩
abbrev mX9_valueRead : MD := (yX9_valueRead, cX9_valueRead, 3, (some .int))
theorem kX9_valueRead : MOk mX9_valueRead ∧ MInst mX9_valueRead ∧ MPar mX9_valueRead 0 := ⟨⟨gm 441 (by decide +kernel) rfl, gm 59 (by decide +kernel) rfl, by decide +kernel, by decide +kernel, by decide +kernel⟩, ⟨gm 439 (by decide +kernel) rfl, gm 440 (by decide +kernel) rfl⟩, by decide +kernel⟩
abbrev mX9_allIsThere : MD := (yX9_allIsThere, cX9_allIsThere, 3, (some .boolean))
theorem kX9_allIsThere : MOk mX9_allIsThere ∧ MInst mX9_allIsThere ∧ MPar mX9_allIsThere 0 := ⟨⟨gm 445 (by decide +kernel) rfl, gm 59 (by decide +kernel) rfl, by decide +kernel, by decide +kernel, by decide +kernel⟩, ⟨gm 443 (by decide +kernel) rfl, gm 444 (by decide +kernel) rfl⟩, by decide +kernel⟩
abbrev mX9_isWord : MD := (yX9_isWord, cX9_isWord, 3, (some .boolean))
theorem kX9_isWord : MOk mX9_isWord ∧ MInst mX9_isWord ∧ MPar mX9_isWord 1 := ⟨⟨gm 450 (by decide +kernel) rfl, gm 59 (by decide +kernel) rfl, by decide +kernel, by decide +kernel, by decide +kernel⟩, ⟨gm 448 (by decide +kernel) rfl, gm 449 (by decide +kernel) rfl⟩, by decide +kernel⟩
abbrev mJ0_length_8abf5 : MD := (yJ0_length_8abf5, cJ0_length_8abf5, 1, (some .int))
theorem kJ0_length_8abf5 : MOk mJ0_length_8abf5 ∧ MInst mJ0_length_8abf5 ∧ MPar mJ0_length_8abf5 0 := ⟨⟨gm 454 (by decide +kernel) rfl, gm 70 (by decide +kernel) rfl, by decide +kernel, by decide +kernel, by decide +kernel⟩, ⟨gm 452 (by decide +kernel) rfl, gm 453 (by decide +kernel) rfl⟩, by decide +kernel⟩
abbrev mJ0_coder_7d493 : MD := (yJ0_coder_7d493, cJ0_coder_7d493, 1, (some .byte))
theorem kJ0_coder_7d493 : MOk mJ0_coder_7d493 ∧ MInst mJ0_coder_7d493 ∧ MPar mJ0_coder_7d493 0 := ⟨⟨gm 458 (by decide +kernel) rfl, gm 70 (by decide +kernel) rfl, by decide +kernel, by decide +kernel, by decide +kernel⟩, ⟨gm 456 (by decide +kernel) rfl, gm 457 (by decide +kernel) rfl⟩, by decide +kernel⟩
abbrev mJ0_charAt_5068e : MD := (yJ0_charAt_5068e, cJ0_charAt_5068e, 2, (some .char))
theorem kJ0_charAt_5068e : MOk mJ0_charAt_5068e ∧ MInst mJ0_charAt_5068e ∧ MPar mJ0_charAt_5068e 1 := ⟨⟨gm 464 (by decide +kernel) rfl, gm 70 (by decide +kernel) rfl, by decide +kernel, by decide +kernel, by decide +kernel⟩, ⟨gm 462 (by decide +kernel) rfl, gm 463 (by decide +kernel) rfl⟩, by decide +kernel⟩
abbrev mJ0_isLatin1_aae02 : MD := (yJ0_isLatin1_aae02, cJ0_isLatin1_aae02, 1, (some .boolean))
theorem kJ0_isLatin1_aae02 : MOk mJ0_isLatin1_aae02 ∧ MInst mJ0_isLatin1_aae02 ∧ MPar mJ0_isLatin1_aae02 0 := ⟨⟨gm 468 (by decide +kernel) rfl, gm 70 (by decide +kernel) rfl, by decide +kernel, by decide +kernel, by decide +kernel⟩, ⟨gm 466 (by decide +kernel) rfl, gm 467 (by decide +kernel) rfl⟩, by decide +kernel⟩
abbrev mJ1_charAt_3b067 : MD := (yJ1_charAt_3b067, cJ1_charAt_3b067, 2, (some .char))
theorem kJ1_charAt_3b067 : MOk mJ1_charAt_3b067 ∧ MStat mJ1_charAt_3b067 ∧ MPar mJ1_charAt_3b067 2 := ⟨⟨gm 471 (by decide +kernel) rfl, gm 71 (by decide +kernel) rfl, by decide +kernel, by decide +kernel, by decide +kernel⟩, gm 470 (by decide +kernel) rfl, by decide +kernel⟩
abbrev mJ0_checkIndex_df160 : MD := (yJ0_checkIndex_df160, cJ0_checkIndex_df160, 2, none)
theorem kJ0_checkIndex_df160 : MOk mJ0_checkIndex_df160 ∧ MStat mJ0_checkIndex_df160 ∧ MPar mJ0_checkIndex_df160 2 := ⟨⟨gm 474 (by decide +kernel) rfl, gm 70 (by decide +kernel) rfl, by decide +kernel, by decide +kernel, by decide +kernel⟩, gm 473 (by decide +kernel) rfl, by decide +kernel⟩
abbrev mJ3_checkIndex_8e157 : MD := (yJ3_checkIndex_8e157, cJ3_checkIndex_8e157, 3, (some .int))
theorem kJ3_checkIndex_8e157 : MOk mJ3_checkIndex_8e157 ∧ MStat mJ3_checkIndex_8e157 ∧ MPar mJ3_checkIndex_8e157 3 := ⟨⟨gm 479 (by decide +kernel) rfl, gm 72 (by decide +kernel) rfl, by decide +kernel, by decide +kernel, by decide +kernel⟩, gm 478 (by decide +kernel) rfl, by decide +kernel⟩
abbrev mJ2_charAt_3b067 : MD := (yJ2_charAt_3b067, cJ2_charAt_3b067, 2, (some .char))
theorem kJ2_charAt_3b067 : MOk mJ2_charAt_3b067 ∧ MStat mJ2_charAt_3b067 ∧ MPar mJ2_charAt_3b067 2 := ⟨⟨gm 482 (by decide +kernel) rfl, gm 73 (by decide +kernel) rfl, by decide +kernel, by decide +kernel, by decide +kernel⟩, gm 481 (by decide +kernel) rfl, by decide +kernel⟩
abbrev mJ2_checkIndex_2214a : MD := (yJ2_checkIndex_2214a, cJ2_checkIndex_2214a, 2, none)
theorem kJ2_checkIndex_2214a : MOk mJ2_checkIndex_2214a ∧ MStat mJ2_checkIndex_2214a ∧ MPar mJ2_checkIndex_2214a 2 := ⟨⟨gm 485 (by decide +kernel) rfl, gm 73 (by decide +kernel) rfl, by decide +kernel, by decide +kernel, by decide +kernel⟩, gm 484 (by decide +kernel) rfl, by decide +kernel⟩
abbrev mJ2_length_9d52b : MD := (yJ2_length_9d52b, cJ2_length_9d52b, 1, (some .int))
theorem kJ2_length_9d52b : MOk mJ2_length_9d52b ∧ MStat mJ2_length_9d52b ∧ MPar mJ2_length_9d52b 1 := ⟨⟨gm 488 (by decide +kernel) rfl, gm 73 (by decide +kernel) rfl, by decide +kernel, by decide +kernel, by decide +kernel⟩, gm 487 (by decide +kernel) rfl, by decide +kernel⟩
abbrev mJ2_getChar_3b067 : MD := (yJ2_getChar_3b067, cJ2_getChar_3b067, 2, (some .char))
theorem kJ2_getChar_3b067 : MOk mJ2_getChar_3b067 ∧ MStat mJ2_getChar_3b067 ∧ MPar mJ2_getChar_3b067 2 := ⟨⟨gm 492 (by decide +kernel) rfl, gm 73 (by decide +kernel) rfl, by decide +kernel, by decide +kernel, by decide +kernel⟩, gm 491 (by decide +kernel) rfl, by decide +kernel⟩
abbrev mX9_readHouse : MD := (yX9_readHouse, cX9_readHouse, 2, (some .boolean))
theorem kX9_readHouse : MOk mX9_readHouse ∧ MInst mX9_readHouse ∧ MPar mX9_readHouse 0 := ⟨⟨gm 502 (by decide +kernel) rfl, gm 59 (by decide +kernel) rfl, by decide +kernel, by decide +kernel, by decide +kernel⟩, ⟨gm 500 (by decide +kernel) rfl, gm 501 (by decide +kernel) rfl⟩, by decide +kernel⟩
abbrev mX5_addHouse : MD := (yX5_addHouse, cX5_addHouse, 2, none)
theorem kX5_addHouse : MOk mX5_addHouse ∧ MInst mX5_addHouse ∧ MPar mX5_addHouse 1 := ⟨⟨gm 507 (by decide +kernel) rfl, gm 60 (by decide +kernel) rfl, by decide +kernel, by decide +kernel, by decide +kernel⟩, ⟨gm 505 (by decide +kernel) rfl, gm 506 (by decide +kernel) rfl⟩, by decide +kernel⟩
abbrev mX9_signStands : MD := (yX9_signStands, cX9_signStands, 1, (some .boolean))
theorem kX9_signStands : MOk mX9_signStands ∧ MInst mX9_signStands ∧ MPar mX9_signStands 0 := ⟨⟨gm 511 (by decide +kernel) rfl, gm 59 (by decide +kernel) rfl, by decide +kernel, by decide +kernel, by decide +kernel⟩, ⟨gm 509 (by decide +kernel) rfl, gm 510 (by decide +kernel) rfl⟩, by decide +kernel⟩
abbrev mX9_readDomain : MD := (yX9_readDomain, cX9_readDomain, 3, (some .boolean))
theorem kX9_readDomain : MOk mX9_readDomain ∧ MInst mX9_readDomain ∧ MPar mX9_readDomain 0 := ⟨⟨gm 516 (by decide +kernel) rfl, gm 59 (by decide +kernel) rfl, by decide +kernel, by decide +kernel, by decide +kernel⟩, ⟨gm 514 (by decide +kernel) rfl, gm 515 (by decide +kernel) rfl⟩, by decide +kernel⟩
abbrev mX9_readReceiver : MD := (yX9_readReceiver, cX9_readReceiver, 3, (some .boolean))
theorem kX9_readReceiver : MOk mX9_readReceiver ∧ MInst mX9_readReceiver ∧ MPar mX9_readReceiver 1 := ⟨⟨gm 520 (by decide +kernel) rfl, gm 59 (by decide +kernel) rfl, by decide +kernel, by decide +kernel, by decide +kernel⟩, ⟨gm 518 (by decide +kernel) rfl, gm 519 (by decide +kernel) rfl⟩, by decide +kernel⟩
abbrev mX9_numberStands : MD := (yX9_numberStands, cX9_numberStands, 2, (some .boolean))
theorem kX9_numberStands : MOk mX9_numberStands ∧ MInst mX9_numberStands ∧ MPar mX9_numberStands 1 := ⟨⟨gm 524 (by decide +kernel) rfl, gm 59 (by decide +kernel) rfl, by decide +kernel, by decide +kernel, by decide +kernel⟩, ⟨gm 522 (by decide +kernel) rfl, gm 523 (by decide +kernel) rfl⟩, by decide +kernel⟩
abbrev mX5_preferenceOf : MD := (yX5_preferenceOf, cX5_preferenceOf, 5, (some .int))
theorem kX5_preferenceOf : MOk mX5_preferenceOf ∧ MInst mX5_preferenceOf ∧ MPar mX5_preferenceOf 2 := ⟨⟨gm 528 (by decide +kernel) rfl, gm 60 (by decide +kernel) rfl, by decide +kernel, by decide +kernel, by decide +kernel⟩, ⟨gm 526 (by decide +kernel) rfl, gm 527 (by decide +kernel) rfl⟩, by decide +kernel⟩
abbrev mX5_addReceiver : MD := (yX5_addReceiver, cX5_addReceiver, 7, none)
theorem kX5_addReceiver : MOk mX5_addReceiver ∧ MInst mX5_addReceiver ∧ MPar mX5_addReceiver 3 := ⟨⟨gm 532 (by decide +kernel) rfl, gm 60 (by decide +kernel) rfl, by decide +kernel, by decide +kernel, by decide +kernel⟩, ⟨gm 530 (by decide +kernel) rfl, gm 531 (by decide +kernel) rfl⟩, by decide +kernel⟩
abbrev mX5_isAskedAhead : MD := (yX5_isAskedAhead, cX5_isAskedAhead, 3, (some .boolean))
theorem kX5_isAskedAhead : MOk mX5_isAskedAhead ∧ MInst mX5_isAskedAhead ∧ MPar mX5_isAskedAhead 2 := ⟨⟨gm 536 (by decide +kernel) rfl, gm 60 (by decide +kernel) rfl, by decide +kernel, by decide +kernel, by decide +kernel⟩, ⟨gm 534 (by decide +kernel) rfl, gm 535 (by decide +kernel) rfl⟩, by decide +kernel⟩
abbrev mX9_readSign : MD := (yX9_readSign, cX9_readSign, 1, (some .boolean))
theorem kX9_readSign : MOk mX9_readSign ∧ MInst mX9_readSign ∧ MPar mX9_readSign 0 := ⟨⟨gm 540 (by decide +kernel) rfl, gm 59 (by decide +kernel) rfl, by decide +kernel, by decide +kernel, by decide +kernel⟩, ⟨gm 538 (by decide +kernel) rfl, gm 539 (by decide +kernel) rfl⟩, by decide +kernel⟩
abbrev mX9_readBox : MD := (yX9_readBox, cX9_readBox, 1, (some .boolean))
theorem kX9_readBox : MOk mX9_readBox ∧ MInst mX9_readBox ∧ MPar mX9_readBox 0 := ⟨⟨gm 545 (by decide +kernel) rfl, gm 59 (by decide +kernel) rfl, by decide +kernel, by decide +kernel, by decide +kernel⟩, ⟨gm 543 (by decide +kernel) rfl, gm 544 (by decide +kernel) rfl⟩, by decide +kernel⟩
abbrev mX9_readTold : MD := (yX9_readTold, cX9_readTold, 2, (some .boolean))
theorem kX9_readTold : MOk mX9_readTold ∧ MInst mX9_readTold ∧ MPar mX9_readTold 1 := ⟨⟨gm 549 (by decide +kernel) rfl, gm 59 (by decide +kernel) rfl, by decide +kernel, by decide +kernel, by decide +kernel⟩, ⟨gm 547 (by decide +kernel) rfl, gm 548 (by decide +kernel) rfl⟩, by decide +kernel⟩
abbrev mX9_addressStands : MD := (yX9_addressStands, cX9_addressStands, 2, (some .boolean))
theorem kX9_addressStands : MOk mX9_addressStands ∧ MInst mX9_addressStands ∧ MPar mX9_addressStands 0 := ⟨⟨gm 553 (by decide +kernel) rfl, gm 59 (by decide +kernel) rfl, by decide +kernel, by decide +kernel, by decide +kernel⟩, ⟨gm 551 (by decide +kernel) rfl, gm 552 (by decide +kernel) rfl⟩, by decide +kernel⟩
abbrev mX5_tell : MD := (yX5_tell, cX5_tell, 3, none)
theorem kX5_tell : MOk mX5_tell ∧ MInst mX5_tell ∧ MPar mX5_tell 2 := ⟨⟨gm 557 (by decide +kernel) rfl, gm 60 (by decide +kernel) rfl, by decide +kernel, by decide +kernel, by decide +kernel⟩, ⟨gm 555 (by decide +kernel) rfl, gm 556 (by decide +kernel) rfl⟩, by decide +kernel⟩
abbrev mX9_readAlias : MD := (yX9_readAlias, cX9_readAlias, 2, (some .boolean))
theorem kX9_readAlias : MOk mX9_readAlias ∧ MInst mX9_readAlias ∧ MPar mX9_readAlias 0 := ⟨⟨gm 562 (by decide +kernel) rfl, gm 59 (by decide +kernel) rfl, by decide +kernel, by decide +kernel, by decide +kernel⟩, ⟨gm 560 (by decide +kernel) rfl, gm 561 (by decide +kernel) rfl⟩, by decide +kernel⟩
abbrev mX5_addLead : MD := (yX5_addLead, cX5_addLead, 4, none)
theorem kX5_addLead : MOk mX5_addLead ∧ MInst mX5_addLead ∧ MPar mX5_addLead 2 := ⟨⟨gm 566 (by decide +kernel) rfl, gm 60 (by decide +kernel) rfl, by decide +kernel, by decide +kernel, by decide +kernel⟩, ⟨gm 564 (by decide +kernel) rfl, gm 565 (by decide +kernel) rfl⟩, by decide +kernel⟩
abbrev mX9_readList : MD := (yX9_readList, cX9_readList, 3, (some .boolean))
theorem kX9_readList : MOk mX9_readList ∧ MInst mX9_readList ∧ MPar mX9_readList 0 := ⟨⟨gm 571 (by decide +kernel) rfl, gm 59 (by decide +kernel) rfl, by decide +kernel, by decide +kernel, by decide +kernel⟩, ⟨gm 569 (by decide +kernel) rfl, gm 570 (by decide +kernel) rfl⟩, by decide +kernel⟩
abbrev mX5_hasLead : MD := (yX5_hasLead, cX5_hasLead, 4, (some .boolean))
theorem kX5_hasLead : MOk mX5_hasLead ∧ MInst mX5_hasLead ∧ MPar mX5_hasLead 2 := ⟨⟨gm 575 (by decide +kernel) rfl, gm 60 (by decide +kernel) rfl, by decide +kernel, by decide +kernel, by decide +kernel⟩, ⟨gm 573 (by decide +kernel) rfl, gm 574 (by decide +kernel) rfl⟩, by decide +kernel⟩
abbrev mX5_lead : MD := (yX5_lead, cX5_lead, 3, (some .int))
theorem kX5_lead : MOk mX5_lead ∧ MInst mX5_lead ∧ MPar mX5_lead 2 := ⟨⟨gm 579 (by decide +kernel) rfl, gm 60 (by decide +kernel) rfl, by decide +kernel, by decide +kernel, by decide +kernel⟩, ⟨gm 577 (by decide +kernel) rfl, gm 578 (by decide +kernel) rfl⟩, by decide +kernel⟩
abbrev mX5_copyFrom : MD := (yX5_copyFrom, cX5_copyFrom, 2, none)
theorem kX5_copyFrom : MOk mX5_copyFrom ∧ MInst mX5_copyFrom ∧ MPar mX5_copyFrom 1 := ⟨⟨gm 583 (by decide +kernel) rfl, gm 60 (by decide +kernel) rfl, by decide +kernel, by decide +kernel, by decide +kernel⟩, ⟨gm 581 (by decide +kernel) rfl, gm 582 (by decide +kernel) rfl⟩, by decide +kernel⟩
abbrev mX6_clear : MD := (yX6_clear, cX6_clear, 2, none)
theorem kX6_clear : MOk mX6_clear ∧ MInst mX6_clear ∧ MPar mX6_clear 0 := ⟨⟨gm 590 (by decide +kernel) rfl, gm 61 (by decide +kernel) rfl, by decide +kernel, by decide +kernel, by decide +kernel⟩, ⟨gm 588 (by decide +kernel) rfl, gm 589 (by decide +kernel) rfl⟩, by decide +kernel⟩
abbrev mX4_clear : MD := (yX4_clear, cX4_clear, 1, none)
theorem kX4_clear : MOk mX4_clear ∧ MInst mX4_clear ∧ MPar mX4_clear 0 := ⟨⟨gm 595 (by decide +kernel) rfl, gm 62 (by decide +kernel) rfl, by decide +kernel, by decide +kernel, by decide +kernel⟩, ⟨gm 593 (by decide +kernel) rfl, gm 594 (by decide +kernel) rfl⟩, by decide +kernel⟩
abbrev mX1_clear : MD := (yX1_clear, cX1_clear, 1, none)
theorem kX1_clear : MOk mX1_clear ∧ MInst mX1_clear ∧ MPar mX1_clear 0 := ⟨⟨gm 599 (by decide +kernel) rfl, gm 64 (by decide +kernel) rfl, by decide +kernel, by decide +kernel, by decide +kernel⟩, ⟨gm 597 (by decide +kernel) rfl, gm 598 (by decide +kernel) rfl⟩, by decide +kernel⟩
abbrev mX0_clear : MD := (yX0_clear, cX0_clear, 1, none)
theorem kX0_clear : MOk mX0_clear ∧ MInst mX0_clear ∧ MPar mX0_clear 0 := ⟨⟨gm 604 (by decide +kernel) rfl, gm 65 (by decide +kernel) rfl, by decide +kernel, by decide +kernel, by decide +kernel⟩, ⟨gm 602 (by decide +kernel) rfl, gm 603 (by decide +kernel) rfl⟩, by decide +kernel⟩
abbrev mX10_forgetImages : MD := (yX10_forgetImages, cX10_forgetImages, 2, none)
theorem kX10_forgetImages : MOk mX10_forgetImages ∧ MInst mX10_forgetImages ∧ MPar mX10_forgetImages 0 := ⟨⟨gm 609 (by decide +kernel) rfl, gm 58 (by decide +kernel) rfl, by decide +kernel, by decide +kernel, by decide +kernel⟩, ⟨gm 608 (by decide +kernel) rfl, gm 0 (by decide +kernel) rfl⟩, by decide +kernel⟩
abbrev mX10_fault : MD := (yX10_fault, cX10_fault, 1, (some .int))
theorem kX10_fault : MOk mX10_fault ∧ MInst mX10_fault ∧ MPar mX10_fault 0 := ⟨⟨gm 613 (by decide +kernel) rfl, gm 58 (by decide +kernel) rfl, by decide +kernel, by decide +kernel, by decide +kernel⟩, ⟨gm 611 (by decide +kernel) rfl, gm 612 (by decide +kernel) rfl⟩, by decide +kernel⟩
abbrev mX10_rule : MD := (yX10_rule, cX10_rule, 2, (some .int))
theorem kX10_rule : MOk mX10_rule ∧ MInst mX10_rule ∧ MPar mX10_rule 1 := ⟨⟨gm 617 (by decide +kernel) rfl, gm 58 (by decide +kernel) rfl, by decide +kernel, by decide +kernel, by decide +kernel⟩, ⟨gm 615 (by decide +kernel) rfl, gm 616 (by decide +kernel) rfl⟩, by decide +kernel⟩
abbrev mX10_house : MD := (yX10_house, cX10_house, 3, (some .int))
theorem kX10_house : MOk mX10_house ∧ MInst mX10_house ∧ MPar mX10_house 2 := ⟨⟨gm 621 (by decide +kernel) rfl, gm 58 (by decide +kernel) rfl, by decide +kernel, by decide +kernel, by decide +kernel⟩, ⟨gm 619 (by decide +kernel) rfl, gm 620 (by decide +kernel) rfl⟩, by decide +kernel⟩
abbrev mX10_isHouse : MD := (yX10_isHouse, cX10_isHouse, 2, (some .boolean))
theorem kX10_isHouse : MOk mX10_isHouse ∧ MInst mX10_isHouse ∧ MPar mX10_isHouse 1 := ⟨⟨gm 625 (by decide +kernel) rfl, gm 58 (by decide +kernel) rfl, by decide +kernel, by decide +kernel, by decide +kernel⟩, ⟨gm 624 (by decide +kernel) rfl, gm 1 (by decide +kernel) rfl⟩, by decide +kernel⟩
abbrev mX4_itemsIn : MD := (yX4_itemsIn, cX4_itemsIn, 4, (some .int))
theorem kX4_itemsIn : MOk mX4_itemsIn ∧ MInst mX4_itemsIn ∧ MPar mX4_itemsIn 1 := ⟨⟨gm 629 (by decide +kernel) rfl, gm 62 (by decide +kernel) rfl, by decide +kernel, by decide +kernel, by decide +kernel⟩, ⟨gm 627 (by decide +kernel) rfl, gm 628 (by decide +kernel) rfl⟩, by decide +kernel⟩
abbrev mX8_passed : MD := (yX8_passed, cX8_passed, 3, (some .int))
theorem kX8_passed : MOk mX8_passed ∧ MInst mX8_passed ∧ MPar mX8_passed 0 := ⟨⟨gm 633 (by decide +kernel) rfl, gm 66 (by decide +kernel) rfl, by decide +kernel, by decide +kernel, by decide +kernel⟩, ⟨gm 631 (by decide +kernel) rfl, gm 632 (by decide +kernel) rfl⟩, by decide +kernel⟩
abbrev mX5_domainsEndingIn : MD := (yX5_domainsEndingIn, cX5_domainsEndingIn, 4, (some .int))
theorem kX5_domainsEndingIn : MOk mX5_domainsEndingIn ∧ MInst mX5_domainsEndingIn ∧ MPar mX5_domainsEndingIn 1 := ⟨⟨gm 637 (by decide +kernel) rfl, gm 60 (by decide +kernel) rfl, by decide +kernel, by decide +kernel, by decide +kernel⟩, ⟨gm 635 (by decide +kernel) rfl, gm 636 (by decide +kernel) rfl⟩, by decide +kernel⟩
abbrev mX5_isLast : MD := (yX5_isLast, cX5_isLast, 3, (some .boolean))
theorem kX5_isLast : MOk mX5_isLast ∧ MInst mX5_isLast ∧ MPar mX5_isLast 2 := ⟨⟨gm 641 (by decide +kernel) rfl, gm 60 (by decide +kernel) rfl, by decide +kernel, by decide +kernel, by decide +kernel⟩, ⟨gm 639 (by decide +kernel) rfl, gm 640 (by decide +kernel) rfl⟩, by decide +kernel⟩
abbrev mX5_hasReceivers : MD := (yX5_hasReceivers, cX5_hasReceivers, 2, (some .boolean))
theorem kX5_hasReceivers : MOk mX5_hasReceivers ∧ MInst mX5_hasReceivers ∧ MPar mX5_hasReceivers 1 := ⟨⟨gm 645 (by decide +kernel) rfl, gm 60 (by decide +kernel) rfl, by decide +kernel, by decide +kernel, by decide +kernel⟩, ⟨gm 643 (by decide +kernel) rfl, gm 644 (by decide +kernel) rfl⟩, by decide +kernel⟩
abbrev mX10_receiver : MD := (yX10_receiver, cX10_receiver, 5, (some .int))
theorem kX10_receiver : MOk mX10_receiver ∧ MInst mX10_receiver ∧ MPar mX10_receiver 3 := ⟨⟨gm 650 (by decide +kernel) rfl, gm 58 (by decide +kernel) rfl, by decide +kernel, by decide +kernel, by decide +kernel⟩, ⟨gm 648 (by decide +kernel) rfl, gm 649 (by decide +kernel) rfl⟩, by decide +kernel⟩
abbrev mX10_isDomain : MD := (yX10_isDomain, cX10_isDomain, 2, (some .boolean))
theorem kX10_isDomain : MOk mX10_isDomain ∧ MInst mX10_isDomain ∧ MPar mX10_isDomain 1 := ⟨⟨gm 654 (by decide +kernel) rfl, gm 58 (by decide +kernel) rfl, by decide +kernel, by decide +kernel, by decide +kernel⟩, ⟨gm 653 (by decide +kernel) rfl, gm 2 (by decide +kernel) rfl⟩, by decide +kernel⟩
abbrev mX10_address : MD := (yX10_address, cX10_address, 4, (some .int))
theorem kX10_address : MOk mX10_address ∧ MInst mX10_address ∧ MPar mX10_address 2 := ⟨⟨gm 659 (by decide +kernel) rfl, gm 58 (by decide +kernel) rfl, by decide +kernel, by decide +kernel, by decide +kernel⟩, ⟨gm 657 (by decide +kernel) rfl, gm 658 (by decide +kernel) rfl⟩, by decide +kernel⟩
abbrev mX10_isAddress : MD := (yX10_isAddress, cX10_isAddress, 1, (some .boolean))
theorem kX10_isAddress : MOk mX10_isAddress ∧ MStat mX10_isAddress ∧ MPar mX10_isAddress 1 := ⟨⟨gm 662 (by decide +kernel) rfl, gm 58 (by decide +kernel) rfl, by decide +kernel, by decide +kernel, by decide +kernel⟩, gm 661 (by decide +kernel) rfl, by decide +kernel⟩
abbrev mX1_answer : MD := (yX1_answer, cX1_answer, 3, (some .int))
theorem kX1_answer : MOk mX1_answer ∧ MInst mX1_answer ∧ MPar mX1_answer 2 := ⟨⟨gm 666 (by decide +kernel) rfl, gm 64 (by decide +kernel) rfl, by decide +kernel, by decide +kernel, by decide +kernel⟩, ⟨gm 664 (by decide +kernel) rfl, gm 665 (by decide +kernel) rfl⟩, by decide +kernel⟩
abbrev mX10_leads : MD := (yX10_leads, cX10_leads, 3, (some .int))
theorem kX10_leads : MOk mX10_leads ∧ MInst mX10_leads ∧ MPar mX10_leads 2 := ⟨⟨gm 670 (by decide +kernel) rfl, gm 58 (by decide +kernel) rfl, by decide +kernel, by decide +kernel, by decide +kernel⟩, ⟨gm 668 (by decide +kernel) rfl, gm 669 (by decide +kernel) rfl⟩, by decide +kernel⟩
abbrev mX10_reaches : MD := (yX10_reaches, cX10_reaches, 6, (some .int))
theorem kX10_reaches : MOk mX10_reaches ∧ MInst mX10_reaches ∧ MPar mX10_reaches 2 := ⟨⟨gm 675 (by decide +kernel) rfl, gm 58 (by decide +kernel) rfl, by decide +kernel, by decide +kernel, by decide +kernel⟩, ⟨gm 673 (by decide +kernel) rfl, gm 674 (by decide +kernel) rfl⟩, by decide +kernel⟩
abbrev mX5_reachedFrom : MD := (yX5_reachedFrom, cX5_reachedFrom, 6, (some .int))
theorem kX5_reachedFrom : MOk mX5_reachedFrom ∧ MInst mX5_reachedFrom ∧ MPar mX5_reachedFrom 1 := ⟨⟨gm 679 (by decide +kernel) rfl, gm 60 (by decide +kernel) rfl, by decide +kernel, by decide +kernel, by decide +kernel⟩, ⟨gm 677 (by decide +kernel) rfl, gm 678 (by decide +kernel) rfl⟩, by decide +kernel⟩
abbrev mX5_leadBits : MD := (yX5_leadBits, cX5_leadBits, 4, (some .int))
theorem kX5_leadBits : MOk mX5_leadBits ∧ MInst mX5_leadBits ∧ MPar mX5_leadBits 1 := ⟨⟨gm 683 (by decide +kernel) rfl, gm 60 (by decide +kernel) rfl, by decide +kernel, by decide +kernel, by decide +kernel⟩, ⟨gm 681 (by decide +kernel) rfl, gm 682 (by decide +kernel) rfl⟩, by decide +kernel⟩
abbrev mX10_send : MD := (yX10_send, cX10_send, 4, (some .int))
theorem kX10_send : MOk mX10_send ∧ MInst mX10_send ∧ MPar mX10_send 3 := ⟨⟨gm 687 (by decide +kernel) rfl, gm 58 (by decide +kernel) rfl, by decide +kernel, by decide +kernel, by decide +kernel⟩, ⟨gm 685 (by decide +kernel) rfl, gm 686 (by decide +kernel) rfl⟩, by decide +kernel⟩
abbrev mX2_takeLetter : MD := (yX2_takeLetter, cX2_takeLetter, 7, (some .int))
theorem kX2_takeLetter : MOk mX2_takeLetter ∧ MInst mX2_takeLetter ∧ MPar mX2_takeLetter 3 := ⟨⟨gm 691 (by decide +kernel) rfl, gm 67 (by decide +kernel) rfl, by decide +kernel, by decide +kernel, by decide +kernel⟩, ⟨gm 689 (by decide +kernel) rfl, gm 690 (by decide +kernel) rfl⟩, by decide +kernel⟩
abbrev mX2_refusal : MD := (yX2_refusal, cX2_refusal, 5, (some .int))
theorem kX2_refusal : MOk mX2_refusal ∧ MInst mX2_refusal ∧ MPar mX2_refusal 4 := ⟨⟨gm 695 (by decide +kernel) rfl, gm 67 (by decide +kernel) rfl, by decide +kernel, by decide +kernel, by decide +kernel⟩, ⟨gm 693 (by decide +kernel) rfl, gm 694 (by decide +kernel) rfl⟩, by decide +kernel⟩
abbrev mX4_add : MD := (yX4_add, cX4_add, 8, (some (.object "WaryHouses$Item")))
theorem kX4_add : MOk mX4_add ∧ MInst mX4_add ∧ MPar mX4_add 5 := ⟨⟨gm 700 (by decide +kernel) rfl, gm 62 (by decide +kernel) rfl, by decide +kernel, by decide +kernel, by decide +kernel⟩, ⟨gm 698 (by decide +kernel) rfl, gm 699 (by decide +kernel) rfl⟩, by decide +kernel⟩
theorem mmOk : Cond.static Lib.Math.min.name ∈ gtbl ∧ Cond.initialized "java/lang/Math" ∈ gtbl ∧ Cond.code Lib.Math.min.name Lib.Math.min.code 2 (some .int) ∈ gtbl := ⟨gm 702 (by decide +kernel) rfl, gm 75 (by decide +kernel) rfl, gm 703 (by decide +kernel) rfl⟩
abbrev mX0_write : MD := (yX0_write, cX0_write, 6, none)
theorem kX0_write : MOk mX0_write ∧ MInst mX0_write ∧ MPar mX0_write 4 := ⟨⟨gm 707 (by decide +kernel) rfl, gm 65 (by decide +kernel) rfl, by decide +kernel, by decide +kernel, by decide +kernel⟩, ⟨gm 705 (by decide +kernel) rfl, gm 706 (by decide +kernel) rfl⟩, by decide +kernel⟩
abbrev mX10_tick : MD := (yX10_tick, cX10_tick, 4, (some .int))
theorem kX10_tick : MOk mX10_tick ∧ MInst mX10_tick ∧ MPar mX10_tick 1 := ⟨⟨gm 711 (by decide +kernel) rfl, gm 58 (by decide +kernel) rfl, by decide +kernel, by decide +kernel, by decide +kernel⟩, ⟨gm 709 (by decide +kernel) rfl, gm 710 (by decide +kernel) rfl⟩, by decide +kernel⟩
abbrev mX2_passTick : MD := (yX2_passTick, cX2_passTick, 2, none)
theorem kX2_passTick : MOk mX2_passTick ∧ MInst mX2_passTick ∧ MPar mX2_passTick 0 := ⟨⟨gm 715 (by decide +kernel) rfl, gm 67 (by decide +kernel) rfl, by decide +kernel, by decide +kernel, by decide +kernel⟩, ⟨gm 713 (by decide +kernel) rfl, gm 714 (by decide +kernel) rfl⟩, by decide +kernel⟩
abbrev mX2_takeTurn : MD := (yX2_takeTurn, cX2_takeTurn, 5, none)
theorem kX2_takeTurn : MOk mX2_takeTurn ∧ MInst mX2_takeTurn ∧ MPar mX2_takeTurn 1 := ⟨⟨gm 719 (by decide +kernel) rfl, gm 67 (by decide +kernel) rfl, by decide +kernel, by decide +kernel, by decide +kernel⟩, ⟨gm 717 (by decide +kernel) rfl, gm 718 (by decide +kernel) rfl⟩, by decide +kernel⟩
abbrev mX2_handle : MD := (yX2_handle, cX2_handle, 3, none)
theorem kX2_handle : MOk mX2_handle ∧ MInst mX2_handle ∧ MPar mX2_handle 1 := ⟨⟨gm 723 (by decide +kernel) rfl, gm 67 (by decide +kernel) rfl, by decide +kernel, by decide +kernel, by decide +kernel⟩, ⟨gm 721 (by decide +kernel) rfl, gm 722 (by decide +kernel) rfl⟩, by decide +kernel⟩
abbrev mX2_bounce : MD := (yX2_bounce, cX2_bounce, 2, none)
theorem kX2_bounce : MOk mX2_bounce ∧ MInst mX2_bounce ∧ MPar mX2_bounce 1 := ⟨⟨gm 728 (by decide +kernel) rfl, gm 67 (by decide +kernel) rfl, by decide +kernel, by decide +kernel, by decide +kernel⟩, ⟨gm 726 (by decide +kernel) rfl, gm 727 (by decide +kernel) rfl⟩, by decide +kernel⟩
abbrev mX4_remove : MD := (yX4_remove, cX4_remove, 2, none)
theorem kX4_remove : MOk mX4_remove ∧ MInst mX4_remove ∧ MPar mX4_remove 1 := ⟨⟨gm 732 (by decide +kernel) rfl, gm 62 (by decide +kernel) rfl, by decide +kernel, by decide +kernel, by decide +kernel⟩, ⟨gm 730 (by decide +kernel) rfl, gm 731 (by decide +kernel) rfl⟩, by decide +kernel⟩
abbrev mX2_passOn : MD := (yX2_passOn, cX2_passOn, 5, (some .boolean))
theorem kX2_passOn : MOk mX2_passOn ∧ MInst mX2_passOn ∧ MPar mX2_passOn 2 := ⟨⟨gm 737 (by decide +kernel) rfl, gm 67 (by decide +kernel) rfl, by decide +kernel, by decide +kernel, by decide +kernel⟩, ⟨gm 735 (by decide +kernel) rfl, gm 736 (by decide +kernel) rfl⟩, by decide +kernel⟩
abbrev mX5_asked : MD := (yX5_asked, cX5_asked, 6, (some .int))
theorem kX5_asked : MOk mX5_asked ∧ MInst mX5_asked ∧ MPar mX5_asked 3 := ⟨⟨gm 741 (by decide +kernel) rfl, gm 60 (by decide +kernel) rfl, by decide +kernel, by decide +kernel, by decide +kernel⟩, ⟨gm 739 (by decide +kernel) rfl, gm 740 (by decide +kernel) rfl⟩, by decide +kernel⟩
abbrev mX8_lets : MD := (yX8_lets, cX8_lets, 8, (some .boolean))
theorem kX8_lets : MOk mX8_lets ∧ MInst mX8_lets ∧ MPar mX8_lets 4 := ⟨⟨gm 745 (by decide +kernel) rfl, gm 66 (by decide +kernel) rfl, by decide +kernel, by decide +kernel, by decide +kernel⟩, ⟨gm 743 (by decide +kernel) rfl, gm 744 (by decide +kernel) rfl⟩, by decide +kernel⟩
abbrev mX8_find : MD := (yX8_find, cX8_find, 6, (some .int))
theorem kX8_find : MOk mX8_find ∧ MInst mX8_find ∧ MPar mX8_find 3 := ⟨⟨gm 749 (by decide +kernel) rfl, gm 66 (by decide +kernel) rfl, by decide +kernel, by decide +kernel, by decide +kernel⟩, ⟨gm 747 (by decide +kernel) rfl, gm 748 (by decide +kernel) rfl⟩, by decide +kernel⟩
abbrev mX8_forget : MD := (yX8_forget, cX8_forget, 2, none)
theorem kX8_forget : MOk mX8_forget ∧ MInst mX8_forget ∧ MPar mX8_forget 1 := ⟨⟨gm 753 (by decide +kernel) rfl, gm 66 (by decide +kernel) rfl, by decide +kernel, by decide +kernel, by decide +kernel⟩, ⟨gm 751 (by decide +kernel) rfl, gm 752 (by decide +kernel) rfl⟩, by decide +kernel⟩
abbrev mX8_putDown : MD := (yX8_putDown, cX8_putDown, 6, none)
theorem kX8_putDown : MOk mX8_putDown ∧ MInst mX8_putDown ∧ MPar mX8_putDown 4 := ⟨⟨gm 758 (by decide +kernel) rfl, gm 66 (by decide +kernel) rfl, by decide +kernel, by decide +kernel, by decide +kernel⟩, ⟨gm 756 (by decide +kernel) rfl, gm 757 (by decide +kernel) rfl⟩, by decide +kernel⟩
abbrev mX4_addOnward : MD := (yX4_addOnward, cX4_addOnward, 7, none)
theorem kX4_addOnward : MOk mX4_addOnward ∧ MInst mX4_addOnward ∧ MPar mX4_addOnward 5 := ⟨⟨gm 762 (by decide +kernel) rfl, gm 62 (by decide +kernel) rfl, by decide +kernel, by decide +kernel, by decide +kernel⟩, ⟨gm 760 (by decide +kernel) rfl, gm 761 (by decide +kernel) rfl⟩, by decide +kernel⟩
abbrev mX2_tryLater : MD := (yX2_tryLater, cX2_tryLater, 2, none)
theorem kX2_tryLater : MOk mX2_tryLater ∧ MInst mX2_tryLater ∧ MPar mX2_tryLater 1 := ⟨⟨gm 767 (by decide +kernel) rfl, gm 67 (by decide +kernel) rfl, by decide +kernel, by decide +kernel, by decide +kernel⟩, ⟨gm 765 (by decide +kernel) rfl, gm 766 (by decide +kernel) rfl⟩, by decide +kernel⟩
abbrev mX2_give : MD := (yX2_give, cX2_give, 2, none)
theorem kX2_give : MOk mX2_give ∧ MInst mX2_give ∧ MPar mX2_give 1 := ⟨⟨gm 771 (by decide +kernel) rfl, gm 67 (by decide +kernel) rfl, by decide +kernel, by decide +kernel, by decide +kernel⟩, ⟨gm 769 (by decide +kernel) rfl, gm 770 (by decide +kernel) rfl⟩, by decide +kernel⟩
abbrev mX1_knows : MD := (yX1_knows, cX1_knows, 5, (some .boolean))
theorem kX1_knows : MOk mX1_knows ∧ MInst mX1_knows ∧ MPar mX1_knows 2 := ⟨⟨gm 775 (by decide +kernel) rfl, gm 64 (by decide +kernel) rfl, by decide +kernel, by decide +kernel, by decide +kernel⟩, ⟨gm 773 (by decide +kernel) rfl, gm 774 (by decide +kernel) rfl⟩, by decide +kernel⟩
abbrev mX1_put : MD := (yX1_put, cX1_put, 4, none)
theorem kX1_put : MOk mX1_put ∧ MInst mX1_put ∧ MPar mX1_put 3 := ⟨⟨gm 780 (by decide +kernel) rfl, gm 64 (by decide +kernel) rfl, by decide +kernel, by decide +kernel, by decide +kernel⟩, ⟨gm 778 (by decide +kernel) rfl, gm 779 (by decide +kernel) rfl⟩, by decide +kernel⟩
abbrev mX2_followAlias : MD := (yX2_followAlias, cX2_followAlias, 2, none)
theorem kX2_followAlias : MOk mX2_followAlias ∧ MInst mX2_followAlias ∧ MPar mX2_followAlias 1 := ⟨⟨gm 784 (by decide +kernel) rfl, gm 67 (by decide +kernel) rfl, by decide +kernel, by decide +kernel, by decide +kernel⟩, ⟨gm 782 (by decide +kernel) rfl, gm 783 (by decide +kernel) rfl⟩, by decide +kernel⟩
abbrev mX2_openList : MD := (yX2_openList, cX2_openList, 7, none)
theorem kX2_openList : MOk mX2_openList ∧ MInst mX2_openList ∧ MPar mX2_openList 1 := ⟨⟨gm 789 (by decide +kernel) rfl, gm 67 (by decide +kernel) rfl, by decide +kernel, by decide +kernel, by decide +kernel⟩, ⟨gm 787 (by decide +kernel) rfl, gm 788 (by decide +kernel) rfl⟩, by decide +kernel⟩
abbrev mX2_unmarked : MD := (yX2_unmarked, cX2_unmarked, 5, (some .int))
theorem kX2_unmarked : MOk mX2_unmarked ∧ MInst mX2_unmarked ∧ MPar mX2_unmarked 2 := ⟨⟨gm 793 (by decide +kernel) rfl, gm 67 (by decide +kernel) rfl, by decide +kernel, by decide +kernel, by decide +kernel⟩, ⟨gm 791 (by decide +kernel) rfl, gm 792 (by decide +kernel) rfl⟩, by decide +kernel⟩
abbrev mX4_closeGaps : MD := (yX4_closeGaps, cX4_closeGaps, 4, none)
theorem kX4_closeGaps : MOk mX4_closeGaps ∧ MInst mX4_closeGaps ∧ MPar mX4_closeGaps 0 := ⟨⟨gm 797 (by decide +kernel) rfl, gm 62 (by decide +kernel) rfl, by decide +kernel, by decide +kernel, by decide +kernel⟩, ⟨gm 795 (by decide +kernel) rfl, gm 796 (by decide +kernel) rfl⟩, by decide +kernel⟩
abbrev mX10_run : MD := (yX10_run, cX10_run, 3, (some .int))
theorem kX10_run : MOk mX10_run ∧ MInst mX10_run ∧ MPar mX10_run 1 := ⟨⟨gm 801 (by decide +kernel) rfl, gm 58 (by decide +kernel) rfl, by decide +kernel, by decide +kernel, by decide +kernel⟩, ⟨gm 799 (by decide +kernel) rfl, gm 800 (by decide +kernel) rfl⟩, by decide +kernel⟩
abbrev mX10_set : MD := (yX10_set, cX10_set, 4, (some .int))
theorem kX10_set : MOk mX10_set ∧ MInst mX10_set ∧ MPar mX10_set 2 := ⟨⟨gm 805 (by decide +kernel) rfl, gm 58 (by decide +kernel) rfl, by decide +kernel, by decide +kernel, by decide +kernel⟩, ⟨gm 803 (by decide +kernel) rfl, gm 804 (by decide +kernel) rfl⟩, by decide +kernel⟩
abbrev mX10_item : MD := (yX10_item, cX10_item, 5, (some .int))
theorem kX10_item : MOk mX10_item ∧ MInst mX10_item ∧ MPar mX10_item 3 := ⟨⟨gm 809 (by decide +kernel) rfl, gm 58 (by decide +kernel) rfl, by decide +kernel, by decide +kernel, by decide +kernel⟩, ⟨gm 807 (by decide +kernel) rfl, gm 808 (by decide +kernel) rfl⟩, by decide +kernel⟩
abbrev mX4_find : MD := (yX4_find, cX4_find, 5, (some (.object "WaryHouses$Item")))
theorem kX4_find : MOk mX4_find ∧ MInst mX4_find ∧ MPar mX4_find 2 := ⟨⟨gm 813 (by decide +kernel) rfl, gm 62 (by decide +kernel) rfl, by decide +kernel, by decide +kernel, by decide +kernel⟩, ⟨gm 811 (by decide +kernel) rfl, gm 812 (by decide +kernel) rfl⟩, by decide +kernel⟩
abbrev mX3_answer : MD := (yX3_answer, cX3_answer, 2, (some .int))
theorem kX3_answer : MOk mX3_answer ∧ MInst mX3_answer ∧ MPar mX3_answer 1 := ⟨⟨gm 817 (by decide +kernel) rfl, gm 63 (by decide +kernel) rfl, by decide +kernel, by decide +kernel, by decide +kernel⟩, ⟨gm 815 (by decide +kernel) rfl, gm 816 (by decide +kernel) rfl⟩, by decide +kernel⟩
abbrev mJ6_bitCount_0f7a4 : MD := (yJ6_bitCount_0f7a4, cJ6_bitCount_0f7a4, 1, (some .int))
theorem kJ6_bitCount_0f7a4 : MOk mJ6_bitCount_0f7a4 ∧ MStat mJ6_bitCount_0f7a4 ∧ MPar mJ6_bitCount_0f7a4 1 := ⟨⟨gm 820 (by decide +kernel) rfl, gm 76 (by decide +kernel) rfl, by decide +kernel, by decide +kernel, by decide +kernel⟩, gm 819 (by decide +kernel) rfl, by decide +kernel⟩
abbrev mX10_asks : MD := (yX10_asks, cX10_asks, 4, (some .int))
theorem kX10_asks : MOk mX10_asks ∧ MInst mX10_asks ∧ MPar mX10_asks 3 := ⟨⟨gm 827 (by decide +kernel) rfl, gm 58 (by decide +kernel) rfl, by decide +kernel, by decide +kernel, by decide +kernel⟩, ⟨gm 825 (by decide +kernel) rfl, gm 826 (by decide +kernel) rfl⟩, by decide +kernel⟩
abbrev mX10_stranger : MD := (yX10_stranger, cX10_stranger, 5, (some .int))
theorem kX10_stranger : MOk mX10_stranger ∧ MInst mX10_stranger ∧ MPar mX10_stranger 3 := ⟨⟨gm 832 (by decide +kernel) rfl, gm 58 (by decide +kernel) rfl, by decide +kernel, by decide +kernel, by decide +kernel⟩, ⟨gm 830 (by decide +kernel) rfl, gm 831 (by decide +kernel) rfl⟩, by decide +kernel⟩
abbrev mX10_log : MD := (yX10_log, cX10_log, 3, (some .int))
theorem kX10_log : MOk mX10_log ∧ MInst mX10_log ∧ MPar mX10_log 2 := ⟨⟨gm 836 (by decide +kernel) rfl, gm 58 (by decide +kernel) rfl, by decide +kernel, by decide +kernel, by decide +kernel⟩, ⟨gm 834 (by decide +kernel) rfl, gm 835 (by decide +kernel) rfl⟩, by decide +kernel⟩
abbrev mX0_answer : MD := (yX0_answer, cX0_answer, 3, (some .int))
theorem kX0_answer : MOk mX0_answer ∧ MInst mX0_answer ∧ MPar mX0_answer 2 := ⟨⟨gm 840 (by decide +kernel) rfl, gm 65 (by decide +kernel) rfl, by decide +kernel, by decide +kernel, by decide +kernel⟩, ⟨gm 838 (by decide +kernel) rfl, gm 839 (by decide +kernel) rfl⟩, by decide +kernel⟩
abbrev mX10_draw : MD := (yX10_draw, cX10_draw, 9, (some .int))
theorem kX10_draw : MOk mX10_draw ∧ MInst mX10_draw ∧ MPar mX10_draw 2 := ⟨⟨gm 844 (by decide +kernel) rfl, gm 58 (by decide +kernel) rfl, by decide +kernel, by decide +kernel, by decide +kernel⟩, ⟨gm 842 (by decide +kernel) rfl, gm 843 (by decide +kernel) rfl⟩, by decide +kernel⟩
abbrev mX10_nextSeed : MD := (yX10_nextSeed, cX10_nextSeed, 1, (some .int))
theorem kX10_nextSeed : MOk mX10_nextSeed ∧ MStat mX10_nextSeed ∧ MPar mX10_nextSeed 1 := ⟨⟨gm 847 (by decide +kernel) rfl, gm 58 (by decide +kernel) rfl, by decide +kernel, by decide +kernel, by decide +kernel⟩, gm 846 (by decide +kernel) rfl, by decide +kernel⟩
abbrev mX10_got : MD := (yX10_got, cX10_got, 1, (some .int))
theorem kX10_got : MOk mX10_got ∧ MStat mX10_got ∧ MPar mX10_got 1 := ⟨⟨gm 851 (by decide +kernel) rfl, gm 58 (by decide +kernel) rfl, by decide +kernel, by decide +kernel, by decide +kernel⟩, gm 850 (by decide +kernel) rfl, by decide +kernel⟩
abbrev mX10_keep : MD := (yX10_keep, cX10_keep, 3, (some .int))
theorem kX10_keep : MOk mX10_keep ∧ MInst mX10_keep ∧ MPar mX10_keep 1 := ⟨⟨gm 855 (by decide +kernel) rfl, gm 58 (by decide +kernel) rfl, by decide +kernel, by decide +kernel, by decide +kernel⟩, ⟨gm 853 (by decide +kernel) rfl, gm 854 (by decide +kernel) rfl⟩, by decide +kernel⟩
abbrev mX10_isImage : MD := (yX10_isImage, cX10_isImage, 1, (some .boolean))
theorem kX10_isImage : MOk mX10_isImage ∧ MStat mX10_isImage ∧ MPar mX10_isImage 1 := ⟨⟨gm 858 (by decide +kernel) rfl, gm 58 (by decide +kernel) rfl, by decide +kernel, by decide +kernel, by decide +kernel⟩, gm 857 (by decide +kernel) rfl, by decide +kernel⟩
abbrev mX6_copyFrom : MD := (yX6_copyFrom, cX6_copyFrom, 3, none)
theorem kX6_copyFrom : MOk mX6_copyFrom ∧ MInst mX6_copyFrom ∧ MPar mX6_copyFrom 1 := ⟨⟨gm 862 (by decide +kernel) rfl, gm 61 (by decide +kernel) rfl, by decide +kernel, by decide +kernel, by decide +kernel⟩, ⟨gm 860 (by decide +kernel) rfl, gm 861 (by decide +kernel) rfl⟩, by decide +kernel⟩
abbrev mX4_copyFrom : MD := (yX4_copyFrom, cX4_copyFrom, 3, none)
theorem kX4_copyFrom : MOk mX4_copyFrom ∧ MInst mX4_copyFrom ∧ MPar mX4_copyFrom 1 := ⟨⟨gm 867 (by decide +kernel) rfl, gm 62 (by decide +kernel) rfl, by decide +kernel, by decide +kernel, by decide +kernel⟩, ⟨gm 865 (by decide +kernel) rfl, gm 866 (by decide +kernel) rfl⟩, by decide +kernel⟩
abbrev mX3_copyFrom : MD := (yX3_copyFrom, cX3_copyFrom, 2, none)
theorem kX3_copyFrom : MOk mX3_copyFrom ∧ MInst mX3_copyFrom ∧ MPar mX3_copyFrom 1 := ⟨⟨gm 871 (by decide +kernel) rfl, gm 63 (by decide +kernel) rfl, by decide +kernel, by decide +kernel, by decide +kernel⟩, ⟨gm 869 (by decide +kernel) rfl, gm 870 (by decide +kernel) rfl⟩, by decide +kernel⟩
abbrev mX1_copyFrom : MD := (yX1_copyFrom, cX1_copyFrom, 2, none)
theorem kX1_copyFrom : MOk mX1_copyFrom ∧ MInst mX1_copyFrom ∧ MPar mX1_copyFrom 1 := ⟨⟨gm 875 (by decide +kernel) rfl, gm 64 (by decide +kernel) rfl, by decide +kernel, by decide +kernel, by decide +kernel⟩, ⟨gm 873 (by decide +kernel) rfl, gm 874 (by decide +kernel) rfl⟩, by decide +kernel⟩
abbrev mX0_copyFrom : MD := (yX0_copyFrom, cX0_copyFrom, 2, none)
theorem kX0_copyFrom : MOk mX0_copyFrom ∧ MInst mX0_copyFrom ∧ MPar mX0_copyFrom 1 := ⟨⟨gm 880 (by decide +kernel) rfl, gm 65 (by decide +kernel) rfl, by decide +kernel, by decide +kernel, by decide +kernel⟩, ⟨gm 878 (by decide +kernel) rfl, gm 879 (by decide +kernel) rfl⟩, by decide +kernel⟩
abbrev mX8_copyFrom : MD := (yX8_copyFrom, cX8_copyFrom, 2, none)
theorem kX8_copyFrom : MOk mX8_copyFrom ∧ MInst mX8_copyFrom ∧ MPar mX8_copyFrom 1 := ⟨⟨gm 885 (by decide +kernel) rfl, gm 66 (by decide +kernel) rfl, by decide +kernel, by decide +kernel, by decide +kernel⟩, ⟨gm 883 (by decide +kernel) rfl, gm 884 (by decide +kernel) rfl⟩, by decide +kernel⟩
abbrev mX10_back : MD := (yX10_back, cX10_back, 2, (some .int))
theorem kX10_back : MOk mX10_back ∧ MInst mX10_back ∧ MPar mX10_back 1 := ⟨⟨gm 889 (by decide +kernel) rfl, gm 58 (by decide +kernel) rfl, by decide +kernel, by decide +kernel, by decide +kernel⟩, ⟨gm 887 (by decide +kernel) rfl, gm 888 (by decide +kernel) rfl⟩, by decide +kernel⟩
abbrev mX10_sheet : MD := (yX10_sheet, cX10_sheet, 4, (some .int))
theorem kX10_sheet : MOk mX10_sheet ∧ MInst mX10_sheet ∧ MPar mX10_sheet 3 := ⟨⟨gm 893 (by decide +kernel) rfl, gm 58 (by decide +kernel) rfl, by decide +kernel, by decide +kernel, by decide +kernel⟩, ⟨gm 891 (by decide +kernel) rfl, gm 892 (by decide +kernel) rfl⟩, by decide +kernel⟩
abbrev mX10_isSheet : MD := (yX10_isSheet, cX10_isSheet, 1, (some .boolean))
theorem kX10_isSheet : MOk mX10_isSheet ∧ MStat mX10_isSheet ∧ MPar mX10_isSheet 1 := ⟨⟨gm 896 (by decide +kernel) rfl, gm 58 (by decide +kernel) rfl, by decide +kernel, by decide +kernel, by decide +kernel⟩, gm 895 (by decide +kernel) rfl, by decide +kernel⟩
abbrev mX10_isLane : MD := (yX10_isLane, cX10_isLane, 1, (some .boolean))
theorem kX10_isLane : MOk mX10_isLane ∧ MStat mX10_isLane ∧ MPar mX10_isLane 1 := ⟨⟨gm 899 (by decide +kernel) rfl, gm 58 (by decide +kernel) rfl, by decide +kernel, by decide +kernel, by decide +kernel⟩, gm 898 (by decide +kernel) rfl, by decide +kernel⟩
abbrev mX7_init : MD := (yX7_init, cX7_init, 3, none)
theorem kX7_init : MOk mX7_init ∧ MIni mX7_init ∧ MPar mX7_init 2 := ⟨⟨gm 903 (by decide +kernel) rfl, gm 77 (by decide +kernel) rfl, by decide +kernel, by decide +kernel, by decide +kernel⟩, ⟨gm 902 (by decide +kernel) rfl, rfl⟩, by decide +kernel⟩
abbrev mX10_lay : MD := (yX10_lay, cX10_lay, 5, (some .int))
theorem kX10_lay : MOk mX10_lay ∧ MInst mX10_lay ∧ MPar mX10_lay 3 := ⟨⟨gm 923 (by decide +kernel) rfl, gm 58 (by decide +kernel) rfl, by decide +kernel, by decide +kernel, by decide +kernel⟩, ⟨gm 921 (by decide +kernel) rfl, gm 922 (by decide +kernel) rfl⟩, by decide +kernel⟩
abbrev mX7_put : MD := (yX7_put, cX7_put, 3, none)
theorem kX7_put : MOk mX7_put ∧ MInst mX7_put ∧ MPar mX7_put 2 := ⟨⟨gm 927 (by decide +kernel) rfl, gm 77 (by decide +kernel) rfl, by decide +kernel, by decide +kernel, by decide +kernel⟩, ⟨gm 925 (by decide +kernel) rfl, gm 926 (by decide +kernel) rfl⟩, by decide +kernel⟩
abbrev mX10_post : MD := (yX10_post, cX10_post, 8, (some .int))
theorem kX10_post : MOk mX10_post ∧ MInst mX10_post ∧ MPar mX10_post 4 := ⟨⟨gm 931 (by decide +kernel) rfl, gm 58 (by decide +kernel) rfl, by decide +kernel, by decide +kernel, by decide +kernel⟩, ⟨gm 929 (by decide +kernel) rfl, gm 930 (by decide +kernel) rfl⟩, by decide +kernel⟩
abbrev mX10_copyFault : MD := (yX10_copyFault, cX10_copyFault, 4, (some .int))
theorem kX10_copyFault : MOk mX10_copyFault ∧ MStat mX10_copyFault ∧ MPar mX10_copyFault 4 := ⟨⟨gm 934 (by decide +kernel) rfl, gm 58 (by decide +kernel) rfl, by decide +kernel, by decide +kernel, by decide +kernel⟩, gm 933 (by decide +kernel) rfl, by decide +kernel⟩
abbrev mX7_fillFrom : MD := (yX7_fillFrom, cX7_fillFrom, 3, none)
theorem kX7_fillFrom : MOk mX7_fillFrom ∧ MInst mX7_fillFrom ∧ MPar mX7_fillFrom 2 := ⟨⟨gm 938 (by decide +kernel) rfl, gm 77 (by decide +kernel) rfl, by decide +kernel, by decide +kernel, by decide +kernel⟩, ⟨gm 936 (by decide +kernel) rfl, gm 937 (by decide +kernel) rfl⟩, by decide +kernel⟩
abbrev mX2_takeAll : MD := (yX2_takeAll, cX2_takeAll, 4, (some .int))
theorem kX2_takeAll : MOk mX2_takeAll ∧ MInst mX2_takeAll ∧ MPar mX2_takeAll 2 := ⟨⟨gm 943 (by decide +kernel) rfl, gm 67 (by decide +kernel) rfl, by decide +kernel, by decide +kernel, by decide +kernel⟩, ⟨gm 941 (by decide +kernel) rfl, gm 942 (by decide +kernel) rfl⟩, by decide +kernel⟩
abbrev mX7_cell : MD := (yX7_cell, cX7_cell, 2, (some .int))
theorem kX7_cell : MOk mX7_cell ∧ MInst mX7_cell ∧ MPar mX7_cell 1 := ⟨⟨gm 947 (by decide +kernel) rfl, gm 77 (by decide +kernel) rfl, by decide +kernel, by decide +kernel, by decide +kernel⟩, ⟨gm 945 (by decide +kernel) rfl, gm 946 (by decide +kernel) rfl⟩, by decide +kernel⟩
abbrev mX10_count : MD := (yX10_count, cX10_count, 2, (some .int))
theorem kX10_count : MOk mX10_count ∧ MInst mX10_count ∧ MPar mX10_count 1 := ⟨⟨gm 952 (by decide +kernel) rfl, gm 58 (by decide +kernel) rfl, by decide +kernel, by decide +kernel, by decide +kernel⟩, ⟨gm 950 (by decide +kernel) rfl, gm 951 (by decide +kernel) rfl⟩, by decide +kernel⟩
abbrev mX11_init : MD := (yX11_init, cX11_init, 2, none)
theorem kX11_init : MOk mX11_init ∧ MIni mX11_init ∧ MPar mX11_init 0 := ⟨⟨gm 957 (by decide +kernel) rfl, gm 68 (by decide +kernel) rfl, by decide +kernel, by decide +kernel, by decide +kernel⟩, ⟨gm 956 (by decide +kernel) rfl, rfl⟩, by decide +kernel⟩
abbrev mX11_anew : MD := (yX11_anew, cX11_anew, 2, none)
theorem kX11_anew : MOk mX11_anew ∧ MInst mX11_anew ∧ MPar mX11_anew 0 := ⟨⟨gm 962 (by decide +kernel) rfl, gm 68 (by decide +kernel) rfl, by decide +kernel, by decide +kernel, by decide +kernel⟩, ⟨gm 961 (by decide +kernel) rfl, gm 3 (by decide +kernel) rfl⟩, by decide +kernel⟩
abbrev mX11_feed : MD := (yX11_feed, cX11_feed, 2, (some .int))
theorem kX11_feed : MOk mX11_feed ∧ MInst mX11_feed ∧ MPar mX11_feed 1 := ⟨⟨gm 1033 (by decide +kernel) rfl, gm 68 (by decide +kernel) rfl, by decide +kernel, by decide +kernel, by decide +kernel⟩, ⟨gm 1031 (by decide +kernel) rfl, gm 1032 (by decide +kernel) rfl⟩, by decide +kernel⟩
abbrev mX11_in : MD := (yX11_in, cX11_in, 6, (some .boolean))
theorem kX11_in : MOk mX11_in ∧ MStat mX11_in ∧ MPar mX11_in 3 := ⟨⟨gm 1037 (by decide +kernel) rfl, gm 68 (by decide +kernel) rfl, by decide +kernel, by decide +kernel, by decide +kernel⟩, gm 1036 (by decide +kernel) rfl, by decide +kernel⟩
abbrev mX11_end : MD := (yX11_end, cX11_end, 3, (some .int))
theorem kX11_end : MOk mX11_end ∧ MInst mX11_end ∧ MPar mX11_end 1 := ⟨⟨gm 1041 (by decide +kernel) rfl, gm 68 (by decide +kernel) rfl, by decide +kernel, by decide +kernel, by decide +kernel⟩, ⟨gm 1039 (by decide +kernel) rfl, gm 1040 (by decide +kernel) rfl⟩, by decide +kernel⟩
abbrev mX11_text : MD := (yX11_text, cX11_text, 3, (some .int))
theorem kX11_text : MOk mX11_text ∧ MInst mX11_text ∧ MPar mX11_text 0 := ⟨⟨gm 1045 (by decide +kernel) rfl, gm 68 (by decide +kernel) rfl, by decide +kernel, by decide +kernel, by decide +kernel⟩, ⟨gm 1043 (by decide +kernel) rfl, gm 1044 (by decide +kernel) rfl⟩, by decide +kernel⟩
abbrev mX11_reads : MD := (yX11_reads, cX11_reads, 2, none)
theorem kX11_reads : MOk mX11_reads ∧ MInst mX11_reads ∧ MPar mX11_reads 0 := ⟨⟨gm 1049 (by decide +kernel) rfl, gm 68 (by decide +kernel) rfl, by decide +kernel, by decide +kernel, by decide +kernel⟩, ⟨gm 1048 (by decide +kernel) rfl, gm 4 (by decide +kernel) rfl⟩, by decide +kernel⟩
abbrev mX11_byteAt : MD := (yX11_byteAt, cX11_byteAt, 2, (some .int))
theorem kX11_byteAt : MOk mX11_byteAt ∧ MInst mX11_byteAt ∧ MPar mX11_byteAt 1 := ⟨⟨gm 1053 (by decide +kernel) rfl, gm 68 (by decide +kernel) rfl, by decide +kernel, by decide +kernel, by decide +kernel⟩, ⟨gm 1052 (by decide +kernel) rfl, gm 5 (by decide +kernel) rfl⟩, by decide +kernel⟩
abbrev mX11_requires : MD := (yX11_requires, cX11_requires, 3, none)
theorem kX11_requires : MOk mX11_requires ∧ MInst mX11_requires ∧ MPar mX11_requires 2 := ⟨⟨gm 1061 (by decide +kernel) rfl, gm 68 (by decide +kernel) rfl, by decide +kernel, by decide +kernel, by decide +kernel⟩, ⟨gm 1060 (by decide +kernel) rfl, gm 6 (by decide +kernel) rfl⟩, by decide +kernel⟩
abbrev mX11_readLine : MD := (yX11_readLine, cX11_readLine, 2, none)
theorem kX11_readLine : MOk mX11_readLine ∧ MInst mX11_readLine ∧ MPar mX11_readLine 0 := ⟨⟨gm 1065 (by decide +kernel) rfl, gm 68 (by decide +kernel) rfl, by decide +kernel, by decide +kernel, by decide +kernel⟩, ⟨gm 1064 (by decide +kernel) rfl, gm 7 (by decide +kernel) rfl⟩, by decide +kernel⟩
abbrev mX11_lineNow : MD := (yX11_lineNow, cX11_lineNow, 1, (some .int))
theorem kX11_lineNow : MOk mX11_lineNow ∧ MInst mX11_lineNow ∧ MPar mX11_lineNow 0 := ⟨⟨gm 1069 (by decide +kernel) rfl, gm 68 (by decide +kernel) rfl, by decide +kernel, by decide +kernel, by decide +kernel⟩, ⟨gm 1068 (by decide +kernel) rfl, gm 8 (by decide +kernel) rfl⟩, by decide +kernel⟩
abbrev mX11_is : MD := (yX11_is, cX11_is, 6, (some .boolean))
theorem kX11_is : MOk mX11_is ∧ MInst mX11_is ∧ MPar mX11_is 5 := ⟨⟨gm 1073 (by decide +kernel) rfl, gm 68 (by decide +kernel) rfl, by decide +kernel, by decide +kernel, by decide +kernel⟩, ⟨gm 1072 (by decide +kernel) rfl, gm 9 (by decide +kernel) rfl⟩, by decide +kernel⟩
abbrev mX11_readHouse : MD := (yX11_readHouse, cX11_readHouse, 2, none)
theorem kX11_readHouse : MOk mX11_readHouse ∧ MInst mX11_readHouse ∧ MPar mX11_readHouse 0 := ⟨⟨gm 1077 (by decide +kernel) rfl, gm 68 (by decide +kernel) rfl, by decide +kernel, by decide +kernel, by decide +kernel⟩, ⟨gm 1076 (by decide +kernel) rfl, gm 10 (by decide +kernel) rfl⟩, by decide +kernel⟩
abbrev mX11_flag : MD := (yX11_flag, cX11_flag, 1, (some .int))
theorem kX11_flag : MOk mX11_flag ∧ MStat mX11_flag ∧ MPar mX11_flag 1 := ⟨⟨gm 1080 (by decide +kernel) rfl, gm 68 (by decide +kernel) rfl, by decide +kernel, by decide +kernel, by decide +kernel⟩, gm 1079 (by decide +kernel) rfl, by decide +kernel⟩
abbrev mX11_readDomain : MD := (yX11_readDomain, cX11_readDomain, 2, none)
theorem kX11_readDomain : MOk mX11_readDomain ∧ MInst mX11_readDomain ∧ MPar mX11_readDomain 0 := ⟨⟨gm 1084 (by decide +kernel) rfl, gm 68 (by decide +kernel) rfl, by decide +kernel, by decide +kernel, by decide +kernel⟩, ⟨gm 1083 (by decide +kernel) rfl, gm 11 (by decide +kernel) rfl⟩, by decide +kernel⟩
abbrev mX11_readReceiver : MD := (yX11_readReceiver, cX11_readReceiver, 4, none)
theorem kX11_readReceiver : MOk mX11_readReceiver ∧ MInst mX11_readReceiver ∧ MPar mX11_readReceiver 1 := ⟨⟨gm 1088 (by decide +kernel) rfl, gm 68 (by decide +kernel) rfl, by decide +kernel, by decide +kernel, by decide +kernel⟩, ⟨gm 1087 (by decide +kernel) rfl, gm 12 (by decide +kernel) rfl⟩, by decide +kernel⟩
abbrev mX11_numberNow : MD := (yX11_numberNow, cX11_numberNow, 2, (some .int))
theorem kX11_numberNow : MOk mX11_numberNow ∧ MInst mX11_numberNow ∧ MPar mX11_numberNow 1 := ⟨⟨gm 1092 (by decide +kernel) rfl, gm 68 (by decide +kernel) rfl, by decide +kernel, by decide +kernel, by decide +kernel⟩, ⟨gm 1091 (by decide +kernel) rfl, gm 13 (by decide +kernel) rfl⟩, by decide +kernel⟩
abbrev mX11_readNumber : MD := (yX11_readNumber, cX11_readNumber, 3, (some .int))
theorem kX11_readNumber : MOk mX11_readNumber ∧ MInst mX11_readNumber ∧ MPar mX11_readNumber 1 := ⟨⟨gm 1096 (by decide +kernel) rfl, gm 68 (by decide +kernel) rfl, by decide +kernel, by decide +kernel, by decide +kernel⟩, ⟨gm 1095 (by decide +kernel) rfl, gm 14 (by decide +kernel) rfl⟩, by decide +kernel⟩
abbrev mX11_readAddress : MD := (yX11_readAddress, cX11_readAddress, 5, none)
theorem kX11_readAddress : MOk mX11_readAddress ∧ MInst mX11_readAddress ∧ MPar mX11_readAddress 1 := ⟨⟨gm 1100 (by decide +kernel) rfl, gm 68 (by decide +kernel) rfl, by decide +kernel, by decide +kernel, by decide +kernel⟩, ⟨gm 1099 (by decide +kernel) rfl, gm 15 (by decide +kernel) rfl⟩, by decide +kernel⟩
abbrev mX11_addressNow : MD := (yX11_addressNow, cX11_addressNow, 2, (some .int))
theorem kX11_addressNow : MOk mX11_addressNow ∧ MInst mX11_addressNow ∧ MPar mX11_addressNow 0 := ⟨⟨gm 1104 (by decide +kernel) rfl, gm 68 (by decide +kernel) rfl, by decide +kernel, by decide +kernel, by decide +kernel⟩, ⟨gm 1103 (by decide +kernel) rfl, gm 16 (by decide +kernel) rfl⟩, by decide +kernel⟩
abbrev mX11_readTarget : MD := (yX11_readTarget, cX11_readTarget, 4, none)
theorem kX11_readTarget : MOk mX11_readTarget ∧ MInst mX11_readTarget ∧ MPar mX11_readTarget 1 := ⟨⟨gm 1108 (by decide +kernel) rfl, gm 68 (by decide +kernel) rfl, by decide +kernel, by decide +kernel, by decide +kernel⟩, ⟨gm 1107 (by decide +kernel) rfl, gm 17 (by decide +kernel) rfl⟩, by decide +kernel⟩
abbrev mX11_fault : MD := (yX11_fault, cX11_fault, 1, (some .int))
theorem kX11_fault : MOk mX11_fault ∧ MInst mX11_fault ∧ MPar mX11_fault 0 := ⟨⟨gm 1112 (by decide +kernel) rfl, gm 68 (by decide +kernel) rfl, by decide +kernel, by decide +kernel, by decide +kernel⟩, ⟨gm 1110 (by decide +kernel) rfl, gm 1111 (by decide +kernel) rfl⟩, by decide +kernel⟩
abbrev mX11_rule : MD := (yX11_rule, cX11_rule, 2, (some .int))
theorem kX11_rule : MOk mX11_rule ∧ MInst mX11_rule ∧ MPar mX11_rule 1 := ⟨⟨gm 1116 (by decide +kernel) rfl, gm 68 (by decide +kernel) rfl, by decide +kernel, by decide +kernel, by decide +kernel⟩, ⟨gm 1114 (by decide +kernel) rfl, gm 1115 (by decide +kernel) rfl⟩, by decide +kernel⟩
abbrev mX11_ofKind : MD := (yX11_ofKind, cX11_ofKind, 4, (some .int))
theorem kX11_ofKind : MOk mX11_ofKind ∧ MInst mX11_ofKind ∧ MPar mX11_ofKind 1 := ⟨⟨gm 1121 (by decide +kernel) rfl, gm 68 (by decide +kernel) rfl, by decide +kernel, by decide +kernel, by decide +kernel⟩, ⟨gm 1120 (by decide +kernel) rfl, gm 18 (by decide +kernel) rfl⟩, by decide +kernel⟩
abbrev mX11_kindOf : MD := (yX11_kindOf, cX11_kindOf, 2, (some .int))
theorem kX11_kindOf : MOk mX11_kindOf ∧ MInst mX11_kindOf ∧ MPar mX11_kindOf 1 := ⟨⟨gm 1125 (by decide +kernel) rfl, gm 68 (by decide +kernel) rfl, by decide +kernel, by decide +kernel, by decide +kernel⟩, ⟨gm 1124 (by decide +kernel) rfl, gm 19 (by decide +kernel) rfl⟩, by decide +kernel⟩
abbrev mX11_house : MD := (yX11_house, cX11_house, 3, (some .int))
theorem kX11_house : MOk mX11_house ∧ MInst mX11_house ∧ MPar mX11_house 2 := ⟨⟨gm 1129 (by decide +kernel) rfl, gm 68 (by decide +kernel) rfl, by decide +kernel, by decide +kernel, by decide +kernel⟩, ⟨gm 1127 (by decide +kernel) rfl, gm 1128 (by decide +kernel) rfl⟩, by decide +kernel⟩
abbrev mX11_isHouse : MD := (yX11_isHouse, cX11_isHouse, 2, (some .boolean))
theorem kX11_isHouse : MOk mX11_isHouse ∧ MInst mX11_isHouse ∧ MPar mX11_isHouse 1 := ⟨⟨gm 1133 (by decide +kernel) rfl, gm 68 (by decide +kernel) rfl, by decide +kernel, by decide +kernel, by decide +kernel⟩, ⟨gm 1132 (by decide +kernel) rfl, gm 20 (by decide +kernel) rfl⟩, by decide +kernel⟩
abbrev mX11_itemsIn : MD := (yX11_itemsIn, cX11_itemsIn, 4, (some .int))
theorem kX11_itemsIn : MOk mX11_itemsIn ∧ MInst mX11_itemsIn ∧ MPar mX11_itemsIn 1 := ⟨⟨gm 1137 (by decide +kernel) rfl, gm 68 (by decide +kernel) rfl, by decide +kernel, by decide +kernel, by decide +kernel⟩, ⟨gm 1136 (by decide +kernel) rfl, gm 21 (by decide +kernel) rfl⟩, by decide +kernel⟩
abbrev mX11_ofItem : MD := (yX11_ofItem, cX11_ofItem, 3, (some .int))
theorem kX11_ofItem : MOk mX11_ofItem ∧ MInst mX11_ofItem ∧ MPar mX11_ofItem 2 := ⟨⟨gm 1141 (by decide +kernel) rfl, gm 68 (by decide +kernel) rfl, by decide +kernel, by decide +kernel, by decide +kernel⟩, ⟨gm 1140 (by decide +kernel) rfl, gm 22 (by decide +kernel) rfl⟩, by decide +kernel⟩
abbrev mX11_known : MD := (yX11_known, cX11_known, 2, (some .int))
theorem kX11_known : MOk mX11_known ∧ MInst mX11_known ∧ MPar mX11_known 1 := ⟨⟨gm 1145 (by decide +kernel) rfl, gm 68 (by decide +kernel) rfl, by decide +kernel, by decide +kernel, by decide +kernel⟩, ⟨gm 1144 (by decide +kernel) rfl, gm 23 (by decide +kernel) rfl⟩, by decide +kernel⟩
abbrev mX11_passedIn : MD := (yX11_passedIn, cX11_passedIn, 4, (some .int))
theorem kX11_passedIn : MOk mX11_passedIn ∧ MInst mX11_passedIn ∧ MPar mX11_passedIn 1 := ⟨⟨gm 1149 (by decide +kernel) rfl, gm 68 (by decide +kernel) rfl, by decide +kernel, by decide +kernel, by decide +kernel⟩, ⟨gm 1148 (by decide +kernel) rfl, gm 24 (by decide +kernel) rfl⟩, by decide +kernel⟩
abbrev mX11_ofStranger : MD := (yX11_ofStranger, cX11_ofStranger, 4, (some .int))
theorem kX11_ofStranger : MOk mX11_ofStranger ∧ MInst mX11_ofStranger ∧ MPar mX11_ofStranger 3 := ⟨⟨gm 1153 (by decide +kernel) rfl, gm 68 (by decide +kernel) rfl, by decide +kernel, by decide +kernel, by decide +kernel⟩, ⟨gm 1152 (by decide +kernel) rfl, gm 25 (by decide +kernel) rfl⟩, by decide +kernel⟩
abbrev mX11_strangerAt : MD := (yX11_strangerAt, cX11_strangerAt, 3, (some .int))
theorem kX11_strangerAt : MOk mX11_strangerAt ∧ MInst mX11_strangerAt ∧ MPar mX11_strangerAt 2 := ⟨⟨gm 1157 (by decide +kernel) rfl, gm 68 (by decide +kernel) rfl, by decide +kernel, by decide +kernel, by decide +kernel⟩, ⟨gm 1156 (by decide +kernel) rfl, gm 26 (by decide +kernel) rfl⟩, by decide +kernel⟩
abbrev mX11_lastsOf : MD := (yX11_lastsOf, cX11_lastsOf, 4, (some .int))
theorem kX11_lastsOf : MOk mX11_lastsOf ∧ MInst mX11_lastsOf ∧ MPar mX11_lastsOf 1 := ⟨⟨gm 1161 (by decide +kernel) rfl, gm 68 (by decide +kernel) rfl, by decide +kernel, by decide +kernel, by decide +kernel⟩, ⟨gm 1160 (by decide +kernel) rfl, gm 27 (by decide +kernel) rfl⟩, by decide +kernel⟩
abbrev mX11_isLast : MD := (yX11_isLast, cX11_isLast, 6, (some .boolean))
theorem kX11_isLast : MOk mX11_isLast ∧ MInst mX11_isLast ∧ MPar mX11_isLast 2 := ⟨⟨gm 1165 (by decide +kernel) rfl, gm 68 (by decide +kernel) rfl, by decide +kernel, by decide +kernel, by decide +kernel⟩, ⟨gm 1164 (by decide +kernel) rfl, gm 28 (by decide +kernel) rfl⟩, by decide +kernel⟩
abbrev mX11_preferenceOf : MD := (yX11_preferenceOf, cX11_preferenceOf, 4, (some .int))
theorem kX11_preferenceOf : MOk mX11_preferenceOf ∧ MInst mX11_preferenceOf ∧ MPar mX11_preferenceOf 2 := ⟨⟨gm 1169 (by decide +kernel) rfl, gm 68 (by decide +kernel) rfl, by decide +kernel, by decide +kernel, by decide +kernel⟩, ⟨gm 1168 (by decide +kernel) rfl, gm 29 (by decide +kernel) rfl⟩, by decide +kernel⟩
abbrev mX11_receivers : MD := (yX11_receivers, cX11_receivers, 2, (some .int))
theorem kX11_receivers : MOk mX11_receivers ∧ MInst mX11_receivers ∧ MPar mX11_receivers 1 := ⟨⟨gm 1173 (by decide +kernel) rfl, gm 68 (by decide +kernel) rfl, by decide +kernel, by decide +kernel, by decide +kernel⟩, ⟨gm 1172 (by decide +kernel) rfl, gm 30 (by decide +kernel) rfl⟩, by decide +kernel⟩
abbrev mX11_receiverOf : MD := (yX11_receiverOf, cX11_receiverOf, 4, (some .int))
theorem kX11_receiverOf : MOk mX11_receiverOf ∧ MInst mX11_receiverOf ∧ MPar mX11_receiverOf 3 := ⟨⟨gm 1177 (by decide +kernel) rfl, gm 68 (by decide +kernel) rfl, by decide +kernel, by decide +kernel, by decide +kernel⟩, ⟨gm 1176 (by decide +kernel) rfl, gm 31 (by decide +kernel) rfl⟩, by decide +kernel⟩
abbrev mX11_receiver : MD := (yX11_receiver, cX11_receiver, 4, (some .int))
theorem kX11_receiver : MOk mX11_receiver ∧ MInst mX11_receiver ∧ MPar mX11_receiver 3 := ⟨⟨gm 1181 (by decide +kernel) rfl, gm 68 (by decide +kernel) rfl, by decide +kernel, by decide +kernel, by decide +kernel⟩, ⟨gm 1179 (by decide +kernel) rfl, gm 1180 (by decide +kernel) rfl⟩, by decide +kernel⟩
abbrev mX11_address : MD := (yX11_address, cX11_address, 3, (some .int))
theorem kX11_address : MOk mX11_address ∧ MInst mX11_address ∧ MPar mX11_address 2 := ⟨⟨gm 1186 (by decide +kernel) rfl, gm 68 (by decide +kernel) rfl, by decide +kernel, by decide +kernel, by decide +kernel⟩, ⟨gm 1184 (by decide +kernel) rfl, gm 1185 (by decide +kernel) rfl⟩, by decide +kernel⟩
abbrev mX11_isAddress : MD := (yX11_isAddress, cX11_isAddress, 1, (some .boolean))
theorem kX11_isAddress : MOk mX11_isAddress ∧ MStat mX11_isAddress ∧ MPar mX11_isAddress 1 := ⟨⟨gm 1189 (by decide +kernel) rfl, gm 68 (by decide +kernel) rfl, by decide +kernel, by decide +kernel, by decide +kernel⟩, gm 1188 (by decide +kernel) rfl, by decide +kernel⟩
abbrev mX11_targets : MD := (yX11_targets, cX11_targets, 2, (some .int))
theorem kX11_targets : MOk mX11_targets ∧ MInst mX11_targets ∧ MPar mX11_targets 1 := ⟨⟨gm 1195 (by decide +kernel) rfl, gm 68 (by decide +kernel) rfl, by decide +kernel, by decide +kernel, by decide +kernel⟩, ⟨gm 1194 (by decide +kernel) rfl, gm 32 (by decide +kernel) rfl⟩, by decide +kernel⟩
abbrev mX11_ofBox : MD := (yX11_ofBox, cX11_ofBox, 3, (some .int))
theorem kX11_ofBox : MOk mX11_ofBox ∧ MInst mX11_ofBox ∧ MPar mX11_ofBox 2 := ⟨⟨gm 1199 (by decide +kernel) rfl, gm 68 (by decide +kernel) rfl, by decide +kernel, by decide +kernel, by decide +kernel⟩, ⟨gm 1198 (by decide +kernel) rfl, gm 33 (by decide +kernel) rfl⟩, by decide +kernel⟩
abbrev mX11_leads : MD := (yX11_leads, cX11_leads, 3, (some .int))
theorem kX11_leads : MOk mX11_leads ∧ MInst mX11_leads ∧ MPar mX11_leads 2 := ⟨⟨gm 1203 (by decide +kernel) rfl, gm 68 (by decide +kernel) rfl, by decide +kernel, by decide +kernel, by decide +kernel⟩, ⟨gm 1201 (by decide +kernel) rfl, gm 1202 (by decide +kernel) rfl⟩, by decide +kernel⟩
abbrev mX11_target : MD := (yX11_target, cX11_target, 3, (some .int))
theorem kX11_target : MOk mX11_target ∧ MInst mX11_target ∧ MPar mX11_target 2 := ⟨⟨gm 1207 (by decide +kernel) rfl, gm 68 (by decide +kernel) rfl, by decide +kernel, by decide +kernel, by decide +kernel⟩, ⟨gm 1206 (by decide +kernel) rfl, gm 34 (by decide +kernel) rfl⟩, by decide +kernel⟩
abbrev mX11_reaches : MD := (yX11_reaches, cX11_reaches, 6, (some .int))
theorem kX11_reaches : MOk mX11_reaches ∧ MInst mX11_reaches ∧ MPar mX11_reaches 2 := ⟨⟨gm 1211 (by decide +kernel) rfl, gm 68 (by decide +kernel) rfl, by decide +kernel, by decide +kernel, by decide +kernel⟩, ⟨gm 1209 (by decide +kernel) rfl, gm 1210 (by decide +kernel) rfl⟩, by decide +kernel⟩
abbrev mX11_send : MD := (yX11_send, cX11_send, 5, (some .int))
theorem kX11_send : MOk mX11_send ∧ MInst mX11_send ∧ MPar mX11_send 3 := ⟨⟨gm 1215 (by decide +kernel) rfl, gm 68 (by decide +kernel) rfl, by decide +kernel, by decide +kernel, by decide +kernel⟩, ⟨gm 1213 (by decide +kernel) rfl, gm 1214 (by decide +kernel) rfl⟩, by decide +kernel⟩
abbrev mX11_comes : MD := (yX11_comes, cX11_comes, 8, none)
theorem kX11_comes : MOk mX11_comes ∧ MInst mX11_comes ∧ MPar mX11_comes 6 := ⟨⟨gm 1219 (by decide +kernel) rfl, gm 68 (by decide +kernel) rfl, by decide +kernel, by decide +kernel, by decide +kernel⟩, ⟨gm 1218 (by decide +kernel) rfl, gm 35 (by decide +kernel) rfl⟩, by decide +kernel⟩
abbrev mX11_lays : MD := (yX11_lays, cX11_lays, 4, none)
theorem kX11_lays : MOk mX11_lays ∧ MInst mX11_lays ∧ MPar mX11_lays 3 := ⟨⟨gm 1223 (by decide +kernel) rfl, gm 68 (by decide +kernel) rfl, by decide +kernel, by decide +kernel, by decide +kernel⟩, ⟨gm 1222 (by decide +kernel) rfl, gm 36 (by decide +kernel) rfl⟩, by decide +kernel⟩
abbrev mX11_logs : MD := (yX11_logs, cX11_logs, 6, none)
theorem kX11_logs : MOk mX11_logs ∧ MInst mX11_logs ∧ MPar mX11_logs 4 := ⟨⟨gm 1227 (by decide +kernel) rfl, gm 68 (by decide +kernel) rfl, by decide +kernel, by decide +kernel, by decide +kernel⟩, ⟨gm 1226 (by decide +kernel) rfl, gm 37 (by decide +kernel) rfl⟩, by decide +kernel⟩
abbrev mX11_tick : MD := (yX11_tick, cX11_tick, 4, (some .int))
theorem kX11_tick : MOk mX11_tick ∧ MInst mX11_tick ∧ MPar mX11_tick 1 := ⟨⟨gm 1231 (by decide +kernel) rfl, gm 68 (by decide +kernel) rfl, by decide +kernel, by decide +kernel, by decide +kernel⟩, ⟨gm 1229 (by decide +kernel) rfl, gm 1230 (by decide +kernel) rfl⟩, by decide +kernel⟩
abbrev mX11_ticks : MD := (yX11_ticks, cX11_ticks, 4, none)
theorem kX11_ticks : MOk mX11_ticks ∧ MInst mX11_ticks ∧ MPar mX11_ticks 0 := ⟨⟨gm 1236 (by decide +kernel) rfl, gm 68 (by decide +kernel) rfl, by decide +kernel, by decide +kernel, by decide +kernel⟩, ⟨gm 1235 (by decide +kernel) rfl, gm 38 (by decide +kernel) rfl⟩, by decide +kernel⟩
abbrev mX11_isHandled : MD := (yX11_isHandled, cX11_isHandled, 3, (some .boolean))
theorem kX11_isHandled : MOk mX11_isHandled ∧ MInst mX11_isHandled ∧ MPar mX11_isHandled 1 := ⟨⟨gm 1240 (by decide +kernel) rfl, gm 68 (by decide +kernel) rfl, by decide +kernel, by decide +kernel, by decide +kernel⟩, ⟨gm 1239 (by decide +kernel) rfl, gm 39 (by decide +kernel) rfl⟩, by decide +kernel⟩
abbrev mX11_bounces : MD := (yX11_bounces, cX11_bounces, 4, none)
theorem kX11_bounces : MOk mX11_bounces ∧ MInst mX11_bounces ∧ MPar mX11_bounces 1 := ⟨⟨gm 1244 (by decide +kernel) rfl, gm 68 (by decide +kernel) rfl, by decide +kernel, by decide +kernel, by decide +kernel⟩, ⟨gm 1243 (by decide +kernel) rfl, gm 40 (by decide +kernel) rfl⟩, by decide +kernel⟩
abbrev mX11_logsItem : MD := (yX11_logsItem, cX11_logsItem, 4, none)
theorem kX11_logsItem : MOk mX11_logsItem ∧ MInst mX11_logsItem ∧ MPar mX11_logsItem 3 := ⟨⟨gm 1248 (by decide +kernel) rfl, gm 68 (by decide +kernel) rfl, by decide +kernel, by decide +kernel, by decide +kernel⟩, ⟨gm 1247 (by decide +kernel) rfl, gm 41 (by decide +kernel) rfl⟩, by decide +kernel⟩
abbrev mX11_leaves : MD := (yX11_leaves, cX11_leaves, 3, none)
theorem kX11_leaves : MOk mX11_leaves ∧ MInst mX11_leaves ∧ MPar mX11_leaves 1 := ⟨⟨gm 1252 (by decide +kernel) rfl, gm 68 (by decide +kernel) rfl, by decide +kernel, by decide +kernel, by decide +kernel⟩, ⟨gm 1251 (by decide +kernel) rfl, gm 42 (by decide +kernel) rfl⟩, by decide +kernel⟩
abbrev mX11_arrives : MD := (yX11_arrives, cX11_arrives, 3, (some .boolean))
theorem kX11_arrives : MOk mX11_arrives ∧ MInst mX11_arrives ∧ MPar mX11_arrives 1 := ⟨⟨gm 1256 (by decide +kernel) rfl, gm 68 (by decide +kernel) rfl, by decide +kernel, by decide +kernel, by decide +kernel⟩, ⟨gm 1255 (by decide +kernel) rfl, gm 43 (by decide +kernel) rfl⟩, by decide +kernel⟩
abbrev mX11_gives : MD := (yX11_gives, cX11_gives, 6, none)
theorem kX11_gives : MOk mX11_gives ∧ MInst mX11_gives ∧ MPar mX11_gives 1 := ⟨⟨gm 1260 (by decide +kernel) rfl, gm 68 (by decide +kernel) rfl, by decide +kernel, by decide +kernel, by decide +kernel⟩, ⟨gm 1259 (by decide +kernel) rfl, gm 44 (by decide +kernel) rfl⟩, by decide +kernel⟩
abbrev mX11_hasHad : MD := (yX11_hasHad, cX11_hasHad, 5, (some .boolean))
theorem kX11_hasHad : MOk mX11_hasHad ∧ MInst mX11_hasHad ∧ MPar mX11_hasHad 2 := ⟨⟨gm 1264 (by decide +kernel) rfl, gm 68 (by decide +kernel) rfl, by decide +kernel, by decide +kernel, by decide +kernel⟩, ⟨gm 1263 (by decide +kernel) rfl, gm 45 (by decide +kernel) rfl⟩, by decide +kernel⟩
abbrev mX11_opens : MD := (yX11_opens, cX11_opens, 6, (some .boolean))
theorem kX11_opens : MOk mX11_opens ∧ MInst mX11_opens ∧ MPar mX11_opens 1 := ⟨⟨gm 1268 (by decide +kernel) rfl, gm 68 (by decide +kernel) rfl, by decide +kernel, by decide +kernel, by decide +kernel⟩, ⟨gm 1267 (by decide +kernel) rfl, gm 46 (by decide +kernel) rfl⟩, by decide +kernel⟩
abbrev mX11_isShut : MD := (yX11_isShut, cX11_isShut, 3, (some .boolean))
theorem kX11_isShut : MOk mX11_isShut ∧ MInst mX11_isShut ∧ MPar mX11_isShut 2 := ⟨⟨gm 1272 (by decide +kernel) rfl, gm 68 (by decide +kernel) rfl, by decide +kernel, by decide +kernel, by decide +kernel⟩, ⟨gm 1271 (by decide +kernel) rfl, gm 47 (by decide +kernel) rfl⟩, by decide +kernel⟩
abbrev mX11_travels : MD := (yX11_travels, cX11_travels, 10, (some .boolean))
theorem kX11_travels : MOk mX11_travels ∧ MInst mX11_travels ∧ MPar mX11_travels 1 := ⟨⟨gm 1276 (by decide +kernel) rfl, gm 68 (by decide +kernel) rfl, by decide +kernel, by decide +kernel, by decide +kernel⟩, ⟨gm 1275 (by decide +kernel) rfl, gm 48 (by decide +kernel) rfl⟩, by decide +kernel⟩
abbrev mX11_asked : MD := (yX11_asked, cX11_asked, 8, (some .int))
theorem kX11_asked : MOk mX11_asked ∧ MInst mX11_asked ∧ MPar mX11_asked 3 := ⟨⟨gm 1280 (by decide +kernel) rfl, gm 68 (by decide +kernel) rfl, by decide +kernel, by decide +kernel, by decide +kernel⟩, ⟨gm 1279 (by decide +kernel) rfl, gm 49 (by decide +kernel) rfl⟩, by decide +kernel⟩
abbrev mX11_takes : MD := (yX11_takes, cX11_takes, 7, (some .boolean))
theorem kX11_takes : MOk mX11_takes ∧ MInst mX11_takes ∧ MPar mX11_takes 4 := ⟨⟨gm 1284 (by decide +kernel) rfl, gm 68 (by decide +kernel) rfl, by decide +kernel, by decide +kernel, by decide +kernel⟩, ⟨gm 1283 (by decide +kernel) rfl, gm 50 (by decide +kernel) rfl⟩, by decide +kernel⟩
abbrev mX11_whichStranger : MD := (yX11_whichStranger, cX11_whichStranger, 6, (some .int))
theorem kX11_whichStranger : MOk mX11_whichStranger ∧ MInst mX11_whichStranger ∧ MPar mX11_whichStranger 4 := ⟨⟨gm 1288 (by decide +kernel) rfl, gm 68 (by decide +kernel) rfl, by decide +kernel, by decide +kernel, by decide +kernel⟩, ⟨gm 1287 (by decide +kernel) rfl, gm 51 (by decide +kernel) rfl⟩, by decide +kernel⟩
abbrev mX11_putsDown : MD := (yX11_putsDown, cX11_putsDown, 6, none)
theorem kX11_putsDown : MOk mX11_putsDown ∧ MInst mX11_putsDown ∧ MPar mX11_putsDown 4 := ⟨⟨gm 1292 (by decide +kernel) rfl, gm 68 (by decide +kernel) rfl, by decide +kernel, by decide +kernel, by decide +kernel⟩, ⟨gm 1291 (by decide +kernel) rfl, gm 52 (by decide +kernel) rfl⟩, by decide +kernel⟩
abbrev mX11_forgets : MD := (yX11_forgets, cX11_forgets, 4, none)
theorem kX11_forgets : MOk mX11_forgets ∧ MInst mX11_forgets ∧ MPar mX11_forgets 2 := ⟨⟨gm 1296 (by decide +kernel) rfl, gm 68 (by decide +kernel) rfl, by decide +kernel, by decide +kernel, by decide +kernel⟩, ⟨gm 1295 (by decide +kernel) rfl, gm 53 (by decide +kernel) rfl⟩, by decide +kernel⟩
abbrev mX11_run : MD := (yX11_run, cX11_run, 3, (some .int))
theorem kX11_run : MOk mX11_run ∧ MInst mX11_run ∧ MPar mX11_run 1 := ⟨⟨gm 1300 (by decide +kernel) rfl, gm 68 (by decide +kernel) rfl, by decide +kernel, by decide +kernel, by decide +kernel⟩, ⟨gm 1298 (by decide +kernel) rfl, gm 1299 (by decide +kernel) rfl⟩, by decide +kernel⟩
abbrev mX11_set : MD := (yX11_set, cX11_set, 4, (some .int))
theorem kX11_set : MOk mX11_set ∧ MInst mX11_set ∧ MPar mX11_set 2 := ⟨⟨gm 1305 (by decide +kernel) rfl, gm 68 (by decide +kernel) rfl, by decide +kernel, by decide +kernel, by decide +kernel⟩, ⟨gm 1303 (by decide +kernel) rfl, gm 1304 (by decide +kernel) rfl⟩, by decide +kernel⟩
abbrev mX11_item : MD := (yX11_item, cX11_item, 5, (some .int))
theorem kX11_item : MOk mX11_item ∧ MInst mX11_item ∧ MPar mX11_item 3 := ⟨⟨gm 1309 (by decide +kernel) rfl, gm 68 (by decide +kernel) rfl, by decide +kernel, by decide +kernel, by decide +kernel⟩, ⟨gm 1307 (by decide +kernel) rfl, gm 1308 (by decide +kernel) rfl⟩, by decide +kernel⟩
abbrev mX11_itemOf : MD := (yX11_itemOf, cX11_itemOf, 5, (some .int))
theorem kX11_itemOf : MOk mX11_itemOf ∧ MInst mX11_itemOf ∧ MPar mX11_itemOf 2 := ⟨⟨gm 1314 (by decide +kernel) rfl, gm 68 (by decide +kernel) rfl, by decide +kernel, by decide +kernel, by decide +kernel⟩, ⟨gm 1313 (by decide +kernel) rfl, gm 54 (by decide +kernel) rfl⟩, by decide +kernel⟩
abbrev mX11_marksOf : MD := (yX11_marksOf, cX11_marksOf, 4, (some .int))
theorem kX11_marksOf : MOk mX11_marksOf ∧ MInst mX11_marksOf ∧ MPar mX11_marksOf 1 := ⟨⟨gm 1318 (by decide +kernel) rfl, gm 68 (by decide +kernel) rfl, by decide +kernel, by decide +kernel, by decide +kernel⟩, ⟨gm 1317 (by decide +kernel) rfl, gm 55 (by decide +kernel) rfl⟩, by decide +kernel⟩
abbrev mX11_asks : MD := (yX11_asks, cX11_asks, 4, (some .int))
theorem kX11_asks : MOk mX11_asks ∧ MInst mX11_asks ∧ MPar mX11_asks 3 := ⟨⟨gm 1322 (by decide +kernel) rfl, gm 68 (by decide +kernel) rfl, by decide +kernel, by decide +kernel, by decide +kernel⟩, ⟨gm 1320 (by decide +kernel) rfl, gm 1321 (by decide +kernel) rfl⟩, by decide +kernel⟩
abbrev mX11_stranger : MD := (yX11_stranger, cX11_stranger, 4, (some .int))
theorem kX11_stranger : MOk mX11_stranger ∧ MInst mX11_stranger ∧ MPar mX11_stranger 3 := ⟨⟨gm 1326 (by decide +kernel) rfl, gm 68 (by decide +kernel) rfl, by decide +kernel, by decide +kernel, by decide +kernel⟩, ⟨gm 1324 (by decide +kernel) rfl, gm 1325 (by decide +kernel) rfl⟩, by decide +kernel⟩
abbrev mX11_log : MD := (yX11_log, cX11_log, 3, (some .int))
theorem kX11_log : MOk mX11_log ∧ MInst mX11_log ∧ MPar mX11_log 2 := ⟨⟨gm 1331 (by decide +kernel) rfl, gm 68 (by decide +kernel) rfl, by decide +kernel, by decide +kernel, by decide +kernel⟩, ⟨gm 1329 (by decide +kernel) rfl, gm 1330 (by decide +kernel) rfl⟩, by decide +kernel⟩
abbrev mX11_draw : MD := (yX11_draw, cX11_draw, 7, (some .int))
theorem kX11_draw : MOk mX11_draw ∧ MInst mX11_draw ∧ MPar mX11_draw 2 := ⟨⟨gm 1335 (by decide +kernel) rfl, gm 68 (by decide +kernel) rfl, by decide +kernel, by decide +kernel, by decide +kernel⟩, ⟨gm 1333 (by decide +kernel) rfl, gm 1334 (by decide +kernel) rfl⟩, by decide +kernel⟩
abbrev mX11_gets : MD := (yX11_gets, cX11_gets, 1, (some .int))
theorem kX11_gets : MOk mX11_gets ∧ MInst mX11_gets ∧ MPar mX11_gets 0 := ⟨⟨gm 1340 (by decide +kernel) rfl, gm 68 (by decide +kernel) rfl, by decide +kernel, by decide +kernel, by decide +kernel⟩, ⟨gm 1339 (by decide +kernel) rfl, gm 56 (by decide +kernel) rfl⟩, by decide +kernel⟩
abbrev mX11_keep : MD := (yX11_keep, cX11_keep, 4, (some .int))
theorem kX11_keep : MOk mX11_keep ∧ MInst mX11_keep ∧ MPar mX11_keep 1 := ⟨⟨gm 1346 (by decide +kernel) rfl, gm 68 (by decide +kernel) rfl, by decide +kernel, by decide +kernel, by decide +kernel⟩, ⟨gm 1344 (by decide +kernel) rfl, gm 1345 (by decide +kernel) rfl⟩, by decide +kernel⟩
abbrev mX11_back : MD := (yX11_back, cX11_back, 3, (some .int))
theorem kX11_back : MOk mX11_back ∧ MInst mX11_back ∧ MPar mX11_back 1 := ⟨⟨gm 1350 (by decide +kernel) rfl, gm 68 (by decide +kernel) rfl, by decide +kernel, by decide +kernel, by decide +kernel⟩, ⟨gm 1348 (by decide +kernel) rfl, gm 1349 (by decide +kernel) rfl⟩, by decide +kernel⟩
abbrev mX11_sheet : MD := (yX11_sheet, cX11_sheet, 5, (some .int))
theorem kX11_sheet : MOk mX11_sheet ∧ MInst mX11_sheet ∧ MPar mX11_sheet 3 := ⟨⟨gm 1354 (by decide +kernel) rfl, gm 68 (by decide +kernel) rfl, by decide +kernel, by decide +kernel, by decide +kernel⟩, ⟨gm 1352 (by decide +kernel) rfl, gm 1353 (by decide +kernel) rfl⟩, by decide +kernel⟩
abbrev mX11_isSheet : MD := (yX11_isSheet, cX11_isSheet, 2, (some .boolean))
theorem kX11_isSheet : MOk mX11_isSheet ∧ MStat mX11_isSheet ∧ MPar mX11_isSheet 2 := ⟨⟨gm 1357 (by decide +kernel) rfl, gm 68 (by decide +kernel) rfl, by decide +kernel, by decide +kernel, by decide +kernel⟩, gm 1356 (by decide +kernel) rfl, by decide +kernel⟩
abbrev mX11_lay : MD := (yX11_lay, cX11_lay, 4, (some .int))
theorem kX11_lay : MOk mX11_lay ∧ MInst mX11_lay ∧ MPar mX11_lay 3 := ⟨⟨gm 1361 (by decide +kernel) rfl, gm 68 (by decide +kernel) rfl, by decide +kernel, by decide +kernel, by decide +kernel⟩, ⟨gm 1359 (by decide +kernel) rfl, gm 1360 (by decide +kernel) rfl⟩, by decide +kernel⟩
abbrev mX11_post : MD := (yX11_post, cX11_post, 8, (some .int))
theorem kX11_post : MOk mX11_post ∧ MInst mX11_post ∧ MPar mX11_post 4 := ⟨⟨gm 1365 (by decide +kernel) rfl, gm 68 (by decide +kernel) rfl, by decide +kernel, by decide +kernel, by decide +kernel⟩, ⟨gm 1363 (by decide +kernel) rfl, gm 1364 (by decide +kernel) rfl⟩, by decide +kernel⟩
abbrev mX11_count : MD := (yX11_count, cX11_count, 2, (some .int))
theorem kX11_count : MOk mX11_count ∧ MInst mX11_count ∧ MPar mX11_count 1 := ⟨⟨gm 1369 (by decide +kernel) rfl, gm 68 (by decide +kernel) rfl, by decide +kernel, by decide +kernel, by decide +kernel⟩, ⟨gm 1367 (by decide +kernel) rfl, gm 1368 (by decide +kernel) rfl⟩, by decide +kernel⟩
theorem acp_ini : Cond.initialized "java/lang/System" ∈ gtbl := gm 74 (by decide +kernel) rfl
theorem clL_7 : Cond.classLink RL 7 RX10 ∈ gtbl := gm 78 (by decide +kernel) rfl
theorem inX10 : Cond.instantiable RX10 7 ∈ gtbl ∧ Cond.initialized RX10 ∈ gtbl := ⟨gm 79 (by decide +kernel) rfl, gm 58 (by decide +kernel) rfl⟩
theorem lL_9 : MLk RL 9 mX10_init := gm 80 (by decide +kernel) rfl
theorem lX10_1 : Cond.methodLink RX10 1 objectInit ∈ gtbl := gm 83 (by decide +kernel) rfl
theorem clX10_7 : Cond.classLink RX10 7 RX9 ∈ gtbl := gm 86 (by decide +kernel) rfl
theorem inX9 : Cond.instantiable RX9 11 ∈ gtbl ∧ Cond.initialized RX9 ∈ gtbl := ⟨gm 87 (by decide +kernel) rfl, gm 59 (by decide +kernel) rfl⟩
theorem lX10_9 : MNk RX10 9 mX9_init := nm_ 88 (by decide +kernel) rfl
theorem lX9_3 : Cond.methodLink RX9 3 objectInit ∈ gtbl := gm 91 (by decide +kernel) rfl
theorem clX9_15 : Cond.classLink RX9 15 RX5 ∈ gtbl := gm 92 (by decide +kernel) rfl
theorem inX5 : Cond.instantiable RX5 11 ∈ gtbl ∧ Cond.initialized RX5 ∈ gtbl := ⟨gm 93 (by decide +kernel) rfl, gm 60 (by decide +kernel) rfl⟩
theorem lX9_17 : MNk RX9 17 mX5_init := nm_ 94 (by decide +kernel) rfl
theorem lX5_3 : Cond.methodLink RX5 3 objectInit ∈ gtbl := gm 97 (by decide +kernel) rfl
theorem fX5_39 : FLok RX5 39 5 0 false := ⟨_, _, _, rfl, by decide, rfl, rfl, gm 98 (by decide +kernel) rfl⟩
theorem fX2_19 : FLok RX2 19 5 0 false := ⟨_, _, _, rfl, by decide, rfl, rfl, gm 99 (by decide +kernel) rfl⟩
theorem fX9_81 : FLok RX9 81 5 0 false := ⟨_, _, _, rfl, by decide, rfl, rfl, gm 100 (by decide +kernel) rfl⟩
theorem fX10_87 : FLok RX10 87 5 0 false := ⟨_, _, _, rfl, by decide, rfl, rfl, gm 101 (by decide +kernel) rfl⟩
theorem fX5_43 : FLok RX5 43 5 1 false := ⟨_, _, _, rfl, by decide, rfl, rfl, gm 102 (by decide +kernel) rfl⟩
theorem fX9_93 : FLok RX9 93 5 1 false := ⟨_, _, _, rfl, by decide, rfl, rfl, gm 103 (by decide +kernel) rfl⟩
theorem fX10_90 : FLok RX10 90 5 1 false := ⟨_, _, _, rfl, by decide, rfl, rfl, gm 104 (by decide +kernel) rfl⟩
theorem fX5_9 : FLok RX5 9 5 2 true := ⟨_, _, _, rfl, by decide, rfl, rfl, gm 105 (by decide +kernel) rfl⟩
theorem fX10_128 : FLok RX10 128 5 2 true := ⟨_, _, _, rfl, by decide, rfl, rfl, gm 106 (by decide +kernel) rfl⟩
theorem fX2_187 : FLok RX2 187 5 2 true := ⟨_, _, _, rfl, by decide, rfl, rfl, gm 107 (by decide +kernel) rfl⟩
theorem fX5_15 : FLok RX5 15 5 3 true := ⟨_, _, _, rfl, by decide, rfl, rfl, gm 108 (by decide +kernel) rfl⟩
theorem fX10_157 : FLok RX10 157 5 3 true := ⟨_, _, _, rfl, by decide, rfl, rfl, gm 109 (by decide +kernel) rfl⟩
theorem fX9_143 : FLok RX9 143 5 3 true := ⟨_, _, _, rfl, by decide, rfl, rfl, gm 110 (by decide +kernel) rfl⟩
theorem fX5_18 : FLok RX5 18 5 4 true := ⟨_, _, _, rfl, by decide, rfl, rfl, gm 111 (by decide +kernel) rfl⟩
theorem fX10_160 : FLok RX10 160 5 4 true := ⟨_, _, _, rfl, by decide, rfl, rfl, gm 112 (by decide +kernel) rfl⟩
theorem fX9_146 : FLok RX9 146 5 4 true := ⟨_, _, _, rfl, by decide, rfl, rfl, gm 113 (by decide +kernel) rfl⟩
theorem fX5_21 : FLok RX5 21 5 5 true := ⟨_, _, _, rfl, by decide, rfl, rfl, gm 114 (by decide +kernel) rfl⟩
theorem fX10_167 : FLok RX10 167 5 5 true := ⟨_, _, _, rfl, by decide, rfl, rfl, gm 115 (by decide +kernel) rfl⟩
theorem fX5_24 : FLok RX5 24 5 6 true := ⟨_, _, _, rfl, by decide, rfl, rfl, gm 116 (by decide +kernel) rfl⟩
theorem fX5_27 : FLok RX5 27 5 7 true := ⟨_, _, _, rfl, by decide, rfl, rfl, gm 117 (by decide +kernel) rfl⟩
theorem fX9_119 : FLok RX9 119 5 7 true := ⟨_, _, _, rfl, by decide, rfl, rfl, gm 118 (by decide +kernel) rfl⟩
theorem fX2_127 : FLok RX2 127 5 7 true := ⟨_, _, _, rfl, by decide, rfl, rfl, gm 119 (by decide +kernel) rfl⟩
theorem fX10_173 : FLok RX10 173 5 7 true := ⟨_, _, _, rfl, by decide, rfl, rfl, gm 120 (by decide +kernel) rfl⟩
theorem fX5_30 : FLok RX5 30 5 8 true := ⟨_, _, _, rfl, by decide, rfl, rfl, gm 121 (by decide +kernel) rfl⟩
theorem fX10_93 : FLok RX10 93 5 8 true := ⟨_, _, _, rfl, by decide, rfl, rfl, gm 122 (by decide +kernel) rfl⟩
theorem fX5_33 : FLok RX5 33 5 9 true := ⟨_, _, _, rfl, by decide, rfl, rfl, gm 123 (by decide +kernel) rfl⟩
theorem fX10_176 : FLok RX10 176 5 9 true := ⟨_, _, _, rfl, by decide, rfl, rfl, gm 124 (by decide +kernel) rfl⟩
theorem fX2_174 : FLok RX2 174 5 9 true := ⟨_, _, _, rfl, by decide, rfl, rfl, gm 125 (by decide +kernel) rfl⟩
theorem fX5_36 : FLok RX5 36 5 10 true := ⟨_, _, _, rfl, by decide, rfl, rfl, gm 126 (by decide +kernel) rfl⟩
theorem ac_byte : Cond.arrayClass .byte ∈ gtbl := gm 150 (by decide +kernel) rfl
theorem ac_int : Cond.arrayClass .int ∈ gtbl := gm 151 (by decide +kernel) rfl
theorem fX9_9 : FLok RX9 9 9 0 true := ⟨_, _, _, rfl, by decide, rfl, rfl, gm 152 (by decide +kernel) rfl⟩
theorem fX10_57 : FLok RX10 57 9 0 true := ⟨_, _, _, rfl, by decide, rfl, rfl, gm 153 (by decide +kernel) rfl⟩
theorem fX10_53 : FLok RX10 53 9 1 false := ⟨_, _, _, rfl, by decide, rfl, rfl, gm 154 (by decide +kernel) rfl⟩
theorem fX9_35 : FLok RX9 35 9 1 false := ⟨_, _, _, rfl, by decide, rfl, rfl, gm 155 (by decide +kernel) rfl⟩
theorem fX9_18 : FLok RX9 18 9 2 true := ⟨_, _, _, rfl, by decide, rfl, rfl, gm 156 (by decide +kernel) rfl⟩
theorem fX10_68 : FLok RX10 68 9 2 true := ⟨_, _, _, rfl, by decide, rfl, rfl, gm 157 (by decide +kernel) rfl⟩
theorem fX9_25 : FLok RX9 25 9 3 false := ⟨_, _, _, rfl, by decide, rfl, rfl, gm 158 (by decide +kernel) rfl⟩
theorem fX9_42 : FLok RX9 42 9 4 false := ⟨_, _, _, rfl, by decide, rfl, rfl, gm 159 (by decide +kernel) rfl⟩
theorem fX9_140 : FLok RX9 140 9 5 false := ⟨_, _, _, rfl, by decide, rfl, rfl, gm 160 (by decide +kernel) rfl⟩
theorem fX9_105 : FLok RX9 105 9 6 false := ⟨_, _, _, rfl, by decide, rfl, rfl, gm 161 (by decide +kernel) rfl⟩
theorem fX9_123 : FLok RX9 123 9 7 false := ⟨_, _, _, rfl, by decide, rfl, rfl, gm 162 (by decide +kernel) rfl⟩
theorem fX9_29 : FLok RX9 29 9 8 false := ⟨_, _, _, rfl, by decide, rfl, rfl, gm 163 (by decide +kernel) rfl⟩
theorem fX10_84 : FLok RX10 84 9 8 false := ⟨_, _, _, rfl, by decide, rfl, rfl, gm 164 (by decide +kernel) rfl⟩
theorem fX10_65 : FLok RX10 65 9 9 false := ⟨_, _, _, rfl, by decide, rfl, rfl, gm 165 (by decide +kernel) rfl⟩
theorem fX9_165 : FLok RX9 165 9 9 false := ⟨_, _, _, rfl, by decide, rfl, rfl, gm 166 (by decide +kernel) rfl⟩
theorem fX9_32 : FLok RX9 32 9 10 false := ⟨_, _, _, rfl, by decide, rfl, rfl, gm 167 (by decide +kernel) rfl⟩
theorem fX10_81 : FLok RX10 81 9 10 false := ⟨_, _, _, rfl, by decide, rfl, rfl, gm 168 (by decide +kernel) rfl⟩
theorem clX10_16 : Cond.classLink RX10 16 RX5 ∈ gtbl := gm 192 (by decide +kernel) rfl
theorem lX10_18 : MNk RX10 18 mX5_init := nm_ 193 (by decide +kernel) rfl
theorem clX10_23 : Cond.classLink RX10 23 RX6 ∈ gtbl := gm 194 (by decide +kernel) rfl
theorem inX6 : Cond.instantiable RX6 8 ∈ gtbl ∧ Cond.initialized RX6 ∈ gtbl := ⟨gm 195 (by decide +kernel) rfl, gm 61 (by decide +kernel) rfl⟩
theorem lX10_25 : MLk RX10 25 mX6_init := gm 196 (by decide +kernel) rfl
theorem lX6_3 : Cond.methodLink RX6 3 objectInit ∈ gtbl := gm 199 (by decide +kernel) rfl
theorem clX6_15 : Cond.classLink RX6 15 RX4 ∈ gtbl := gm 200 (by decide +kernel) rfl
theorem inX4 : Cond.instantiable RX4 3 ∈ gtbl ∧ Cond.initialized RX4 ∈ gtbl := ⟨gm 201 (by decide +kernel) rfl, gm 62 (by decide +kernel) rfl⟩
theorem lX6_17 : MLk RX6 17 mX4_init := gm 202 (by decide +kernel) rfl
theorem lX4_3 : Cond.methodLink RX4 3 objectInit ∈ gtbl := gm 205 (by decide +kernel) rfl
theorem clX4_9 : Cond.classLink RX4 9 RX3 ∈ gtbl := gm 206 (by decide +kernel) rfl
theorem inX3 : Cond.instantiable RX3 8 ∈ gtbl ∧ Cond.initialized RX3 ∈ gtbl := ⟨gm 208 (by decide +kernel) rfl, gm 63 (by decide +kernel) rfl⟩
theorem lX4_17 : MNk RX4 17 mX3_init := nm_ 209 (by decide +kernel) rfl
theorem lX3_1 : Cond.methodLink RX3 1 objectInit ∈ gtbl := gm 212 (by decide +kernel) rfl
theorem fX3_37 : FLok RX3 37 3 0 false := ⟨_, _, _, rfl, by decide, rfl, rfl, gm 213 (by decide +kernel) rfl⟩
theorem fX4_35 : FLok RX4 35 3 0 false := ⟨_, _, _, rfl, by decide, rfl, rfl, gm 214 (by decide +kernel) rfl⟩
theorem fX2_89 : FLok RX2 89 3 0 false := ⟨_, _, _, rfl, by decide, rfl, rfl, gm 215 (by decide +kernel) rfl⟩
theorem fX3_7 : FLok RX3 7 3 1 false := ⟨_, _, _, rfl, by decide, rfl, rfl, gm 216 (by decide +kernel) rfl⟩
theorem fX4_38 : FLok RX4 38 3 1 false := ⟨_, _, _, rfl, by decide, rfl, rfl, gm 217 (by decide +kernel) rfl⟩
theorem fX0_37 : FLok RX0 37 3 1 false := ⟨_, _, _, rfl, by decide, rfl, rfl, gm 218 (by decide +kernel) rfl⟩
theorem fX2_143 : FLok RX2 143 3 1 false := ⟨_, _, _, rfl, by decide, rfl, rfl, gm 219 (by decide +kernel) rfl⟩
theorem fX3_13 : FLok RX3 13 3 2 false := ⟨_, _, _, rfl, by decide, rfl, rfl, gm 220 (by decide +kernel) rfl⟩
theorem fX4_41 : FLok RX4 41 3 2 false := ⟨_, _, _, rfl, by decide, rfl, rfl, gm 221 (by decide +kernel) rfl⟩
theorem fX2_151 : FLok RX2 151 3 2 false := ⟨_, _, _, rfl, by decide, rfl, rfl, gm 222 (by decide +kernel) rfl⟩
theorem fX3_16 : FLok RX3 16 3 3 false := ⟨_, _, _, rfl, by decide, rfl, rfl, gm 223 (by decide +kernel) rfl⟩
theorem fX4_44 : FLok RX4 44 3 3 false := ⟨_, _, _, rfl, by decide, rfl, rfl, gm 224 (by decide +kernel) rfl⟩
theorem fX0_42 : FLok RX0 42 3 3 false := ⟨_, _, _, rfl, by decide, rfl, rfl, gm 225 (by decide +kernel) rfl⟩
theorem fX2_104 : FLok RX2 104 3 3 false := ⟨_, _, _, rfl, by decide, rfl, rfl, gm 226 (by decide +kernel) rfl⟩
theorem fX3_19 : FLok RX3 19 3 4 false := ⟨_, _, _, rfl, by decide, rfl, rfl, gm 227 (by decide +kernel) rfl⟩
theorem fX4_47 : FLok RX4 47 3 4 false := ⟨_, _, _, rfl, by decide, rfl, rfl, gm 228 (by decide +kernel) rfl⟩
theorem fX2_165 : FLok RX2 165 3 4 false := ⟨_, _, _, rfl, by decide, rfl, rfl, gm 229 (by decide +kernel) rfl⟩
theorem fX3_22 : FLok RX3 22 3 5 false := ⟨_, _, _, rfl, by decide, rfl, rfl, gm 230 (by decide +kernel) rfl⟩
theorem fX4_50 : FLok RX4 50 3 5 false := ⟨_, _, _, rfl, by decide, rfl, rfl, gm 231 (by decide +kernel) rfl⟩
theorem fX2_107 : FLok RX2 107 3 5 false := ⟨_, _, _, rfl, by decide, rfl, rfl, gm 232 (by decide +kernel) rfl⟩
theorem fX3_25 : FLok RX3 25 3 6 false := ⟨_, _, _, rfl, by decide, rfl, rfl, gm 233 (by decide +kernel) rfl⟩
theorem fX4_53 : FLok RX4 53 3 6 false := ⟨_, _, _, rfl, by decide, rfl, rfl, gm 234 (by decide +kernel) rfl⟩
theorem fX2_94 : FLok RX2 94 3 6 false := ⟨_, _, _, rfl, by decide, rfl, rfl, gm 235 (by decide +kernel) rfl⟩
theorem fX3_28 : FLok RX3 28 3 7 false := ⟨_, _, _, rfl, by decide, rfl, rfl, gm 236 (by decide +kernel) rfl⟩
theorem fX4_56 : FLok RX4 56 3 7 false := ⟨_, _, _, rfl, by decide, rfl, rfl, gm 237 (by decide +kernel) rfl⟩
theorem fX2_168 : FLok RX2 168 3 7 false := ⟨_, _, _, rfl, by decide, rfl, rfl, gm 238 (by decide +kernel) rfl⟩
theorem fX4_11 : FLok RX4 11 4 0 true := ⟨_, _, _, rfl, by decide, rfl, rfl, gm 256 (by decide +kernel) rfl⟩
theorem fX2_85 : FLok RX2 85 4 0 true := ⟨_, _, _, rfl, by decide, rfl, rfl, gm 257 (by decide +kernel) rfl⟩
theorem fX4_18 : FLok RX4 18 4 1 false := ⟨_, _, _, rfl, by decide, rfl, rfl, gm 258 (by decide +kernel) rfl⟩
theorem fX2_82 : FLok RX2 82 4 1 false := ⟨_, _, _, rfl, by decide, rfl, rfl, gm 259 (by decide +kernel) rfl⟩
theorem fX4_22 : FLok RX4 22 4 2 false := ⟨_, _, _, rfl, by decide, rfl, rfl, gm 260 (by decide +kernel) rfl⟩
theorem fX2_35 : FLok RX2 35 4 2 false := ⟨_, _, _, rfl, by decide, rfl, rfl, gm 261 (by decide +kernel) rfl⟩
theorem fX10_107 : FLok RX10 107 4 2 false := ⟨_, _, _, rfl, by decide, rfl, rfl, gm 262 (by decide +kernel) rfl⟩
theorem clX6_22 : Cond.classLink RX6 22 RX1 ∈ gtbl := gm 270 (by decide +kernel) rfl
theorem inX1 : Cond.instantiable RX1 3 ∈ gtbl ∧ Cond.initialized RX1 ∈ gtbl := ⟨gm 271 (by decide +kernel) rfl, gm 64 (by decide +kernel) rfl⟩
theorem lX6_24 : MNk RX6 24 mX1_init := nm_ 272 (by decide +kernel) rfl
theorem lX1_3 : Cond.methodLink RX1 3 objectInit ∈ gtbl := gm 275 (by decide +kernel) rfl
theorem fX1_9 : FLok RX1 9 1 0 true := ⟨_, _, _, rfl, by decide, rfl, rfl, gm 276 (by decide +kernel) rfl⟩
theorem fX1_15 : FLok RX1 15 1 1 true := ⟨_, _, _, rfl, by decide, rfl, rfl, gm 277 (by decide +kernel) rfl⟩
theorem fX1_18 : FLok RX1 18 1 2 true := ⟨_, _, _, rfl, by decide, rfl, rfl, gm 278 (by decide +kernel) rfl⟩
theorem clX6_29 : Cond.classLink RX6 29 RX0 ∈ gtbl := gm 286 (by decide +kernel) rfl
theorem inX0 : Cond.instantiable RX0 4 ∈ gtbl ∧ Cond.initialized RX0 ∈ gtbl := ⟨gm 287 (by decide +kernel) rfl, gm 65 (by decide +kernel) rfl⟩
theorem lX6_31 : MNk RX6 31 mX0_init := nm_ 288 (by decide +kernel) rfl
theorem lX0_3 : Cond.methodLink RX0 3 objectInit ∈ gtbl := gm 291 (by decide +kernel) rfl
theorem fX0_9 : FLok RX0 9 0 0 true := ⟨_, _, _, rfl, by decide, rfl, rfl, gm 292 (by decide +kernel) rfl⟩
theorem fX10_119 : FLok RX10 119 0 0 true := ⟨_, _, _, rfl, by decide, rfl, rfl, gm 293 (by decide +kernel) rfl⟩
theorem fX0_15 : FLok RX0 15 0 1 true := ⟨_, _, _, rfl, by decide, rfl, rfl, gm 294 (by decide +kernel) rfl⟩
theorem fX0_24 : FLok RX0 24 0 2 false := ⟨_, _, _, rfl, by decide, rfl, rfl, gm 295 (by decide +kernel) rfl⟩
theorem fX0_28 : FLok RX0 28 0 3 false := ⟨_, _, _, rfl, by decide, rfl, rfl, gm 296 (by decide +kernel) rfl⟩
theorem fX10_216 : FLok RX10 216 0 3 false := ⟨_, _, _, rfl, by decide, rfl, rfl, gm 297 (by decide +kernel) rfl⟩
theorem clX6_36 : Cond.classLink RX6 36 RX8 ∈ gtbl := gm 307 (by decide +kernel) rfl
theorem inX8 : Cond.instantiable RX8 2 ∈ gtbl ∧ Cond.initialized RX8 ∈ gtbl := ⟨gm 309 (by decide +kernel) rfl, gm 66 (by decide +kernel) rfl⟩
theorem lX6_42 : MNk RX6 42 mX8_init := nm_ 310 (by decide +kernel) rfl
theorem lX8_3 : Cond.methodLink RX8 3 objectInit ∈ gtbl := gm 313 (by decide +kernel) rfl
theorem fX8_11 : FLok RX8 11 8 0 true := ⟨_, _, _, rfl, by decide, rfl, rfl, gm 314 (by decide +kernel) rfl⟩
theorem fX10_213 : FLok RX10 213 8 0 true := ⟨_, _, _, rfl, by decide, rfl, rfl, gm 315 (by decide +kernel) rfl⟩
theorem fX8_21 : FLok RX8 21 8 1 false := ⟨_, _, _, rfl, by decide, rfl, rfl, gm 316 (by decide +kernel) rfl⟩
theorem fX6_64 : FLok RX6 64 8 1 false := ⟨_, _, _, rfl, by decide, rfl, rfl, gm 317 (by decide +kernel) rfl⟩
theorem fX10_142 : FLok RX10 142 8 1 false := ⟨_, _, _, rfl, by decide, rfl, rfl, gm 318 (by decide +kernel) rfl⟩
theorem fX6_43 : FLok RX6 43 6 0 false := ⟨_, _, _, rfl, by decide, rfl, rfl, gm 324 (by decide +kernel) rfl⟩
theorem fX2_47 : FLok RX2 47 6 0 false := ⟨_, _, _, rfl, by decide, rfl, rfl, gm 325 (by decide +kernel) rfl⟩
theorem fX10_97 : FLok RX10 97 6 0 false := ⟨_, _, _, rfl, by decide, rfl, rfl, gm 326 (by decide +kernel) rfl⟩
theorem fX6_47 : FLok RX6 47 6 1 false := ⟨_, _, _, rfl, by decide, rfl, rfl, gm 327 (by decide +kernel) rfl⟩
theorem fX2_44 : FLok RX2 44 6 1 false := ⟨_, _, _, rfl, by decide, rfl, rfl, gm 328 (by decide +kernel) rfl⟩
theorem fX10_100 : FLok RX10 100 6 1 false := ⟨_, _, _, rfl, by decide, rfl, rfl, gm 329 (by decide +kernel) rfl⟩
theorem fX6_50 : FLok RX6 50 6 2 false := ⟨_, _, _, rfl, by decide, rfl, rfl, gm 330 (by decide +kernel) rfl⟩
theorem fX10_112 : FLok RX10 112 6 2 false := ⟨_, _, _, rfl, by decide, rfl, rfl, gm 331 (by decide +kernel) rfl⟩
theorem fX2_181 : FLok RX2 181 6 2 false := ⟨_, _, _, rfl, by decide, rfl, rfl, gm 332 (by decide +kernel) rfl⟩
theorem fX6_9 : FLok RX6 9 6 3 true := ⟨_, _, _, rfl, by decide, rfl, rfl, gm 333 (by decide +kernel) rfl⟩
theorem fX2_74 : FLok RX2 74 6 3 true := ⟨_, _, _, rfl, by decide, rfl, rfl, gm 334 (by decide +kernel) rfl⟩
theorem fX10_131 : FLok RX10 131 6 3 true := ⟨_, _, _, rfl, by decide, rfl, rfl, gm 335 (by decide +kernel) rfl⟩
theorem fX6_18 : FLok RX6 18 6 4 true := ⟨_, _, _, rfl, by decide, rfl, rfl, gm 336 (by decide +kernel) rfl⟩
theorem fX2_29 : FLok RX2 29 6 4 true := ⟨_, _, _, rfl, by decide, rfl, rfl, gm 337 (by decide +kernel) rfl⟩
theorem fX10_103 : FLok RX10 103 6 4 true := ⟨_, _, _, rfl, by decide, rfl, rfl, gm 338 (by decide +kernel) rfl⟩
theorem fX6_25 : FLok RX6 25 6 5 true := ⟨_, _, _, rfl, by decide, rfl, rfl, gm 339 (by decide +kernel) rfl⟩
theorem fX2_139 : FLok RX2 139 6 5 true := ⟨_, _, _, rfl, by decide, rfl, rfl, gm 340 (by decide +kernel) rfl⟩
theorem fX10_179 : FLok RX10 179 6 5 true := ⟨_, _, _, rfl, by decide, rfl, rfl, gm 341 (by decide +kernel) rfl⟩
theorem fX6_32 : FLok RX6 32 6 6 true := ⟨_, _, _, rfl, by decide, rfl, rfl, gm 342 (by decide +kernel) rfl⟩
theorem fX2_54 : FLok RX2 54 6 6 true := ⟨_, _, _, rfl, by decide, rfl, rfl, gm 343 (by decide +kernel) rfl⟩
theorem fX10_115 : FLok RX10 115 6 6 true := ⟨_, _, _, rfl, by decide, rfl, rfl, gm 344 (by decide +kernel) rfl⟩
theorem fX6_38 : FLok RX6 38 6 7 true := ⟨_, _, _, rfl, by decide, rfl, rfl, gm 345 (by decide +kernel) rfl⟩
theorem fX10_138 : FLok RX10 138 6 7 true := ⟨_, _, _, rfl, by decide, rfl, rfl, gm 346 (by decide +kernel) rfl⟩
theorem fX2_190 : FLok RX2 190 6 7 true := ⟨_, _, _, rfl, by decide, rfl, rfl, gm 347 (by decide +kernel) rfl⟩
theorem clX10_30 : Cond.classLink RX10 30 RX2 ∈ gtbl := gm 365 (by decide +kernel) rfl
theorem inX2 : Cond.instantiable RX2 2 ∈ gtbl ∧ Cond.initialized RX2 ∈ gtbl := ⟨gm 366 (by decide +kernel) rfl, gm 67 (by decide +kernel) rfl⟩
theorem lX10_32 : MLk RX10 32 mX2_init := gm 367 (by decide +kernel) rfl
theorem lX2_3 : Cond.methodLink RX2 3 objectInit ∈ gtbl := gm 370 (by decide +kernel) rfl
theorem fX2_9 : FLok RX2 9 2 0 true := ⟨_, _, _, rfl, by decide, rfl, rfl, gm 371 (by decide +kernel) rfl⟩
theorem fX2_15 : FLok RX2 15 2 1 true := ⟨_, _, _, rfl, by decide, rfl, rfl, gm 372 (by decide +kernel) rfl⟩
theorem clX10_47 : Cond.classLink RX10 47 RX7 ∈ gtbl := gm 379 (by decide +kernel) rfl
theorem fX10_10 : FLok RX10 10 10 0 true := ⟨_, _, _, rfl, by decide, rfl, rfl, gm 381 (by decide +kernel) rfl⟩
theorem fX10_19 : FLok RX10 19 10 1 true := ⟨_, _, _, rfl, by decide, rfl, rfl, gm 382 (by decide +kernel) rfl⟩
theorem fX10_26 : FLok RX10 26 10 2 true := ⟨_, _, _, rfl, by decide, rfl, rfl, gm 383 (by decide +kernel) rfl⟩
theorem fX10_35 : FLok RX10 35 10 3 true := ⟨_, _, _, rfl, by decide, rfl, rfl, gm 384 (by decide +kernel) rfl⟩
theorem fX10_39 : FLok RX10 39 10 4 true := ⟨_, _, _, rfl, by decide, rfl, rfl, gm 385 (by decide +kernel) rfl⟩
theorem fX10_43 : FLok RX10 43 10 5 true := ⟨_, _, _, rfl, by decide, rfl, rfl, gm 386 (by decide +kernel) rfl⟩
theorem fX10_49 : FLok RX10 49 10 6 true := ⟨_, _, _, rfl, by decide, rfl, rfl, gm 387 (by decide +kernel) rfl⟩
theorem ac_boolean : Cond.arrayClass .boolean ∈ gtbl := gm 403 (by decide +kernel) rfl
theorem lL_13 : MLk RL 13 mX10_feed := gm 404 (by decide +kernel) rfl
theorem lL_18 : MLk RL 18 mX10_end := gm 408 (by decide +kernel) rfl
theorem lL_22 : MLk RL 22 mX10_text := gm 412 (by decide +kernel) rfl
theorem lX10_61 : MLk RX10 61 mX9_readText := gm 416 (by decide +kernel) rfl
theorem lX9_22 : MLk RX9 22 mX5_clear := gm 420 (by decide +kernel) rfl
theorem lX5_46 : MLk RX5 46 mJ7_fill_53178 := gm 424 (by decide +kernel) rfl
theorem lX9_38 : MLk RX9 38 mX9_readToken := gm 427 (by decide +kernel) rfl
theorem lX9_149 : MLk RX9 149 mX9_tokenOf := gm 431 (by decide +kernel) rfl
theorem lX9_77 : MLk RX9 77 mX9_refuse := gm 434 (by decide +kernel) rfl
theorem lX9_153 : MLk RX9 153 mX9_valueRead := gm 438 (by decide +kernel) rfl
theorem lX9_45 : MLk RX9 45 mX9_allIsThere := gm 442 (by decide +kernel) rfl
theorem lX9_50 : MLk RX9 50 mX9_isWord := gm 447 (by decide +kernel) rfl
theorem lX9_157 : MLk RX9 157 mJ0_length_8abf5 := gm 451 (by decide +kernel) rfl
theorem lJ0_335 : MLk RJ0 335 mJ0_coder_7d493 := gm 455 (by decide +kernel) rfl
theorem lX9_161 : MLk RX9 161 mJ0_charAt_5068e := gm 461 (by decide +kernel) rfl
theorem lJ0_492 : MLk RJ0 492 mJ0_isLatin1_aae02 := gm 465 (by decide +kernel) rfl
theorem lJ0_495 : MLk RJ0 495 mJ1_charAt_3b067 := gm 469 (by decide +kernel) rfl
theorem lJ1_9 : MLk RJ1 9 mJ0_checkIndex_df160 := gm 472 (by decide +kernel) rfl
theorem lJ0_1059 : MLk RJ0 1059 mJ3_checkIndex_8e157 := gm 477 (by decide +kernel) rfl
theorem lJ0_498 : MLk RJ0 498 mJ2_charAt_3b067 := gm 480 (by decide +kernel) rfl
theorem lJ2_67 : MLk RJ2 67 mJ2_checkIndex_2214a := gm 483 (by decide +kernel) rfl
theorem lJ2_48 : MLk RJ2 48 mJ2_length_9d52b := gm 486 (by decide +kernel) rfl
theorem lJ2_414 : MLk RJ2 414 mJ0_checkIndex_df160 := gm 489 (by decide +kernel) rfl
theorem lJ2_71 : MLk RJ2 71 mJ2_getChar_3b067 := gm 490 (by decide +kernel) rfl
theorem lX9_54 : MLk RX9 54 mX9_readHouse := gm 499 (by decide +kernel) rfl
theorem lX9_86 : MLk RX9 86 mX5_addHouse := gm 504 (by decide +kernel) rfl
theorem lX9_90 : MLk RX9 90 mX9_signStands := gm 508 (by decide +kernel) rfl
theorem lX9_59 : MLk RX9 59 mX9_readDomain := gm 513 (by decide +kernel) rfl
theorem lX9_96 : MLk RX9 96 mX9_readReceiver := gm 517 (by decide +kernel) rfl
theorem lX9_102 : MLk RX9 102 mX9_numberStands := gm 521 (by decide +kernel) rfl
theorem lX9_108 : MLk RX9 108 mX5_preferenceOf := gm 525 (by decide +kernel) rfl
theorem lX9_112 : MLk RX9 112 mX5_addReceiver := gm 529 (by decide +kernel) rfl
theorem lX5_58 : MLk RX5 58 mX5_isAskedAhead := gm 533 (by decide +kernel) rfl
theorem lX9_99 : MLk RX9 99 mX9_readSign := gm 537 (by decide +kernel) rfl
theorem lX9_64 : MLk RX9 64 mX9_readBox := gm 542 (by decide +kernel) rfl
theorem lX9_130 : MLk RX9 130 mX9_readTold := gm 546 (by decide +kernel) rfl
theorem lX9_116 : MLk RX9 116 mX9_addressStands := gm 550 (by decide +kernel) rfl
theorem lX9_126 : MLk RX9 126 mX5_tell := gm 554 (by decide +kernel) rfl
theorem lX9_69 : MLk RX9 69 mX9_readAlias := gm 559 (by decide +kernel) rfl
theorem lX9_133 : MLk RX9 133 mX5_addLead := gm 563 (by decide +kernel) rfl
theorem lX9_74 : MLk RX9 74 mX9_readList := gm 568 (by decide +kernel) rfl
theorem lX9_136 : MLk RX9 136 mX5_hasLead := gm 572 (by decide +kernel) rfl
theorem lX5_62 : MLk RX5 62 mX5_lead := gm 576 (by decide +kernel) rfl
theorem lX10_71 : MLk RX10 71 mX5_copyFrom := gm 580 (by decide +kernel) rfl
theorem lX5_52 : Cond.methodLink RX5 52 arraycopyName ∈ gtbl := gm 584 (by decide +kernel) rfl
theorem acp_static : Cond.static arraycopyName ∈ gtbl := gm 585 (by decide +kernel) rfl
theorem acp_native : Cond.native arraycopyName ∈ gtbl := gm 586 (by decide +kernel) rfl
theorem lX10_75 : MLk RX10 75 mX6_clear := gm 587 (by decide +kernel) rfl
theorem lX6_53 : MLk RX6 53 mJ7_fill_53178 := gm 591 (by decide +kernel) rfl
theorem lX6_59 : MLk RX6 59 mX4_clear := gm 592 (by decide +kernel) rfl
theorem lX6_62 : MLk RX6 62 mX1_clear := gm 596 (by decide +kernel) rfl
theorem lX1_21 : MLk RX1 21 mJ7_fill_53178 := gm 600 (by decide +kernel) rfl
theorem lX6_63 : MLk RX6 63 mX0_clear := gm 601 (by decide +kernel) rfl
theorem lX0_18 : MLk RX0 18 mJ7_fill_53178 := gm 605 (by decide +kernel) rfl
theorem lX10_78 : MLk RX10 78 mX10_forgetImages := gm 606 (by decide +kernel) rfl
theorem lL_27 : MLk RL 27 mX10_fault := gm 610 (by decide +kernel) rfl
theorem lL_31 : MLk RL 31 mX10_rule := gm 614 (by decide +kernel) rfl
theorem lL_35 : MLk RL 35 mX10_house := gm 618 (by decide +kernel) rfl
theorem lX10_124 : MLk RX10 124 mX10_isHouse := gm 622 (by decide +kernel) rfl
theorem lX10_134 : MLk RX10 134 mX4_itemsIn := gm 626 (by decide +kernel) rfl
theorem lX10_147 : MLk RX10 147 mX8_passed := gm 630 (by decide +kernel) rfl
theorem lX10_151 : MLk RX10 151 mX5_domainsEndingIn := gm 634 (by decide +kernel) rfl
theorem lX5_73 : MLk RX5 73 mX5_isLast := gm 638 (by decide +kernel) rfl
theorem lX5_66 : MLk RX5 66 mX5_hasReceivers := gm 642 (by decide +kernel) rfl
theorem lX5_70 : MLk RX5 70 mX5_preferenceOf := gm 646 (by decide +kernel) rfl
theorem lL_40 : MLk RL 40 mX10_receiver := gm 647 (by decide +kernel) rfl
theorem lX10_154 : MLk RX10 154 mX10_isDomain := gm 651 (by decide +kernel) rfl
theorem lX10_163 : MLk RX10 163 mX5_isLast := gm 655 (by decide +kernel) rfl
theorem lL_45 : MLk RL 45 mX10_address := gm 656 (by decide +kernel) rfl
theorem lX10_170 : MLk RX10 170 mX10_isAddress := gm 660 (by decide +kernel) rfl
theorem lX10_183 : MLk RX10 183 mX1_answer := gm 663 (by decide +kernel) rfl
theorem lL_49 : MLk RL 49 mX10_leads := gm 667 (by decide +kernel) rfl
theorem lX10_189 : MLk RX10 189 mX5_lead := gm 671 (by decide +kernel) rfl
theorem lL_53 : MLk RL 53 mX10_reaches := gm 672 (by decide +kernel) rfl
theorem lX10_192 : MLk RX10 192 mX5_reachedFrom := gm 676 (by decide +kernel) rfl
theorem lX5_76 : MLk RX5 76 mX5_leadBits := gm 680 (by decide +kernel) rfl
theorem lL_57 : MLk RL 57 mX10_send := gm 684 (by decide +kernel) rfl
theorem lX10_195 : MLk RX10 195 mX2_takeLetter := gm 688 (by decide +kernel) rfl
theorem lX2_40 : MLk RX2 40 mX2_refusal := gm 692 (by decide +kernel) rfl
theorem lX2_25 : MNk RX2 25 mX10_isAddress := nm_ 696 (by decide +kernel) rfl
theorem lX2_50 : MLk RX2 50 mX4_add := gm 697 (by decide +kernel) rfl
theorem lX4_29 : Cond.methodLink RX4 29 Lib.Math.min.name ∈ gtbl := gm 701 (by decide +kernel) rfl
theorem lX2_58 : MLk RX2 58 mX0_write := gm 704 (by decide +kernel) rfl
theorem lL_61 : MLk RL 61 mX10_tick := gm 708 (by decide +kernel) rfl
theorem lX10_199 : MLk RX10 199 mX2_passTick := gm 712 (by decide +kernel) rfl
theorem lX2_78 : MLk RX2 78 mX2_takeTurn := gm 716 (by decide +kernel) rfl
theorem lX2_97 : MLk RX2 97 mX2_handle := gm 720 (by decide +kernel) rfl
theorem lX2_110 : MLk RX2 110 mX5_hasReceivers := gm 724 (by decide +kernel) rfl
theorem lX2_113 : MLk RX2 113 mX2_bounce := gm 725 (by decide +kernel) rfl
theorem lX2_158 : MLk RX2 158 mX4_remove := gm 729 (by decide +kernel) rfl
theorem lX2_116 : MLk RX2 116 mX5_isLast := gm 733 (by decide +kernel) rfl
theorem lX2_120 : MLk RX2 120 mX2_passOn := gm 734 (by decide +kernel) rfl
theorem lX2_184 : MLk RX2 184 mX5_asked := gm 738 (by decide +kernel) rfl
theorem lX2_194 : MLk RX2 194 mX8_lets := gm 742 (by decide +kernel) rfl
theorem lX8_25 : MLk RX8 25 mX8_find := gm 746 (by decide +kernel) rfl
theorem lX8_29 : MLk RX8 29 mX8_forget := gm 750 (by decide +kernel) rfl
theorem lX8_15 : Cond.methodLink RX8 15 arraycopyName ∈ gtbl := gm 754 (by decide +kernel) rfl
theorem lX8_33 : MLk RX8 33 mX8_putDown := gm 755 (by decide +kernel) rfl
theorem lX2_177 : MLk RX2 177 mX4_addOnward := gm 759 (by decide +kernel) rfl
theorem lX4_59 : MLk RX4 59 mX4_add := gm 763 (by decide +kernel) rfl
theorem lX2_124 : MLk RX2 124 mX2_tryLater := gm 764 (by decide +kernel) rfl
theorem lX2_130 : MLk RX2 130 mX2_give := gm 768 (by decide +kernel) rfl
theorem lX2_146 : MLk RX2 146 mX1_knows := gm 772 (by decide +kernel) rfl
theorem lX1_33 : Cond.methodLink RX1 33 Lib.Math.min.name ∈ gtbl := gm 776 (by decide +kernel) rfl
theorem lX2_154 : MLk RX2 154 mX1_put := gm 777 (by decide +kernel) rfl
theorem lX2_133 : MLk RX2 133 mX2_followAlias := gm 781 (by decide +kernel) rfl
theorem lX2_161 : MLk RX2 161 mX5_lead := gm 785 (by decide +kernel) rfl
theorem lX2_136 : MLk RX2 136 mX2_openList := gm 786 (by decide +kernel) rfl
theorem lX2_171 : MLk RX2 171 mX2_unmarked := gm 790 (by decide +kernel) rfl
theorem lX2_101 : MLk RX2 101 mX4_closeGaps := gm 794 (by decide +kernel) rfl
theorem lL_65 : MLk RL 65 mX10_run := gm 798 (by decide +kernel) rfl
theorem lL_69 : MLk RL 69 mX10_set := gm 802 (by decide +kernel) rfl
theorem lL_73 : MLk RL 73 mX10_item := gm 806 (by decide +kernel) rfl
theorem lX10_202 : MLk RX10 202 mX4_find := gm 810 (by decide +kernel) rfl
theorem lX10_206 : MLk RX10 206 mX3_answer := gm 814 (by decide +kernel) rfl
theorem lX3_31 : MLk RX3 31 mJ6_bitCount_0f7a4 := gm 818 (by decide +kernel) rfl
theorem qJ6_265 : Cond.constant RJ6 265 (1431655765) ∈ gtbl := gm 821 (by decide +kernel) rfl
theorem qJ6_266 : Cond.constant RJ6 266 (858993459) ∈ gtbl := gm 822 (by decide +kernel) rfl
theorem qJ6_267 : Cond.constant RJ6 267 (252645135) ∈ gtbl := gm 823 (by decide +kernel) rfl
theorem lL_77 : MLk RL 77 mX10_asks := gm 824 (by decide +kernel) rfl
theorem lX10_210 : MLk RX10 210 mX5_asked := gm 828 (by decide +kernel) rfl
theorem lL_81 : MLk RL 81 mX10_stranger := gm 829 (by decide +kernel) rfl
theorem lL_85 : MLk RL 85 mX10_log := gm 833 (by decide +kernel) rfl
theorem lX10_219 : MLk RX10 219 mX0_answer := gm 837 (by decide +kernel) rfl
theorem lL_89 : MLk RL 89 mX10_draw := gm 841 (by decide +kernel) rfl
theorem lX10_220 : MLk RX10 220 mX10_nextSeed := gm 845 (by decide +kernel) rfl
theorem qX10_259 : Cond.constant RX10 259 (1103515245) ∈ gtbl := gm 848 (by decide +kernel) rfl
theorem lX10_223 : MLk RX10 223 mX10_got := gm 849 (by decide +kernel) rfl
theorem lL_93 : MLk RL 93 mX10_keep := gm 852 (by decide +kernel) rfl
theorem lX10_226 : MLk RX10 226 mX10_isImage := gm 856 (by decide +kernel) rfl
theorem lX10_229 : MLk RX10 229 mX6_copyFrom := gm 859 (by decide +kernel) rfl
theorem lX6_67 : Cond.methodLink RX6 67 arraycopyName ∈ gtbl := gm 863 (by decide +kernel) rfl
theorem lX6_73 : MLk RX6 73 mX4_copyFrom := gm 864 (by decide +kernel) rfl
theorem lX4_25 : MLk RX4 25 mX3_copyFrom := gm 868 (by decide +kernel) rfl
theorem lX6_77 : MLk RX6 77 mX1_copyFrom := gm 872 (by decide +kernel) rfl
theorem lX1_27 : Cond.methodLink RX1 27 arraycopyName ∈ gtbl := gm 876 (by decide +kernel) rfl
theorem lX6_80 : MLk RX6 80 mX0_copyFrom := gm 877 (by decide +kernel) rfl
theorem lX0_31 : Cond.methodLink RX0 31 arraycopyName ∈ gtbl := gm 881 (by decide +kernel) rfl
theorem lX6_83 : MLk RX6 83 mX8_copyFrom := gm 882 (by decide +kernel) rfl
theorem lL_97 : MLk RL 97 mX10_back := gm 886 (by decide +kernel) rfl
theorem lL_101 : MLk RL 101 mX10_sheet := gm 890 (by decide +kernel) rfl
theorem lX10_232 : MLk RX10 232 mX10_isSheet := gm 894 (by decide +kernel) rfl
theorem lX10_235 : MLk RX10 235 mX10_isLane := gm 897 (by decide +kernel) rfl
theorem inX7 : Cond.instantiable RX7 4 ∈ gtbl ∧ Cond.initialized RX7 ∈ gtbl := ⟨gm 900 (by decide +kernel) rfl, gm 77 (by decide +kernel) rfl⟩
theorem lX10_238 : MLk RX10 238 mX7_init := gm 901 (by decide +kernel) rfl
theorem lX7_3 : Cond.methodLink RX7 3 objectInit ∈ gtbl := gm 904 (by decide +kernel) rfl
theorem fX7_9 : FLok RX7 9 7 0 true := ⟨_, _, _, rfl, by decide, rfl, rfl, gm 905 (by decide +kernel) rfl⟩
theorem fX10_260 : FLok RX10 260 7 0 true := ⟨_, _, _, rfl, by decide, rfl, rfl, gm 906 (by decide +kernel) rfl⟩
theorem fX7_15 : FLok RX7 15 7 1 true := ⟨_, _, _, rfl, by decide, rfl, rfl, gm 907 (by decide +kernel) rfl⟩
theorem fX10_241 : FLok RX10 241 7 1 true := ⟨_, _, _, rfl, by decide, rfl, rfl, gm 908 (by decide +kernel) rfl⟩
theorem fX7_18 : FLok RX7 18 7 2 true := ⟨_, _, _, rfl, by decide, rfl, rfl, gm 909 (by decide +kernel) rfl⟩
theorem fX7_22 : FLok RX7 22 7 3 true := ⟨_, _, _, rfl, by decide, rfl, rfl, gm 910 (by decide +kernel) rfl⟩
theorem lL_105 : MLk RL 105 mX10_lay := gm 920 (by decide +kernel) rfl
theorem lX10_244 : MLk RX10 244 mX7_put := gm 924 (by decide +kernel) rfl
theorem lL_109 : MLk RL 109 mX10_post := gm 928 (by decide +kernel) rfl
theorem lX10_247 : MLk RX10 247 mX10_copyFault := gm 932 (by decide +kernel) rfl
theorem lX10_251 : MLk RX10 251 mX7_fillFrom := gm 935 (by decide +kernel) rfl
theorem lX7_26 : Cond.methodLink RX7 26 arraycopyName ∈ gtbl := gm 939 (by decide +kernel) rfl
theorem lX10_255 : MLk RX10 255 mX2_takeAll := gm 940 (by decide +kernel) rfl
theorem lX2_64 : MLk RX2 64 mX7_cell := gm 944 (by decide +kernel) rfl
theorem lX2_70 : MLk RX2 70 mX2_takeLetter := gm 948 (by decide +kernel) rfl
theorem lL_114 : MLk RL 114 mX10_count := gm 949 (by decide +kernel) rfl
theorem clL_10 : Cond.classLink RL 10 RX11 ∈ gtbl := gm 953 (by decide +kernel) rfl
theorem inX11 : Cond.instantiable RX11 22 ∈ gtbl ∧ Cond.initialized RX11 ∈ gtbl := ⟨gm 954 (by decide +kernel) rfl, gm 68 (by decide +kernel) rfl⟩
theorem lL_12 : MLk RL 12 mX11_init := gm 955 (by decide +kernel) rfl
theorem lX11_1 : Cond.methodLink RX11 1 objectInit ∈ gtbl := gm 958 (by decide +kernel) rfl
theorem lX11_47 : MLk RX11 47 mX11_anew := gm 959 (by decide +kernel) rfl
theorem fX11_7 : FLok RX11 7 11 0 true := ⟨_, _, _, rfl, by decide, rfl, rfl, gm 963 (by decide +kernel) rfl⟩
theorem fX11_13 : FLok RX11 13 11 1 true := ⟨_, _, _, rfl, by decide, rfl, rfl, gm 964 (by decide +kernel) rfl⟩
theorem fX11_16 : FLok RX11 16 11 2 true := ⟨_, _, _, rfl, by decide, rfl, rfl, gm 965 (by decide +kernel) rfl⟩
theorem fX11_19 : FLok RX11 19 11 3 true := ⟨_, _, _, rfl, by decide, rfl, rfl, gm 966 (by decide +kernel) rfl⟩
theorem fX11_23 : FLok RX11 23 11 4 true := ⟨_, _, _, rfl, by decide, rfl, rfl, gm 967 (by decide +kernel) rfl⟩
theorem fX11_26 : FLok RX11 26 11 5 true := ⟨_, _, _, rfl, by decide, rfl, rfl, gm 968 (by decide +kernel) rfl⟩
theorem fX11_56 : FLok RX11 56 11 6 false := ⟨_, _, _, rfl, by decide, rfl, rfl, gm 969 (by decide +kernel) rfl⟩
theorem fX11_72 : FLok RX11 72 11 7 false := ⟨_, _, _, rfl, by decide, rfl, rfl, gm 970 (by decide +kernel) rfl⟩
theorem fX11_63 : FLok RX11 63 11 8 false := ⟨_, _, _, rfl, by decide, rfl, rfl, gm 971 (by decide +kernel) rfl⟩
theorem fX11_69 : FLok RX11 69 11 9 false := ⟨_, _, _, rfl, by decide, rfl, rfl, gm 972 (by decide +kernel) rfl⟩
theorem fX11_91 : FLok RX11 91 11 10 false := ⟨_, _, _, rfl, by decide, rfl, rfl, gm 973 (by decide +kernel) rfl⟩
theorem fX11_60 : FLok RX11 60 11 11 false := ⟨_, _, _, rfl, by decide, rfl, rfl, gm 974 (by decide +kernel) rfl⟩
theorem fX11_66 : FLok RX11 66 11 12 false := ⟨_, _, _, rfl, by decide, rfl, rfl, gm 975 (by decide +kernel) rfl⟩
theorem fX11_111 : FLok RX11 111 11 13 false := ⟨_, _, _, rfl, by decide, rfl, rfl, gm 976 (by decide +kernel) rfl⟩
theorem fX11_122 : FLok RX11 122 11 14 false := ⟨_, _, _, rfl, by decide, rfl, rfl, gm 977 (by decide +kernel) rfl⟩
theorem fX11_29 : FLok RX11 29 11 15 true := ⟨_, _, _, rfl, by decide, rfl, rfl, gm 978 (by decide +kernel) rfl⟩
theorem fX11_32 : FLok RX11 32 11 16 true := ⟨_, _, _, rfl, by decide, rfl, rfl, gm 979 (by decide +kernel) rfl⟩
theorem fX11_35 : FLok RX11 35 11 17 true := ⟨_, _, _, rfl, by decide, rfl, rfl, gm 980 (by decide +kernel) rfl⟩
theorem fX11_286 : FLok RX11 286 11 18 false := ⟨_, _, _, rfl, by decide, rfl, rfl, gm 981 (by decide +kernel) rfl⟩
theorem fX11_38 : FLok RX11 38 11 19 true := ⟨_, _, _, rfl, by decide, rfl, rfl, gm 982 (by decide +kernel) rfl⟩
theorem fX11_41 : FLok RX11 41 11 20 true := ⟨_, _, _, rfl, by decide, rfl, rfl, gm 983 (by decide +kernel) rfl⟩
theorem fX11_44 : FLok RX11 44 11 21 true := ⟨_, _, _, rfl, by decide, rfl, rfl, gm 984 (by decide +kernel) rfl⟩
theorem lL_17 : MLk RL 17 mX11_feed := gm 1030 (by decide +kernel) rfl
theorem qX11_50 : Cond.constantLong RX11 50 (127) ∈ gtbl := gm 1034 (by decide +kernel) rfl
theorem lX11_52 : MLk RX11 52 mX11_in := gm 1035 (by decide +kernel) rfl
theorem lL_21 : MLk RL 21 mX11_end := gm 1038 (by decide +kernel) rfl
theorem lL_26 : MLk RL 26 mX11_text := gm 1042 (by decide +kernel) rfl
theorem lX11_101 : MLk RX11 101 mX11_reads := gm 1046 (by decide +kernel) rfl
theorem lX11_75 : MLk RX11 75 mX11_byteAt := gm 1050 (by decide +kernel) rfl
theorem qX11_83 : Cond.constantLong RX11 83 (97) ∈ gtbl := gm 1054 (by decide +kernel) rfl
theorem qX11_85 : Cond.constantLong RX11 85 (122) ∈ gtbl := gm 1055 (by decide +kernel) rfl
theorem qX11_87 : Cond.constantLong RX11 87 (48) ∈ gtbl := gm 1056 (by decide +kernel) rfl
theorem qX11_89 : Cond.constantLong RX11 89 (57) ∈ gtbl := gm 1057 (by decide +kernel) rfl
theorem lX11_94 : MLk RX11 94 mX11_requires := gm 1058 (by decide +kernel) rfl
theorem lX11_140 : MLk RX11 140 mX11_readLine := gm 1062 (by decide +kernel) rfl
theorem lX11_128 : MLk RX11 128 mX11_lineNow := gm 1066 (by decide +kernel) rfl
theorem lX11_79 : MLk RX11 79 mX11_is := gm 1070 (by decide +kernel) rfl
theorem lX11_131 : MLk RX11 131 mX11_readHouse := gm 1074 (by decide +kernel) rfl
theorem lX11_104 : MLk RX11 104 mX11_flag := gm 1078 (by decide +kernel) rfl
theorem lX11_134 : MLk RX11 134 mX11_readDomain := gm 1081 (by decide +kernel) rfl
theorem lX11_114 : MLk RX11 114 mX11_readReceiver := gm 1085 (by decide +kernel) rfl
theorem lX11_98 : MLk RX11 98 mX11_numberNow := gm 1089 (by decide +kernel) rfl
theorem lX11_108 : MLk RX11 108 mX11_readNumber := gm 1093 (by decide +kernel) rfl
theorem lX11_137 : MLk RX11 137 mX11_readAddress := gm 1097 (by decide +kernel) rfl
theorem lX11_118 : MLk RX11 118 mX11_addressNow := gm 1101 (by decide +kernel) rfl
theorem lX11_125 : MLk RX11 125 mX11_readTarget := gm 1105 (by decide +kernel) rfl
theorem lL_30 : MLk RL 30 mX11_fault := gm 1109 (by decide +kernel) rfl
theorem lL_34 : MLk RL 34 mX11_rule := gm 1113 (by decide +kernel) rfl
theorem qX11_159 : Cond.constantLong RX11 159 (17) ∈ gtbl := gm 1117 (by decide +kernel) rfl
theorem lX11_161 : MLk RX11 161 mX11_ofKind := gm 1118 (by decide +kernel) rfl
theorem lX11_156 : MLk RX11 156 mX11_kindOf := gm 1122 (by decide +kernel) rfl
theorem lL_39 : MLk RL 39 mX11_house := gm 1126 (by decide +kernel) rfl
theorem lX11_177 : MLk RX11 177 mX11_isHouse := gm 1130 (by decide +kernel) rfl
theorem lX11_181 : MLk RX11 181 mX11_itemsIn := gm 1134 (by decide +kernel) rfl
theorem lX11_164 : MLk RX11 164 mX11_ofItem := gm 1138 (by decide +kernel) rfl
theorem lX11_167 : MLk RX11 167 mX11_known := gm 1142 (by decide +kernel) rfl
theorem lX11_184 : MLk RX11 184 mX11_passedIn := gm 1146 (by decide +kernel) rfl
theorem lX11_170 : MLk RX11 170 mX11_ofStranger := gm 1150 (by decide +kernel) rfl
theorem lX11_218 : MLk RX11 218 mX11_strangerAt := gm 1154 (by decide +kernel) rfl
theorem lX11_187 : MLk RX11 187 mX11_lastsOf := gm 1158 (by decide +kernel) rfl
theorem lX11_173 : MLk RX11 173 mX11_isLast := gm 1162 (by decide +kernel) rfl
theorem lX11_152 : MLk RX11 152 mX11_preferenceOf := gm 1166 (by decide +kernel) rfl
theorem lX11_145 : MLk RX11 145 mX11_receivers := gm 1170 (by decide +kernel) rfl
theorem lX11_148 : MLk RX11 148 mX11_receiverOf := gm 1174 (by decide +kernel) rfl
theorem lL_44 : MLk RL 44 mX11_receiver := gm 1178 (by decide +kernel) rfl
theorem qX11_190 : Cond.constantLong RX11 190 (2) ∈ gtbl := gm 1182 (by decide +kernel) rfl
theorem lL_48 : MLk RL 48 mX11_address := gm 1183 (by decide +kernel) rfl
theorem lX11_192 : MLk RX11 192 mX11_isAddress := gm 1187 (by decide +kernel) rfl
theorem qX11_143 : Cond.constantLong RX11 143 (31) ∈ gtbl := gm 1190 (by decide +kernel) rfl
theorem qX11_195 : Cond.constantLong RX11 195 (3) ∈ gtbl := gm 1191 (by decide +kernel) rfl
theorem lX11_197 : MLk RX11 197 mX11_targets := gm 1192 (by decide +kernel) rfl
theorem lX11_200 : MLk RX11 200 mX11_ofBox := gm 1196 (by decide +kernel) rfl
theorem lL_52 : MLk RL 52 mX11_leads := gm 1200 (by decide +kernel) rfl
theorem lX11_203 : MLk RX11 203 mX11_target := gm 1204 (by decide +kernel) rfl
theorem lL_56 : MLk RL 56 mX11_reaches := gm 1208 (by decide +kernel) rfl
theorem lL_60 : MLk RL 60 mX11_send := gm 1212 (by decide +kernel) rfl
theorem lX11_214 : MLk RX11 214 mX11_comes := gm 1216 (by decide +kernel) rfl
theorem lX11_206 : MLk RX11 206 mX11_lays := gm 1220 (by decide +kernel) rfl
theorem lX11_210 : MLk RX11 210 mX11_logs := gm 1224 (by decide +kernel) rfl
theorem lL_64 : MLk RL 64 mX11_tick := gm 1228 (by decide +kernel) rfl
theorem qX11_232 : Cond.constantLong RX11 232 (20) ∈ gtbl := gm 1232 (by decide +kernel) rfl
theorem lX11_271 : MLk RX11 271 mX11_ticks := gm 1233 (by decide +kernel) rfl
theorem lX11_268 : MLk RX11 268 mX11_isHandled := gm 1237 (by decide +kernel) rfl
theorem lX11_252 : MLk RX11 252 mX11_bounces := gm 1241 (by decide +kernel) rfl
theorem lX11_234 : MLk RX11 234 mX11_logsItem := gm 1245 (by decide +kernel) rfl
theorem lX11_237 : MLk RX11 237 mX11_leaves := gm 1249 (by decide +kernel) rfl
theorem lX11_262 : MLk RX11 262 mX11_arrives := gm 1253 (by decide +kernel) rfl
theorem lX11_246 : MLk RX11 246 mX11_gives := gm 1257 (by decide +kernel) rfl
theorem lX11_240 : MLk RX11 240 mX11_hasHad := gm 1261 (by decide +kernel) rfl
theorem lX11_249 : MLk RX11 249 mX11_opens := gm 1265 (by decide +kernel) rfl
theorem lX11_243 : MLk RX11 243 mX11_isShut := gm 1269 (by decide +kernel) rfl
theorem lX11_265 : MLk RX11 265 mX11_travels := gm 1273 (by decide +kernel) rfl
theorem lX11_255 : MLk RX11 255 mX11_asked := gm 1277 (by decide +kernel) rfl
theorem lX11_258 : MLk RX11 258 mX11_takes := gm 1281 (by decide +kernel) rfl
theorem lX11_225 : MLk RX11 225 mX11_whichStranger := gm 1285 (by decide +kernel) rfl
theorem lX11_229 : MLk RX11 229 mX11_putsDown := gm 1289 (by decide +kernel) rfl
theorem lX11_221 : MLk RX11 221 mX11_forgets := gm 1293 (by decide +kernel) rfl
theorem lL_68 : MLk RL 68 mX11_run := gm 1297 (by decide +kernel) rfl
theorem qX11_274 : Cond.constantLong RX11 274 (60) ∈ gtbl := gm 1301 (by decide +kernel) rfl
theorem lL_72 : MLk RL 72 mX11_set := gm 1302 (by decide +kernel) rfl
theorem lL_76 : MLk RL 76 mX11_item := gm 1306 (by decide +kernel) rfl
theorem qX11_276 : Cond.constantLong RX11 276 (6) ∈ gtbl := gm 1310 (by decide +kernel) rfl
theorem lX11_278 : MLk RX11 278 mX11_itemOf := gm 1311 (by decide +kernel) rfl
theorem lX11_281 : MLk RX11 281 mX11_marksOf := gm 1315 (by decide +kernel) rfl
theorem lL_80 : MLk RL 80 mX11_asks := gm 1319 (by decide +kernel) rfl
theorem lL_84 : MLk RL 84 mX11_stranger := gm 1323 (by decide +kernel) rfl
theorem qX11_284 : Cond.constantLong RX11 284 (4) ∈ gtbl := gm 1327 (by decide +kernel) rfl
theorem lL_88 : MLk RL 88 mX11_log := gm 1328 (by decide +kernel) rfl
theorem lL_92 : MLk RL 92 mX11_draw := gm 1332 (by decide +kernel) rfl
theorem qX11_290 : Cond.constantLong RX11 290 (10) ∈ gtbl := gm 1336 (by decide +kernel) rfl
theorem lX11_292 : MLk RX11 292 mX11_gets := gm 1337 (by decide +kernel) rfl
theorem qX11_289 : Cond.constant RX11 289 (1103515245) ∈ gtbl := gm 1341 (by decide +kernel) rfl
theorem lX11_295 : MLk RX11 295 mX11_send := gm 1342 (by decide +kernel) rfl
theorem lL_96 : MLk RL 96 mX11_keep := gm 1343 (by decide +kernel) rfl
theorem lL_100 : MLk RL 100 mX11_back := gm 1347 (by decide +kernel) rfl
theorem lL_104 : MLk RL 104 mX11_sheet := gm 1351 (by decide +kernel) rfl
theorem lX11_298 : MLk RX11 298 mX11_isSheet := gm 1355 (by decide +kernel) rfl
theorem lL_108 : MLk RL 108 mX11_lay := gm 1358 (by decide +kernel) rfl
theorem lL_113 : MLk RL 113 mX11_post := gm 1362 (by decide +kernel) rfl
theorem lL_117 : MLk RL 117 mX11_count := gm 1366 (by decide +kernel) rfl
theorem fw0 : ∀ w ∈ u_ws RX0 TX0 4, w ∈ gtbl := fun w h => List.mem_filter.mpr ⟨(by decide +kernel : ∀ w ∈ u_ws RX0 TX0 4, w ∈ lw_tbl) w h, (by decide +kernel : ∀ w ∈ u_ws RX0 TX0 4, goodWord w = true) w h⟩
theorem fw1 : ∀ w ∈ u_ws RX1 TX1 3, w ∈ gtbl := fun w h => List.mem_filter.mpr ⟨(by decide +kernel : ∀ w ∈ u_ws RX1 TX1 3, w ∈ lw_tbl) w h, (by decide +kernel : ∀ w ∈ u_ws RX1 TX1 3, goodWord w = true) w h⟩
theorem fw2 : ∀ w ∈ u_ws RX2 TX2 2, w ∈ gtbl := fun w h => List.mem_filter.mpr ⟨(by decide +kernel : ∀ w ∈ u_ws RX2 TX2 2, w ∈ lw_tbl) w h, (by decide +kernel : ∀ w ∈ u_ws RX2 TX2 2, goodWord w = true) w h⟩
theorem fw3 : ∀ w ∈ u_ws RX3 TX3 8, w ∈ gtbl := fun w h => List.mem_filter.mpr ⟨(by decide +kernel : ∀ w ∈ u_ws RX3 TX3 8, w ∈ lw_tbl) w h, (by decide +kernel : ∀ w ∈ u_ws RX3 TX3 8, goodWord w = true) w h⟩
theorem fw4 : ∀ w ∈ u_ws RX4 TX4 3, w ∈ gtbl := fun w h => List.mem_filter.mpr ⟨(by decide +kernel : ∀ w ∈ u_ws RX4 TX4 3, w ∈ lw_tbl) w h, (by decide +kernel : ∀ w ∈ u_ws RX4 TX4 3, goodWord w = true) w h⟩
theorem fw5 : ∀ w ∈ u_ws RX5 TX5 11, w ∈ gtbl := fun w h => List.mem_filter.mpr ⟨(by decide +kernel : ∀ w ∈ u_ws RX5 TX5 11, w ∈ lw_tbl) w h, (by decide +kernel : ∀ w ∈ u_ws RX5 TX5 11, goodWord w = true) w h⟩
theorem fw6 : ∀ w ∈ u_ws RX6 TX6 8, w ∈ gtbl := fun w h => List.mem_filter.mpr ⟨(by decide +kernel : ∀ w ∈ u_ws RX6 TX6 8, w ∈ lw_tbl) w h, (by decide +kernel : ∀ w ∈ u_ws RX6 TX6 8, goodWord w = true) w h⟩
theorem fw7 : ∀ w ∈ u_ws RX7 TX7 4, w ∈ gtbl := fun w h => List.mem_filter.mpr ⟨(by decide +kernel : ∀ w ∈ u_ws RX7 TX7 4, w ∈ lw_tbl) w h, (by decide +kernel : ∀ w ∈ u_ws RX7 TX7 4, goodWord w = true) w h⟩
theorem fw8 : ∀ w ∈ u_ws RX8 TX8 2, w ∈ gtbl := fun w h => List.mem_filter.mpr ⟨(by decide +kernel : ∀ w ∈ u_ws RX8 TX8 2, w ∈ lw_tbl) w h, (by decide +kernel : ∀ w ∈ u_ws RX8 TX8 2, goodWord w = true) w h⟩
theorem fw9 : ∀ w ∈ u_ws RX9 TX9 11, w ∈ gtbl := fun w h => List.mem_filter.mpr ⟨(by decide +kernel : ∀ w ∈ u_ws RX9 TX9 11, w ∈ lw_tbl) w h, (by decide +kernel : ∀ w ∈ u_ws RX9 TX9 11, goodWord w = true) w h⟩
theorem fw10 : ∀ w ∈ u_ws RX10 TX10 7, w ∈ gtbl := fun w h => List.mem_filter.mpr ⟨(by decide +kernel : ∀ w ∈ u_ws RX10 TX10 7, w ∈ lw_tbl) w h, (by decide +kernel : ∀ w ∈ u_ws RX10 TX10 7, goodWord w = true) w h⟩
theorem fw11 : ∀ w ∈ u_ws RX11 TX11 22, w ∈ gtbl := fun w h => List.mem_filter.mpr ⟨(by decide +kernel : ∀ w ∈ u_ws RX11 TX11 22, w ∈ lw_tbl) w h, (by decide +kernel : ∀ w ∈ u_ws RX11 TX11 22, goodWord w = true) w h⟩
end
section
/-! the judgement T: a frame of one of our methods, over an abstract heap: a list of cells from the base on; references are places in it -/
abbrev GT : Type := va_G × (Nat → Nat) × Nat × (Nat → Nat) × (Nat × (Nat → Int32))
def gB (G : GT) : Nat := G.2.2.1
def gx (G : GT) : Nat → Nat := G.2.2.2.1
def tr (G : GT) : Value → Value
  | .ref k => .ref (gB G + k)
  | .retAddr i => .ref (gx G i)
  | v => v
theorem tr_cat (G : GT) (v : Value) : (tr G v).category = v.category := by cases v <;> rfl
theorem tr_cats (G : GT) (st : List Value) : ((st.map (tr G)).map fun v => v.category).sum = (st.map fun v => v.category).sum := by
  rw [List.map_map]
  congr 1
  apply List.map_congr_left
  intro v _
  exact tr_cat G v
def trE (G : GT) : va_E → va_E
  | .inl (t, n, .inl f) => .inl (G.2.1 t, n, .inl f)
  | .inl (t, n, .inr (.inr (.inr (.inr f)))) => .inl (G.2.1 t, n, .inr (.inr (.inr (.inr (fun j => (f j).map (gB G + ·))))))
  | .inl (t, n, x) => .inl (G.2.1 t, n, x)
  | .inr (ci, fs) => .inr (ci, fs.map (tr G))
def wsG (G : GT) (σ : List va_E) : va_W := σ.zipIdx.map (fun q => (gB G + q.2, trE G q.1))
theorem wsG_get (G : GT) (σ : List va_E) (k : Nat) : (wsG G σ)[k]? = (σ[k]?).map (fun e => (gB G + k, trE G e)) := by
  simp only [wsG, List.getElem?_map, List.getElem?_zipIdx, Option.map_map, Nat.zero_add]
  rfl
theorem wsG_at {G : GT} {σ : List va_E} {k : Nat} {e : va_E} (h : σ[k]? = some e) : (wsG G σ)[k]? = some (gB G + k, trE G e) := by
  rw [wsG_get, h]; rfl
theorem wsG_set {G : GT} {σ : List va_E} {k : Nat} {e0 e : va_E} (h : σ[k]? = some e0) : (wsG G σ).set k (gB G + k, trE G e) = wsG G (σ.set k e) := by
  have hk := (List.getElem?_eq_some_iff.mp h).1
  apply List.ext_getElem?
  intro i
  rw [wsG_get]
  by_cases hi : k = i
  · subst hi
    rw [List.getElem?_set_self (by have := wsG_at (G := G) h; exact (List.getElem?_eq_some_iff.mp this).1), List.getElem?_set_self hk]
    rfl
  · rw [List.getElem?_set_ne hi, List.getElem?_set_ne hi, wsG_get]
theorem wsG_push (G : GT) (σ : List va_E) (e : va_E) : wsG G σ ++ [(gB G + σ.length, trE G e)] = wsG G (σ ++ [e]) := by
  simp [wsG, List.zipIdx_append]
def AG (G : GT) : Nat → Prop := fun q => gB G ≤ q
theorem wsG_D (G : GT) (σ : List va_E) : va_D (AG G) (wsG G σ) := by
  refine ⟨fun i j p q hi hj h => ?_, fun k q hk => ?_⟩
  · rw [wsG_get] at hi hj
    cases h1 : σ[i]? with
    | none => rw [h1] at hi; cases hi
    | some a =>
      cases h2 : σ[j]? with
      | none => rw [h2] at hj; cases hj
      | some b =>
        rw [h1] at hi; rw [h2] at hj
        cases hi; cases hj
        exact Nat.add_left_cancel h
  · rw [wsG_get] at hk
    cases h1 : σ[k]? with
    | none => rw [h1] at hk; cases hk
    | some a =>
      rw [h1] at hk
      cases hk
      exact Nat.le_add_right _ _
def RelH (G : GT) (σ : List va_E) (H : Heap) : Prop := va_P G.1 vwCl (wsG G σ) H ∧ H.size = gB G + σ.length
def tysG (G : GT) : List (ClassId × FieldType) := [(G.2.1 0, .int), (G.2.1 1, .byte), (G.2.1 2, .boolean), (G.2.1 3, .object RX3), (G.2.1 4, .object RX6), (G.2.1 5, .object RX7), (G.2.1 6, .object RX8)]
def slen : List Nat := [5, 6, 3, 5, 4, 4]
def sbyt : List (List Int32) := [[104, 111, 117, 115, 101], [100, 111, 109, 97, 105, 110], [98, 111, 120], [97, 108, 105, 97, 115], [108, 105, 115, 116], [119, 97, 114, 121]]
def EnvS (G : GT) (s : State) : Prop := vk_R RX9 48 "house" (gx G 0) s ∧ vk_R RX9 57 "domain" (gx G 1) s ∧ vk_R RX9 62 "box" (gx G 2) s ∧ vk_R RX9 67 "alias" (gx G 3) s ∧ vk_R RX9 72 "list" (gx G 4) s ∧ vk_R RX9 84 "wary" (gx G 5) s
def EnvH (G : GT) (s : State) (H : Heap) : Prop := vk_S 6 slen sbyt (gx G) (fun i => gx G (10 + i)) (AG G) s H ∧ va_Z "java/lang/String" "COMPACT_STRINGS" "Z" (.int 1) (AG G) s H ∧ (va_Z "jdk/internal/util/Preconditions" "SIOOBE_FORMATTER" "Ljava/util/function/BiFunction;" .null (AG G) s H ∨ va_Z "jdk/internal/util/Preconditions" "SIOOBE_FORMATTER" "Ljava/util/function/BiFunction;" (.ref (gx G 50)) (AG G) s H)
def EnvOK (G : GT) (s : State) : Prop := va_K G.1 vwCl (tysG G) s ∧ (∀ w ∈ ntbl, va_Nw w s) ∧ (va_AO RX3 s ∧ va_AO RX6 s ∧ va_AO RX7 s ∧ va_AO RX8 s) ∧ gB G ≤ s.heap.size ∧ EnvS G s ∧ EnvH G s s.heap ∧ va_X (gx G 100) G.2.2.2.2.1 G.2.2.2.2.2 s s.heap ∧ gx G 100 < gB G
theorem EnvS.warm {G : GT} {s U : State} (hW : s.WarmedH U.vm) (h : EnvS G s) : EnvS G U := ⟨h.1.warm hW, h.2.1.warm hW, h.2.2.1.warm hW, h.2.2.2.1.warm hW, h.2.2.2.2.1.warm hW, h.2.2.2.2.2.warm hW⟩
theorem EnvH.moved {G : GT} {s U : State} {H H1 : Heap} (hvm : s.vm.Alike U.vm) (hq : ∀ a : Nat, a < H.size → ¬ AG G a → H1[a]? = H[a]?) (h : EnvH G s H) : EnvH G U H1 :=
  ⟨(h.1.moved hvm).kept hq, (h.2.1.moved hvm).kept hq, h.2.2.elim (fun z => Or.inl ((z.moved hvm).kept hq)) (fun z => Or.inr ((z.moved hvm).kept hq))⟩
theorem nest_warm {s U : State} (hW : s.WarmedH U.vm) (h : ∀ w ∈ ntbl, va_Nw w s) : ∀ w ∈ ntbl, va_Nw w U := by
  intro w hw
  have h1 := h w hw
  have h2 := (List.mem_filter.mp hw).2
  cases w with
  | methodLinkNest a i x hh => exact va_Nw.warmM hW h1
  | _ => simp [isNest] at h2
theorem EnvOK.moved {G : GT} {s U : State} {locs : List Loc} (hW : s.WarmedH U.vm) (hS : va_S (AG G) s.heap U.heap locs) (h : EnvOK G s) : EnvOK G U := by
  obtain ⟨h1, h2, ⟨h3, h4, h5, h6⟩, h7, h8, h9, h10, h11⟩ := h
  have hb : gx G 100 < s.heap.size := Nat.lt_of_lt_of_le h11 h7
  exact ⟨va_K.moved hW.alike h1, nest_warm hW h2, ⟨h3.moved hW.alike, h4.moved hW.alike, h5.moved hW.alike, h6.moved hW.alike⟩, Nat.le_trans h7 hS.1, h8.warm hW, h9.moved hW.alike hS.2.1, (h10.moved hW.alike).kept (hS.2.1 _ hb (fun z => Nat.not_le.mpr h11 z)), h11⟩
def hasL (G : GT) (ls : Array Slot) (n : Nat) (L : List (Option Value)) : Prop := ls.size = n ∧ lv_wf ls ∧ ∀ (i : Nat) (v : Value), L[i]? = some (some v) → ls[i]? = some (.val (tr G v))
def lvL (G : GT) (L : List (Option Value)) : List (Nat × Value) := L.zipIdx.filterMap (fun q => q.1.map (fun v => (q.2, tr G v)))
theorem lvL_mem {G : GT} {L : List (Option Value)} {i : Nat} {w : Value} : (i, w) ∈ lvL G L ↔ ∃ v, L[i]? = some (some v) ∧ w = tr G v := by
  simp only [lvL, List.mem_filterMap, Option.map_eq_some_iff]
  constructor
  · rintro ⟨⟨o, k⟩, hm, v, hv, he⟩
    have hk := List.mem_zipIdx_iff_getElem?.mp hm
    simp only at hv he hk
    cases he
    exact ⟨v, by rw [hk, hv], rfl⟩
  · rintro ⟨v, hv, rfl⟩
    exact ⟨(some v, i), List.mem_zipIdx_iff_getElem?.mpr hv, v, rfl, rfl⟩
theorem hasL.lv {G : GT} {ls : Array Slot} {n : Nat} {L : List (Option Value)} (h : hasL G ls n L) : lv_has ls n (lvL G L) := ⟨h.1, h.2.1, fun q hq => by
  obtain ⟨i, w⟩ := q
  obtain ⟨v, hv, rfl⟩ := lvL_mem.mp hq
  exact h.2.2 i v hv⟩
def noL2 (L : List (Option Value)) : Bool := L.all (fun o => match o with | some v => v.category == 1 | none => true)
theorem hasL.put {G : GT} {ls : Array Slot} {n i : Nat} {v : Value} {L : List (Option Value)} (h2 : noL2 L = true) (h : lv_has ls n ((i, tr G v) :: (lvL G L).filter (fun q => !(q.1 == i) && !(q.1 + 1 == i && q.2.category == 2)))) : hasL G ls n (L.set i (some v)) := by
  refine ⟨h.1, h.2.1, fun k u hk => ?_⟩
  by_cases hi : i = k
  · subst hi
    by_cases hl : i < L.length
    · rw [List.getElem?_set_self hl] at hk
      cases hk
      exact h.2.2 (i, tr G v) List.mem_cons_self
    · rw [List.set_eq_of_length_le (Nat.le_of_not_lt hl)] at hk
      exact absurd (List.getElem?_eq_some_iff.mp hk).1 hl
  · rw [List.getElem?_set_ne hi] at hk
    have hc : u.category = 1 := by
      have h3 := List.all_eq_true.mp h2 (some u) (List.mem_of_getElem? hk)
      simpa using h3
    refine h.2.2 (k, tr G u) (List.mem_cons_of_mem _ (List.mem_filter.mpr ⟨lvL_mem.mpr ⟨u, hk, rfl⟩, ?_⟩))
    simp only [tr_cat, hc]
    simp [Ne.symm hi]
def RetW (G : GT) (j : MD) (p : Program) (l : Launch) (e : Env) (R : Room) (s : State) (m : MethodId) (args : Array Value) (below : List Frame) (meth : Method) (c : Code) (H : Heap) (locs : List Loc) (cells slots : Nat) (Qs : State → Prop) : Option Value → Prop
  | none => ∀ (pc : Nat) (ls : Array Slot), decode j.2.1 pc = .ok (.return_, 1) → j.2.2.2 = none → W p l e R s m args below meth c H locs cells slots Qs (F0 m pc ls [])
  | some (.int x) => ∀ (pc : Nat) (ls : Array Slot) (ty : FieldType), decode j.2.1 pc = .ok (.ireturn, 1) → j.2.2.2 = some ty → narrow ty (.int x) = .int x → W p l e R s m args below meth c H locs cells slots Qs (F0 m pc ls [.int x])
  | some v => ∀ (pc : Nat) (ls : Array Slot) (nm : String), decode j.2.1 pc = .ok (.areturn, 1) → j.2.2.2 = some (.object nm) → (v = .null ∨ ∃ a, v = .ref a) → W p l e R s m args below meth c H locs cells slots Qs (F0 m pc ls [tr G v])
def Cx (G : GT) (d mc ms : Nat) (j : MD) (L : List (Option Value)) (σ : List va_E) (Q : Option Value → List va_E → Prop) (p : Program) (l : Launch) (e : Env) (R : Room) (s : State) (m : MethodId) (args : Array Value) (below : List Frame) (meth : Method) (c : Code) (H : Heap) (locs : List Loc) (cells slots : Nat) (Qs : State → Prop) (ls : Array Slot) : Prop :=
  (p.tables.exec = Jvm.exec ∧ c.code = j.2.1 ∧ c.maxLocals = j.2.2.1 ∧ s.vm.findClass j.1.cls = some m.cls ∧ (∀ w ∈ gtbl, w.before args s = true) ∧ EnvOK G s ∧ meth.name = j.1.name ∧ d ≤ R.frames ∧ 35 * d ≤ R.locals) ∧
  (cells + mc ≤ R.cells ∧ slots + ms ≤ R.slots) ∧ RelH G σ H ∧ va_S (AG G) s.heap H locs ∧ hasL G ls j.2.2.1 L ∧
  (∀ (r : Option Value) (σ' : List va_E) (H' : Heap) (locs' : List Loc) (cells' slots' : Nat), Q r σ' → RelH G σ' H' → va_S (AG G) s.heap H' locs' → cells' ≤ R.cells → slots' ≤ R.slots → RetW G j p l e R s m args below meth c H' locs' cells' slots' Qs r)
def T (G : GT) (d mc ms : Nat) (j : MD) (pc : Nat) (L : List (Option Value)) (st : List Value) (σ : List va_E) (Q : Option Value → List va_E → Prop) : Prop :=
  ∀ (p : Program) (l : Launch) (e : Env) (R : Room) (s : State) (m : MethodId) (args : Array Value) (below : List Frame) (meth : Method) (c : Code) (H : Heap) (locs : List Loc) (cells slots : Nat) (Qs : State → Prop) (ls : Array Slot),
    Cx G d mc ms j L σ Q p l e R s m args below meth c H locs cells slots Qs ls → W p l e R s m args below meth c H locs cells slots Qs (F0 m pc ls (st.map (tr G)))
section TK
variable {G : GT} {d mc ms : Nat} {j : MD} {pc : Nat} {L : List (Option Value)} {st : List Value} {σ : List va_E} {Q : Option Value → List va_E → Prop}
theorem T.weaken {Q' : Option Value → List va_E → Prop} (h : T G d mc ms j pc L st σ Q) (hq : ∀ r σ', Q r σ' → Q' r σ') : T G d mc ms j pc L st σ Q' :=
  fun p l e R s m args below meth c H locs cells slots Qs ls C => h p l e R s m args below meth c H locs cells slots Qs ls ⟨C.1, C.2.1, C.2.2.1, C.2.2.2.1, C.2.2.2.2.1, fun r σ' H' locs' cells' slots' q => C.2.2.2.2.2 r σ' H' locs' cells' slots' (hq r σ' q)⟩
theorem T.room {d' mc' ms' : Nat} (h : T G d' mc' ms' j pc L st σ Q) (h1 : d' ≤ d) (h2 : mc' ≤ mc) (h3 : ms' ≤ ms) : T G d mc ms j pc L st σ Q :=
  fun p l e R s m args below meth c H locs cells slots Qs ls C => h p l e R s m args below meth c H locs cells slots Qs ls ⟨⟨C.1.1, C.1.2.1, C.1.2.2.1, C.1.2.2.2.1, C.1.2.2.2.2.1, C.1.2.2.2.2.2.1, C.1.2.2.2.2.2.2.1, Nat.le_trans h1 C.1.2.2.2.2.2.2.2.1, Nat.le_trans (Nat.mul_le_mul_left 35 h1) C.1.2.2.2.2.2.2.2.2⟩, ⟨Nat.le_trans (Nat.add_le_add_left h2 _) C.2.1.1, Nat.le_trans (Nat.add_le_add_left h3 _) C.2.1.2⟩, C.2.2⟩
theorem T.locals {L' : List (Option Value)} (h : T G d mc ms j pc L' st σ Q) (hl : ∀ (i : Nat) (v : Value), L'[i]? = some (some v) → L[i]? = some (some v)) : T G d mc ms j pc L st σ Q :=
  fun p l e R s m args below meth c H locs cells slots Qs ls C => h p l e R s m args below meth c H locs cells slots Qs ls ⟨C.1, C.2.1, C.2.2.1, C.2.2.2.1, ⟨C.2.2.2.2.1.1, C.2.2.2.2.1.2.1, fun i v q => C.2.2.2.2.1.2.2 i v (hl i v q)⟩, C.2.2.2.2.2⟩
theorem T_iconst {n : Int} {v : Int32} (hd : decode j.2.1 pc = .ok (.iconst n, 1)) (hv : Int32.ofInt n = v) (k : T G d mc ms j (pc + 1) L (.int v :: st) σ Q) : T G d mc ms j pc L st σ Q := by
  intro p l e R s m args below meth c H locs cells slots Qs ls C
  exact lv_iconst C.1.1 C.1.2.1 hd hv (k _ _ _ _ _ _ _ _ _ _ _ _ _ _ _ _ C)
theorem T_bipush {n : Int} {v : Int32} (hd : decode j.2.1 pc = .ok (.bipush n, 2)) (hv : (Int8.ofInt n).toInt32 = v) (k : T G d mc ms j (pc + 2) L (.int v :: st) σ Q) : T G d mc ms j pc L st σ Q := by
  intro p l e R s m args below meth c H locs cells slots Qs ls C
  exact lv_bipush C.1.1 C.1.2.1 hd hv (k _ _ _ _ _ _ _ _ _ _ _ _ _ _ _ _ C)
theorem T_sipush {n : Int} {v : Int32} (hd : decode j.2.1 pc = .ok (.sipush n, 3)) (hv : (Int16.ofInt n).toInt32 = v) (k : T G d mc ms j (pc + 3) L (.int v :: st) σ Q) : T G d mc ms j pc L st σ Q := by
  intro p l e R s m args below meth c H locs cells slots Qs ls C
  exact lv_sipush C.1.1 C.1.2.1 hd hv (k _ _ _ _ _ _ _ _ _ _ _ _ _ _ _ _ C)
theorem T_lconst {n : Fin 2} {v : Int64} (hd : decode j.2.1 pc = .ok (.lconst n, 1)) (hv : Int64.ofNat (n : Nat) = v) (k : T G d mc ms j (pc + 1) L (.long v :: st) σ Q) : T G d mc ms j pc L st σ Q := by
  intro p l e R s m args below meth c H locs cells slots Qs ls C
  exact lv_lconst C.1.1 C.1.2.1 hd hv (k _ _ _ _ _ _ _ _ _ _ _ _ _ _ _ _ C)
theorem T_iadd {x y : Int32} (hd : decode j.2.1 pc = .ok (.iadd, 1)) (k : T G d mc ms j (pc + 1) L (.int (x + y) :: st) σ Q) : T G d mc ms j pc L (.int y :: .int x :: st) σ Q := by
  intro p l e R s m args below meth c H locs cells slots Qs ls C
  exact lv_iadd C.1.1 C.1.2.1 hd (k _ _ _ _ _ _ _ _ _ _ _ _ _ _ _ _ C)
theorem T_isub {x y : Int32} (hd : decode j.2.1 pc = .ok (.isub, 1)) (k : T G d mc ms j (pc + 1) L (.int (x - y) :: st) σ Q) : T G d mc ms j pc L (.int y :: .int x :: st) σ Q := by
  intro p l e R s m args below meth c H locs cells slots Qs ls C
  exact lv_isub C.1.1 C.1.2.1 hd (k _ _ _ _ _ _ _ _ _ _ _ _ _ _ _ _ C)
theorem T_imul {x y : Int32} (hd : decode j.2.1 pc = .ok (.imul, 1)) (k : T G d mc ms j (pc + 1) L (.int (x * y) :: st) σ Q) : T G d mc ms j pc L (.int y :: .int x :: st) σ Q := by
  intro p l e R s m args below meth c H locs cells slots Qs ls C
  exact lv_imul C.1.1 C.1.2.1 hd (k _ _ _ _ _ _ _ _ _ _ _ _ _ _ _ _ C)
theorem T_iand {x y : Int32} (hd : decode j.2.1 pc = .ok (.iand, 1)) (k : T G d mc ms j (pc + 1) L (.int (x &&& y) :: st) σ Q) : T G d mc ms j pc L (.int y :: .int x :: st) σ Q := by
  intro p l e R s m args below meth c H locs cells slots Qs ls C
  exact lv_iand C.1.1 C.1.2.1 hd (k _ _ _ _ _ _ _ _ _ _ _ _ _ _ _ _ C)
theorem T_ior {x y : Int32} (hd : decode j.2.1 pc = .ok (.ior, 1)) (k : T G d mc ms j (pc + 1) L (.int (x ||| y) :: st) σ Q) : T G d mc ms j pc L (.int y :: .int x :: st) σ Q := by
  intro p l e R s m args below meth c H locs cells slots Qs ls C
  exact lv_ior C.1.1 C.1.2.1 hd (k _ _ _ _ _ _ _ _ _ _ _ _ _ _ _ _ C)
theorem T_ishl {x y : Int32} (hd : decode j.2.1 pc = .ok (.ishl, 1)) (k : T G d mc ms j (pc + 1) L (.int (x <<< (y &&& 31)) :: st) σ Q) : T G d mc ms j pc L (.int y :: .int x :: st) σ Q := by
  intro p l e R s m args below meth c H locs cells slots Qs ls C
  exact lv_ishl C.1.1 C.1.2.1 hd (k _ _ _ _ _ _ _ _ _ _ _ _ _ _ _ _ C)
theorem T_ishr {x y : Int32} (hd : decode j.2.1 pc = .ok (.ishr, 1)) (k : T G d mc ms j (pc + 1) L (.int (x >>> (y &&& 31)) :: st) σ Q) : T G d mc ms j pc L (.int y :: .int x :: st) σ Q := by
  intro p l e R s m args below meth c H locs cells slots Qs ls C
  exact lv_ishr C.1.1 C.1.2.1 hd (k _ _ _ _ _ _ _ _ _ _ _ _ _ _ _ _ C)
theorem T_idiv {x y : Int32} (hd : decode j.2.1 pc = .ok (.idiv, 1)) (hne : ¬ y = 0) (k : T G d mc ms j (pc + 1) L (.int (x / y) :: st) σ Q) : T G d mc ms j pc L (.int y :: .int x :: st) σ Q := by
  intro p l e R s m args below meth c H locs cells slots Qs ls C
  exact lv_idiv C.1.1 C.1.2.1 hd hne (k _ _ _ _ _ _ _ _ _ _ _ _ _ _ _ _ C)
theorem T_irem {x y : Int32} (hd : decode j.2.1 pc = .ok (.irem, 1)) (hne : ¬ y = 0) (k : T G d mc ms j (pc + 1) L (.int (x - x / y * y) :: st) σ Q) : T G d mc ms j pc L (.int y :: .int x :: st) σ Q := by
  intro p l e R s m args below meth c H locs cells slots Qs ls C
  exact lv_irem C.1.1 C.1.2.1 hd hne (k _ _ _ _ _ _ _ _ _ _ _ _ _ _ _ _ C)
theorem T_iushr {x y v : Int32} (hd : decode j.2.1 pc = .ok (.iushr, 1)) (hv : (x.toUInt32 >>> (y.toUInt32 &&& Int32.toUInt32 31)).toInt32 = v) (k : T G d mc ms j (pc + 1) L (.int v :: st) σ Q) : T G d mc ms j pc L (.int y :: .int x :: st) σ Q := by
  intro p l e R s m args below meth c H locs cells slots Qs ls C
  exact lv_iushr C.1.1 C.1.2.1 hd hv (k _ _ _ _ _ _ _ _ _ _ _ _ _ _ _ _ C)
theorem T_i2l {x : Int32} (hd : decode j.2.1 pc = .ok (.i2l, 1)) (k : T G d mc ms j (pc + 1) L (.long x.toInt64 :: st) σ Q) : T G d mc ms j pc L (.int x :: st) σ Q := by
  intro p l e R s m args below meth c H locs cells slots Qs ls C
  exact lv_i2l C.1.1 C.1.2.1 hd rfl (k _ _ _ _ _ _ _ _ _ _ _ _ _ _ _ _ C)
theorem T_i2b {x : Int32} (hd : decode j.2.1 pc = .ok (.i2b, 1)) (k : T G d mc ms j (pc + 1) L (.int x.toInt8.toInt32 :: st) σ Q) : T G d mc ms j pc L (.int x :: st) σ Q := by
  intro p l e R s m args below meth c H locs cells slots Qs ls C
  exact lv_i2b C.1.1 C.1.2.1 hd rfl (k _ _ _ _ _ _ _ _ _ _ _ _ _ _ _ _ C)
theorem T_ladd {x y : Int64} (hd : decode j.2.1 pc = .ok (.ladd, 1)) (k : T G d mc ms j (pc + 1) L (.long (x + y) :: st) σ Q) : T G d mc ms j pc L (.long y :: .long x :: st) σ Q := by
  intro p l e R s m args below meth c H locs cells slots Qs ls C
  exact lv_ladd C.1.1 C.1.2.1 hd (k _ _ _ _ _ _ _ _ _ _ _ _ _ _ _ _ C)
theorem T_lcmp {x y : Int64} (hd : decode j.2.1 pc = .ok (.lcmp, 1)) (k : T G d mc ms j (pc + 1) L (.int (lg_cmp x y) :: st) σ Q) : T G d mc ms j pc L (.long y :: .long x :: st) σ Q := by
  intro p l e R s m args below meth c H locs cells slots Qs ls C
  exact W.lcmp C.1.1 C.1.2.1 hd (k _ _ _ _ _ _ _ _ _ _ _ _ _ _ _ _ C)
theorem T_dup {v : Value} (hd : decode j.2.1 pc = .ok (.dup, 1)) (hv : v.category = 1) (k : T G d mc ms j (pc + 1) L (v :: v :: st) σ Q) : T G d mc ms j pc L (v :: st) σ Q := by
  intro p l e R s m args below meth c H locs cells slots Qs ls C
  exact lv_dup C.1.1 C.1.2.1 hd ((tr_cat G v).trans hv) (k _ _ _ _ _ _ _ _ _ _ _ _ _ _ _ _ C)
theorem T_dup2 {v w : Value} (hd : decode j.2.1 pc = .ok (.dup2, 1)) (hv : v.category = 1) (hw : w.category = 1) (k : T G d mc ms j (pc + 1) L (v :: w :: v :: w :: st) σ Q) : T G d mc ms j pc L (v :: w :: st) σ Q := by
  intro p l e R s m args below meth c H locs cells slots Qs ls C
  exact lv_dup2_11 C.1.1 C.1.2.1 hd ((tr_cat G v).trans hv) ((tr_cat G w).trans hw) (k _ _ _ _ _ _ _ _ _ _ _ _ _ _ _ _ C)
theorem T_pop {v : Value} (hd : decode j.2.1 pc = .ok (.pop, 1)) (hv : v.category = 1) (k : T G d mc ms j (pc + 1) L st σ Q) : T G d mc ms j pc L (v :: st) σ Q := by
  intro p l e R s m args below meth c H locs cells slots Qs ls C
  exact lv_pop C.1.1 C.1.2.1 hd ((tr_cat G v).trans hv) (k _ _ _ _ _ _ _ _ _ _ _ _ _ _ _ _ C)
theorem T_ldc {idx : Nat} {v : Int32} (hd : decode j.2.1 pc = .ok (.ldc idx, 2)) (hw : Cond.constant j.1.cls idx v ∈ gtbl) (k : T G d mc ms j (pc + 2) L (.int v :: st) σ Q) : T G d mc ms j pc L st σ Q := by
  intro p l e R s m args below meth c H locs cells slots Qs ls C
  exact lv_ldc C.1.1 C.1.2.1 C.1.2.2.2.1 (C.1.2.2.2.2.1 _ hw) hd (k _ _ _ _ _ _ _ _ _ _ _ _ _ _ _ _ C)
theorem T_ldcw {idx : Nat} {v : Int32} (hd : decode j.2.1 pc = .ok (.ldc_w idx, 3)) (hw : Cond.constant j.1.cls idx v ∈ gtbl) (k : T G d mc ms j (pc + 3) L (.int v :: st) σ Q) : T G d mc ms j pc L st σ Q := by
  intro p l e R s m args below meth c H locs cells slots Qs ls C
  exact lv_ldcw C.1.1 C.1.2.1 C.1.2.2.2.1 (C.1.2.2.2.2.1 _ hw) hd (k _ _ _ _ _ _ _ _ _ _ _ _ _ _ _ _ C)
theorem T_ldc2 {idx : Nat} {v : Int64} (hd : decode j.2.1 pc = .ok (.ldc2_w idx, 3)) (hw : Cond.constantLong j.1.cls idx v ∈ gtbl) (k : T G d mc ms j (pc + 3) L (.long v :: st) σ Q) : T G d mc ms j pc L st σ Q := by
  intro p l e R s m args below meth c H locs cells slots Qs ls C
  exact lv_ldc2 C.1.1 C.1.2.1 C.1.2.2.2.1 (C.1.2.2.2.2.1 _ hw) hd (k _ _ _ _ _ _ _ _ _ _ _ _ _ _ _ _ C)
theorem T_iload_n {i : Fin 4} {x : Int32} (hd : decode j.2.1 pc = .ok (.iload_n i, 1)) (hl : L[(i : Nat)]? = some (some (.int x))) (k : T G d mc ms j (pc + 1) L (.int x :: st) σ Q) : T G d mc ms j pc L st σ Q := by
  intro p l e R s m args below meth c H locs cells slots Qs ls C
  exact lv_iload_n C.1.1 C.1.2.1 hd rfl (C.2.2.2.2.1.2.2 _ _ hl) (k _ _ _ _ _ _ _ _ _ _ _ _ _ _ _ _ C)
theorem T_iload {i : Nat} {x : Int32} (hd : decode j.2.1 pc = .ok (.iload i, 2)) (hl : L[i]? = some (some (.int x))) (k : T G d mc ms j (pc + 2) L (.int x :: st) σ Q) : T G d mc ms j pc L st σ Q := by
  intro p l e R s m args below meth c H locs cells slots Qs ls C
  exact lv_iload C.1.1 C.1.2.1 hd (C.2.2.2.2.1.2.2 _ _ hl) (k _ _ _ _ _ _ _ _ _ _ _ _ _ _ _ _ C)
theorem T_lload_n {i : Fin 4} {x : Int64} (hd : decode j.2.1 pc = .ok (.lload_n i, 1)) (hl : L[(i : Nat)]? = some (some (.long x))) (k : T G d mc ms j (pc + 1) L (.long x :: st) σ Q) : T G d mc ms j pc L st σ Q := by
  intro p l e R s m args below meth c H locs cells slots Qs ls C
  exact lv_lload_n C.1.1 C.1.2.1 hd rfl (C.2.2.2.2.1.2.2 _ _ hl) (k _ _ _ _ _ _ _ _ _ _ _ _ _ _ _ _ C)
theorem T_lload {i : Nat} {x : Int64} (hd : decode j.2.1 pc = .ok (.lload i, 2)) (hl : L[i]? = some (some (.long x))) (k : T G d mc ms j (pc + 2) L (.long x :: st) σ Q) : T G d mc ms j pc L st σ Q := by
  intro p l e R s m args below meth c H locs cells slots Qs ls C
  exact lv_lload C.1.1 C.1.2.1 hd (C.2.2.2.2.1.2.2 _ _ hl) (k _ _ _ _ _ _ _ _ _ _ _ _ _ _ _ _ C)
def isRV : Value → Bool
  | .ref _ => true
  | .retAddr _ => true
  | .null => true
  | _ => false
theorem T_aload_n {i : Fin 4} {v : Value} (hd : decode j.2.1 pc = .ok (.aload_n i, 1)) (hl : L[(i : Nat)]? = some (some v)) (hv : isRV v = true) (k : T G d mc ms j (pc + 1) L (v :: st) σ Q) : T G d mc ms j pc L st σ Q := by
  intro p l e R s m args below meth c H locs cells slots Qs ls C
  have hl' := C.2.2.2.2.1.2.2 _ _ hl
  have k' := k _ _ _ _ _ _ _ _ _ _ _ _ _ _ _ _ C
  cases v with
  | ref a => exact lv_aload_n C.1.1 C.1.2.1 hd rfl hl' k'
  | retAddr a => exact lv_aload_n C.1.1 C.1.2.1 hd rfl hl' k'
  | null => exact lv_aload_nN C.1.1 C.1.2.1 hd rfl hl' k'
  | _ => simp [isRV] at hv
theorem T_aload {i : Nat} {v : Value} (hd : decode j.2.1 pc = .ok (.aload i, 2)) (hl : L[i]? = some (some v)) (hv : isRV v = true) (k : T G d mc ms j (pc + 2) L (v :: st) σ Q) : T G d mc ms j pc L st σ Q := by
  intro p l e R s m args below meth c H locs cells slots Qs ls C
  have hl' := C.2.2.2.2.1.2.2 _ _ hl
  have k' := k _ _ _ _ _ _ _ _ _ _ _ _ _ _ _ _ C
  cases v with
  | ref a => exact lv_aload C.1.1 C.1.2.1 hd hl' k'
  | retAddr a => exact lv_aload C.1.1 C.1.2.1 hd hl' k'
  | null => exact lv_aloadN C.1.1 C.1.2.1 hd hl' k'
  | _ => simp [isRV] at hv
theorem T_istore_n {i : Fin 4} {x : Int32} (hd : decode j.2.1 pc = .ok (.istore_n i, 1)) (hi : (i : Nat) < j.2.2.1) (h2 : noL2 L = true) (k : T G d mc ms j (pc + 1) (L.set (i : Nat) (some (.int x))) st σ Q) : T G d mc ms j pc L (.int x :: st) σ Q := by
  intro p l e R s m args below meth c H locs cells slots Qs ls C
  refine lv_istore_n C.1.1 C.1.2.1 hd rfl C.2.2.2.2.1.lv hi rfl (fun ls' hl' => ?_)
  exact k _ _ _ _ _ _ _ _ _ _ _ _ _ _ _ _ ⟨C.1, C.2.1, C.2.2.1, C.2.2.2.1, hasL.put h2 hl', C.2.2.2.2.2⟩
theorem T_istore {i : Nat} {x : Int32} (hd : decode j.2.1 pc = .ok (.istore i, 2)) (hi : i < j.2.2.1) (h2 : noL2 L = true) (k : T G d mc ms j (pc + 2) (L.set i (some (.int x))) st σ Q) : T G d mc ms j pc L (.int x :: st) σ Q := by
  intro p l e R s m args below meth c H locs cells slots Qs ls C
  refine lv_istore C.1.1 C.1.2.1 hd C.2.2.2.2.1.lv hi rfl (fun ls' hl' => ?_)
  exact k _ _ _ _ _ _ _ _ _ _ _ _ _ _ _ _ ⟨C.1, C.2.1, C.2.2.1, C.2.2.2.1, hasL.put h2 hl', C.2.2.2.2.2⟩
theorem T_astore_n {i : Fin 4} {x : Nat} (hd : decode j.2.1 pc = .ok (.astore_n i, 1)) (hi : (i : Nat) < j.2.2.1) (h2 : noL2 L = true) (k : T G d mc ms j (pc + 1) (L.set (i : Nat) (some (.ref x))) st σ Q) : T G d mc ms j pc L (.ref x :: st) σ Q := by
  intro p l e R s m args below meth c H locs cells slots Qs ls C
  refine lv_astore_n C.1.1 C.1.2.1 hd rfl C.2.2.2.2.1.lv hi rfl (fun ls' hl' => ?_)
  exact k _ _ _ _ _ _ _ _ _ _ _ _ _ _ _ _ ⟨C.1, C.2.1, C.2.2.1, C.2.2.2.1, hasL.put h2 hl', C.2.2.2.2.2⟩
theorem T_astore {i : Nat} {x : Nat} (hd : decode j.2.1 pc = .ok (.astore i, 2)) (hi : i < j.2.2.1) (h2 : noL2 L = true) (k : T G d mc ms j (pc + 2) (L.set i (some (.ref x))) st σ Q) : T G d mc ms j pc L (.ref x :: st) σ Q := by
  intro p l e R s m args below meth c H locs cells slots Qs ls C
  refine lv_astore C.1.1 C.1.2.1 hd C.2.2.2.2.1.lv hi rfl (fun ls' hl' => ?_)
  exact k _ _ _ _ _ _ _ _ _ _ _ _ _ _ _ _ ⟨C.1, C.2.1, C.2.2.1, C.2.2.2.1, hasL.put h2 hl', C.2.2.2.2.2⟩
theorem T_astore_nN {i : Fin 4} (hd : decode j.2.1 pc = .ok (.astore_n i, 1)) (hi : (i : Nat) < j.2.2.1) (h2 : noL2 L = true) (k : T G d mc ms j (pc + 1) (L.set (i : Nat) (some (.null))) st σ Q) : T G d mc ms j pc L (.null :: st) σ Q := by
  intro p l e R s m args below meth c H locs cells slots Qs ls C
  refine lv_astore_nN C.1.1 C.1.2.1 hd rfl C.2.2.2.2.1.lv hi rfl (fun ls' hl' => ?_)
  exact k _ _ _ _ _ _ _ _ _ _ _ _ _ _ _ _ ⟨C.1, C.2.1, C.2.2.1, C.2.2.2.1, hasL.put h2 hl', C.2.2.2.2.2⟩
theorem T_astoreN {i : Nat} (hd : decode j.2.1 pc = .ok (.astore i, 2)) (hi : i < j.2.2.1) (h2 : noL2 L = true) (k : T G d mc ms j (pc + 2) (L.set i (some (.null))) st σ Q) : T G d mc ms j pc L (.null :: st) σ Q := by
  intro p l e R s m args below meth c H locs cells slots Qs ls C
  refine lv_astoreN C.1.1 C.1.2.1 hd C.2.2.2.2.1.lv hi rfl (fun ls' hl' => ?_)
  exact k _ _ _ _ _ _ _ _ _ _ _ _ _ _ _ _ ⟨C.1, C.2.1, C.2.2.1, C.2.2.2.1, hasL.put h2 hl', C.2.2.2.2.2⟩
theorem T_iinc {i : Nat} {n : Int} {x v : Int32} (hd : decode j.2.1 pc = .ok (.iinc i n, 3)) (hl : L[i]? = some (some (.int x))) (hv : x + Int32.ofInt n = v) (hi : i < j.2.2.1) (h2 : noL2 L = true) (k : T G d mc ms j (pc + 3) (L.set i (some (.int v))) st σ Q) : T G d mc ms j pc L st σ Q := by
  intro p l e R s m args below meth c H locs cells slots Qs ls C
  obtain ⟨q, hq⟩ := List.getElem?_of_mem (lvL_mem (G := G).mpr ⟨_, hl, rfl⟩)
  refine lv_iinc C.1.1 C.1.2.1 hd C.2.2.2.2.1.lv hq hv hi rfl (fun ls' hl' => ?_)
  exact k _ _ _ _ _ _ _ _ _ _ _ _ _ _ _ _ ⟨C.1, C.2.1, C.2.2.1, C.2.2.2.1, hasL.put (v := .int v) h2 hl', C.2.2.2.2.2⟩
theorem T_if_eq {x : Int32} {off : Int} {tgt : Nat} (hd : decode j.2.1 pc = .ok (.ifCond .eq off, 3)) (ht : (pc : Int) + off = (tgt : Int)) (kt : (x = 0) → T G d mc ms j tgt L st σ Q) (kf : (¬ x = 0) → T G d mc ms j (pc + 3) L st σ Q) : T G d mc ms j pc L (.int x :: st) σ Q := by
  intro p l e R s m args below meth c H locs cells slots Qs ls C
  exact lv_if_eq C.1.1 C.1.2.1 hd ht (fun q => kt q _ _ _ _ _ _ _ _ _ _ _ _ _ _ _ _ C) (fun q => kf q _ _ _ _ _ _ _ _ _ _ _ _ _ _ _ _ C)
theorem T_icmp_eq {x y : Int32} {off : Int} {tgt : Nat} (hd : decode j.2.1 pc = .ok (.if_icmp .eq off, 3)) (ht : (pc : Int) + off = (tgt : Int)) (kt : (x = y) → T G d mc ms j tgt L st σ Q) (kf : (¬ x = y) → T G d mc ms j (pc + 3) L st σ Q) : T G d mc ms j pc L (.int y :: .int x :: st) σ Q := by
  intro p l e R s m args below meth c H locs cells slots Qs ls C
  exact lv_icmp_eq C.1.1 C.1.2.1 hd ht (fun q => kt q _ _ _ _ _ _ _ _ _ _ _ _ _ _ _ _ C) (fun q => kf q _ _ _ _ _ _ _ _ _ _ _ _ _ _ _ _ C)
theorem T_if_ne {x : Int32} {off : Int} {tgt : Nat} (hd : decode j.2.1 pc = .ok (.ifCond .ne off, 3)) (ht : (pc : Int) + off = (tgt : Int)) (kt : (x ≠ 0) → T G d mc ms j tgt L st σ Q) (kf : (x = 0) → T G d mc ms j (pc + 3) L st σ Q) : T G d mc ms j pc L (.int x :: st) σ Q := by
  intro p l e R s m args below meth c H locs cells slots Qs ls C
  exact lv_if_ne C.1.1 C.1.2.1 hd ht (fun q => kt q _ _ _ _ _ _ _ _ _ _ _ _ _ _ _ _ C) (fun q => kf q _ _ _ _ _ _ _ _ _ _ _ _ _ _ _ _ C)
theorem T_icmp_ne {x y : Int32} {off : Int} {tgt : Nat} (hd : decode j.2.1 pc = .ok (.if_icmp .ne off, 3)) (ht : (pc : Int) + off = (tgt : Int)) (kt : (x ≠ y) → T G d mc ms j tgt L st σ Q) (kf : (x = y) → T G d mc ms j (pc + 3) L st σ Q) : T G d mc ms j pc L (.int y :: .int x :: st) σ Q := by
  intro p l e R s m args below meth c H locs cells slots Qs ls C
  exact lv_icmp_ne C.1.1 C.1.2.1 hd ht (fun q => kt q _ _ _ _ _ _ _ _ _ _ _ _ _ _ _ _ C) (fun q => kf q _ _ _ _ _ _ _ _ _ _ _ _ _ _ _ _ C)
theorem T_if_lt {x : Int32} {off : Int} {tgt : Nat} (hd : decode j.2.1 pc = .ok (.ifCond .lt off, 3)) (ht : (pc : Int) + off = (tgt : Int)) (kt : (x < 0) → T G d mc ms j tgt L st σ Q) (kf : (¬ x < 0) → T G d mc ms j (pc + 3) L st σ Q) : T G d mc ms j pc L (.int x :: st) σ Q := by
  intro p l e R s m args below meth c H locs cells slots Qs ls C
  exact lv_if_lt C.1.1 C.1.2.1 hd ht (fun q => kt q _ _ _ _ _ _ _ _ _ _ _ _ _ _ _ _ C) (fun q => kf q _ _ _ _ _ _ _ _ _ _ _ _ _ _ _ _ C)
theorem T_icmp_lt {x y : Int32} {off : Int} {tgt : Nat} (hd : decode j.2.1 pc = .ok (.if_icmp .lt off, 3)) (ht : (pc : Int) + off = (tgt : Int)) (kt : (x < y) → T G d mc ms j tgt L st σ Q) (kf : (¬ x < y) → T G d mc ms j (pc + 3) L st σ Q) : T G d mc ms j pc L (.int y :: .int x :: st) σ Q := by
  intro p l e R s m args below meth c H locs cells slots Qs ls C
  exact lv_icmp_lt C.1.1 C.1.2.1 hd ht (fun q => kt q _ _ _ _ _ _ _ _ _ _ _ _ _ _ _ _ C) (fun q => kf q _ _ _ _ _ _ _ _ _ _ _ _ _ _ _ _ C)
theorem T_if_ge {x : Int32} {off : Int} {tgt : Nat} (hd : decode j.2.1 pc = .ok (.ifCond .ge off, 3)) (ht : (pc : Int) + off = (tgt : Int)) (kt : (x ≥ 0) → T G d mc ms j tgt L st σ Q) (kf : (¬ x ≥ 0) → T G d mc ms j (pc + 3) L st σ Q) : T G d mc ms j pc L (.int x :: st) σ Q := by
  intro p l e R s m args below meth c H locs cells slots Qs ls C
  exact lv_if_ge C.1.1 C.1.2.1 hd ht (fun q => kt q _ _ _ _ _ _ _ _ _ _ _ _ _ _ _ _ C) (fun q => kf q _ _ _ _ _ _ _ _ _ _ _ _ _ _ _ _ C)
theorem T_icmp_ge {x y : Int32} {off : Int} {tgt : Nat} (hd : decode j.2.1 pc = .ok (.if_icmp .ge off, 3)) (ht : (pc : Int) + off = (tgt : Int)) (kt : (x ≥ y) → T G d mc ms j tgt L st σ Q) (kf : (¬ x ≥ y) → T G d mc ms j (pc + 3) L st σ Q) : T G d mc ms j pc L (.int y :: .int x :: st) σ Q := by
  intro p l e R s m args below meth c H locs cells slots Qs ls C
  exact lv_icmp_ge C.1.1 C.1.2.1 hd ht (fun q => kt q _ _ _ _ _ _ _ _ _ _ _ _ _ _ _ _ C) (fun q => kf q _ _ _ _ _ _ _ _ _ _ _ _ _ _ _ _ C)
theorem T_if_gt {x : Int32} {off : Int} {tgt : Nat} (hd : decode j.2.1 pc = .ok (.ifCond .gt off, 3)) (ht : (pc : Int) + off = (tgt : Int)) (kt : (x > 0) → T G d mc ms j tgt L st σ Q) (kf : (¬ x > 0) → T G d mc ms j (pc + 3) L st σ Q) : T G d mc ms j pc L (.int x :: st) σ Q := by
  intro p l e R s m args below meth c H locs cells slots Qs ls C
  exact lv_if_gt C.1.1 C.1.2.1 hd ht (fun q => kt q _ _ _ _ _ _ _ _ _ _ _ _ _ _ _ _ C) (fun q => kf q _ _ _ _ _ _ _ _ _ _ _ _ _ _ _ _ C)
theorem T_icmp_gt {x y : Int32} {off : Int} {tgt : Nat} (hd : decode j.2.1 pc = .ok (.if_icmp .gt off, 3)) (ht : (pc : Int) + off = (tgt : Int)) (kt : (x > y) → T G d mc ms j tgt L st σ Q) (kf : (¬ x > y) → T G d mc ms j (pc + 3) L st σ Q) : T G d mc ms j pc L (.int y :: .int x :: st) σ Q := by
  intro p l e R s m args below meth c H locs cells slots Qs ls C
  exact lv_icmp_gt C.1.1 C.1.2.1 hd ht (fun q => kt q _ _ _ _ _ _ _ _ _ _ _ _ _ _ _ _ C) (fun q => kf q _ _ _ _ _ _ _ _ _ _ _ _ _ _ _ _ C)
theorem T_if_le {x : Int32} {off : Int} {tgt : Nat} (hd : decode j.2.1 pc = .ok (.ifCond .le off, 3)) (ht : (pc : Int) + off = (tgt : Int)) (kt : (x ≤ 0) → T G d mc ms j tgt L st σ Q) (kf : (¬ x ≤ 0) → T G d mc ms j (pc + 3) L st σ Q) : T G d mc ms j pc L (.int x :: st) σ Q := by
  intro p l e R s m args below meth c H locs cells slots Qs ls C
  exact lv_if_le C.1.1 C.1.2.1 hd ht (fun q => kt q _ _ _ _ _ _ _ _ _ _ _ _ _ _ _ _ C) (fun q => kf q _ _ _ _ _ _ _ _ _ _ _ _ _ _ _ _ C)
theorem T_icmp_le {x y : Int32} {off : Int} {tgt : Nat} (hd : decode j.2.1 pc = .ok (.if_icmp .le off, 3)) (ht : (pc : Int) + off = (tgt : Int)) (kt : (x ≤ y) → T G d mc ms j tgt L st σ Q) (kf : (¬ x ≤ y) → T G d mc ms j (pc + 3) L st σ Q) : T G d mc ms j pc L (.int y :: .int x :: st) σ Q := by
  intro p l e R s m args below meth c H locs cells slots Qs ls C
  exact lv_icmp_le C.1.1 C.1.2.1 hd ht (fun q => kt q _ _ _ _ _ _ _ _ _ _ _ _ _ _ _ _ C) (fun q => kf q _ _ _ _ _ _ _ _ _ _ _ _ _ _ _ _ C)
theorem T_goto {off : Int} {tgt : Nat} (hd : decode j.2.1 pc = .ok (.goto off, 3)) (ht : (pc : Int) + off = (tgt : Int)) (k : T G d mc ms j tgt L st σ Q) : T G d mc ms j pc L st σ Q := by
  intro p l e R s m args below meth c H locs cells slots Qs ls C
  exact lv_goto C.1.1 C.1.2.1 hd ht (k _ _ _ _ _ _ _ _ _ _ _ _ _ _ _ _ C)
theorem T_ifnull {a : Nat} {off : Int} (hd : decode j.2.1 pc = .ok (.ifnull off, 3)) (k : T G d mc ms j (pc + 3) L st σ Q) : T G d mc ms j pc L (.ref a :: st) σ Q := by
  intro p l e R s m args below meth c H locs cells slots Qs ls C
  exact lv_ifnull C.1.1 C.1.2.1 hd (k _ _ _ _ _ _ _ _ _ _ _ _ _ _ _ _ C)
theorem T_ifnonnull {a : Nat} {off : Int} {tgt : Nat} (hd : decode j.2.1 pc = .ok (.ifnonnull off, 3)) (ht : (pc : Int) + off = (tgt : Int)) (k : T G d mc ms j tgt L st σ Q) : T G d mc ms j pc L (.ref a :: st) σ Q := by
  intro p l e R s m args below meth c H locs cells slots Qs ls C
  exact lv_ifnonnull C.1.1 C.1.2.1 hd ht (k _ _ _ _ _ _ _ _ _ _ _ _ _ _ _ _ C)
theorem T_ifnullN {off : Int} {tgt : Nat} (hd : decode j.2.1 pc = .ok (.ifnull off, 3)) (ht : (pc : Int) + off = (tgt : Int)) (k : T G d mc ms j tgt L st σ Q) : T G d mc ms j pc L (.null :: st) σ Q := by
  intro p l e R s m args below meth c H locs cells slots Qs ls C
  exact lv_ifnullN C.1.1 C.1.2.1 hd ht (k _ _ _ _ _ _ _ _ _ _ _ _ _ _ _ _ C)
theorem T_ifnonnullN {off : Int} (hd : decode j.2.1 pc = .ok (.ifnonnull off, 3)) (k : T G d mc ms j (pc + 3) L st σ Q) : T G d mc ms j pc L (.null :: st) σ Q := by
  intro p l e R s m args below meth c H locs cells slots Qs ls C
  exact lv_ifnonnullN C.1.1 C.1.2.1 hd (k _ _ _ _ _ _ _ _ _ _ _ _ _ _ _ _ C)
theorem T_null (hd : decode j.2.1 pc = .ok (.aconst_null, 1)) (k : T G d mc ms j (pc + 1) L (.null :: st) σ Q) : T G d mc ms j pc L st σ Q := by
  intro p l e R s m args below meth c H locs cells slots Qs ls C
  exact lv_null C.1.1 C.1.2.1 hd (k _ _ _ _ _ _ _ _ _ _ _ _ _ _ _ _ C)
theorem T_tblOut {dflt lo hi : Int} {offs : Array Int} {len : Nat} {x : Int32} {tgt : Nat} (hd : decode j.2.1 pc = .ok (.tableswitch dflt lo hi offs, len)) (h : x.toInt < lo ∨ hi < x.toInt) (ht : (pc : Int) + dflt = (tgt : Int)) (k : T G d mc ms j tgt L st σ Q) : T G d mc ms j pc L (.int x :: st) σ Q := by
  intro p l e R s m args below meth c H locs cells slots Qs ls C
  exact lv_tableOut C.1.1 C.1.2.1 hd h ht (k _ _ _ _ _ _ _ _ _ _ _ _ _ _ _ _ C)
theorem T_tblIn {dflt lo hi : Int} {offs : Array Int} {len : Nat} {x : Int32} {off : Int} {tgt : Nat} (hd : decode j.2.1 pc = .ok (.tableswitch dflt lo hi offs, len)) (h1 : ¬ x.toInt < lo) (h2 : ¬ hi < x.toInt) (ho : offs[(x.toInt - lo).toNat]? = some off) (ht : (pc : Int) + off = (tgt : Int)) (k : T G d mc ms j tgt L st σ Q) : T G d mc ms j pc L (.int x :: st) σ Q := by
  intro p l e R s m args below meth c H locs cells slots Qs ls C
  exact lv_tableIn C.1.1 C.1.2.1 hd h1 h2 ho ht (k _ _ _ _ _ _ _ _ _ _ _ _ _ _ _ _ C)
theorem T_return (hd : decode j.2.1 pc = .ok (.return_, 1)) (hr : j.2.2.2 = none) (q : Q none σ) : T G d mc ms j pc L [] σ Q := by
  intro p l e R s m args below meth c H locs cells slots Qs ls C
  exact C.2.2.2.2.2 _ _ _ _ _ _ q C.2.2.1 C.2.2.2.1 (Nat.le_trans (Nat.le_add_right _ _) C.2.1.1) (Nat.le_trans (Nat.le_add_right _ _) C.2.1.2) pc ls hd hr
theorem T_ireturn {x : Int32} {ty : FieldType} (hd : decode j.2.1 pc = .ok (.ireturn, 1)) (hr : j.2.2.2 = some ty) (hn : narrow ty (.int x) = .int x) (q : Q (some (.int x)) σ) : T G d mc ms j pc L [.int x] σ Q := by
  intro p l e R s m args below meth c H locs cells slots Qs ls C
  exact C.2.2.2.2.2 _ _ _ _ _ _ q C.2.2.1 C.2.2.2.1 (Nat.le_trans (Nat.le_add_right _ _) C.2.1.1) (Nat.le_trans (Nat.le_add_right _ _) C.2.1.2) pc ls ty hd hr hn
theorem T_areturn {a : Nat} {nm : String} (hd : decode j.2.1 pc = .ok (.areturn, 1)) (hr : j.2.2.2 = some (.object nm)) (q : Q (some (.ref a)) σ) : T G d mc ms j pc L [.ref a] σ Q := by
  intro p l e R s m args below meth c H locs cells slots Qs ls C
  exact C.2.2.2.2.2 _ _ _ _ _ _ q C.2.2.1 C.2.2.2.1 (Nat.le_trans (Nat.le_add_right _ _) C.2.1.1) (Nat.le_trans (Nat.le_add_right _ _) C.2.1.2) pc ls nm hd hr (Or.inr ⟨a, rfl⟩)
theorem T_areturnN {nm : String} (hd : decode j.2.1 pc = .ok (.areturn, 1)) (hr : j.2.2.2 = some (.object nm)) (q : Q (some .null) σ) : T G d mc ms j pc L [.null] σ Q := by
  intro p l e R s m args below meth c H locs cells slots Qs ls C
  exact C.2.2.2.2.2 _ _ _ _ _ _ q C.2.2.1 C.2.2.2.1 (Nat.le_trans (Nat.le_add_right _ _) C.2.1.1) (Nat.le_trans (Nat.le_add_right _ _) C.2.1.2) pc ls nm hd hr (Or.inl rfl)
end TK
end
section
/-! heap rows of the judgement T -/
def tyG (ci : Nat) : Nat → FieldType := match ci with
  | 0 => tyX0
  | 1 => tyX1
  | 2 => tyX2
  | 3 => tyX3
  | 4 => tyX4
  | 5 => tyX5
  | 6 => tyX6
  | 7 => tyX7
  | 8 => tyX8
  | 9 => tyX9
  | 10 => tyX10
  | _ => tyX11
theorem clsOk {ci : Nat} {C : String} {F : u_T} {N : Nat} (h : vwCl[ci]? = some (C, F, N)) : (∀ w ∈ u_ws C F N, w ∈ gtbl) ∧ (∀ k, k < N → parseFieldDescriptor (F k).2.2.1 = some (tyG ci k)) ∧ (∀ a, a < N → ∀ b, b < N → a ≠ b → (F a).2.1 ≠ (F b).2.1) := by
  match ci, h with
  | 0, h => cases h; exact ⟨fw0, tyX0_ok, nmX0⟩
  | 1, h => cases h; exact ⟨fw1, tyX1_ok, nmX1⟩
  | 2, h => cases h; exact ⟨fw2, tyX2_ok, nmX2⟩
  | 3, h => cases h; exact ⟨fw3, tyX3_ok, nmX3⟩
  | 4, h => cases h; exact ⟨fw4, tyX4_ok, nmX4⟩
  | 5, h => cases h; exact ⟨fw5, tyX5_ok, nmX5⟩
  | 6, h => cases h; exact ⟨fw6, tyX6_ok, nmX6⟩
  | 7, h => cases h; exact ⟨fw7, tyX7_ok, nmX7⟩
  | 8, h => cases h; exact ⟨fw8, tyX8_ok, nmX8⟩
  | 9, h => cases h; exact ⟨fw9, tyX9_ok, nmX9⟩
  | 10, h => cases h; exact ⟨fw10, tyX10_ok, nmX10⟩
  | 11, h => cases h; exact ⟨fw11, tyX11_ok, nmX11⟩
  | n + 12, h => simp [vwCl] at h
def putOk (ty : FieldType) (v : Value) : Bool := match ty, v with
  | .int, .int _ => true
  | .object _, .ref _ => true
  | .array _, .ref _ => true
  | _, _ => false
theorem putOk.spec {G : GT} {ty : FieldType} {v : Value} (h : putOk ty v = true) : narrow ty (tr G v) = tr G v ∧ fits ty (tr G v) = true := by
  unfold putOk at h
  split at h
  · exact ⟨rfl, rfl⟩
  · exact ⟨rfl, rfl⟩
  · exact ⟨rfl, rfl⟩
  · cases h
theorem rel_set {G : GT} {σ : List va_E} {a : Nat} {e0 e : va_E} {H H1 : Heap} (hR : RelH G σ H) (h : σ[a]? = some e0) (he : va_at G.1 vwCl (gB G + a, trE G e) H1) (oq : ∀ q : Nat, q ≠ gB G + a → H1[q]? = H[q]?) (z : H1.size = H.size) : RelH G (σ.set a e) H1 :=
  ⟨by rw [← wsG_set h]; exact hR.1.set (wsG_D G σ) (wsG_at h) he oq, by rw [z, hR.2, List.length_set]⟩
theorem rel_push {G : GT} {σ : List va_E} {e : va_E} {H H1 : Heap} (hR : RelH G σ H) (he : va_at G.1 vwCl (gB G + σ.length, trE G e) H1) (z : H1.size = H.size + 1) (o1 : ∀ q : Nat, q < H.size → H1[q]? = H[q]?) : RelH G (σ ++ [e]) H1 := by
  refine ⟨?_, by rw [z, hR.2, List.length_append]; rfl⟩
  rw [← wsG_push]
  refine (hR.1.kept (fun k q hk => o1 q.1 ((hR.1 k q hk).lt))).app (fun k q hk => ?_)
  have hz : k < 1 := (List.getElem?_eq_some_iff.mp hk).1
  rw [show k = 0 by omega] at hk
  cases hk
  exact he
theorem S_push {G : GT} {H0 H H1 : Heap} {locs : List Loc} (hS : va_S (AG G) H0 H locs) (z : H1.size = H.size + 1) (o1 : ∀ q : Nat, q < H.size → H1[q]? = H[q]?) : va_S (AG G) H0 H1 locs :=
  ⟨Nat.le_trans hS.1 (by omega), fun x h1 h2 => (o1 x (Nat.lt_of_lt_of_le h1 hS.1)).trans (hS.2.1 x h1 h2), hS.2.2⟩
section TH
variable {G : GT} {d mc ms : Nat} {j : MD} {pc : Nat} {L : List (Option Value)} {st : List Value} {σ : List va_E} {Q : Option Value → List va_E → Prop}
theorem T_get {idx ci k a : Nat} {fin : Bool} {fs : List Value} {v : Value} (hd : decode j.2.1 pc = .ok (.getfield idx, 3)) (hf : FLok j.1.cls idx ci k fin) (hσ : σ[a]? = some (.inr (ci, fs))) (hv : fs[k]? = some v) (kk : T G d mc ms j (pc + 3) L (v :: st) σ Q) : T G d mc ms j pc L (.ref a :: st) σ Q := by
  intro p l e R s m args below meth c H locs cells slots Qs ls C
  obtain ⟨Cn, F, N, hc, hk, h1, h2, hw⟩ := hf
  exact va_get (D := G.1) (tys := tysG G) C.1.1 C.1.2.1 C.1.2.2.2.2.1 (clsOk hc).1 C.1.2.2.2.1 C.1.2.2.2.2.2.1.1 C.2.2.1.1 a (wsG_at hσ) hc k hk (C.1.2.2.2.2.1 _ hw) (fun x h => h) (v := tr G v) (by rw [List.getElem?_map, hv]; rfl) hd (kk _ _ _ _ _ _ _ _ _ _ _ _ _ _ _ _ C)
theorem T_put {idx ci k a : Nat} {fs : List Value} {v : Value} (hd : decode j.2.1 pc = .ok (.putfield idx, 3)) (hf : FLok j.1.cls idx ci k false) (hσ : σ[a]? = some (.inr (ci, fs))) (hl : k < fs.length) (hp : putOk (tyG ci k) v = true) (kk : T G d mc ms j (pc + 3) L st (σ.set a (.inr (ci, fs.set k v))) Q) : T G d mc ms j pc L (v :: .ref a :: st) σ Q := by
  intro p l e R s m args below meth c H locs cells slots Qs ls C
  obtain ⟨Cn, F, N, hc, hk, h1, h2, hw⟩ := hf
  have hcl := clsOk hc
  have hK := C.1.2.2.2.2.2.1.1
  have hts := C.1.2.2.2.2.1
  have hap := va_apart (own := j.1.cls) hts hcl.1 (tyG ci) hcl.2.1 hcl.2.2 hK hc
  obtain ⟨r, h3, cell, q1, q2, q3, q4⟩ := C.2.2.1.1 a _ (wsG_at hσ)
  have hr : r = (Cn, F, N) := Option.some.inj (h3.symm.trans hc)
  subst hr
  obtain ⟨hSl, hfc, kC, hkC, hkind⟩ := hK.1 ci _ hc
  obtain ⟨cf, kf, fi, f, hi, hsl⟩ := hSl k hk
  have hlay := hts _ (hcl.1 _ (u_in_lay hk))
  unfold u_lay at hlay
  rw [if_neg (by rw [h2]; decide)] at hlay
  have hst := (u_facts hfc hkC (u_lays hts hcl.1 hk) hi).1
  have hok := putOk.spec (G := G) hp
  have h6 := u_store hfc hkC hkind hlay hi (hcl.2.1 k hk) hok.1 hok.2
  refine W.putK C.1.1 C.1.2.1 (f := f) ⟨C.1.2.2.2.1, hts _ hw, ⟨_, _, _, hi⟩, hst⟩ (by rw [q2]; exact h6) q1 q3 (by rw [hsl]; exact k2_hasslot (q4 k hk)) rfl rfl hd fun H' e1 e2 e3 => ?_
  rw [hsl] at e1 ⊢
  have hR : RelH G (σ.set a (.inr (ci, fs.set k v))) H' := by
    refine rel_set C.2.2.1 hσ ?_ e3 e2
    show va_at G.1 vwCl (gB G + a, .inr (ci, (fs.set k v).map (tr G))) H'
    rw [List.map_set]
    exact ⟨_, hc, t_OB.to (V := updV (vp_V (fs.map (tr G))) k (tr G v)) ⟨_, e1, q2, q3, t_set q4 hap hk (tr G v)⟩ (fun i _ => vp_updV_set (by rw [List.length_map]; exact hl) (tr G v) i)⟩
  exact kk _ _ _ _ _ _ _ _ _ _ _ _ _ _ _ _ ⟨C.1, C.2.1, hR, C.2.2.2.1.put e2 e3 (Nat.le_add_right _ _), C.2.2.2.2⟩
theorem T_putF {idx ci k a : Nat} {fs : List Value} {v : Value} (hd : decode j.2.1 pc = .ok (.putfield idx, 3)) (hf : FLok j.1.cls idx ci k true) (hin : j.1.name = "<init>") (hown : ∀ Cn F N, vwCl[ci]? = some (Cn, F, N) → Cn = j.1.cls) (hσ : σ[a]? = some (.inr (ci, fs))) (hl : k < fs.length) (hp : putOk (tyG ci k) v = true) (kk : T G d mc ms j (pc + 3) L st (σ.set a (.inr (ci, fs.set k v))) Q) : T G d mc ms j pc L (v :: .ref a :: st) σ Q := by
  intro p l e R s m args below meth c H locs cells slots Qs ls C
  obtain ⟨Cn, F, N, hc, hk, h1, h2, hw⟩ := hf
  have hcl := clsOk hc
  have hK := C.1.2.2.2.2.2.1.1
  have hts := C.1.2.2.2.2.1
  have hap := va_apart (own := j.1.cls) hts hcl.1 (tyG ci) hcl.2.1 hcl.2.2 hK hc
  obtain ⟨r, h3, cell, q1, q2, q3, q4⟩ := C.2.2.1.1 a _ (wsG_at hσ)
  have hr : r = (Cn, F, N) := Option.some.inj (h3.symm.trans hc)
  subst hr
  obtain ⟨hSl, hfc, kC, hkC, hkind⟩ := hK.1 ci _ hc
  obtain ⟨cf, kf, fi, f, hi, hsl⟩ := hSl k hk
  have hlay := hts _ (hcl.1 _ (u_in_lay hk))
  unfold u_lay at hlay
  rw [if_pos h2] at hlay
  have hst := (u_facts hfc hkC (u_lays hts hcl.1 hk) hi).1
  have hcf : m.cls = cf := by
    obtain ⟨_, _, c', _, _, _, -, -, hf', -, -, -, hown2, -⟩ := Cond.laysFinal_spec hlay
    have e1 : c' = cf := by have := hi.symm.trans hf'; simp at this; exact this.1.symm
    rw [h1, hown Cn F N hc] at hown2
    rw [← e1]; exact Option.some.inj (C.1.2.2.2.1.symm.trans hown2)
  have hok := putOk.spec (G := G) hp
  have h6 := u_fits hfc hkC hkind (Or.inr hlay) hi (hcl.2.1 k hk) hok.1 hok.2
  refine W.putFinK C.1.1 C.1.2.1 C.1.2.2.2.1 (hts _ hw) hi hst hcf (C.1.2.2.2.2.2.2.1.trans hin) (by rw [q2]; exact h6) q1 q3 (by rw [hsl]; exact k2_hasslot (q4 k hk)) rfl rfl hd fun H' e1 e2 e3 => ?_
  rw [hsl] at e1 ⊢
  have hR : RelH G (σ.set a (.inr (ci, fs.set k v))) H' := by
    refine rel_set C.2.2.1 hσ ?_ e3 e2
    show va_at G.1 vwCl (gB G + a, .inr (ci, (fs.set k v).map (tr G))) H'
    rw [List.map_set]
    exact ⟨_, hc, t_OB.to (V := updV (vp_V (fs.map (tr G))) k (tr G v)) ⟨_, e1, q2, q3, t_set q4 hap hk (tr G v)⟩ (fun i _ => vp_updV_set (by rw [List.length_map]; exact hl) (tr G v) i)⟩
  exact kk _ _ _ _ _ _ _ _ _ _ _ _ _ _ _ _ ⟨C.1, C.2.1, hR, C.2.2.2.1.put e2 e3 (Nat.le_add_right _ _), C.2.2.2.2⟩
theorem T_iald {a n : Nat} {f : Nat → Int32} {i : Int32} (hd : decode j.2.1 pc = .ok (.iaload, 1)) (hσ : σ[a]? = some (.inl (0, n, .inl f))) (hi : vp_in i n) (kk : T G d mc ms j (pc + 1) L (.int (f i.toNatClampNeg) :: st) σ Q) : T G d mc ms j pc L (.int i :: .ref a :: st) σ Q := by
  intro p l e R s m args below meth c H locs cells slots Qs ls C
  exact va_iald (D := G.1) (tys := tysG G) C.1.1 C.1.2.1 C.1.2.2.2.2.2.1.1 C.2.2.1.1 a 0 (wsG_at hσ) rfl hi hd (kk _ _ _ _ _ _ _ _ _ _ _ _ _ _ _ _ C)
theorem T_bald {a n : Nat} {f : Nat → Int32} {i : Int32} (hd : decode j.2.1 pc = .ok (.baload, 1)) (hσ : σ[a]? = some (.inl (1, n, .inl f))) (hi : vp_in i n) (kk : T G d mc ms j (pc + 1) L (.int (f i.toNatClampNeg) :: st) σ Q) : T G d mc ms j pc L (.int i :: .ref a :: st) σ Q := by
  intro p l e R s m args below meth c H locs cells slots Qs ls C
  exact va_bald (D := G.1) (tys := tysG G) C.1.1 C.1.2.1 C.1.2.2.2.2.2.1.1 C.2.2.1.1 a 1 (wsG_at hσ) rfl hi hd (kk _ _ _ _ _ _ _ _ _ _ _ _ _ _ _ _ C)
theorem T_zald {a n : Nat} {f : Nat → Int32} {i : Int32} (hd : decode j.2.1 pc = .ok (.baload, 1)) (hσ : σ[a]? = some (.inl (2, n, .inl f))) (hi : vp_in i n) (kk : T G d mc ms j (pc + 1) L (.int (f i.toNatClampNeg) :: st) σ Q) : T G d mc ms j pc L (.int i :: .ref a :: st) σ Q := by
  intro p l e R s m args below meth c H locs cells slots Qs ls C
  exact va_zald (D := G.1) (tys := tysG G) C.1.1 C.1.2.1 C.1.2.2.2.2.2.1.1 C.2.2.1.1 a 2 (wsG_at hσ) rfl hi hd (kk _ _ _ _ _ _ _ _ _ _ _ _ _ _ _ _ C)
theorem tyQ {t : Nat} (h3 : 3 ≤ t) (h6 : t ≤ 6) : ∃ C : String, (tysG G)[t]? = some (G.2.1 t, .object C) := by
  rcases (show t = 3 ∨ t = 4 ∨ t = 5 ∨ t = 6 by omega) with rfl | rfl | rfl | rfl <;> exact ⟨_, rfl⟩
theorem tr_rf (o : Option Nat) : va_rf (o.map (gB G + ·)) = tr G (va_rf o) := by cases o <;> rfl
theorem T_aald {a t n : Nat} {f : Nat → Option Nat} {i : Int32} (hd : decode j.2.1 pc = .ok (.aaload, 1)) (hσ : σ[a]? = some (.inl (t, n, .inr (.inr (.inr (.inr f)))))) (h3 : 3 ≤ t) (h6 : t ≤ 6) (hi : vp_in i n) (kk : T G d mc ms j (pc + 1) L (va_rf (f i.toNatClampNeg) :: st) σ Q) : T G d mc ms j pc L (.int i :: .ref a :: st) σ Q := by
  intro p l e R s m args below meth c H locs cells slots Qs ls C
  obtain ⟨Cn, hC⟩ := tyQ (G := G) h3 h6
  refine va_aldq (D := G.1) (tys := tysG G) C.1.1 C.1.2.1 C.1.2.2.2.2.2.1.1 C.2.2.1.1 a t (wsG_at hσ) hC hi hd ?_
  show W p l e R s m args below meth c H locs cells slots Qs (F0 m (pc + 1) ls (va_rf ((f i.toNatClampNeg).map (gB G + ·)) :: st.map (tr G)))
  rw [tr_rf]
  exact kk _ _ _ _ _ _ _ _ _ _ _ _ _ _ _ _ C
theorem T_alen {a t n : Nat} {x : (Nat → Int32) ⊕ (Nat → Int64) ⊕ (Nat → UInt32) ⊕ (Nat → UInt64) ⊕ (Nat → Option Nat)} {v : Int32} (hd : decode j.2.1 pc = .ok (.arraylength, 1)) (hσ : σ[a]? = some (.inl (t, n, x))) (h6 : t ≤ 6) (hv : Int32.ofNat n = v) (kk : T G d mc ms j (pc + 1) L (.int v :: st) σ Q) : T G d mc ms j pc L (.ref a :: st) σ Q := by
  intro p l e R s m args below meth c H locs cells slots Qs ls C
  have ht : ∃ ty, (tysG G)[t]? = some (G.2.1 t, ty) := by
    rcases (show t = 0 ∨ t = 1 ∨ t = 2 ∨ t = 3 ∨ t = 4 ∨ t = 5 ∨ t = 6 by omega) with rfl | rfl | rfl | rfl | rfl | rfl | rfl <;> exact ⟨_, rfl⟩
  obtain ⟨ty, ht⟩ := ht
  have hw := wsG_at (G := G) hσ
  have k' := kk _ _ _ _ _ _ _ _ _ _ _ _ _ _ _ _ C
  obtain f | f | f | f | f := x
  · exact va_alen (D := G.1) (tys := tysG G) C.1.1 C.1.2.1 C.1.2.2.2.2.2.1.1 C.2.2.1.1 a t hw ht hv hd k'
  · exact va_alen (D := G.1) (tys := tysG G) C.1.1 C.1.2.1 C.1.2.2.2.2.2.1.1 C.2.2.1.1 a t hw ht hv hd k'
  · exact va_alen (D := G.1) (tys := tysG G) C.1.1 C.1.2.1 C.1.2.2.2.2.2.1.1 C.2.2.1.1 a t hw ht hv hd k'
  · exact va_alen (D := G.1) (tys := tysG G) C.1.1 C.1.2.1 C.1.2.2.2.2.2.1.1 C.2.2.1.1 a t hw ht hv hd k'
  · exact va_alen (D := G.1) (tys := tysG G) C.1.1 C.1.2.1 C.1.2.2.2.2.2.1.1 C.2.2.1.1 a t hw ht hv hd k'
theorem T_iast {a n : Nat} {f : Nat → Int32} {i x : Int32} (hd : decode j.2.1 pc = .ok (.iastore, 1)) (hσ : σ[a]? = some (.inl (0, n, .inl f))) (hi : vp_in i n) (kk : T G d mc ms j (pc + 1) L st (σ.set a (.inl (0, n, .inl (upd f i.toNatClampNeg x)))) Q) : T G d mc ms j pc L (.int x :: .int i :: .ref a :: st) σ Q := by
  intro p l e R s m args below meth c H locs cells slots Qs ls C
  refine W.iast C.1.1 C.1.2.1 (C.2.2.1.1 a _ (wsG_at hσ)) ((C.1.2.2.2.2.2.1.1.2 0 _ rfl).1 n (fun j => .int (f j))) (fun q => by cases q) (by show ¬ (i < 0 ∨ (arrV _ _ _).slots.size ≤ _); rw [arrV_size]; exact hi) rfl rfl hd fun H1 e1 z oq => ?_
  refine kk _ _ _ _ _ _ _ _ _ _ _ _ _ _ _ _ ⟨C.1, C.2.1, rel_set C.2.2.1 hσ ?_ oq z, C.2.2.2.1.put z oq (Nat.le_add_right _ _), C.2.2.2.2⟩
  show H1[gB G + a]? = some (vp_cell _ _)
  rw [e1]
  show some ((vp_cell _ _).setSlot _ _) = _
  rw [vp_cell_i, vp_cell_i, arrV_store]
  congr 2
  funext q
  by_cases hq : q = i.toNatClampNeg
  · subst hq
    simp [updV, upd]
  · simp [updV, upd, hq]
theorem T_bast {a n : Nat} {f : Nat → Int32} {i x : Int32} (hd : decode j.2.1 pc = .ok (.bastore, 1)) (hσ : σ[a]? = some (.inl (1, n, .inl f))) (hi : vp_in i n) (kk : T G d mc ms j (pc + 1) L st (σ.set a (.inl (1, n, .inl (upd f i.toNatClampNeg (vp_nar .byte x))))) Q) : T G d mc ms j pc L (.int x :: .int i :: .ref a :: st) σ Q := by
  intro p l e R s m args below meth c H locs cells slots Qs ls C
  refine W.bast C.1.1 C.1.2.1 (C.2.2.1.1 a _ (wsG_at hσ)) ((C.1.2.2.2.2.2.1.1.2 1 _ rfl).1 n (fun j => .int (f j))) (fun q => by cases q) (by show ¬ (i < 0 ∨ (arrV _ _ _).slots.size ≤ _); rw [arrV_size]; exact hi) rfl rfl hd fun H1 e1 z oq => ?_
  refine kk _ _ _ _ _ _ _ _ _ _ _ _ _ _ _ _ ⟨C.1, C.2.1, rel_set C.2.2.1 hσ ?_ oq z, C.2.2.2.1.put z oq (Nat.le_add_right _ _), C.2.2.2.2⟩
  show H1[gB G + a]? = some (vp_cell _ _)
  rw [e1]
  show some ((vp_cell _ _).setSlot _ _) = _
  rw [vp_cell_i, vp_cell_i, arrV_store]
  congr 2
  funext q
  by_cases hq : q = i.toNatClampNeg
  · subst hq
    simp [updV, upd, vp_nar]
    try rfl
  · simp [updV, upd, hq]
theorem T_zast {a n : Nat} {f : Nat → Int32} {i x : Int32} (hd : decode j.2.1 pc = .ok (.bastore, 1)) (hσ : σ[a]? = some (.inl (2, n, .inl f))) (hi : vp_in i n) (kk : T G d mc ms j (pc + 1) L st (σ.set a (.inl (2, n, .inl (upd f i.toNatClampNeg (vp_nar .boolean x))))) Q) : T G d mc ms j pc L (.int x :: .int i :: .ref a :: st) σ Q := by
  intro p l e R s m args below meth c H locs cells slots Qs ls C
  refine W.zast C.1.1 C.1.2.1 (C.2.2.1.1 a _ (wsG_at hσ)) ((C.1.2.2.2.2.2.1.1.2 2 _ rfl).1 n (fun j => .int (f j))) (fun q => by cases q) (by show ¬ (i < 0 ∨ (arrV _ _ _).slots.size ≤ _); rw [arrV_size]; exact hi) rfl rfl hd fun H1 e1 z oq => ?_
  refine kk _ _ _ _ _ _ _ _ _ _ _ _ _ _ _ _ ⟨C.1, C.2.1, rel_set C.2.2.1 hσ ?_ oq z, C.2.2.2.1.put z oq (Nat.le_add_right _ _), C.2.2.2.2⟩
  show H1[gB G + a]? = some (vp_cell _ _)
  rw [e1]
  show some ((vp_cell _ _).setSlot _ _) = _
  rw [vp_cell_i, vp_cell_i, arrV_store]
  congr 2
  funext q
  by_cases hq : q = i.toNatClampNeg
  · subst hq
    simp [updV, upd, vp_nar]
    try rfl
  · simp [updV, upd, hq]
theorem T_aast {a t n v ci : Nat} {f : Nat → Option Nat} {fs : List Value} {r : vw_C} {i : Int32} (hd : decode j.2.1 pc = .ok (.aastore, 1)) (hσ : σ[a]? = some (.inl (t, n, .inr (.inr (.inr (.inr f)))))) (ht : (tysG G)[t]? = some (G.2.1 t, .object r.1)) (hv : σ[v]? = some (.inr (ci, fs))) (hc : vwCl[ci]? = some r) (hi : vp_in i n) (kk : T G d mc ms j (pc + 1) L st (σ.set a (.inl (t, n, .inr (.inr (.inr (.inr (va_up f i.toNatClampNeg (some v)))))))) Q) : T G d mc ms j pc L (.ref v :: .int i :: .ref a :: st) σ Q := by
  intro p l e R s m args below meth c H locs cells slots Qs ls C
  have hK := C.1.2.2.2.2.2.1.1
  have hlt : i.toNatClampNeg < n := Nat.not_le.mp fun q => hi (Or.inr q)
  have h0 : ¬ i < 0 := fun q => hi (Or.inl q)
  obtain ⟨r', hr', cellV, g1, g2, g3, -⟩ := C.2.2.1.1 v _ (wsG_at hv)
  have hcls := (hK.1 ci r hc).2
  obtain ⟨kA, comp, k1, k2, k3, -⟩ := (hK.2 t _ ht).2
  have hcomp : comp = G.1.1 ci := Option.some.inj (k3.symm.trans hcls.1)
  subst hcomp
  obtain ⟨kC, hkC, -⟩ := hcls.2
  refine W.aast C.1.1 C.1.2.1 (C.2.2.1.1 a _ (wsG_at hσ)) (fun q h => by cases h) (fun h => by cases h) k1 k2 rfl hkC ⟨h0, by show _ < (arrV _ _ _).slots.size; rw [arrV_size]; exact hlt⟩ g1 (fun q h => by rw [g3] at h; cases h) (by rw [g2]; exact hkC) (by rw [g2]; exact va_assign hcls) rfl rfl hd fun H1 e1 z oq => ?_
  refine kk _ _ _ _ _ _ _ _ _ _ _ _ _ _ _ _ ⟨C.1, C.2.1, rel_set C.2.2.1 hσ ?_ oq z, C.2.2.2.1.put z oq (Nat.le_add_right _ _), C.2.2.2.2⟩
  show H1[gB G + a]? = some (vp_cell _ _)
  rw [e1]
  show some ((vp_cell _ _).setSlot _ _) = _
  rw [vp_cell_q, vp_cell_q, arrV_store]
  congr 2
  funext q
  by_cases hq : q = i.toNatClampNeg
  · subst hq
    simp [updV, va_up, va_rf]
  · simp [updV, va_up, hq]
end TH
end
section
/-! new cells and calls in the judgement T -/
section TN
variable {G : GT} {d mc ms : Nat} {j : MD} {pc : Nat} {L : List (Option Value)} {st : List Value} {σ : List va_E} {Q : Option Value → List va_E → Prop}
theorem T_new {idx ci N : Nat} {Cn : String} {F : u_T} {fs : List Value} (hd : decode j.2.1 pc = .ok (.new idx, 3)) (hcl : Cond.classLink j.1.cls idx Cn ∈ gtbl) (hin : Cond.instantiable Cn N ∈ gtbl ∧ Cond.initialized Cn ∈ gtbl) (hc : vwCl[ci]? = some (Cn, F, N)) (hfm : fs.map (tr G) = fs) (hfs : ∀ k, k < N → defaultValue (tyG ci k) = vp_V fs k) (kk : T G d mc ms j (pc + 3) L (.ref σ.length :: st) (σ ++ [.inr (ci, fs)]) Q) : T G d (mc + 1) (ms + N) j pc L st σ Q := by
  intro p l e R s m args below meth c H locs cells slots Qs ls C
  have hts := C.1.2.2.2.2.1
  have hk := clsOk hc
  have hKn := C.1.2.2.2.2.2.1.1.1 ci _ hc
  refine W.newcK C.1.1 C.1.2.1 C.1.2.2.2.1 (hts _ hcl) (hts _ hin.1) (hts _ hin.2) rfl hd (by have := C.2.1.1; omega) (by have := C.2.1.2; omega) hKn.2.1 C.2.2.1.2 fun H1 kC hkC e1 z1 o1 => ?_
  refine kk _ _ _ _ _ _ _ _ _ _ _ _ _ _ _ _ ⟨C.1, ⟨by have := C.2.1.1; omega, by have := C.2.1.2; omega⟩, rel_push C.2.2.1 ?_ (by rw [z1, C.2.2.1.2]) (fun q hq => o1 q (by rw [← C.2.2.1.2]; exact hq)), S_push C.2.2.2.1 (by rw [z1, C.2.2.1.2]) (fun q hq => o1 q (by rw [← C.2.2.1.2]; exact hq)), C.2.2.2.2⟩
  show va_at G.1 vwCl (gB G + σ.length, .inr (ci, fs.map (tr G))) H1
  rw [hfm]
  exact ⟨_, hc, (u_born (tyG ci) hts hk.1 hKn hkC e1 hk.2.1).to hfs⟩
theorem T_newi {n : Int32} {N : Nat} (hd : decode j.2.1 pc = .ok (.newarray .int, 2)) (hn : ¬ n < 0) (hN : n.toNatClampNeg = N) (hb : N ≤ 65536) (kk : T G d mc ms j (pc + 2) L (.ref σ.length :: st) (σ ++ [.inl (0, N, .inl (fun _ => 0))]) Q) : T G d (mc + 1) (ms + N) j pc L (.int n :: st) σ Q := by
  intro p l e R s m args below meth c H locs cells slots Qs ls C
  refine va_newaK (atype := .int) C.1.1 C.1.2.1 (C.1.2.2.2.2.1 _ ac_int) rfl hd rfl hn hN (by show N * 4 ≤ _; omega) (by have := C.2.1.1; omega) (by have := C.2.1.2; omega) C.2.2.1.2 fun H1 cA e1 z1 o1 hAr hNm => ?_
  have hcA : cA = G.2.1 0 := Option.some.inj (hNm.symm.trans (C.1.2.2.2.2.2.1.1.2 0 _ rfl).2)
  subst hcA
  exact kk _ _ _ _ _ _ _ _ _ _ _ _ _ _ _ _ ⟨C.1, ⟨by have := C.2.1.1; omega, by have := C.2.1.2; omega⟩, rel_push C.2.2.1 e1 (by rw [z1, C.2.2.1.2]) (fun q hq => o1 q (by rw [← C.2.2.1.2]; exact hq)), S_push C.2.2.2.1 (by rw [z1, C.2.2.1.2]) (fun q hq => o1 q (by rw [← C.2.2.1.2]; exact hq)), C.2.2.2.2⟩
theorem T_newb {n : Int32} {N : Nat} (hd : decode j.2.1 pc = .ok (.newarray .byte, 2)) (hn : ¬ n < 0) (hN : n.toNatClampNeg = N) (hb : N ≤ 65536) (kk : T G d mc ms j (pc + 2) L (.ref σ.length :: st) (σ ++ [.inl (1, N, .inl (fun _ => 0))]) Q) : T G d (mc + 1) (ms + N) j pc L (.int n :: st) σ Q := by
  intro p l e R s m args below meth c H locs cells slots Qs ls C
  refine va_newaK (atype := .byte) C.1.1 C.1.2.1 (C.1.2.2.2.2.1 _ ac_byte) rfl hd rfl hn hN (by show N * 1 ≤ _; omega) (by have := C.2.1.1; omega) (by have := C.2.1.2; omega) C.2.2.1.2 fun H1 cA e1 z1 o1 hAr hNm => ?_
  have hcA : cA = G.2.1 1 := Option.some.inj (hNm.symm.trans (C.1.2.2.2.2.2.1.1.2 1 _ rfl).2)
  subst hcA
  exact kk _ _ _ _ _ _ _ _ _ _ _ _ _ _ _ _ ⟨C.1, ⟨by have := C.2.1.1; omega, by have := C.2.1.2; omega⟩, rel_push C.2.2.1 e1 (by rw [z1, C.2.2.1.2]) (fun q hq => o1 q (by rw [← C.2.2.1.2]; exact hq)), S_push C.2.2.2.1 (by rw [z1, C.2.2.1.2]) (fun q hq => o1 q (by rw [← C.2.2.1.2]; exact hq)), C.2.2.2.2⟩
theorem T_newz {n : Int32} {N : Nat} (hd : decode j.2.1 pc = .ok (.newarray .boolean, 2)) (hn : ¬ n < 0) (hN : n.toNatClampNeg = N) (hb : N ≤ 65536) (kk : T G d mc ms j (pc + 2) L (.ref σ.length :: st) (σ ++ [.inl (2, N, .inl (fun _ => 0))]) Q) : T G d (mc + 1) (ms + N) j pc L (.int n :: st) σ Q := by
  intro p l e R s m args below meth c H locs cells slots Qs ls C
  refine va_newaK (atype := .boolean) C.1.1 C.1.2.1 (C.1.2.2.2.2.1 _ ac_boolean) rfl hd rfl hn hN (by show N * 1 ≤ _; omega) (by have := C.2.1.1; omega) (by have := C.2.1.2; omega) C.2.2.1.2 fun H1 cA e1 z1 o1 hAr hNm => ?_
  have hcA : cA = G.2.1 2 := Option.some.inj (hNm.symm.trans (C.1.2.2.2.2.2.1.1.2 2 _ rfl).2)
  subst hcA
  exact kk _ _ _ _ _ _ _ _ _ _ _ _ _ _ _ _ ⟨C.1, ⟨by have := C.2.1.1; omega, by have := C.2.1.2; omega⟩, rel_push C.2.2.1 e1 (by rw [z1, C.2.2.1.2]) (fun q hq => o1 q (by rw [← C.2.2.1.2]; exact hq)), S_push C.2.2.2.1 (by rw [z1, C.2.2.1.2]) (fun q hq => o1 q (by rw [← C.2.2.1.2]; exact hq)), C.2.2.2.2⟩
theorem T_newq {idx t : Nat} {Cn : String} {n : Int32} {N : Nat} (hd : decode j.2.1 pc = .ok (.anewarray idx, 3)) (hcl : Cond.classLink j.1.cls idx Cn ∈ gtbl) (hover : ∀ s, EnvOK G s → va_AO Cn s) (ht : (tysG G)[t]? = some (G.2.1 t, .object Cn)) (hn : ¬ n < 0) (hN : n.toNatClampNeg = N) (hb : N ≤ 65536) (kk : T G d mc ms j (pc + 3) L (.ref σ.length :: st) (σ ++ [.inl (t, N, .inr (.inr (.inr (.inr (fun _ => none)))))]) Q) : T G d (mc + 1) (ms + N) j pc L (.int n :: st) σ Q := by
  intro p l e R s m args below meth c H locs cells slots Qs ls C
  subst hN
  refine W.anew C.1.1 C.1.2.1 C.1.2.2.2.1 (C.1.2.2.2.2.1 _ hcl) (va_AO.use (hover s C.1.2.2.2.2.2.1)) rfl hd rfl hn (by omega) (by have := C.2.1.1; omega) (by have := C.2.1.2; omega) fun cA kA comp f1 f2 f3 f4 => ?_
  obtain ⟨kA', comp', k1, k2, k3, k4⟩ := (C.1.2.2.2.2.2.1.1.2 t _ ht).2
  have hcA : cA = G.2.1 t := Option.some.inj (f1.symm.trans k4)
  subst hcA
  generalize hH1 : H.push ({ cls := G.2.1 t, slots := Array.replicate n.toNatClampNeg .null, vm := .none } : Cell) = H1
  have z1 : H1.size = H.size + 1 := by rw [← hH1, Array.size_push]
  have e1 : H1[H.size]? = some (arrV (G.2.1 t) n.toNatClampNeg (fun _ => .null)) := by rw [← hH1, Array.getElem?_push_size, ← arrV_new]
  have o1 : ∀ q : Nat, q < H.size → H1[q]? = H[q]? := fun q hq => by rw [← hH1, Array.getElem?_push, if_neg (Nat.ne_of_lt hq)]
  have k' := kk p l e R s m args below meth c H1 locs (cells + 1) (slots + n.toNatClampNeg) Qs ls ⟨C.1, ⟨by have := C.2.1.1; omega, by have := C.2.1.2; omega⟩, rel_push C.2.2.1 (by show H1[gB G + σ.length]? = some (vp_cell _ _); rw [← C.2.2.1.2, vp_cell_q]; exact e1) z1 o1, S_push C.2.2.2.1 z1 o1, C.2.2.2.2⟩
  rw [C.2.2.1.2]
  exact k'
theorem T_objInit {idx a : Nat} (hd : decode j.2.1 pc = .ok (.invokespecial idx, 3)) (hl : Cond.methodLink j.1.cls idx objectInit ∈ gtbl) (h8 : (st.map fun v => v.category).sum ≤ 8) (kk : T G (d + 1) mc ms j (pc + 3) L st σ Q) : T G (d + 1) mc ms j pc L (.ref a :: st) σ Q := by
  intro p l e R s m args below meth c H locs cells slots Qs ls C
  have hts := C.1.2.2.2.2.1
  refine W.objInit C.1.1 C.1.2.1 C.1.2.2.2.1 (hts _ hl) (hts _ gObj.1) (hts _ gObj.2) rfl (C.2.2.2.2.1.1.trans C.1.2.2.1.symm) rfl hd (by have := C.1.2.2.2.2.2.2.2.1; omega) ?_ (kk _ _ _ _ _ _ _ _ _ _ _ _ _ _ _ _ C)
  rw [tr_cats]
  have := C.1.2.2.2.2.2.2.2.2
  show 2 * 0 + _ + 12 ≤ _
  omega
theorem T_mmin {idx : Nat} {x y : Int32} (hd : decode j.2.1 pc = .ok (.invokestatic idx, 3)) (hl : Cond.methodLink j.1.cls idx Lib.Math.min.name ∈ gtbl) (h8 : (st.map fun v => v.category).sum ≤ 8) (kk : T G (d + 1) mc ms j (pc + 3) L (.int (if y < x then y else x) :: st) σ Q) : T G (d + 1) mc ms j pc L (.int y :: .int x :: st) σ Q := by
  intro p l e R s m args below meth c H locs cells slots Qs ls C
  have hts := C.1.2.2.2.2.1
  refine va_mmin C.1.1 C.1.2.1 (C.1.2.2.1.trans C.2.2.2.2.1.1.symm) C.1.2.2.2.1 (hts _ hl) (hts _ mmOk.1) (hts _ mmOk.2.1) (hts _ mmOk.2.2) (by have := C.1.2.2.2.2.2.2.2.1; omega) ?_ (Nat.le_trans (Nat.le_add_right _ _) C.2.1.1) (Nat.le_trans (Nat.le_add_right _ _) C.2.1.2) hd (kk _ _ _ _ _ _ _ _ _ _ _ _ _ _ _ _ C)
  rw [tr_cats]
  have := C.1.2.2.2.2.2.2.2.2
  omega
-- calls
def rmT (d mc ms : Nat) : Room := { frames := d, cells := mc, slots := ms, locals := 35 * d }
def LA (vs : List Value) : List (Option Value) := vs.flatMap (fun v => if v.category = 2 then [some v, none] else [some v])
def LE (j : MD) (vs : List Value) : List (Option Value) := LA vs ++ List.replicate (j.2.2.1 - (LA vs).length) none
def PcT (G : GT) (vs : List Value) (σ : List va_E) : Array Value → State → Prop := va_Pc (vs.map (tr G)) (fun U => RelH G σ U.heap ∧ EnvOK G U)
def QcT (G : GT) (Q : Option Value → List va_E → Prop) : Array Value → State → Outcome → State → Prop := fun _ st oc t => (∃ (r : Option Value) (σ' : List va_E), oc = .returned (r.map (tr G)) ∧ Q r σ' ∧ RelH G σ' t.heap) ∧ va_F (AG G) st t
theorem LA_mem : ∀ (vs : List Value) (k i : Nat) (v : Value), (LA vs)[i]? = some (some v) → (k + i, tr G v) ∈ lv_args k (vs.map (tr G))
  | [], k, i, v, h => by simp [LA] at h
  | w :: vs, k, i, v, h => by
    have e : LA (w :: vs) = (if w.category = 2 then [some w, none] else [some w]) ++ LA vs := rfl
    rw [e] at h
    rw [List.map_cons, lv_args, tr_cat]
    by_cases hw : w.category = 2
    · rw [if_pos hw] at h ⊢
      match i, h with
      | 0, h => cases h; exact List.mem_cons_self
      | 1, h => cases h
      | i + 2, h =>
        have := LA_mem vs (k + 2) i v h
        rw [show k + (i + 2) = k + 2 + i by omega]
        exact List.mem_cons_of_mem _ this
    · rw [if_neg hw] at h ⊢
      match i, h with
      | 0, h => cases h; exact List.mem_cons_self
      | i + 1, h =>
        have := LA_mem vs (k + 1) i v h
        rw [show k + (i + 1) = k + 1 + i by omega]
        exact List.mem_cons_of_mem _ this
theorem LA_len (vs : List Value) : (lg_sl (vs.map (tr G))).length = (LA vs).length := by
  induction vs with
  | nil => rfl
  | cons w vs ih =>
    have e1 : LA (w :: vs) = (if w.category = 2 then [some w, none] else [some w]) ++ LA vs := rfl
    have e2 : lg_sl ((w :: vs).map (tr G)) = (if (tr G w).category = 2 then [.val (tr G w), .second] else [.val (tr G w)]) ++ lg_sl (vs.map (tr G)) := rfl
    rw [e1, e2, List.length_append, List.length_append, ih, tr_cat]
    by_cases hw : w.category = 2
    · rw [if_pos hw, if_pos hw]; rfl
    · rw [if_neg hw, if_neg hw]; rfl
theorem T.met {l : Launch} {vs : List Value} (hk : MOk j) (hL : (LA vs).length ≤ j.2.2.1) (h : T G d mc ms j 0 (LE j vs) [] σ Q) : Met l j.1 (Cond.code j.1 j.2.1 j.2.2.1 j.2.2.2 :: gtbl) (rmT d mc ms) (PcT G vs σ) (QcT G Q) mc ms (AG G) := by
  refine Met.ofW (cc := j.2.1) (maxL := j.2.2.1) (ret := j.2.2.2) hk.2.2.2.2 rfl ?_
  intro p e s m args below meth c s₁ B hml hv
  obtain ⟨rfl, hR, hE⟩ := hv
  have hts0 := atoms_spec (ws := Cond.code j.1 j.2.1 j.2.2.1 j.2.2.2 :: gtbl) B.pre
  have hl := lv_entry (vs.map (tr G)) (n := j.2.2.1) (by rw [LA_len]; exact hL)
  rw [lg_entry_eq]
  generalize (lg_sl (vs.map (tr G)) ++ List.replicate (j.2.2.1 - (lg_sl (vs.map (tr G))).length) Slot.unset).toArray = ls at hl ⊢
  have hx := B.exec
  have hb := B.bytes
  have hret := B.returns
  have hlocks := B.notSynchronized
  refine h p l e _ s m _ below meth c s.heap [] 0 0 _ ls ⟨⟨hx, hb, hml, findClass_of_methodNamed B.named, fun w hw => hts0 w (List.mem_cons_of_mem _ hw), hE, (name_of_methodNamed B.named B.method).1, Nat.le_refl _, Nat.le_refl _⟩, ⟨by show 0 + mc ≤ mc; omega, by show 0 + ms ≤ ms; omega⟩, hR, va_S.rf, ⟨hl.1, hl.2.1, fun i v hi => ?_⟩, ?_⟩
  · have hi' : (LA vs)[i]? = some (some v) := by
      unfold LE at hi
      by_cases hlt : i < (LA vs).length
      · rw [List.getElem?_append_left hlt] at hi; exact hi
      · rw [List.getElem?_append_right (Nat.le_of_not_lt hlt), List.getElem?_replicate] at hi
        split at hi <;> cases hi
    have := hl.2.2 _ (LA_mem (G := G) vs 0 i v hi')
    rw [Nat.zero_add] at this
    exact this
  · intro r σ' H' locs' cells' slots' q hR' hS' hc hs
    match r, q with
    | none, q =>
      intro pc ls hd hr
      exact W.widen hc hs (W.vret hx hb (hret.trans hr) (fun t ht hW => ⟨⟨none, σ', rfl, q, by rw [ht]; exact hR'⟩, hS'.F ht⟩) hS'.2.2 hd)
    | some (.int x), q =>
      intro pc ls ty hd hr hn
      exact W.widen hc hs (W.zret hx hb (hret.trans hr) hn (fun t ht hW => ⟨⟨some (.int x), σ', rfl, q, by rw [ht]; exact hR'⟩, hS'.F ht⟩) hS'.2.2 hd)
    | some (.ref a), q =>
      intro pc ls nm hd hr hv
      exact W.widen hc hs (W.aret hx hb (hret.trans hr) (Or.inl ⟨nm, rfl⟩) (Or.inr ⟨_, rfl⟩) (fun t ht hW => ⟨⟨some (.ref a), σ', rfl, q, by rw [ht]; exact hR'⟩, hS'.F ht⟩) hS'.2.2 hd)
    | some .null, q =>
      intro pc ls nm hd hr hv
      exact W.widen hc hs (W.aret hx hb (hret.trans hr) (Or.inl ⟨nm, rfl⟩) (Or.inl rfl) (fun t ht hW => ⟨⟨some .null, σ', rfl, q, by rw [ht]; exact hR'⟩, hS'.F ht⟩) hS'.2.2 hd)
    | some (.long x), q => intro pc ls nm hd hr hv; rcases hv with hv | ⟨a, hv⟩ <;> cases hv
    | some (.float x), q => intro pc ls nm hd hr hv; rcases hv with hv | ⟨a, hv⟩ <;> cases hv
    | some (.double x), q => intro pc ls nm hd hr hv; rcases hv with hv | ⟨a, hv⟩ <;> cases hv
    | some (.retAddr x), q => intro pc ls nm hd hr hv; rcases hv with hv | ⟨a, hv⟩ <;> cases hv
theorem T_core {mc' ms' : Nat} {Q' : Option Value → List va_E → Prop} {p : Program} {l : Launch} {e : Env} {R : Room} {s : State} {m : MethodId} {args a : Array Value} {below : List Frame} {meth : Method} {c : Code} {H : Heap} {locs : List Loc} {cells slots : Nat} {Qs : State → Prop} {ls : Array Slot} {stk : List Value} (run : va_Run p l e R s m args below meth c H locs cells slots mc' ms' (F0 m pc ls stk) (st.map (tr G)) (QcT G Q' a) (AG G)) (C : Cx G d (mc' + mc) (ms' + ms) j L σ Q p l e R s m args below meth c H locs cells slots Qs ls) (kk : ∀ r σ', Q' r σ' → T G d mc ms j (pc + 3) L (r.toList ++ st) σ' Q) : W p l e R s m args below meth c H locs cells slots Qs (F0 m pc ls stk) := by
  intro T hT X
  obtain ⟨v, st₀, t, T', Lc, h0, X', hL, e1, e2, ⟨⟨r, σ', hv, hq, hR'⟩, hz, hkp⟩, go⟩ := run T hT X
  rw [h0] at hz hkp
  have hS := C.2.2.2.1
  have hv' : v = r.map (tr G) := by cases hv; rfl
  subst hv'
  obtain ⟨t2, a1, b1⟩ := kk r σ' hq p l e R s m args below meth c T'.heap (locs ++ Lc) (cells + mc') (slots + ms') Qs ls ⟨C.1, ⟨by have := C.2.1.1; omega, by have := C.2.1.2; omega⟩, by rw [e1]; exact hR', ⟨Nat.le_trans hS.1 (by rw [e1]; exact hz), fun q h1 h2 => by rw [e1, hkp q (Nat.lt_of_lt_of_le h1 hS.1) h2]; exact hS.2.1 q h1 h2, fun q hq => by
      rcases List.mem_append.mp hq with h | h
      · exact hS.2.2 q h
      · exact hL q h⟩, C.2.2.2.2⟩ T' rfl X'
  refine ⟨t2, go t2 ?_, b1⟩
  have e3 : (r.toList ++ st).map (tr G) = (r.map (tr G)).toList ++ st.map (tr G) := by rw [List.map_append]; cases r <;> rfl
  rw [e3] at a1
  exact a1
theorem good_g (j : MD) (h : Cond.code j.1 j.2.1 j.2.2.1 j.2.2.2 ∈ gtbl) : GoodIn gtbl (Cond.code j.1 j.2.1 j.2.2.1 j.2.2.2 :: gtbl) := by
  intro w hw
  have hw' : w ∈ gtbl := by
    rcases List.mem_cons.mp hw with rfl | hw
    · exact h
    · exact hw
  exact ⟨hw', good_of_word (List.mem_filter.mp hw').2⟩
theorem PcT_blind (vs : List Value) : FrameBlind (PcT G vs σ) := fun a U g mk q => ⟨q.1, q.2.1, EnvOK.moved (s := U) (U := U.calling g mk a) (State.WarmedH.refl U) va_S.rf q.2.2⟩
theorem callB_T {idx n d' mc' ms' : Nat} {j' : MD} {R : Room} {s : State} {args : Array Value} {own : String} (hts : ∀ w ∈ gtbl, w.before args s = true) (hk : MOk j') (hp : MPar j' n) (hl : MLk own idx j') (hR : d' + 1 ≤ R.frames ∧ 8 + (j'.2.2.1 + 11) + 35 * d' ≤ R.locals) : CallB R s args own idx j'.1 j'.2.1 j'.2.2.1 j'.2.2.2 (Cond.code j'.1 j'.2.1 j'.2.2.1 j'.2.2.2 :: gtbl) (rmT d' mc' ms') mc' ms' n :=
  callB_of n hts (good_g j' hk.1) rfl rfl rfl (hts _ hk.2.1) (hts _ hl) ⟨hk.2.2.1, hk.2.2.2.1, hp⟩ hR
theorem callN_T {idx n d' mc' ms' : Nat} {j' : MD} {R : Room} {s : State} {args : Array Value} {own : String} (hts : ∀ w ∈ gtbl, w.before args s = true) (hn : ∀ w ∈ ntbl, va_Nw w s) (hk : MOk j') (hp : MPar j' n) (hl : MNk own idx j') (hR : d' + 1 ≤ R.frames ∧ 8 + (j'.2.2.1 + 11) + 35 * d' ≤ R.locals) : va_CN R s args own idx j'.1 "WaryHouses" j'.2.1 j'.2.2.1 j'.2.2.2 (Cond.code j'.1 j'.2.1 j'.2.2.1 j'.2.2.2 :: gtbl) (rmT d' mc' ms') mc' ms' n :=
  va_cnB n hts (good_g j' hk.1) rfl rfl rfl (hn _ hl) (hts _ hk.2.1) ⟨hk.2.2.1, hk.2.2.2.1, hp⟩ hR
theorem T_callV {idx n b ci d' mc' ms' : Nat} {j' : MD} {As fs stk : List Value} {Q' : Option Value → List va_E → Prop} {F : u_T} {N : Nat} (hd : decode j.2.1 pc = .ok (.invokevirtual idx, 3)) (hk : MOk j' ∧ MInst j' ∧ MPar j' n) (hl : MLk j.1.cls idx j') (hb : σ[b]? = some (.inr (ci, fs))) (hc : vwCl[ci]? = some (j'.1.cls, F, N)) (hM : T G d' mc' ms' j' 0 (LE j' (.ref b :: As)) [] σ Q') (hn : As.length = n) (hstk : stk = As.reverse ++ .ref b :: st) (h8 : (st.map fun v => v.category).sum ≤ 8) (hL : (LA (.ref b :: As)).length ≤ j'.2.2.1) (hdd : d' + 1 ≤ d) (hmx : j'.2.2.1 ≤ 16) (kk : ∀ r σ', Q' r σ' → T G d mc ms j (pc + 3) L (r.toList ++ st) σ' Q) : T G d (mc' + mc) (ms' + ms) j pc L stk σ Q := by
  intro p l e R s m args below meth c H locs cells slots Qs ls C
  subst hstk
  have hts := C.1.2.2.2.2.1
  have hM' := T.met (l := l) hk.1 hL hM
  refine T_core (va_runV (C := j'.1.cls) (b := gB G + b) (As := As.map (tr G)) (g := F0 m pc ls _) ⟨C.1.1, C.1.2.1, C.1.2.2.1, C.1.2.2.2.1, hts⟩ hM' ⟨callB_T hts hk.1 hk.2.2 hl ⟨?_, ?_⟩, hts _ hk.2.1.1, hts _ hk.2.1.2⟩ ⟨PcT_blind _, va_recv C.1.2.2.2.2.2.1.1 C.2.2.1.1 hc (wsG_at hb), fun U hU hW => ⟨rfl, by rw [hU]; exact C.2.2.1, EnvOK.moved hW (by rw [hU]; exact C.2.2.2.1) C.1.2.2.2.2.2.1⟩⟩ rfl (by rw [List.length_map]; exact hn) C.2.2.2.2.1.1 (by show _ = _; simp [tr]) ?_ hd ⟨?_, ?_⟩) C kk
  · have := C.1.2.2.2.2.2.2.2.1; omega
  · have := C.1.2.2.2.2.2.2.2.2; omega
  · rw [tr_cats]; show 2 * 0 + _ ≤ 8; omega
  · have := C.2.1.1; omega
  · have := C.2.1.2; omega
theorem T_callS {idx n d' mc' ms' : Nat} {j' : MD} {As stk : List Value} {Q' : Option Value → List va_E → Prop} (hd : decode j.2.1 pc = .ok (.invokestatic idx, 3)) (hk : MOk j' ∧ MStat j' ∧ MPar j' n) (hl : MLk j.1.cls idx j') (hM : T G d' mc' ms' j' 0 (LE j' As) [] σ Q') (hn : As.length = n) (hstk : stk = As.reverse ++ st) (h8 : (st.map fun v => v.category).sum ≤ 8) (hL : (LA As).length ≤ j'.2.2.1) (hdd : d' + 1 ≤ d) (hmx : j'.2.2.1 ≤ 16) (kk : ∀ r σ', Q' r σ' → T G d mc ms j (pc + 3) L (r.toList ++ st) σ' Q) : T G d (mc' + mc) (ms' + ms) j pc L stk σ Q := by
  intro p l e R s m args below meth c H locs cells slots Qs ls C
  subst hstk
  have hts := C.1.2.2.2.2.1
  have hM' := T.met (l := l) hk.1 hL hM
  refine T_core (va_runS (As := As.map (tr G)) (g := F0 m pc ls _) ⟨C.1.1, C.1.2.1, C.1.2.2.1, C.1.2.2.2.1, hts⟩ hM' ⟨callB_T hts hk.1 hk.2.2 hl ⟨?_, ?_⟩, hts _ hk.2.1⟩ ⟨PcT_blind _, fun U hU hW => ⟨rfl, by rw [hU]; exact C.2.2.1, EnvOK.moved hW (by rw [hU]; exact C.2.2.2.1) C.1.2.2.2.2.2.1⟩⟩ rfl (by rw [List.length_map]; exact hn) C.2.2.2.2.1.1 (by show _ = _; simp) ?_ hd ⟨?_, ?_⟩) C kk
  · have := C.1.2.2.2.2.2.2.2.1; omega
  · have := C.1.2.2.2.2.2.2.2.2; omega
  · rw [tr_cats]; show 2 * 0 + _ ≤ 8; omega
  · have := C.2.1.1; omega
  · have := C.2.1.2; omega
theorem T_callSN {idx n d' mc' ms' : Nat} {j' : MD} {As stk : List Value} {Q' : Option Value → List va_E → Prop} (hd : decode j.2.1 pc = .ok (.invokestatic idx, 3)) (hk : MOk j' ∧ MStat j' ∧ MPar j' n) (hl : MNk j.1.cls idx j') (hM : T G d' mc' ms' j' 0 (LE j' As) [] σ Q') (hn : As.length = n) (hstk : stk = As.reverse ++ st) (h8 : (st.map fun v => v.category).sum ≤ 8) (hL : (LA As).length ≤ j'.2.2.1) (hdd : d' + 1 ≤ d) (hmx : j'.2.2.1 ≤ 16) (kk : ∀ r σ', Q' r σ' → T G d mc ms j (pc + 3) L (r.toList ++ st) σ' Q) : T G d (mc' + mc) (ms' + ms) j pc L stk σ Q := by
  intro p l e R s m args below meth c H locs cells slots Qs ls C
  subst hstk
  have hts := C.1.2.2.2.2.1
  have hM' := T.met (l := l) hk.1 hL hM
  refine T_core (va_runSN (host := "WaryHouses") (As := As.map (tr G)) (g := F0 m pc ls _) ⟨C.1.1, C.1.2.1, C.1.2.2.1, C.1.2.2.2.1, hts⟩ hM' ⟨callN_T hts C.1.2.2.2.2.2.1.2.1 hk.1 hk.2.2 hl ⟨?_, ?_⟩, hts _ hk.2.1, trivial⟩ ⟨PcT_blind _, fun U hU hW => ⟨rfl, by rw [hU]; exact C.2.2.1, EnvOK.moved hW (by rw [hU]; exact C.2.2.2.1) C.1.2.2.2.2.2.1⟩⟩ rfl (by rw [List.length_map]; exact hn) C.2.2.2.2.1.1 (by show _ = _; simp) ?_ hd ⟨?_, ?_⟩) C kk
  · have := C.1.2.2.2.2.2.2.2.1; omega
  · have := C.1.2.2.2.2.2.2.2.2; omega
  · rw [tr_cats]; show 2 * 0 + _ ≤ 8; omega
  · have := C.2.1.1; omega
  · have := C.2.1.2; omega
theorem T_callI {idx n b d' mc' ms' : Nat} {j' : MD} {As stk : List Value} {Q' : Option Value → List va_E → Prop} (hd : decode j.2.1 pc = .ok (.invokespecial idx, 3)) (hk : MOk j' ∧ MIni j' ∧ MPar j' n) (hr : j'.2.2.2 = none) (hl : MLk j.1.cls idx j') (hM : T G d' mc' ms' j' 0 (LE j' (.ref b :: As)) [] σ Q') (hn : As.length = n) (hstk : stk = As.reverse ++ .ref b :: st) (h8 : (st.map fun v => v.category).sum ≤ 8) (hL : (LA (.ref b :: As)).length ≤ j'.2.2.1) (hdd : d' + 1 ≤ d) (hmx : j'.2.2.1 ≤ 16) (kk : ∀ r σ', Q' r σ' → T G d mc ms j (pc + 3) L (r.toList ++ st) σ' Q) : T G d (mc' + mc) (ms' + ms) j pc L stk σ Q := by
  intro p l e R s m args below meth c H locs cells slots Qs ls C
  subst hstk
  have hts := C.1.2.2.2.2.1
  have hM' := T.met (l := l) hk.1 hL hM
  have hB := callB_T (n := n) (d' := d') (mc' := mc') (ms' := ms') (R := R) hts hk.1 hk.2.2 hl ⟨by have := C.1.2.2.2.2.2.2.2.1; omega, by have := C.1.2.2.2.2.2.2.2.2; omega⟩
  rw [hr] at hB hM'
  refine T_core (va_runI (b := gB G + b) (As := As.map (tr G)) (g := F0 m pc ls _) ⟨C.1.1, C.1.2.1, C.1.2.2.1, C.1.2.2.2.1, hts⟩ hM' ⟨hB, hk.2.1.2, hts _ hk.2.1.1⟩ ⟨PcT_blind (.ref b :: As), fun U hU hW => ⟨rfl, by rw [hU]; exact C.2.2.1, EnvOK.moved hW (by rw [hU]; exact C.2.2.2.1) C.1.2.2.2.2.2.1⟩⟩ rfl (by rw [List.length_map]; exact hn) C.2.2.2.2.1.1 (by show _ = _; simp [tr]) ?_ hd ⟨?_, ?_⟩) C kk
  · rw [tr_cats]; show 2 * 0 + _ ≤ 8; omega
  · have := C.2.1.1; omega
  · have := C.2.1.2; omega
theorem T_callIN {idx n b d' mc' ms' : Nat} {j' : MD} {As stk : List Value} {Q' : Option Value → List va_E → Prop} (hd : decode j.2.1 pc = .ok (.invokespecial idx, 3)) (hk : MOk j' ∧ MIni j' ∧ MPar j' n) (hr : j'.2.2.2 = none) (hl : MNk j.1.cls idx j') (hM : T G d' mc' ms' j' 0 (LE j' (.ref b :: As)) [] σ Q') (hn : As.length = n) (hstk : stk = As.reverse ++ .ref b :: st) (h8 : (st.map fun v => v.category).sum ≤ 8) (hL : (LA (.ref b :: As)).length ≤ j'.2.2.1) (hdd : d' + 1 ≤ d) (hmx : j'.2.2.1 ≤ 16) (kk : ∀ r σ', Q' r σ' → T G d mc ms j (pc + 3) L (r.toList ++ st) σ' Q) : T G d (mc' + mc) (ms' + ms) j pc L stk σ Q := by
  intro p l e R s m args below meth c H locs cells slots Qs ls C
  subst hstk
  have hts := C.1.2.2.2.2.1
  have hM' := T.met (l := l) hk.1 hL hM
  have hB := callN_T (n := n) (d' := d') (mc' := mc') (ms' := ms') (R := R) hts C.1.2.2.2.2.2.1.2.1 hk.1 hk.2.2 hl ⟨by have := C.1.2.2.2.2.2.2.2.1; omega, by have := C.1.2.2.2.2.2.2.2.2; omega⟩
  rw [hr] at hB hM'
  refine T_core (va_runIN (host := "WaryHouses") (b := gB G + b) (As := As.map (tr G)) (g := F0 m pc ls _) ⟨C.1.1, C.1.2.1, C.1.2.2.1, C.1.2.2.2.1, hts⟩ hM' ⟨hB, hk.2.1.2, hts _ hk.2.1.1⟩ ⟨PcT_blind (.ref b :: As), fun U hU hW => ⟨rfl, by rw [hU]; exact C.2.2.1, EnvOK.moved hW (by rw [hU]; exact C.2.2.2.1) C.1.2.2.2.2.2.1⟩⟩ rfl (by rw [List.length_map]; exact hn) C.2.2.2.2.1.1 (by show _ = _; simp [tr]) ?_ hd ⟨?_, ?_⟩) C kk
  · rw [tr_cats]; show 2 * 0 + _ ≤ 8; omega
  · have := C.2.1.1; omega
  · have := C.2.1.2; omega
end TN
end
