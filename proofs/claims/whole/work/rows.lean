section
-- ===== PART A: goes FIRST, ahead of the names: the tables' words, and 'selects' of the private methods out of them =====
/-- a private method of a class that the tables say can be made, by its rows of tables_1 -/
def lw_okq (q : MethodName × Nat) : Prop := (q.1.cls ≠ "java/lang/invoke/MethodHandle" ∧ q.1.cls ≠ "java/lang/invoke/VarHandle") ∧ Cond.instantiable q.1.cls q.2 ∈ tables_1 ∧ Cond.privateMethod q.1 ∈ tables_1 ∧ Cond.instanceMethod q.1 ∈ tables_1
theorem lw_p0 : lw_okq (⟨"CardsAndBans", "readRules", "()I"⟩, 11) := ⟨⟨by decide +kernel, by decide +kernel⟩, List.mem_of_getElem? (i := 20) (by decide +kernel), List.mem_of_getElem? (i := 231) (by decide +kernel), List.mem_of_getElem? (i := 232) (by decide +kernel)⟩
theorem lw_p1 : lw_okq (⟨"CardsAndBans", "readRulesOf", "(I)V"⟩, 11) := ⟨⟨by decide +kernel, by decide +kernel⟩, List.mem_of_getElem? (i := 20) (by decide +kernel), List.mem_of_getElem? (i := 263) (by decide +kernel), List.mem_of_getElem? (i := 264) (by decide +kernel)⟩
theorem lw_p2 : lw_okq (⟨"CardsAndBans$Text", "isDigitNext", "()Z"⟩, 4) := ⟨⟨by decide +kernel, by decide +kernel⟩, List.mem_of_getElem? (i := 28) (by decide +kernel), List.mem_of_getElem? (i := 281) (by decide +kernel), List.mem_of_getElem? (i := 282) (by decide +kernel)⟩
theorem lw_p3 : lw_okq (⟨"CardsAndBans", "readStepsOf", "(I)V"⟩, 11) := ⟨⟨by decide +kernel, by decide +kernel⟩, List.mem_of_getElem? (i := 20) (by decide +kernel), List.mem_of_getElem? (i := 288) (by decide +kernel), List.mem_of_getElem? (i := 289) (by decide +kernel)⟩
theorem lw_p4 : lw_okq (⟨"CardsAndBans", "wrongSign", "()I"⟩, 11) := ⟨⟨by decide +kernel, by decide +kernel⟩, List.mem_of_getElem? (i := 20) (by decide +kernel), List.mem_of_getElem? (i := 323) (by decide +kernel), List.mem_of_getElem? (i := 324) (by decide +kernel)⟩
theorem lw_p5 : lw_okq (⟨"CardsAndBans", "readTeams", "()V"⟩, 11) := ⟨⟨by decide +kernel, by decide +kernel⟩, List.mem_of_getElem? (i := 20) (by decide +kernel), List.mem_of_getElem? (i := 338) (by decide +kernel), List.mem_of_getElem? (i := 339) (by decide +kernel)⟩
theorem lw_p6 : lw_okq (⟨"CardsAndBans", "writeRules", "()V"⟩, 11) := ⟨⟨by decide +kernel, by decide +kernel⟩, List.mem_of_getElem? (i := 20) (by decide +kernel), List.mem_of_getElem? (i := 380) (by decide +kernel), List.mem_of_getElem? (i := 381) (by decide +kernel)⟩
theorem lw_p7 : lw_okq (⟨"CardsAndBans", "isPlayer", "(I)Z"⟩, 11) := ⟨⟨by decide +kernel, by decide +kernel⟩, List.mem_of_getElem? (i := 20) (by decide +kernel), List.mem_of_getElem? (i := 405) (by decide +kernel), List.mem_of_getElem? (i := 406) (by decide +kernel)⟩
theorem lw_p8 : lw_okq (⟨"CardsAndBans", "readCards", "()V"⟩, 11) := ⟨⟨by decide +kernel, by decide +kernel⟩, List.mem_of_getElem? (i := 20) (by decide +kernel), List.mem_of_getElem? (i := 442) (by decide +kernel), List.mem_of_getElem? (i := 443) (by decide +kernel)⟩
theorem lw_p9 : lw_okq (⟨"CardsAndBans$Match", "banBy", "(II)I"⟩, 8) := ⟨⟨by decide +kernel, by decide +kernel⟩, List.mem_of_getElem? (i := 454) (by decide +kernel), List.mem_of_getElem? (i := 534) (by decide +kernel), List.mem_of_getElem? (i := 535) (by decide +kernel)⟩
theorem lw_p10 : lw_okq (⟨"CardsAndBans$Match", "finishOf", "(I)V"⟩, 8) := ⟨⟨by decide +kernel, by decide +kernel⟩, List.mem_of_getElem? (i := 454) (by decide +kernel), List.mem_of_getElem? (i := 566) (by decide +kernel), List.mem_of_getElem? (i := 567) (by decide +kernel)⟩
theorem lw_p11 : lw_okq (⟨"CardsAndBans", "readGiven", "()V"⟩, 11) := ⟨⟨by decide +kernel, by decide +kernel⟩, List.mem_of_getElem? (i := 20) (by decide +kernel), List.mem_of_getElem? (i := 610) (by decide +kernel), List.mem_of_getElem? (i := 611) (by decide +kernel)⟩
theorem lw_p12 : lw_okq (⟨"CardsAndBans", "isBan", "(I)Z"⟩, 11) := ⟨⟨by decide +kernel, by decide +kernel⟩, List.mem_of_getElem? (i := 20) (by decide +kernel), List.mem_of_getElem? (i := 622) (by decide +kernel), List.mem_of_getElem? (i := 623) (by decide +kernel)⟩
theorem lw_p13 : lw_okq (⟨"CardsAndBans", "readMatches", "()V"⟩, 11) := ⟨⟨by decide +kernel, by decide +kernel⟩, List.mem_of_getElem? (i := 20) (by decide +kernel), List.mem_of_getElem? (i := 732) (by decide +kernel), List.mem_of_getElem? (i := 733) (by decide +kernel)⟩
theorem lw_p14 : lw_okq (⟨"CardsAndBans", "isMatchOf", "(II)Z"⟩, 11) := ⟨⟨by decide +kernel, by decide +kernel⟩, List.mem_of_getElem? (i := 20) (by decide +kernel), List.mem_of_getElem? (i := 737) (by decide +kernel), List.mem_of_getElem? (i := 738) (by decide +kernel)⟩
theorem lw_p15 : lw_okq (⟨"CardsAndBans", "fairestBeside", "(I)I"⟩, 11) := ⟨⟨by decide +kernel, by decide +kernel⟩, List.mem_of_getElem? (i := 20) (by decide +kernel), List.mem_of_getElem? (i := 805) (by decide +kernel), List.mem_of_getElem? (i := 806) (by decide +kernel)⟩
def lw_privs_1 : List (MethodName × Nat) := [(⟨"CardsAndBans", "readRules", "()I"⟩, 11), (⟨"CardsAndBans", "readRulesOf", "(I)V"⟩, 11), (⟨"CardsAndBans$Text", "isDigitNext", "()Z"⟩, 4), (⟨"CardsAndBans", "readStepsOf", "(I)V"⟩, 11), (⟨"CardsAndBans", "wrongSign", "()I"⟩, 11), (⟨"CardsAndBans", "readTeams", "()V"⟩, 11), (⟨"CardsAndBans", "writeRules", "()V"⟩, 11), (⟨"CardsAndBans", "isPlayer", "(I)Z"⟩, 11), (⟨"CardsAndBans", "readCards", "()V"⟩, 11), (⟨"CardsAndBans$Match", "banBy", "(II)I"⟩, 8), (⟨"CardsAndBans$Match", "finishOf", "(I)V"⟩, 8), (⟨"CardsAndBans", "readGiven", "()V"⟩, 11), (⟨"CardsAndBans", "isBan", "(I)Z"⟩, 11), (⟨"CardsAndBans", "readMatches", "()V"⟩, 11), (⟨"CardsAndBans", "isMatchOf", "(II)Z"⟩, 11), (⟨"CardsAndBans", "fairestBeside", "(I)I"⟩, 11)]
theorem lw_r1 : ∀ q ∈ lw_privs_1, lw_okq q := List.forall_mem_cons.mpr ⟨lw_p0, List.forall_mem_cons.mpr ⟨lw_p1, List.forall_mem_cons.mpr ⟨lw_p2, List.forall_mem_cons.mpr ⟨lw_p3, List.forall_mem_cons.mpr ⟨lw_p4, List.forall_mem_cons.mpr ⟨lw_p5, List.forall_mem_cons.mpr ⟨lw_p6, List.forall_mem_cons.mpr ⟨lw_p7, List.forall_mem_cons.mpr ⟨lw_p8, List.forall_mem_cons.mpr ⟨lw_p9, List.forall_mem_cons.mpr ⟨lw_p10, List.forall_mem_cons.mpr ⟨lw_p11, List.forall_mem_cons.mpr ⟨lw_p12, List.forall_mem_cons.mpr ⟨lw_p13, List.forall_mem_cons.mpr ⟨lw_p14, List.forall_mem_cons.mpr ⟨lw_p15, fun _ h => absurd h List.not_mem_nil⟩⟩⟩⟩⟩⟩⟩⟩⟩⟩⟩⟩⟩⟩⟩⟩
theorem lw_p16 : lw_okq (⟨"java/lang/Throwable", "fillInStackTrace", "(I)Ljava/lang/Throwable;"⟩, 6) := ⟨⟨by decide +kernel, by decide +kernel⟩, List.mem_of_getElem? (i := 903) (by decide +kernel), List.mem_of_getElem? (i := 901) (by decide +kernel), List.mem_of_getElem? (i := 902) (by decide +kernel)⟩
theorem lw_p17 : lw_okq (⟨"CardsAndBansModel", "begin", "()V"⟩, 36) := ⟨⟨by decide +kernel, by decide +kernel⟩, List.mem_of_getElem? (i := 928) (by decide +kernel), List.mem_of_getElem? (i := 1064) (by decide +kernel), List.mem_of_getElem? (i := 1065) (by decide +kernel)⟩
theorem lw_p18 : lw_okq (⟨"CardsAndBansModel", "readsRule", "(I)I"⟩, 36) := ⟨⟨by decide +kernel, by decide +kernel⟩, List.mem_of_getElem? (i := 928) (by decide +kernel), List.mem_of_getElem? (i := 1068) (by decide +kernel), List.mem_of_getElem? (i := 1069) (by decide +kernel)⟩
theorem lw_p19 : lw_okq (⟨"CardsAndBansModel", "digit", "(II)I"⟩, 36) := ⟨⟨by decide +kernel, by decide +kernel⟩, List.mem_of_getElem? (i := 928) (by decide +kernel), List.mem_of_getElem? (i := 1072) (by decide +kernel), List.mem_of_getElem? (i := 1073) (by decide +kernel)⟩
theorem lw_p20 : lw_okq (⟨"CardsAndBansModel", "sees", "()I"⟩, 36) := ⟨⟨by decide +kernel, by decide +kernel⟩, List.mem_of_getElem? (i := 928) (by decide +kernel), List.mem_of_getElem? (i := 1076) (by decide +kernel), List.mem_of_getElem? (i := 1077) (by decide +kernel)⟩
theorem lw_p21 : lw_okq (⟨"CardsAndBansModel", "fault", "(I)V"⟩, 36) := ⟨⟨by decide +kernel, by decide +kernel⟩, List.mem_of_getElem? (i := 928) (by decide +kernel), List.mem_of_getElem? (i := 1080) (by decide +kernel), List.mem_of_getElem? (i := 1081) (by decide +kernel)⟩
theorem lw_p22 : lw_okq (⟨"CardsAndBansModel", "expect", "(C)V"⟩, 36) := ⟨⟨by decide +kernel, by decide +kernel⟩, List.mem_of_getElem? (i := 928) (by decide +kernel), List.mem_of_getElem? (i := 1084) (by decide +kernel), List.mem_of_getElem? (i := 1085) (by decide +kernel)⟩
theorem lw_p23 : lw_okq (⟨"CardsAndBansModel", "number", "(II)I"⟩, 36) := ⟨⟨by decide +kernel, by decide +kernel⟩, List.mem_of_getElem? (i := 928) (by decide +kernel), List.mem_of_getElem? (i := 1088) (by decide +kernel), List.mem_of_getElem? (i := 1089) (by decide +kernel)⟩
theorem lw_p24 : lw_okq (⟨"CardsAndBansModel", "readsSteps", "(I)V"⟩, 36) := ⟨⟨by decide +kernel, by decide +kernel⟩, List.mem_of_getElem? (i := 928) (by decide +kernel), List.mem_of_getElem? (i := 1094) (by decide +kernel), List.mem_of_getElem? (i := 1095) (by decide +kernel)⟩
theorem lw_p25 : lw_okq (⟨"CardsAndBansModel", "endsText", "()V"⟩, 36) := ⟨⟨by decide +kernel, by decide +kernel⟩, List.mem_of_getElem? (i := 928) (by decide +kernel), List.mem_of_getElem? (i := 1098) (by decide +kernel), List.mem_of_getElem? (i := 1099) (by decide +kernel)⟩
theorem lw_p26 : lw_okq (⟨"CardsAndBansModel", "isPlayer", "(I)Z"⟩, 36) := ⟨⟨by decide +kernel, by decide +kernel⟩, List.mem_of_getElem? (i := 928) (by decide +kernel), List.mem_of_getElem? (i := 1122) (by decide +kernel), List.mem_of_getElem? (i := 1123) (by decide +kernel)⟩
theorem lw_p27 : lw_okq (⟨"CardsAndBansModel", "banOf", "(II)I"⟩, 36) := ⟨⟨by decide +kernel, by decide +kernel⟩, List.mem_of_getElem? (i := 928) (by decide +kernel), List.mem_of_getElem? (i := 1126) (by decide +kernel), List.mem_of_getElem? (i := 1127) (by decide +kernel)⟩
theorem lw_p28 : lw_okq (⟨"CardsAndBansModel", "isOpen", "(I)Z"⟩, 36) := ⟨⟨by decide +kernel, by decide +kernel⟩, List.mem_of_getElem? (i := 928) (by decide +kernel), List.mem_of_getElem? (i := 1130) (by decide +kernel), List.mem_of_getElem? (i := 1131) (by decide +kernel)⟩
theorem lw_p29 : lw_okq (⟨"CardsAndBansModel", "tell", "(J)V"⟩, 36) := ⟨⟨by decide +kernel, by decide +kernel⟩, List.mem_of_getElem? (i := 928) (by decide +kernel), List.mem_of_getElem? (i := 1134) (by decide +kernel), List.mem_of_getElem? (i := 1135) (by decide +kernel)⟩
theorem lw_p30 : lw_okq (⟨"CardsAndBansModel", "readsCards", "()V"⟩, 36) := ⟨⟨by decide +kernel, by decide +kernel⟩, List.mem_of_getElem? (i := 928) (by decide +kernel), List.mem_of_getElem? (i := 1149) (by decide +kernel), List.mem_of_getElem? (i := 1150) (by decide +kernel)⟩
theorem lw_p31 : lw_okq (⟨"CardsAndBansModel", "lays", "()V"⟩, 36) := ⟨⟨by decide +kernel, by decide +kernel⟩, List.mem_of_getElem? (i := 928) (by decide +kernel), List.mem_of_getElem? (i := 1153) (by decide +kernel), List.mem_of_getElem? (i := 1154) (by decide +kernel)⟩
def lw_privs_2 : List (MethodName × Nat) := [(⟨"java/lang/Throwable", "fillInStackTrace", "(I)Ljava/lang/Throwable;"⟩, 6), (⟨"CardsAndBansModel", "begin", "()V"⟩, 36), (⟨"CardsAndBansModel", "readsRule", "(I)I"⟩, 36), (⟨"CardsAndBansModel", "digit", "(II)I"⟩, 36), (⟨"CardsAndBansModel", "sees", "()I"⟩, 36), (⟨"CardsAndBansModel", "fault", "(I)V"⟩, 36), (⟨"CardsAndBansModel", "expect", "(C)V"⟩, 36), (⟨"CardsAndBansModel", "number", "(II)I"⟩, 36), (⟨"CardsAndBansModel", "readsSteps", "(I)V"⟩, 36), (⟨"CardsAndBansModel", "endsText", "()V"⟩, 36), (⟨"CardsAndBansModel", "isPlayer", "(I)Z"⟩, 36), (⟨"CardsAndBansModel", "banOf", "(II)I"⟩, 36), (⟨"CardsAndBansModel", "isOpen", "(I)Z"⟩, 36), (⟨"CardsAndBansModel", "tell", "(J)V"⟩, 36), (⟨"CardsAndBansModel", "readsCards", "()V"⟩, 36), (⟨"CardsAndBansModel", "lays", "()V"⟩, 36)]
theorem lw_r2 : ∀ q ∈ lw_privs_2, lw_okq q := List.forall_mem_cons.mpr ⟨lw_p16, List.forall_mem_cons.mpr ⟨lw_p17, List.forall_mem_cons.mpr ⟨lw_p18, List.forall_mem_cons.mpr ⟨lw_p19, List.forall_mem_cons.mpr ⟨lw_p20, List.forall_mem_cons.mpr ⟨lw_p21, List.forall_mem_cons.mpr ⟨lw_p22, List.forall_mem_cons.mpr ⟨lw_p23, List.forall_mem_cons.mpr ⟨lw_p24, List.forall_mem_cons.mpr ⟨lw_p25, List.forall_mem_cons.mpr ⟨lw_p26, List.forall_mem_cons.mpr ⟨lw_p27, List.forall_mem_cons.mpr ⟨lw_p28, List.forall_mem_cons.mpr ⟨lw_p29, List.forall_mem_cons.mpr ⟨lw_p30, List.forall_mem_cons.mpr ⟨lw_p31, fun _ h => absurd h List.not_mem_nil⟩⟩⟩⟩⟩⟩⟩⟩⟩⟩⟩⟩⟩⟩⟩⟩
theorem lw_p32 : lw_okq (⟨"CardsAndBansModel", "serves", "(III)V"⟩, 36) := ⟨⟨by decide +kernel, by decide +kernel⟩, List.mem_of_getElem? (i := 928) (by decide +kernel), List.mem_of_getElem? (i := 1157) (by decide +kernel), List.mem_of_getElem? (i := 1158) (by decide +kernel)⟩
theorem lw_p33 : lw_okq (⟨"CardsAndBansModel", "barring", "(II)I"⟩, 36) := ⟨⟨by decide +kernel, by decide +kernel⟩, List.mem_of_getElem? (i := 928) (by decide +kernel), List.mem_of_getElem? (i := 1161) (by decide +kernel), List.mem_of_getElem? (i := 1162) (by decide +kernel)⟩
theorem lw_p34 : lw_okq (⟨"CardsAndBansModel", "bars", "(II)Z"⟩, 36) := ⟨⟨by decide +kernel, by decide +kernel⟩, List.mem_of_getElem? (i := 928) (by decide +kernel), List.mem_of_getElem? (i := 1165) (by decide +kernel), List.mem_of_getElem? (i := 1166) (by decide +kernel)⟩
theorem lw_p35 : lw_okq (⟨"CardsAndBansModel", "isOf", "(II)Z"⟩, 36) := ⟨⟨by decide +kernel, by decide +kernel⟩, List.mem_of_getElem? (i := 928) (by decide +kernel), List.mem_of_getElem? (i := 1169) (by decide +kernel), List.mem_of_getElem? (i := 1170) (by decide +kernel)⟩
theorem lw_p36 : lw_okq (⟨"CardsAndBansModel", "isIn", "(III)Z"⟩, 36) := ⟨⟨by decide +kernel, by decide +kernel⟩, List.mem_of_getElem? (i := 928) (by decide +kernel), List.mem_of_getElem? (i := 1173) (by decide +kernel), List.mem_of_getElem? (i := 1174) (by decide +kernel)⟩
theorem lw_p37 : lw_okq (⟨"CardsAndBansModel", "sets", "(III)V"⟩, 36) := ⟨⟨by decide +kernel, by decide +kernel⟩, List.mem_of_getElem? (i := 928) (by decide +kernel), List.mem_of_getElem? (i := 1177) (by decide +kernel), List.mem_of_getElem? (i := 1178) (by decide +kernel)⟩
theorem lw_p38 : lw_okq (⟨"CardsAndBansModel", "writes", "(II)V"⟩, 36) := ⟨⟨by decide +kernel, by decide +kernel⟩, List.mem_of_getElem? (i := 928) (by decide +kernel), List.mem_of_getElem? (i := 1181) (by decide +kernel), List.mem_of_getElem? (i := 1182) (by decide +kernel)⟩
theorem lw_p39 : lw_okq (⟨"CardsAndBansModel", "shows", "(IIII)I"⟩, 36) := ⟨⟨by decide +kernel, by decide +kernel⟩, List.mem_of_getElem? (i := 928) (by decide +kernel), List.mem_of_getElem? (i := 1185) (by decide +kernel), List.mem_of_getElem? (i := 1186) (by decide +kernel)⟩
theorem lw_p40 : lw_okq (⟨"CardsAndBansModel", "sends", "(I)V"⟩, 36) := ⟨⟨by decide +kernel, by decide +kernel⟩, List.mem_of_getElem? (i := 928) (by decide +kernel), List.mem_of_getElem? (i := 1189) (by decide +kernel), List.mem_of_getElem? (i := 1190) (by decide +kernel)⟩
theorem lw_p41 : lw_okq (⟨"CardsAndBansModel", "stepFor", "(II)I"⟩, 36) := ⟨⟨by decide +kernel, by decide +kernel⟩, List.mem_of_getElem? (i := 928) (by decide +kernel), List.mem_of_getElem? (i := 1193) (by decide +kernel), List.mem_of_getElem? (i := 1194) (by decide +kernel)⟩
theorem lw_p42 : lw_okq (⟨"CardsAndBansModel", "comes", "(III)Z"⟩, 36) := ⟨⟨by decide +kernel, by decide +kernel⟩, List.mem_of_getElem? (i := 928) (by decide +kernel), List.mem_of_getElem? (i := 1197) (by decide +kernel), List.mem_of_getElem? (i := 1198) (by decide +kernel)⟩
theorem lw_p43 : lw_okq (⟨"CardsAndBansModel", "puts", "()V"⟩, 36) := ⟨⟨by decide +kernel, by decide +kernel⟩, List.mem_of_getElem? (i := 928) (by decide +kernel), List.mem_of_getElem? (i := 1201) (by decide +kernel), List.mem_of_getElem? (i := 1202) (by decide +kernel)⟩
theorem lw_p44 : lw_okq (⟨"CardsAndBansModel", "hasPlayed", "(II)V"⟩, 36) := ⟨⟨by decide +kernel, by decide +kernel⟩, List.mem_of_getElem? (i := 928) (by decide +kernel), List.mem_of_getElem? (i := 1205) (by decide +kernel), List.mem_of_getElem? (i := 1206) (by decide +kernel)⟩
theorem lw_p45 : lw_okq (⟨"CardsAndBansModel", "did", "()V"⟩, 36) := ⟨⟨by decide +kernel, by decide +kernel⟩, List.mem_of_getElem? (i := 928) (by decide +kernel), List.mem_of_getElem? (i := 1209) (by decide +kernel), List.mem_of_getElem? (i := 1210) (by decide +kernel)⟩
theorem lw_p46 : lw_okq (⟨"CardsAndBansModel", "does", "()V"⟩, 36) := ⟨⟨by decide +kernel, by decide +kernel⟩, List.mem_of_getElem? (i := 928) (by decide +kernel), List.mem_of_getElem? (i := 1217) (by decide +kernel), List.mem_of_getElem? (i := 1218) (by decide +kernel)⟩
theorem lw_p47 : lw_okq (⟨"CardsAndBansModel", "pendingMany", "()I"⟩, 36) := ⟨⟨by decide +kernel, by decide +kernel⟩, List.mem_of_getElem? (i := 928) (by decide +kernel), List.mem_of_getElem? (i := 1238) (by decide +kernel), List.mem_of_getElem? (i := 1239) (by decide +kernel)⟩
def lw_privs_3 : List (MethodName × Nat) := [(⟨"CardsAndBansModel", "serves", "(III)V"⟩, 36), (⟨"CardsAndBansModel", "barring", "(II)I"⟩, 36), (⟨"CardsAndBansModel", "bars", "(II)Z"⟩, 36), (⟨"CardsAndBansModel", "isOf", "(II)Z"⟩, 36), (⟨"CardsAndBansModel", "isIn", "(III)Z"⟩, 36), (⟨"CardsAndBansModel", "sets", "(III)V"⟩, 36), (⟨"CardsAndBansModel", "writes", "(II)V"⟩, 36), (⟨"CardsAndBansModel", "shows", "(IIII)I"⟩, 36), (⟨"CardsAndBansModel", "sends", "(I)V"⟩, 36), (⟨"CardsAndBansModel", "stepFor", "(II)I"⟩, 36), (⟨"CardsAndBansModel", "comes", "(III)Z"⟩, 36), (⟨"CardsAndBansModel", "puts", "()V"⟩, 36), (⟨"CardsAndBansModel", "hasPlayed", "(II)V"⟩, 36), (⟨"CardsAndBansModel", "did", "()V"⟩, 36), (⟨"CardsAndBansModel", "does", "()V"⟩, 36), (⟨"CardsAndBansModel", "pendingMany", "()I"⟩, 36)]
theorem lw_r3 : ∀ q ∈ lw_privs_3, lw_okq q := List.forall_mem_cons.mpr ⟨lw_p32, List.forall_mem_cons.mpr ⟨lw_p33, List.forall_mem_cons.mpr ⟨lw_p34, List.forall_mem_cons.mpr ⟨lw_p35, List.forall_mem_cons.mpr ⟨lw_p36, List.forall_mem_cons.mpr ⟨lw_p37, List.forall_mem_cons.mpr ⟨lw_p38, List.forall_mem_cons.mpr ⟨lw_p39, List.forall_mem_cons.mpr ⟨lw_p40, List.forall_mem_cons.mpr ⟨lw_p41, List.forall_mem_cons.mpr ⟨lw_p42, List.forall_mem_cons.mpr ⟨lw_p43, List.forall_mem_cons.mpr ⟨lw_p44, List.forall_mem_cons.mpr ⟨lw_p45, List.forall_mem_cons.mpr ⟨lw_p46, List.forall_mem_cons.mpr ⟨lw_p47, fun _ h => absurd h List.not_mem_nil⟩⟩⟩⟩⟩⟩⟩⟩⟩⟩⟩⟩⟩⟩⟩⟩
theorem lw_p48 : lw_okq (⟨"CardsAndBansModel", "isBan", "(I)Z"⟩, 36) := ⟨⟨by decide +kernel, by decide +kernel⟩, List.mem_of_getElem? (i := 928) (by decide +kernel), List.mem_of_getElem? (i := 1246) (by decide +kernel), List.mem_of_getElem? (i := 1247) (by decide +kernel)⟩
theorem lw_p49 : lw_okq (⟨"CardsAndBansModel", "allCautions", "()I"⟩, 36) := ⟨⟨by decide +kernel, by decide +kernel⟩, List.mem_of_getElem? (i := 928) (by decide +kernel), List.mem_of_getElem? (i := 1262) (by decide +kernel), List.mem_of_getElem? (i := 1263) (by decide +kernel)⟩
theorem lw_p50 : lw_okq (⟨"CardsAndBansModel", "outOf", "(II)I"⟩, 36) := ⟨⟨by decide +kernel, by decide +kernel⟩, List.mem_of_getElem? (i := 928) (by decide +kernel), List.mem_of_getElem? (i := 1274) (by decide +kernel), List.mem_of_getElem? (i := 1275) (by decide +kernel)⟩
theorem lw_p51 : lw_okq (⟨"CardsAndBansModel", "isOut", "(II)Z"⟩, 36) := ⟨⟨by decide +kernel, by decide +kernel⟩, List.mem_of_getElem? (i := 928) (by decide +kernel), List.mem_of_getElem? (i := 1278) (by decide +kernel), List.mem_of_getElem? (i := 1279) (by decide +kernel)⟩
theorem lw_p52 : lw_okq (⟨"CardsAndBansModel", "missed", "(IIZ)I"⟩, 36) := ⟨⟨by decide +kernel, by decide +kernel⟩, List.mem_of_getElem? (i := 928) (by decide +kernel), List.mem_of_getElem? (i := 1282) (by decide +kernel), List.mem_of_getElem? (i := 1283) (by decide +kernel)⟩
theorem lw_p53 : lw_okq (⟨"CardsAndBansModel", "leftOf", "(I)I"⟩, 36) := ⟨⟨by decide +kernel, by decide +kernel⟩, List.mem_of_getElem? (i := 928) (by decide +kernel), List.mem_of_getElem? (i := 1294) (by decide +kernel), List.mem_of_getElem? (i := 1295) (by decide +kernel)⟩
theorem lw_p54 : lw_okq (⟨"CardsAndBansModel", "writesSign", "(I)V"⟩, 36) := ⟨⟨by decide +kernel, by decide +kernel⟩, List.mem_of_getElem? (i := 928) (by decide +kernel), List.mem_of_getElem? (i := 1319) (by decide +kernel), List.mem_of_getElem? (i := 1320) (by decide +kernel)⟩
theorem lw_p55 : lw_okq (⟨"CardsAndBansModel", "writesRule", "(I)V"⟩, 36) := ⟨⟨by decide +kernel, by decide +kernel⟩, List.mem_of_getElem? (i := 928) (by decide +kernel), List.mem_of_getElem? (i := 1323) (by decide +kernel), List.mem_of_getElem? (i := 1324) (by decide +kernel)⟩
theorem lw_p56 : lw_okq (⟨"CardsAndBansModel", "writesNumber", "(I)V"⟩, 36) := ⟨⟨by decide +kernel, by decide +kernel⟩, List.mem_of_getElem? (i := 928) (by decide +kernel), List.mem_of_getElem? (i := 1327) (by decide +kernel), List.mem_of_getElem? (i := 1328) (by decide +kernel)⟩
theorem lw_p57 : lw_okq (⟨"CardsAndBansModel", "readsList", "()V"⟩, 36) := ⟨⟨by decide +kernel, by decide +kernel⟩, List.mem_of_getElem? (i := 928) (by decide +kernel), List.mem_of_getElem? (i := 1348) (by decide +kernel), List.mem_of_getElem? (i := 1349) (by decide +kernel)⟩
theorem lw_p58 : lw_okq (⟨"CardsAndBansModel", "isTold", "(II)Z"⟩, 36) := ⟨⟨by decide +kernel, by decide +kernel⟩, List.mem_of_getElem? (i := 928) (by decide +kernel), List.mem_of_getElem? (i := 1352) (by decide +kernel), List.mem_of_getElem? (i := 1353) (by decide +kernel)⟩
theorem lw_p59 : lw_okq (⟨"CardsAndBansModel", "comesTo", "(I)V"⟩, 36) := ⟨⟨by decide +kernel, by decide +kernel⟩, List.mem_of_getElem? (i := 928) (by decide +kernel), List.mem_of_getElem? (i := 1356) (by decide +kernel), List.mem_of_getElem? (i := 1357) (by decide +kernel)⟩
theorem lw_p60 : lw_okq (⟨"CardsAndBansModel", "goesBy", "(III)V"⟩, 36) := ⟨⟨by decide +kernel, by decide +kernel⟩, List.mem_of_getElem? (i := 928) (by decide +kernel), List.mem_of_getElem? (i := 1360) (by decide +kernel), List.mem_of_getElem? (i := 1361) (by decide +kernel)⟩
theorem lw_p61 : lw_okq (⟨"CardsAndBansModel", "outOfSome", "()I"⟩, 36) := ⟨⟨by decide +kernel, by decide +kernel⟩, List.mem_of_getElem? (i := 928) (by decide +kernel), List.mem_of_getElem? (i := 1372) (by decide +kernel), List.mem_of_getElem? (i := 1373) (by decide +kernel)⟩
theorem lw_p62 : lw_okq (⟨"CardsAndBansModel", "openMany", "()I"⟩, 36) := ⟨⟨by decide +kernel, by decide +kernel⟩, List.mem_of_getElem? (i := 928) (by decide +kernel), List.mem_of_getElem? (i := 1376) (by decide +kernel), List.mem_of_getElem? (i := 1377) (by decide +kernel)⟩
theorem lw_p63 : lw_okq (⟨"CardsAndBansModel", "pointsOf", "(I)I"⟩, 36) := ⟨⟨by decide +kernel, by decide +kernel⟩, List.mem_of_getElem? (i := 928) (by decide +kernel), List.mem_of_getElem? (i := 1413) (by decide +kernel), List.mem_of_getElem? (i := 1414) (by decide +kernel)⟩
def lw_privs_4 : List (MethodName × Nat) := [(⟨"CardsAndBansModel", "isBan", "(I)Z"⟩, 36), (⟨"CardsAndBansModel", "allCautions", "()I"⟩, 36), (⟨"CardsAndBansModel", "outOf", "(II)I"⟩, 36), (⟨"CardsAndBansModel", "isOut", "(II)Z"⟩, 36), (⟨"CardsAndBansModel", "missed", "(IIZ)I"⟩, 36), (⟨"CardsAndBansModel", "leftOf", "(I)I"⟩, 36), (⟨"CardsAndBansModel", "writesSign", "(I)V"⟩, 36), (⟨"CardsAndBansModel", "writesRule", "(I)V"⟩, 36), (⟨"CardsAndBansModel", "writesNumber", "(I)V"⟩, 36), (⟨"CardsAndBansModel", "readsList", "()V"⟩, 36), (⟨"CardsAndBansModel", "isTold", "(II)Z"⟩, 36), (⟨"CardsAndBansModel", "comesTo", "(I)V"⟩, 36), (⟨"CardsAndBansModel", "goesBy", "(III)V"⟩, 36), (⟨"CardsAndBansModel", "outOfSome", "()I"⟩, 36), (⟨"CardsAndBansModel", "openMany", "()I"⟩, 36), (⟨"CardsAndBansModel", "pointsOf", "(I)I"⟩, 36)]
theorem lw_r4 : ∀ q ∈ lw_privs_4, lw_okq q := List.forall_mem_cons.mpr ⟨lw_p48, List.forall_mem_cons.mpr ⟨lw_p49, List.forall_mem_cons.mpr ⟨lw_p50, List.forall_mem_cons.mpr ⟨lw_p51, List.forall_mem_cons.mpr ⟨lw_p52, List.forall_mem_cons.mpr ⟨lw_p53, List.forall_mem_cons.mpr ⟨lw_p54, List.forall_mem_cons.mpr ⟨lw_p55, List.forall_mem_cons.mpr ⟨lw_p56, List.forall_mem_cons.mpr ⟨lw_p57, List.forall_mem_cons.mpr ⟨lw_p58, List.forall_mem_cons.mpr ⟨lw_p59, List.forall_mem_cons.mpr ⟨lw_p60, List.forall_mem_cons.mpr ⟨lw_p61, List.forall_mem_cons.mpr ⟨lw_p62, List.forall_mem_cons.mpr ⟨lw_p63, fun _ h => absurd h List.not_mem_nil⟩⟩⟩⟩⟩⟩⟩⟩⟩⟩⟩⟩⟩⟩⟩⟩
theorem lw_p64 : lw_okq (⟨"CardsAndBansModel", "entries", "()I"⟩, 36) := ⟨⟨by decide +kernel, by decide +kernel⟩, List.mem_of_getElem? (i := 928) (by decide +kernel), List.mem_of_getElem? (i := 1437) (by decide +kernel), List.mem_of_getElem? (i := 1438) (by decide +kernel)⟩
theorem lw_p65 : lw_okq (⟨"CardsAndBansModel", "pageAt", "(I)I"⟩, 36) := ⟨⟨by decide +kernel, by decide +kernel⟩, List.mem_of_getElem? (i := 928) (by decide +kernel), List.mem_of_getElem? (i := 1443) (by decide +kernel), List.mem_of_getElem? (i := 1444) (by decide +kernel)⟩
theorem lw_p66 : lw_okq (⟨"CardsAndBansModel", "lost", "()I"⟩, 36) := ⟨⟨by decide +kernel, by decide +kernel⟩, List.mem_of_getElem? (i := 928) (by decide +kernel), List.mem_of_getElem? (i := 1463) (by decide +kernel), List.mem_of_getElem? (i := 1464) (by decide +kernel)⟩
def lw_privs_5 : List (MethodName × Nat) := [(⟨"CardsAndBansModel", "entries", "()I"⟩, 36), (⟨"CardsAndBansModel", "pageAt", "(I)I"⟩, 36), (⟨"CardsAndBansModel", "lost", "()I"⟩, 36)]
theorem lw_r5 : ∀ q ∈ lw_privs_5, lw_okq q := List.forall_mem_cons.mpr ⟨lw_p64, List.forall_mem_cons.mpr ⟨lw_p65, List.forall_mem_cons.mpr ⟨lw_p66, fun _ h => absurd h List.not_mem_nil⟩⟩⟩
def lw_privs : List (MethodName × Nat) := lw_privs_1 ++ (lw_privs_2 ++ (lw_privs_3 ++ (lw_privs_4 ++ (lw_privs_5))))
def lw_tbl : List Cond := k2_sels lw_privs ++ tables_1
theorem lw_privs_ok : ∀ q ∈ lw_privs, lw_okq q := by
  show ∀ q ∈ lw_privs_1 ++ (lw_privs_2 ++ (lw_privs_3 ++ (lw_privs_4 ++ (lw_privs_5)))), lw_okq q
  exact List.forall_mem_append.mpr ⟨lw_r1, List.forall_mem_append.mpr ⟨lw_r2, List.forall_mem_append.mpr ⟨lw_r3, List.forall_mem_append.mpr ⟨lw_r4, lw_r5⟩⟩⟩⟩

/-! names: the classes of the abstract heap, their fields in the order of the tables, the words that stay good -/
def cb_T0 : u_T := fun k => match k with
  | 0 => ("CardsAndBans", "text", "LCardsAndBans$Text;", true)
  | 1 => ("CardsAndBans", "page", "LCardsAndBans$Text;", true)
  | 2 => ("CardsAndBans", "items", "LCardsAndBans$Items;", true)
  | 3 => ("CardsAndBans", "row", "LCardsAndBans$Row;", true)
  | 4 => ("CardsAndBans", "rules", "LCardsAndBans$Rules;", true)
  | 5 => ("CardsAndBans", "draft", "LCardsAndBans$Rules;", true)
  | 6 => ("CardsAndBans", "now", "LCardsAndBans$State;", true)
  | 7 => ("CardsAndBans", "thought", "LCardsAndBans$State;", true)
  | 8 => ("CardsAndBans", "kept", "LCardsAndBans$State;", true)
  | 9 => ("CardsAndBans", "history", "LCardsAndBans$History;", true)
  | _ => ("CardsAndBans", "isKept", "Z", false)
def cb_y0 : Nat → FieldType := fun k => match k with
  | 0 => .object "CardsAndBans$Text"
  | 1 => .object "CardsAndBans$Text"
  | 2 => .object "CardsAndBans$Items"
  | 3 => .object "CardsAndBans$Row"
  | 4 => .object "CardsAndBans$Rules"
  | 5 => .object "CardsAndBans$Rules"
  | 6 => .object "CardsAndBans$State"
  | 7 => .object "CardsAndBans$State"
  | 8 => .object "CardsAndBans$State"
  | 9 => .object "CardsAndBans$History"
  | _ => .boolean
theorem cb_n0 : ∀ a, a < 11 → ∀ b, b < 11 → a ≠ b → (cb_T0 a).2.1 ≠ (cb_T0 b).2.1 := by decide +kernel
theorem cb_p0 : ∀ k, k < 11 → parseFieldDescriptor (cb_T0 k).2.2.1 = some (cb_y0 k) := by decide +kernel
def cb_T1 : u_T := fun k => match k with
  | 0 => ("CardsAndBans$Text", "signs", "[C", true)
  | 1 => ("CardsAndBans$Text", "length", "I", false)
  | 2 => ("CardsAndBans$Text", "at", "I", false)
  | _ => ("CardsAndBans$Text", "fault", "I", false)
def cb_y1 : Nat → FieldType := fun k => match k with
  | 0 => .array (.char)
  | 1 => .int
  | 2 => .int
  | _ => .int
theorem cb_n1 : ∀ a, a < 4 → ∀ b, b < 4 → a ≠ b → (cb_T1 a).2.1 ≠ (cb_T1 b).2.1 := by decide +kernel
theorem cb_p1 : ∀ k, k < 4 → parseFieldDescriptor (cb_T1 k).2.2.1 = some (cb_y1 k) := by decide +kernel
def cb_T2 : u_T := fun k => match k with
  | 0 => ("CardsAndBans$Items", "numbers", "[I", true)
  | _ => ("CardsAndBans$Items", "size", "I", false)
def cb_y2 : Nat → FieldType := fun k => match k with
  | 0 => .array (.int)
  | _ => .int
theorem cb_n2 : ∀ a, a < 2 → ∀ b, b < 2 → a ≠ b → (cb_T2 a).2.1 ≠ (cb_T2 b).2.1 := by decide +kernel
theorem cb_p2 : ∀ k, k < 2 → parseFieldDescriptor (cb_T2 k).2.2.1 = some (cb_y2 k) := by decide +kernel
def cb_T3 : u_T := fun k => match k with
  | 0 => ("CardsAndBans$Row", "numbers", "[I", true)
  | _ => ("CardsAndBans$Row", "size", "I", false)
def cb_y3 : Nat → FieldType := fun k => match k with
  | 0 => .array (.int)
  | _ => .int
theorem cb_n3 : ∀ a, a < 2 → ∀ b, b < 2 → a ≠ b → (cb_T3 a).2.1 ≠ (cb_T3 b).2.1 := by decide +kernel
theorem cb_p3 : ∀ k, k < 2 → parseFieldDescriptor (cb_T3 k).2.2.1 = some (cb_y3 k) := by decide +kernel
def cb_T4 : u_T := fun k => match k with
  | _ => ("CardsAndBans$Rules", "numbers", "[I", true)
def cb_y4 : Nat → FieldType := fun k => match k with
  | _ => .array (.int)
theorem cb_n4 : ∀ a, a < 1 → ∀ b, b < 1 → a ≠ b → (cb_T4 a).2.1 ≠ (cb_T4 b).2.1 := by decide +kernel
theorem cb_p4 : ∀ k, k < 1 → parseFieldDescriptor (cb_T4 k).2.2.1 = some (cb_y4 k) := by decide +kernel
def cb_T5 : u_T := fun k => match k with
  | 0 => ("CardsAndBans$State", "players", "I", false)
  | 1 => ("CardsAndBans$State", "matches", "I", false)
  | 2 => ("CardsAndBans$State", "banCount", "I", false)
  | 3 => ("CardsAndBans$State", "entriesEver", "I", false)
  | 4 => ("CardsAndBans$State", "teams", "[I", true)
  | 5 => ("CardsAndBans$State", "cautionCounts", "[I", true)
  | 6 => ("CardsAndBans$State", "playedCounts", "[I", true)
  | 7 => ("CardsAndBans$State", "playerCards", "[I", true)
  | 8 => ("CardsAndBans$State", "teamCards", "[I", true)
  | 9 => ("CardsAndBans$State", "banNumbers", "[I", true)
  | _ => ("CardsAndBans$State", "entries", "[I", true)
def cb_y5 : Nat → FieldType := fun k => match k with
  | 0 => .int
  | 1 => .int
  | 2 => .int
  | 3 => .int
  | 4 => .array (.int)
  | 5 => .array (.int)
  | 6 => .array (.int)
  | 7 => .array (.int)
  | 8 => .array (.int)
  | 9 => .array (.int)
  | _ => .array (.int)
theorem cb_n5 : ∀ a, a < 11 → ∀ b, b < 11 → a ≠ b → (cb_T5 a).2.1 ≠ (cb_T5 b).2.1 := by decide +kernel
theorem cb_p5 : ∀ k, k < 11 → parseFieldDescriptor (cb_T5 k).2.2.1 = some (cb_y5 k) := by decide +kernel
def cb_T6 : u_T := fun k => match k with
  | 0 => ("CardsAndBans$History", "states", "[LCardsAndBans$State;", true)
  | 1 => ("CardsAndBans$History", "next", "I", false)
  | _ => ("CardsAndBans$History", "size", "I", false)
def cb_y6 : Nat → FieldType := fun k => match k with
  | 0 => .array (.object "CardsAndBans$State")
  | 1 => .int
  | _ => .int
theorem cb_n6 : ∀ a, a < 3 → ∀ b, b < 3 → a ≠ b → (cb_T6 a).2.1 ≠ (cb_T6 b).2.1 := by decide +kernel
theorem cb_p6 : ∀ k, k < 3 → parseFieldDescriptor (cb_T6 k).2.2.1 = some (cb_y6 k) := by decide +kernel
def cb_T7 : u_T := fun k => match k with
  | 0 => ("CardsAndBans$Match", "state", "LCardsAndBans$State;", true)
  | 1 => ("CardsAndBans$Match", "rules", "LCardsAndBans$Rules;", true)
  | 2 => ("CardsAndBans$Match", "cup", "I", true)
  | 3 => ("CardsAndBans$Match", "a", "I", true)
  | 4 => ("CardsAndBans$Match", "b", "I", true)
  | 5 => ("CardsAndBans$Match", "outs", "I", false)
  | 6 => ("CardsAndBans$Match", "cautioned", "I", false)
  | _ => ("CardsAndBans$Match", "sentOff", "I", false)
def cb_y7 : Nat → FieldType := fun k => match k with
  | 0 => .object "CardsAndBans$State"
  | 1 => .object "CardsAndBans$Rules"
  | 2 => .int
  | 3 => .int
  | 4 => .int
  | 5 => .int
  | 6 => .int
  | _ => .int
theorem cb_n7 : ∀ a, a < 8 → ∀ b, b < 8 → a ≠ b → (cb_T7 a).2.1 ≠ (cb_T7 b).2.1 := by decide +kernel
theorem cb_p7 : ∀ k, k < 8 → parseFieldDescriptor (cb_T7 k).2.2.1 = some (cb_y7 k) := by decide +kernel
def cb_T8 : u_T := fun k => match k with
  | 0 => ("CardsAndBansModel", "w", "[I", true)
  | 1 => ("CardsAndBansModel", "aside", "[I", true)
  | 2 => ("CardsAndBansModel", "kept", "[I", true)
  | 3 => ("CardsAndBansModel", "isKept", "Z", false)
  | 4 => ("CardsAndBansModel", "past", "[I", true)
  | 5 => ("CardsAndBansModel", "pastMany", "I", false)
  | 6 => ("CardsAndBansModel", "rule", "[I", true)
  | 7 => ("CardsAndBansModel", "stepAt", "[I", true)
  | 8 => ("CardsAndBansModel", "stepGives", "[I", true)
  | 9 => ("CardsAndBansModel", "text", "[B", true)
  | 10 => ("CardsAndBansModel", "typed", "I", false)
  | 11 => ("CardsAndBansModel", "row", "[J", true)
  | 12 => ("CardsAndBansModel", "rowMany", "I", false)
  | 13 => ("CardsAndBansModel", "thrown", "I", false)
  | 14 => ("CardsAndBansModel", "servedNow", "I", false)
  | 15 => ("CardsAndBansModel", "outNow", "I", false)
  | 16 => ("CardsAndBansModel", "cardRed", "[I", true)
  | 17 => ("CardsAndBansModel", "cardOf", "[I", true)
  | 18 => ("CardsAndBansModel", "cardMany", "I", false)
  | 19 => ("CardsAndBansModel", "cautioned", "I", false)
  | 20 => ("CardsAndBansModel", "sentOff", "I", false)
  | 21 => ("CardsAndBansModel", "size", "I", false)
  | 22 => ("CardsAndBansModel", "here", "I", false)
  | 23 => ("CardsAndBansModel", "wrong", "I", false)
  | 24 => ("CardsAndBansModel", "read", "[I", true)
  | 25 => ("CardsAndBansModel", "readAt", "[I", true)
  | 26 => ("CardsAndBansModel", "readGives", "[I", true)
  | 27 => ("CardsAndBansModel", "givenTo", "[I", true)
  | 28 => ("CardsAndBansModel", "givenIn", "[I", true)
  | 29 => ("CardsAndBansModel", "givenFor", "[I", true)
  | 30 => ("CardsAndBansModel", "page", "[B", true)
  | 31 => ("CardsAndBansModel", "pageMany", "I", false)
  | 32 => ("CardsAndBansModel", "listCup", "[I", true)
  | 33 => ("CardsAndBansModel", "listOne", "[I", true)
  | 34 => ("CardsAndBansModel", "listTwo", "[I", true)
  | _ => ("CardsAndBansModel", "listMany", "I", false)
def cb_y8 : Nat → FieldType := fun k => match k with
  | 0 => .array (.int)
  | 1 => .array (.int)
  | 2 => .array (.int)
  | 3 => .boolean
  | 4 => .array (.int)
  | 5 => .int
  | 6 => .array (.int)
  | 7 => .array (.int)
  | 8 => .array (.int)
  | 9 => .array (.byte)
  | 10 => .int
  | 11 => .array (.long)
  | 12 => .int
  | 13 => .int
  | 14 => .int
  | 15 => .int
  | 16 => .array (.int)
  | 17 => .array (.int)
  | 18 => .int
  | 19 => .int
  | 20 => .int
  | 21 => .int
  | 22 => .int
  | 23 => .int
  | 24 => .array (.int)
  | 25 => .array (.int)
  | 26 => .array (.int)
  | 27 => .array (.int)
  | 28 => .array (.int)
  | 29 => .array (.int)
  | 30 => .array (.byte)
  | 31 => .int
  | 32 => .array (.int)
  | 33 => .array (.int)
  | 34 => .array (.int)
  | _ => .int
theorem cb_n8 : ∀ a, a < 36 → ∀ b, b < 36 → a ≠ b → (cb_T8 a).2.1 ≠ (cb_T8 b).2.1 := by decide +kernel
theorem cb_p8 : ∀ k, k < 36 → parseFieldDescriptor (cb_T8 k).2.2.1 = some (cb_y8 k) := by decide +kernel
def cb_T9 : u_T := fun _ => ("java/lang/Throwable", "depth", "I", false)
abbrev cb_cl : List vw_C := [("CardsAndBans", cb_T0, 11), ("CardsAndBans$Text", cb_T1, 4), ("CardsAndBans$Items", cb_T2, 2), ("CardsAndBans$Row", cb_T3, 2), ("CardsAndBans$Rules", cb_T4, 1), ("CardsAndBans$State", cb_T5, 11), ("CardsAndBans$History", cb_T6, 3), ("CardsAndBans$Match", cb_T7, 8), ("CardsAndBansModel", cb_T8, 36), ("java/util/NoSuchElementException", cb_T9, 0)]
def cb_gw : List Cond := lw_tbl.filter goodWord
theorem cb_gm {w : Cond} (i : Nat) (h : lw_tbl[i]? = some w) (g : goodWord w = true) : w ∈ cb_gw := List.mem_filter.mpr ⟨List.mem_of_getElem? h, g⟩
theorem cb_gs {ws : List Cond} (ps : List Nat) (hp : ws = ps.filterMap (fun i => lw_tbl[i]?)) (h : ws.all goodWord = true) : ∀ w ∈ ws, w ∈ cb_gw := by
  intro w hw
  have h1 := List.all_eq_true.mp h w hw
  rw [hp] at hw
  obtain ⟨i, -, hi⟩ := List.mem_filterMap.mp hw
  exact cb_gm i hi h1
theorem cb_gg : ∀ w ∈ cb_gw, w ∈ lw_tbl ∧ ((w.onTables && w.keeps) = true ∨ ∃ ty, w = .arrayClass ty) := fun w h => ⟨(List.mem_filter.mp h).1, good_of_word (List.mem_filter.mp h).2⟩
theorem cb_i0 : ∀ w ∈ u_ws "CardsAndBans" cb_T0 11, w ∈ cb_gw := cb_gs [250, 252, 254, 256, 258, 260, 262, 264, 266, 268, 270] (by decide +kernel) (by decide +kernel)
theorem cb_i1 : ∀ w ∈ u_ws "CardsAndBans$Text" cb_T1 4, w ∈ cb_gw := cb_gs [107, 109, 111, 113] (by decide +kernel) (by decide +kernel)
theorem cb_i2 : ∀ w ∈ u_ws "CardsAndBans$Items" cb_T2 2, w ∈ cb_gw := cb_gs [127, 129] (by decide +kernel) (by decide +kernel)
theorem cb_i3 : ∀ w ∈ u_ws "CardsAndBans$Row" cb_T3 2, w ∈ cb_gw := cb_gs [142, 144] (by decide +kernel) (by decide +kernel)
theorem cb_i4 : ∀ w ∈ u_ws "CardsAndBans$Rules" cb_T4 1, w ∈ cb_gw := cb_gs [165] (by decide +kernel) (by decide +kernel)
theorem cb_i5 : ∀ w ∈ u_ws "CardsAndBans$State" cb_T5 11, w ∈ cb_gw := cb_gs [197, 199, 201, 203, 205, 207, 209, 211, 213, 215, 217] (by decide +kernel) (by decide +kernel)
theorem cb_i6 : ∀ w ∈ u_ws "CardsAndBans$History" cb_T6 3, w ∈ cb_gw := cb_gs [232, 234, 236] (by decide +kernel) (by decide +kernel)
theorem cb_i7 : ∀ w ∈ u_ws "CardsAndBans$Match" cb_T7 8, w ∈ cb_gw := cb_gs [535, 537, 539, 541, 543, 545, 547, 549] (by decide +kernel) (by decide +kernel)
theorem cb_i8 : ∀ w ∈ u_ws "CardsAndBansModel" cb_T8 36, w ∈ cb_gw := cb_gs [1036, 1038, 1040, 1042, 1044, 1046, 1048, 1050, 1052, 1054, 1056, 1058, 1060, 1062, 1064, 1066, 1068, 1070, 1072, 1074, 1076, 1078, 1080, 1082, 1084, 1086, 1088, 1090, 1092, 1094, 1096, 1098, 1100, 1102, 1104, 1106] (by decide +kernel) (by decide +kernel)
/-- the words of nest mates: they stay, but are not among the good ones -/
def cb_nw : List Cond := [(Jvm.Cond.methodLinkNest "CardsAndBans" (9 : Nat) ({ cls := "CardsAndBans$Text", name := "<init>", desc := "()V" } : Jvm.MethodName) "CardsAndBans"), (Jvm.Cond.fieldLinkNest "CardsAndBans" (71 : Nat) "CardsAndBans$Text" "length" "I" "CardsAndBans"), (Jvm.Cond.fieldLinkNest "CardsAndBans" (363 : Nat) "CardsAndBans$Text" "at" "I" "CardsAndBans"), (Jvm.Cond.fieldLinkNest "CardsAndBans" (351 : Nat) "CardsAndBans$Text" "fault" "I" "CardsAndBans"), (Jvm.Cond.methodLinkNest "CardsAndBans" (21 : Nat) ({ cls := "CardsAndBans$Items", name := "<init>", desc := "()V" } : Jvm.MethodName) "CardsAndBans"), (Jvm.Cond.fieldLinkNest "CardsAndBans$State" (52 : Nat) "CardsAndBans$Items" "size" "I" "CardsAndBans"), (Jvm.Cond.fieldLinkNest "CardsAndBans" (177 : Nat) "CardsAndBans$Items" "size" "I" "CardsAndBans"), (Jvm.Cond.methodLinkNest "CardsAndBans" (28 : Nat) ({ cls := "CardsAndBans$Row", name := "<init>", desc := "()V" } : Jvm.MethodName) "CardsAndBans"), (Jvm.Cond.fieldLinkNest "CardsAndBans" (314 : Nat) "CardsAndBans$Row" "size" "I" "CardsAndBans"), (Jvm.Cond.methodLinkNest "CardsAndBans" (45 : Nat) ({ cls := "CardsAndBans$State", name := "<init>", desc := "()V" } : Jvm.MethodName) "CardsAndBans"), (Jvm.Cond.fieldLinkNest "CardsAndBans$Match" (41 : Nat) "CardsAndBans$State" "players" "I" "CardsAndBans"), (Jvm.Cond.fieldLinkNest "CardsAndBans" (106 : Nat) "CardsAndBans$State" "players" "I" "CardsAndBans"), (Jvm.Cond.fieldLinkNest "CardsAndBans$Match" (29 : Nat) "CardsAndBans$State" "matches" "I" "CardsAndBans"), (Jvm.Cond.fieldLinkNest "CardsAndBans" (195 : Nat) "CardsAndBans$State" "matches" "I" "CardsAndBans"), (Jvm.Cond.fieldLinkNest "CardsAndBans$Match" (67 : Nat) "CardsAndBans$State" "banCount" "I" "CardsAndBans"), (Jvm.Cond.fieldLinkNest "CardsAndBans" (129 : Nat) "CardsAndBans$State" "banCount" "I" "CardsAndBans"), (Jvm.Cond.fieldLinkNest "CardsAndBans$Match" (57 : Nat) "CardsAndBans$State" "teams" "[I" "CardsAndBans"), (Jvm.Cond.fieldLinkNest "CardsAndBans" (144 : Nat) "CardsAndBans$State" "teams" "[I" "CardsAndBans"), (Jvm.Cond.fieldLinkNest "CardsAndBans" (238 : Nat) "CardsAndBans$State" "cautionCounts" "[I" "CardsAndBans"), (Jvm.Cond.fieldLinkNest "CardsAndBans" (247 : Nat) "CardsAndBans$State" "playedCounts" "[I" "CardsAndBans"), (Jvm.Cond.fieldLinkNest "CardsAndBans" (331 : Nat) "CardsAndBans$State" "playerCards" "[I" "CardsAndBans"), (Jvm.Cond.fieldLinkNest "CardsAndBans" (319 : Nat) "CardsAndBans$State" "teamCards" "[I" "CardsAndBans"), (Jvm.Cond.methodLinkNest "CardsAndBans" (58 : Nat) ({ cls := "CardsAndBans$History", name := "<init>", desc := "()V" } : Jvm.MethodName) "CardsAndBans"), (Jvm.Cond.fieldLinkNest "CardsAndBans" (347 : Nat) "CardsAndBans$History" "size" "I" "CardsAndBans"), (Jvm.Cond.methodLinkNest "CardsAndBans$State" (73 : Nat) ({ cls := "CardsAndBans", name := "bit", desc := "(I)I" } : Jvm.MethodName) "CardsAndBans"), (Jvm.Cond.fieldLinkNest "CardsAndBans" (198 : Nat) "CardsAndBans$Match" "outs" "I" "CardsAndBans"), (Jvm.Cond.methodLinkNest "CardsAndBans$Match" (44 : Nat) ({ cls := "CardsAndBans", name := "hasBit", desc := "(II)Z" } : Jvm.MethodName) "CardsAndBans"), (Jvm.Cond.methodLinkNest "CardsAndBans$Match" (77 : Nat) ({ cls := "CardsAndBans", name := "bit", desc := "(I)I" } : Jvm.MethodName) "CardsAndBans"), (Jvm.Cond.methodLinkNest "CardsAndBans$History" (24 : Nat) ({ cls := "CardsAndBans$State", name := "<init>", desc := "()V" } : Jvm.MethodName) "CardsAndBans")]
theorem cb_nt : ∀ w ∈ cb_nw, w ∈ lw_tbl := by
  have h : cb_nw = [96, 102, 104, 106, 119, 125, 126, 135, 141, 170, 175, 176, 177, 179, 181, 182, 185, 186, 188, 190, 192, 194, 222, 231, 503, 532, 576, 619, 656].filterMap (fun i => lw_tbl[i]?) := by decide +kernel
  intro w hw
  rw [h] at hw
  obtain ⟨i, -, hi⟩ := List.mem_filterMap.mp hw
  exact List.mem_of_getElem? hi
theorem cb_nwarm {s U : State} (hW : s.WarmedH U.vm) (h : ∀ w ∈ cb_nw, va_Nw w s) : ∀ w ∈ cb_nw, va_Nw w U := by
  have key : ∀ w ∈ cb_nw, (match w with | .fieldLinkNest .. => true | .methodLinkNest .. => true | _ => false) = true := by decide +kernel
  intro w hw
  have h1 := h w hw
  have h2 := key w hw
  cases w <;> first | exact va_Nw.warmF hW h1 | exact va_Nw.warmM hW h1 | cases h2
theorem cb_nof {s : State} {args : Array Value} (hts : ∀ w ∈ lw_tbl, w.before args s = true) : ∀ w ∈ cb_nw, va_Nw w s := by
  have key : ∀ w ∈ cb_nw, w.onTables = true := by decide +kernel
  exact fun w hw => va_Nw.of (key w hw) (hts w (cb_nt w hw))
end
