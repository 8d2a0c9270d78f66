section
-- ===== PART A: goes FIRST, ahead of the names: the tables' words, and 'selects' of the private methods out of them =====
/-- a private method of a class that the tables say can be made, by its rows of tables_1 -/
def lw_okq (q : MethodName × Nat) : Prop := (q.1.cls ≠ "java/lang/invoke/MethodHandle" ∧ q.1.cls ≠ "java/lang/invoke/VarHandle") ∧ Cond.instantiable q.1.cls q.2 ∈ tables_1 ∧ Cond.privateMethod q.1 ∈ tables_1 ∧ Cond.instanceMethod q.1 ∈ tables_1
theorem lw_p0 : lw_okq (⟨"CardsAndBans", "readRules", "()I"⟩, 11) := ⟨⟨by decide +kernel, by decide +kernel⟩, List.mem_of_getElem? (i := 20) (by decide +kernel), List.mem_of_getElem? (i := 231) (by decide +kernel), List.mem_of_getElem? (i := 232) (by decide +kernel)⟩
theorem lw_p1 : lw_okq (⟨"CardsAndBans", "readRulesOf", "(I)V"⟩, 11) := ⟨⟨by decide +kernel, by decide +kernel⟩, List.mem_of_getElem? (i := 20) (by decide +kernel), List.mem_of_getElem? (i := 263) (by decide +kernel), List.mem_of_getElem? (i := 264) (by decide +kernel)⟩
theorem lw_p2 : lw_okq (⟨"CardsAndBans$Text", "isDigitNext", "()Z"⟩, 4) := ⟨⟨by decide +kernel, by decide +kernel⟩, List.mem_of_getElem? (i := 28) (by decide +kernel), List.mem_of_getElem? (i := 281) (by decide +kernel), List.mem_of_getElem? (i := 282) (by decide +kernel)⟩
theorem lw_p3 : lw_okq (⟨"CardsAndBans", "readStepsOf", "(I)V"⟩, 11) := ⟨⟨by decide +kernel, by decide +kernel⟩, List.mem_of_getElem? (i := 20) (by decide +kernel), List.mem_of_getElem? (i := 288) (by decide +kernel), List.mem_of_getElem? (i := 289) (by decide +kernel)⟩
theorem lw_p4 : lw_okq (⟨"CardsAndBans", "wrongSign", "()I"⟩, 11) := ⟨⟨by decide +kernel, by decide +kernel⟩, List.mem_of_getElem? (i := 20) (by decide +kernel), List.mem_of_getElem? (i := 323) (by decide +kernel), List.mem_of_getElem? (i := 324) (by decide +kernel)⟩
theorem lw_p5 : lw_okq (⟨"CardsAndBans", "readTeams", "()V"⟩, 11) := ⟨⟨by decide +kernel, by decide +kernel⟩, List.mem_of_getElem? (i := 20) (by decide +kernel), List.mem_of_getElem? (i := 338) (by decide +kernel), List.mem_of_getElem? (i := 339) (by decide +kernel)⟩
theorem lw_p6 : lw_okq (⟨"CardsAndBans", "writeRules", "()V"⟩, 11) := ⟨⟨by decide +kernel, by decide +kernel⟩, List.mem_of_getElem? (i := 20) (by decide +kernel), List.mem_of_getElem? (i := 380) (by decide +kernel), List.mem_of_getElem? (i := 381) (by decide +kernel)⟩
theorem lw_p7 : lw_okq (⟨"CardsAndBans", "isPlayer", "(I)Z"⟩, 11) := ⟨⟨by decide +kernel, by decide +kernel⟩, List.mem_of_getElem? (i := 20) (by decide +kernel), List.mem_of_getElem? (i := 405) (by decide +kernel), List.mem_of_getElem? (i := 406) (by decide +kernel)⟩
theorem lw_p8 : lw_okq (⟨"CardsAndBans", "readCards", "()V"⟩, 11) := ⟨⟨by decide +kernel, by decide +kernel⟩, List.mem_of_getElem? (i := 20) (by decide +kernel), List.mem_of_getElem? (i := 442) (by decide +kernel), List.mem_of_getElem? (i := 443) (by decide +kernel)⟩
theorem lw_p9 : lw_okq (⟨"CardsAndBans$Match", "banBy", "(II)I"⟩, 8) := ⟨⟨by decide +kernel, by decide +kernel⟩, List.mem_of_getElem? (i := 454) (by decide +kernel), List.mem_of_getElem? (i := 534) (by decide +kernel), List.mem_of_getElem? (i := 535) (by decide +kernel)⟩
theorem lw_p10 : lw_okq (⟨"CardsAndBans$Match", "finishOf", "(I)V"⟩, 8) := ⟨⟨by decide +kernel, by decide +kernel⟩, List.mem_of_getElem? (i := 454) (by decide +kernel), List.mem_of_getElem? (i := 566) (by decide +kernel), List.mem_of_getElem? (i := 567) (by decide +kernel)⟩
theorem lw_p11 : lw_okq (⟨"CardsAndBans", "readGiven", "()V"⟩, 11) := ⟨⟨by decide +kernel, by decide +kernel⟩, List.mem_of_getElem? (i := 20) (by decide +kernel), List.mem_of_getElem? (i := 610) (by decide +kernel), List.mem_of_getElem? (i := 611) (by decide +kernel)⟩
theorem lw_p12 : lw_okq (⟨"CardsAndBans", "isBan", "(I)Z"⟩, 11) := ⟨⟨by decide +kernel, by decide +kernel⟩, List.mem_of_getElem? (i := 20) (by decide +kernel), List.mem_of_getElem? (i := 622) (by decide +kernel), List.mem_of_getElem? (i := 623) (by decide +kernel)⟩
theorem lw_p13 : lw_okq (⟨"CardsAndBans", "readMatches", "()V"⟩, 11) := ⟨⟨by decide +kernel, by decide +kernel⟩, List.mem_of_getElem? (i := 20) (by decide +kernel), List.mem_of_getElem? (i := 732) (by decide +kernel), List.mem_of_getElem? (i := 733) (by decide +kernel)⟩
theorem lw_p14 : lw_okq (⟨"CardsAndBans", "isMatchOf", "(II)Z"⟩, 11) := ⟨⟨by decide +kernel, by decide +kernel⟩, List.mem_of_getElem? (i := 20) (by decide +kernel), List.mem_of_getElem? (i := 737) (by decide +kernel), List.mem_of_getElem? (i := 738) (by decide +kernel)⟩
theorem lw_p15 : lw_okq (⟨"CardsAndBans", "fairestBeside", "(I)I"⟩, 11) := ⟨⟨by decide +kernel, by decide +kernel⟩, List.mem_of_getElem? (i := 20) (by decide +kernel), List.mem_of_getElem? (i := 805) (by decide +kernel), List.mem_of_getElem? (i := 806) (by decide +kernel)⟩
def lw_privs_1 : List (MethodName × Nat) := [(⟨"CardsAndBans", "readRules", "()I"⟩, 11), (⟨"CardsAndBans", "readRulesOf", "(I)V"⟩, 11), (⟨"CardsAndBans$Text", "isDigitNext", "()Z"⟩, 4), (⟨"CardsAndBans", "readStepsOf", "(I)V"⟩, 11), (⟨"CardsAndBans", "wrongSign", "()I"⟩, 11), (⟨"CardsAndBans", "readTeams", "()V"⟩, 11), (⟨"CardsAndBans", "writeRules", "()V"⟩, 11), (⟨"CardsAndBans", "isPlayer", "(I)Z"⟩, 11), (⟨"CardsAndBans", "readCards", "()V"⟩, 11), (⟨"CardsAndBans$Match", "banBy", "(II)I"⟩, 8), (⟨"CardsAndBans$Match", "finishOf", "(I)V"⟩, 8), (⟨"CardsAndBans", "readGiven", "()V"⟩, 11), (⟨"CardsAndBans", "isBan", "(I)Z"⟩, 11), (⟨"CardsAndBans", "readMatches", "()V"⟩, 11), (⟨"CardsAndBans", "isMatchOf", "(II)Z"⟩, 11), (⟨"CardsAndBans", "fairestBeside", "(I)I"⟩, 11)]
theorem lw_r1 : ∀ q ∈ lw_privs_1, lw_okq q := List.forall_mem_cons.mpr ⟨lw_p0, List.forall_mem_cons.mpr ⟨lw_p1, List.forall_mem_cons.mpr ⟨lw_p2, List.forall_mem_cons.mpr ⟨lw_p3, List.forall_mem_cons.mpr ⟨lw_p4, List.forall_mem_cons.mpr ⟨lw_p5, List.forall_mem_cons.mpr ⟨lw_p6, List.forall_mem_cons.mpr ⟨lw_p7, List.forall_mem_cons.mpr ⟨lw_p8, List.forall_mem_cons.mpr ⟨lw_p9, List.forall_mem_cons.mpr ⟨lw_p10, List.forall_mem_cons.mpr ⟨lw_p11, List.forall_mem_cons.mpr ⟨lw_p12, List.forall_mem_cons.mpr ⟨lw_p13, List.forall_mem_cons.mpr ⟨lw_p14, List.forall_mem_cons.mpr ⟨lw_p15, fun _ h => absurd h List.not_mem_nil⟩⟩⟩⟩⟩⟩⟩⟩⟩⟩⟩⟩⟩⟩⟩⟩
theorem lw_p16 : lw_okq (⟨"java/lang/Throwable", "fillInStackTrace", "(I)Ljava/lang/Throwable;"⟩, 6) := ⟨⟨by decide +kernel, by decide +kernel⟩, List.mem_of_getElem? (i := 903) (by decide +kernel), List.mem_of_getElem? (i := 901) (by decide +kernel), List.mem_of_getElem? (i := 902) (by decide +kernel)⟩
theorem lw_p17 : lw_okq (⟨"CardsAndBansModel", "begin", "()V"⟩, 36) := ⟨⟨by decide +kernel, by decide +kernel⟩, List.mem_of_getElem? (i := 928) (by decide +kernel), List.mem_of_getElem? (i := 1064) (by decide +kernel), List.mem_of_getElem? (i := 1065) (by decide +kernel)⟩
theorem lw_p18 : lw_okq (⟨"CardsAndBansModel", "readsRule", "(I)I"⟩, 36) := ⟨⟨by decide +kernel, by decide +kernel⟩, List.mem_of_getElem? (i := 928) (by decide +kernel), List.mem_of_getElem? (i := 1068) (by decide +kernel), List.mem_of_getElem? (i := 1069) (by decide +kernel)⟩
theorem lw_p19 : lw_okq (⟨"CardsAndBansModel", "digit", "(II)I"⟩, 36) := ⟨⟨by decide +kernel, by decide +kernel⟩, List.mem_of_getElem? (i := 928) (by decide +kernel), List.mem_of_getElem? (i := 1072) (by decide +kernel), List.mem_of_getElem? (i := 1073) (by decide +kernel)⟩
theorem lw_p20 : lw_okq (⟨"CardsAndBansModel", "sees", "()I"⟩, 36) := ⟨⟨by decide +kernel, by decide +kernel⟩, List.mem_of_getElem? (i := 928) (by decide +kernel), List.mem_of_getElem? (i := 1076) (by decide +kernel), List.mem_of_getElem? (i := 1077) (by decide +kernel)⟩
theorem lw_p21 : lw_okq (⟨"CardsAndBansModel", "fault", "(I)V"⟩, 36) := ⟨⟨by decide +kernel, by decide +kernel⟩, List.mem_of_getElem? (i := 928) (by decide +kernel), List.mem_of_getElem? (i := 1080) (by decide +kernel), List.mem_of_getElem? (i := 1081) (by decide +kernel)⟩
theorem lw_p22 : lw_okq (⟨"CardsAndBansModel", "expect", "(C)V"⟩, 36) := ⟨⟨by decide +kernel, by decide +kernel⟩, List.mem_of_getElem? (i := 928) (by decide +kernel), List.mem_of_getElem? (i := 1084) (by decide +kernel), List.mem_of_getElem? (i := 1085) (by decide +kernel)⟩
theorem lw_p23 : lw_okq (⟨"CardsAndBansModel", "number", "(II)I"⟩, 36) := ⟨⟨by decide +kernel, by decide +kernel⟩, List.mem_of_getElem? (i := 928) (by decide +kernel), List.mem_of_getElem? (i := 1088) (by decide +kernel), List.mem_of_getElem? (i := 1089) (by decide +kernel)⟩
theorem lw_p24 : lw_okq (⟨"CardsAndBansModel", "readsSteps", "(I)V"⟩, 36) := ⟨⟨by decide +kernel, by decide +kernel⟩, List.mem_of_getElem? (i := 928) (by decide +kernel), List.mem_of_getElem? (i := 1094) (by decide +kernel), List.mem_of_getElem? (i := 1095) (by decide +kernel)⟩
theorem lw_p25 : lw_okq (⟨"CardsAndBansModel", "endsText", "()V"⟩, 36) := ⟨⟨by decide +kernel, by decide +kernel⟩, List.mem_of_getElem? (i := 928) (by decide +kernel), List.mem_of_getElem? (i := 1098) (by decide +kernel), List.mem_of_getElem? (i := 1099) (by decide +kernel)⟩
theorem lw_p26 : lw_okq (⟨"CardsAndBansModel", "isPlayer", "(I)Z"⟩, 36) := ⟨⟨by decide +kernel, by decide +kernel⟩, List.mem_of_getElem? (i := 928) (by decide +kernel), List.mem_of_getElem? (i := 1122) (by decide +kernel), List.mem_of_getElem? (i := 1123) (by decide +kernel)⟩
theorem lw_p27 : lw_okq (⟨"CardsAndBansModel", "banOf", "(II)I"⟩, 36) := ⟨⟨by decide +kernel, by decide +kernel⟩, List.mem_of_getElem? (i := 928) (by decide +kernel), List.mem_of_getElem? (i := 1126) (by decide +kernel), List.mem_of_getElem? (i := 1127) (by decide +kernel)⟩
theorem lw_p28 : lw_okq (⟨"CardsAndBansModel", "isOpen", "(I)Z"⟩, 36) := ⟨⟨by decide +kernel, by decide +kernel⟩, List.mem_of_getElem? (i := 928) (by decide +kernel), List.mem_of_getElem? (i := 1130) (by decide +kernel), List.mem_of_getElem? (i := 1131) (by decide +kernel)⟩
theorem lw_p29 : lw_okq (⟨"CardsAndBansModel", "tell", "(J)V"⟩, 36) := ⟨⟨by decide +kernel, by decide +kernel⟩, List.mem_of_getElem? (i := 928) (by decide +kernel), List.mem_of_getElem? (i := 1134) (by decide +kernel), List.mem_of_getElem? (i := 1135) (by decide +kernel)⟩
theorem lw_p30 : lw_okq (⟨"CardsAndBansModel", "readsCards", "()V"⟩, 36) := ⟨⟨by decide +kernel, by decide +kernel⟩, List.mem_of_getElem? (i := 928) (by decide +kernel), List.mem_of_getElem? (i := 1149) (by decide +kernel), List.mem_of_getElem? (i := 1150) (by decide +kernel)⟩
theorem lw_p31 : lw_okq (⟨"CardsAndBansModel", "lays", "()V"⟩, 36) := ⟨⟨by decide +kernel, by decide +kernel⟩, List.mem_of_getElem? (i := 928) (by decide +kernel), List.mem_of_getElem? (i := 1153) (by decide +kernel), List.mem_of_getElem? (i := 1154) (by decide +kernel)⟩
def lw_privs_2 : List (MethodName × Nat) := [(⟨"java/lang/Throwable", "fillInStackTrace", "(I)Ljava/lang/Throwable;"⟩, 6), (⟨"CardsAndBansModel", "begin", "()V"⟩, 36), (⟨"CardsAndBansModel", "readsRule", "(I)I"⟩, 36), (⟨"CardsAndBansModel", "digit", "(II)I"⟩, 36), (⟨"CardsAndBansModel", "sees", "()I"⟩, 36), (⟨"CardsAndBansModel", "fault", "(I)V"⟩, 36), (⟨"CardsAndBansModel", "expect", "(C)V"⟩, 36), (⟨"CardsAndBansModel", "number", "(II)I"⟩, 36), (⟨"CardsAndBansModel", "readsSteps", "(I)V"⟩, 36), (⟨"CardsAndBansModel", "endsText", "()V"⟩, 36), (⟨"CardsAndBansModel", "isPlayer", "(I)Z"⟩, 36), (⟨"CardsAndBansModel", "banOf", "(II)I"⟩, 36), (⟨"CardsAndBansModel", "isOpen", "(I)Z"⟩, 36), (⟨"CardsAndBansModel", "tell", "(J)V"⟩, 36), (⟨"CardsAndBansModel", "readsCards", "()V"⟩, 36), (⟨"CardsAndBansModel", "lays", "()V"⟩, 36)]
theorem lw_r2 : ∀ q ∈ lw_privs_2, lw_okq q := List.forall_mem_cons.mpr ⟨lw_p16, List.forall_mem_cons.mpr ⟨lw_p17, List.forall_mem_cons.mpr ⟨lw_p18, List.forall_mem_cons.mpr ⟨lw_p19, List.forall_mem_cons.mpr ⟨lw_p20, List.forall_mem_cons.mpr ⟨lw_p21, List.forall_mem_cons.mpr ⟨lw_p22, List.forall_mem_cons.mpr ⟨lw_p23, List.forall_mem_cons.mpr ⟨lw_p24, List.forall_mem_cons.mpr ⟨lw_p25, List.forall_mem_cons.mpr ⟨lw_p26, List.forall_mem_cons.mpr ⟨lw_p27, List.forall_mem_cons.mpr ⟨lw_p28, List.forall_mem_cons.mpr ⟨lw_p29, List.forall_mem_cons.mpr ⟨lw_p30, List.forall_mem_cons.mpr ⟨lw_p31, fun _ h => absurd h List.not_mem_nil⟩⟩⟩⟩⟩⟩⟩⟩⟩⟩⟩⟩⟩⟩⟩⟩
theorem lw_p32 : lw_okq (⟨"CardsAndBansModel", "serves", "(III)V"⟩, 36) := ⟨⟨by decide +kernel, by decide +kernel⟩, List.mem_of_getElem? (i := 928) (by decide +kernel), List.mem_of_getElem? (i := 1157) (by decide +kernel), List.mem_of_getElem? (i := 1158) (by decide +kernel)⟩
theorem lw_p33 : lw_okq (⟨"CardsAndBansModel", "barring", "(II)I"⟩, 36) := ⟨⟨by decide +kernel, by decide +kernel⟩, List.mem_of_getElem? (i := 928) (by decide +kernel), List.mem_of_getElem? (i := 1161) (by decide +kernel), List.mem_of_getElem? (i := 1162) (by decide +kernel)⟩
theorem lw_p34 : lw_okq (⟨"CardsAndBansModel", "bars", "(II)Z"⟩, 36) := ⟨⟨by decide +kernel, by decide +kernel⟩, List.mem_of_getElem? (i := 928) (by decide +kernel), List.mem_of_getElem? (i := 1165) (by decide +kernel), List.mem_of_getElem? (i := 1166) (by decide +kernel)⟩
theorem lw_p35 : lw_okq (⟨"CardsAndBansModel", "isOf", "(II)Z"⟩, 36) := ⟨⟨by decide +kernel, by decide +kernel⟩, List.mem_of_getElem? (i := 928) (by decide +kernel), List.mem_of_getElem? (i := 1169) (by decide +kernel), List.mem_of_getElem? (i := 1170) (by decide +kernel)⟩
theorem lw_p36 : lw_okq (⟨"CardsAndBansModel", "isIn", "(III)Z"⟩, 36) := ⟨⟨by decide +kernel, by decide +kernel⟩, List.mem_of_getElem? (i := 928) (by decide +kernel), List.mem_of_getElem? (i := 1173) (by decide +kernel), List.mem_of_getElem? (i := 1174) (by decide +kernel)⟩
theorem lw_p37 : lw_okq (⟨"CardsAndBansModel", "sets", "(III)V"⟩, 36) := ⟨⟨by decide +kernel, by decide +kernel⟩, List.mem_of_getElem? (i := 928) (by decide +kernel), List.mem_of_getElem? (i := 1177) (by decide +kernel), List.mem_of_getElem? (i := 1178) (by decide +kernel)⟩
theorem lw_p38 : lw_okq (⟨"CardsAndBansModel", "writes", "(II)V"⟩, 36) := ⟨⟨by decide +kernel, by decide +kernel⟩, List.mem_of_getElem? (i := 928) (by decide +kernel), List.mem_of_getElem? (i := 1181) (by decide +kernel), List.mem_of_getElem? (i := 1182) (by decide +kernel)⟩
theorem lw_p39 : lw_okq (⟨"CardsAndBansModel", "shows", "(IIII)I"⟩, 36) := ⟨⟨by decide +kernel, by decide +kernel⟩, List.mem_of_getElem? (i := 928) (by decide +kernel), List.mem_of_getElem? (i := 1185) (by decide +kernel), List.mem_of_getElem? (i := 1186) (by decide +kernel)⟩
theorem lw_p40 : lw_okq (⟨"CardsAndBansModel", "sends", "(I)V"⟩, 36) := ⟨⟨by decide +kernel, by decide +kernel⟩, List.mem_of_getElem? (i := 928) (by decide +kernel), List.mem_of_getElem? (i := 1189) (by decide +kernel), List.mem_of_getElem? (i := 1190) (by decide +kernel)⟩
theorem lw_p41 : lw_okq (⟨"CardsAndBansModel", "stepFor", "(II)I"⟩, 36) := ⟨⟨by decide +kernel, by decide +kernel⟩, List.mem_of_getElem? (i := 928) (by decide +kernel), List.mem_of_getElem? (i := 1193) (by decide +kernel), List.mem_of_getElem? (i := 1194) (by decide +kernel)⟩
theorem lw_p42 : lw_okq (⟨"CardsAndBansModel", "comes", "(III)Z"⟩, 36) := ⟨⟨by decide +kernel, by decide +kernel⟩, List.mem_of_getElem? (i := 928) (by decide +kernel), List.mem_of_getElem? (i := 1197) (by decide +kernel), List.mem_of_getElem? (i := 1198) (by decide +kernel)⟩
theorem lw_p43 : lw_okq (⟨"CardsAndBansModel", "puts", "()V"⟩, 36) := ⟨⟨by decide +kernel, by decide +kernel⟩, List.mem_of_getElem? (i := 928) (by decide +kernel), List.mem_of_getElem? (i := 1201) (by decide +kernel), List.mem_of_getElem? (i := 1202) (by decide +kernel)⟩
theorem lw_p44 : lw_okq (⟨"CardsAndBansModel", "hasPlayed", "(II)V"⟩, 36) := ⟨⟨by decide +kernel, by decide +kernel⟩, List.mem_of_getElem? (i := 928) (by decide +kernel), List.mem_of_getElem? (i := 1205) (by decide +kernel), List.mem_of_getElem? (i := 1206) (by decide +kernel)⟩
theorem lw_p45 : lw_okq (⟨"CardsAndBansModel", "did", "()V"⟩, 36) := ⟨⟨by decide +kernel, by decide +kernel⟩, List.mem_of_getElem? (i := 928) (by decide +kernel), List.mem_of_getElem? (i := 1209) (by decide +kernel), List.mem_of_getElem? (i := 1210) (by decide +kernel)⟩
theorem lw_p46 : lw_okq (⟨"CardsAndBansModel", "does", "()V"⟩, 36) := ⟨⟨by decide +kernel, by decide +kernel⟩, List.mem_of_getElem? (i := 928) (by decide +kernel), List.mem_of_getElem? (i := 1217) (by decide +kernel), List.mem_of_getElem? (i := 1218) (by decide +kernel)⟩
theorem lw_p47 : lw_okq (⟨"CardsAndBansModel", "pendingMany", "()I"⟩, 36) := ⟨⟨by decide +kernel, by decide +kernel⟩, List.mem_of_getElem? (i := 928) (by decide +kernel), List.mem_of_getElem? (i := 1238) (by decide +kernel), List.mem_of_getElem? (i := 1239) (by decide +kernel)⟩
def lw_privs_3 : List (MethodName × Nat) := [(⟨"CardsAndBansModel", "serves", "(III)V"⟩, 36), (⟨"CardsAndBansModel", "barring", "(II)I"⟩, 36), (⟨"CardsAndBansModel", "bars", "(II)Z"⟩, 36), (⟨"CardsAndBansModel", "isOf", "(II)Z"⟩, 36), (⟨"CardsAndBansModel", "isIn", "(III)Z"⟩, 36), (⟨"CardsAndBansModel", "sets", "(III)V"⟩, 36), (⟨"CardsAndBansModel", "writes", "(II)V"⟩, 36), (⟨"CardsAndBansModel", "shows", "(IIII)I"⟩, 36), (⟨"CardsAndBansModel", "sends", "(I)V"⟩, 36), (⟨"CardsAndBansModel", "stepFor", "(II)I"⟩, 36), (⟨"CardsAndBansModel", "comes", "(III)Z"⟩, 36), (⟨"CardsAndBansModel", "puts", "()V"⟩, 36), (⟨"CardsAndBansModel", "hasPlayed", "(II)V"⟩, 36), (⟨"CardsAndBansModel", "did", "()V"⟩, 36), (⟨"CardsAndBansModel", "does", "()V"⟩, 36), (⟨"CardsAndBansModel", "pendingMany", "()I"⟩, 36)]
theorem lw_r3 : ∀ q ∈ lw_privs_3, lw_okq q := List.forall_mem_cons.mpr ⟨lw_p32, List.forall_mem_cons.mpr ⟨lw_p33, List.forall_mem_cons.mpr ⟨lw_p34, List.forall_mem_cons.mpr ⟨lw_p35, List.forall_mem_cons.mpr ⟨lw_p36, List.forall_mem_cons.mpr ⟨lw_p37, List.forall_mem_cons.mpr ⟨lw_p38, List.forall_mem_cons.mpr ⟨lw_p39, List.forall_mem_cons.mpr ⟨lw_p40, List.forall_mem_cons.mpr ⟨lw_p41, List.forall_mem_cons.mpr ⟨lw_p42, List.forall_mem_cons.mpr ⟨lw_p43, List.forall_mem_cons.mpr ⟨lw_p44, List.forall_mem_cons.mpr ⟨lw_p45, List.forall_mem_cons.mpr ⟨lw_p46, List.forall_mem_cons.mpr ⟨lw_p47, fun _ h => absurd h List.not_mem_nil⟩⟩⟩⟩⟩⟩⟩⟩⟩⟩⟩⟩⟩⟩⟩⟩
theorem lw_p48 : lw_okq (⟨"CardsAndBansModel", "isBan", "(I)Z"⟩, 36) := ⟨⟨by decide +kernel, by decide +kernel⟩, List.mem_of_getElem? (i := 928) (by decide +kernel), List.mem_of_getElem? (i := 1246) (by decide +kernel), List.mem_of_getElem? (i := 1247) (by decide +kernel)⟩
theorem lw_p49 : lw_okq (⟨"CardsAndBansModel", "allCautions", "()I"⟩, 36) := ⟨⟨by decide +kernel, by decide +kernel⟩, List.mem_of_getElem? (i := 928) (by decide +kernel), List.mem_of_getElem? (i := 1262) (by decide +kernel), List.mem_of_getElem? (i := 1263) (by decide +kernel)⟩
theorem lw_p50 : lw_okq (⟨"CardsAndBansModel", "outOf", "(II)I"⟩, 36) := ⟨⟨by decide +kernel, by decide +kernel⟩, List.mem_of_getElem? (i := 928) (by decide +kernel), List.mem_of_getElem? (i := 1274) (by decide +kernel), List.mem_of_getElem? (i := 1275) (by decide +kernel)⟩
theorem lw_p51 : lw_okq (⟨"CardsAndBansModel", "isOut", "(II)Z"⟩, 36) := ⟨⟨by decide +kernel, by decide +kernel⟩, List.mem_of_getElem? (i := 928) (by decide +kernel), List.mem_of_getElem? (i := 1278) (by decide +kernel), List.mem_of_getElem? (i := 1279) (by decide +kernel)⟩
theorem lw_p52 : lw_okq (⟨"CardsAndBansModel", "missed", "(IIZ)I"⟩, 36) := ⟨⟨by decide +kernel, by decide +kernel⟩, List.mem_of_getElem? (i := 928) (by decide +kernel), List.mem_of_getElem? (i := 1282) (by decide +kernel), List.mem_of_getElem? (i := 1283) (by decide +kernel)⟩
theorem lw_p53 : lw_okq (⟨"CardsAndBansModel", "leftOf", "(I)I"⟩, 36) := ⟨⟨by decide +kernel, by decide +kernel⟩, List.mem_of_getElem? (i := 928) (by decide +kernel), List.mem_of_getElem? (i := 1294) (by decide +kernel), List.mem_of_getElem? (i := 1295) (by decide +kernel)⟩
theorem lw_p54 : lw_okq (⟨"CardsAndBansModel", "writesSign", "(I)V"⟩, 36) := ⟨⟨by decide +kernel, by decide +kernel⟩, List.mem_of_getElem? (i := 928) (by decide +kernel), List.mem_of_getElem? (i := 1319) (by decide +kernel), List.mem_of_getElem? (i := 1320) (by decide +kernel)⟩
theorem lw_p55 : lw_okq (⟨"CardsAndBansModel", "writesRule", "(I)V"⟩, 36) := ⟨⟨by decide +kernel, by decide +kernel⟩, List.mem_of_getElem? (i := 928) (by decide +kernel), List.mem_of_getElem? (i := 1323) (by decide +kernel), List.mem_of_getElem? (i := 1324) (by decide +kernel)⟩
theorem lw_p56 : lw_okq (⟨"CardsAndBansModel", "writesNumber", "(I)V"⟩, 36) := ⟨⟨by decide +kernel, by decide +kernel⟩, List.mem_of_getElem? (i := 928) (by decide +kernel), List.mem_of_getElem? (i := 1327) (by decide +kernel), List.mem_of_getElem? (i := 1328) (by decide +kernel)⟩
theorem lw_p57 : lw_okq (⟨"CardsAndBansModel", "readsList", "()V"⟩, 36) := ⟨⟨by decide +kernel, by decide +kernel⟩, List.mem_of_getElem? (i := 928) (by decide +kernel), List.mem_of_getElem? (i := 1348) (by decide +kernel), List.mem_of_getElem? (i := 1349) (by decide +kernel)⟩
theorem lw_p58 : lw_okq (⟨"CardsAndBansModel", "isTold", "(II)Z"⟩, 36) := ⟨⟨by decide +kernel, by decide +kernel⟩, List.mem_of_getElem? (i := 928) (by decide +kernel), List.mem_of_getElem? (i := 1352) (by decide +kernel), List.mem_of_getElem? (i := 1353) (by decide +kernel)⟩
theorem lw_p59 : lw_okq (⟨"CardsAndBansModel", "comesTo", "(I)V"⟩, 36) := ⟨⟨by decide +kernel, by decide +kernel⟩, List.mem_of_getElem? (i := 928) (by decide +kernel), List.mem_of_getElem? (i := 1356) (by decide +kernel), List.mem_of_getElem? (i := 1357) (by decide +kernel)⟩
theorem lw_p60 : lw_okq (⟨"CardsAndBansModel", "goesBy", "(III)V"⟩, 36) := ⟨⟨by decide +kernel, by decide +kernel⟩, List.mem_of_getElem? (i := 928) (by decide +kernel), List.mem_of_getElem? (i := 1360) (by decide +kernel), List.mem_of_getElem? (i := 1361) (by decide +kernel)⟩
theorem lw_p61 : lw_okq (⟨"CardsAndBansModel", "outOfSome", "()I"⟩, 36) := ⟨⟨by decide +kernel, by decide +kernel⟩, List.mem_of_getElem? (i := 928) (by decide +kernel), List.mem_of_getElem? (i := 1372) (by decide +kernel), List.mem_of_getElem? (i := 1373) (by decide +kernel)⟩
theorem lw_p62 : lw_okq (⟨"CardsAndBansModel", "openMany", "()I"⟩, 36) := ⟨⟨by decide +kernel, by decide +kernel⟩, List.mem_of_getElem? (i := 928) (by decide +kernel), List.mem_of_getElem? (i := 1376) (by decide +kernel), List.mem_of_getElem? (i := 1377) (by decide +kernel)⟩
theorem lw_p63 : lw_okq (⟨"CardsAndBansModel", "pointsOf", "(I)I"⟩, 36) := ⟨⟨by decide +kernel, by decide +kernel⟩, List.mem_of_getElem? (i := 928) (by decide +kernel), List.mem_of_getElem? (i := 1413) (by decide +kernel), List.mem_of_getElem? (i := 1414) (by decide +kernel)⟩
def lw_privs_4 : List (MethodName × Nat) := [(⟨"CardsAndBansModel", "isBan", "(I)Z"⟩, 36), (⟨"CardsAndBansModel", "allCautions", "()I"⟩, 36), (⟨"CardsAndBansModel", "outOf", "(II)I"⟩, 36), (⟨"CardsAndBansModel", "isOut", "(II)Z"⟩, 36), (⟨"CardsAndBansModel", "missed", "(IIZ)I"⟩, 36), (⟨"CardsAndBansModel", "leftOf", "(I)I"⟩, 36), (⟨"CardsAndBansModel", "writesSign", "(I)V"⟩, 36), (⟨"CardsAndBansModel", "writesRule", "(I)V"⟩, 36), (⟨"CardsAndBansModel", "writesNumber", "(I)V"⟩, 36), (⟨"CardsAndBansModel", "readsList", "()V"⟩, 36), (⟨"CardsAndBansModel", "isTold", "(II)Z"⟩, 36), (⟨"CardsAndBansModel", "comesTo", "(I)V"⟩, 36), (⟨"CardsAndBansModel", "goesBy", "(III)V"⟩, 36), (⟨"CardsAndBansModel", "outOfSome", "()I"⟩, 36), (⟨"CardsAndBansModel", "openMany", "()I"⟩, 36), (⟨"CardsAndBansModel", "pointsOf", "(I)I"⟩, 36)]
theorem lw_r4 : ∀ q ∈ lw_privs_4, lw_okq q := List.forall_mem_cons.mpr ⟨lw_p48, List.forall_mem_cons.mpr ⟨lw_p49, List.forall_mem_cons.mpr ⟨lw_p50, List.forall_mem_cons.mpr ⟨lw_p51, List.forall_mem_cons.mpr ⟨lw_p52, List.forall_mem_cons.mpr ⟨lw_p53, List.forall_mem_cons.mpr ⟨lw_p54, List.forall_mem_cons.mpr ⟨lw_p55, List.forall_mem_cons.mpr ⟨lw_p56, List.forall_mem_cons.mpr ⟨lw_p57, List.forall_mem_cons.mpr ⟨lw_p58, List.forall_mem_cons.mpr ⟨lw_p59, List.forall_mem_cons.mpr ⟨lw_p60, List.forall_mem_cons.mpr ⟨lw_p61, List.forall_mem_cons.mpr ⟨lw_p62, List.forall_mem_cons.mpr ⟨lw_p63, fun _ h => absurd h List.not_mem_nil⟩⟩⟩⟩⟩⟩⟩⟩⟩⟩⟩⟩⟩⟩⟩⟩
theorem lw_p64 : lw_okq (⟨"CardsAndBansModel", "entries", "()I"⟩, 36) := ⟨⟨by decide +kernel, by decide +kernel⟩, List.mem_of_getElem? (i := 928) (by decide +kernel), List.mem_of_getElem? (i := 1437) (by decide +kernel), List.mem_of_getElem? (i := 1438) (by decide +kernel)⟩
theorem lw_p65 : lw_okq (⟨"CardsAndBansModel", "pageAt", "(I)I"⟩, 36) := ⟨⟨by decide +kernel, by decide +kernel⟩, List.mem_of_getElem? (i := 928) (by decide +kernel), List.mem_of_getElem? (i := 1443) (by decide +kernel), List.mem_of_getElem? (i := 1444) (by decide +kernel)⟩
theorem lw_p66 : lw_okq (⟨"CardsAndBansModel", "lost", "()I"⟩, 36) := ⟨⟨by decide +kernel, by decide +kernel⟩, List.mem_of_getElem? (i := 928) (by decide +kernel), List.mem_of_getElem? (i := 1463) (by decide +kernel), List.mem_of_getElem? (i := 1464) (by decide +kernel)⟩
def lw_privs_5 : List (MethodName × Nat) := [(⟨"CardsAndBansModel", "entries", "()I"⟩, 36), (⟨"CardsAndBansModel", "pageAt", "(I)I"⟩, 36), (⟨"CardsAndBansModel", "lost", "()I"⟩, 36)]
theorem lw_r5 : ∀ q ∈ lw_privs_5, lw_okq q := List.forall_mem_cons.mpr ⟨lw_p64, List.forall_mem_cons.mpr ⟨lw_p65, List.forall_mem_cons.mpr ⟨lw_p66, fun _ h => absurd h List.not_mem_nil⟩⟩⟩
def lw_privs : List (MethodName × Nat) := lw_privs_1 ++ (lw_privs_2 ++ (lw_privs_3 ++ (lw_privs_4 ++ (lw_privs_5))))
def lw_tbl : List Cond := k2_sels lw_privs ++ tables_1
theorem lw_privs_ok : ∀ q ∈ lw_privs, lw_okq q := by
  show ∀ q ∈ lw_privs_1 ++ (lw_privs_2 ++ (lw_privs_3 ++ (lw_privs_4 ++ (lw_privs_5)))), lw_okq q
  exact List.forall_mem_append.mpr ⟨lw_r1, List.forall_mem_append.mpr ⟨lw_r2, List.forall_mem_append.mpr ⟨lw_r3, List.forall_mem_append.mpr ⟨lw_r4, lw_r5⟩⟩⟩⟩

/-! names: the classes of the abstract heap, their fields in the order of the tables, the words that stay good -/
def cb_T0 : u_T := fun k => match k with
  | 0 => ("CardsAndBans", "text", "LCardsAndBans$Text;", true)
  | 1 => ("CardsAndBans", "page", "LCardsAndBans$Text;", true)
  | 2 => ("CardsAndBans", "items", "LCardsAndBans$Items;", true)
  | 3 => ("CardsAndBans", "row", "LCardsAndBans$Row;", true)
  | 4 => ("CardsAndBans", "rules", "LCardsAndBans$Rules;", true)
  | 5 => ("CardsAndBans", "draft", "LCardsAndBans$Rules;", true)
  | 6 => ("CardsAndBans", "now", "LCardsAndBans$State;", true)
  | 7 => ("CardsAndBans", "thought", "LCardsAndBans$State;", true)
  | 8 => ("CardsAndBans", "kept", "LCardsAndBans$State;", true)
  | 9 => ("CardsAndBans", "history", "LCardsAndBans$History;", true)
  | _ => ("CardsAndBans", "isKept", "Z", false)
def cb_y0 : Nat → FieldType := fun k => match k with
  | 0 => .object "CardsAndBans$Text"
  | 1 => .object "CardsAndBans$Text"
  | 2 => .object "CardsAndBans$Items"
  | 3 => .object "CardsAndBans$Row"
  | 4 => .object "CardsAndBans$Rules"
  | 5 => .object "CardsAndBans$Rules"
  | 6 => .object "CardsAndBans$State"
  | 7 => .object "CardsAndBans$State"
  | 8 => .object "CardsAndBans$State"
  | 9 => .object "CardsAndBans$History"
  | _ => .boolean
theorem cb_n0 : ∀ a, a < 11 → ∀ b, b < 11 → a ≠ b → (cb_T0 a).2.1 ≠ (cb_T0 b).2.1 := by decide +kernel
theorem cb_p0 : ∀ k, k < 11 → parseFieldDescriptor (cb_T0 k).2.2.1 = some (cb_y0 k) := by decide +kernel
def cb_T1 : u_T := fun k => match k with
  | 0 => ("CardsAndBans$Text", "signs", "[C", true)
  | 1 => ("CardsAndBans$Text", "length", "I", false)
  | 2 => ("CardsAndBans$Text", "at", "I", false)
  | _ => ("CardsAndBans$Text", "fault", "I", false)
def cb_y1 : Nat → FieldType := fun k => match k with
  | 0 => .array (.char)
  | 1 => .int
  | 2 => .int
  | _ => .int
theorem cb_n1 : ∀ a, a < 4 → ∀ b, b < 4 → a ≠ b → (cb_T1 a).2.1 ≠ (cb_T1 b).2.1 := by decide +kernel
theorem cb_p1 : ∀ k, k < 4 → parseFieldDescriptor (cb_T1 k).2.2.1 = some (cb_y1 k) := by decide +kernel
def cb_T2 : u_T := fun k => match k with
  | 0 => ("CardsAndBans$Items", "numbers", "[I", true)
  | _ => ("CardsAndBans$Items", "size", "I", false)
def cb_y2 : Nat → FieldType := fun k => match k with
  | 0 => .array (.int)
  | _ => .int
theorem cb_n2 : ∀ a, a < 2 → ∀ b, b < 2 → a ≠ b → (cb_T2 a).2.1 ≠ (cb_T2 b).2.1 := by decide +kernel
theorem cb_p2 : ∀ k, k < 2 → parseFieldDescriptor (cb_T2 k).2.2.1 = some (cb_y2 k) := by decide +kernel
def cb_T3 : u_T := fun k => match k with
  | 0 => ("CardsAndBans$Row", "numbers", "[I", true)
  | _ => ("CardsAndBans$Row", "size", "I", false)
def cb_y3 : Nat → FieldType := fun k => match k with
  | 0 => .array (.int)
  | _ => .int
theorem cb_n3 : ∀ a, a < 2 → ∀ b, b < 2 → a ≠ b → (cb_T3 a).2.1 ≠ (cb_T3 b).2.1 := by decide +kernel
theorem cb_p3 : ∀ k, k < 2 → parseFieldDescriptor (cb_T3 k).2.2.1 = some (cb_y3 k) := by decide +kernel
def cb_T4 : u_T := fun k => match k with
  | _ => ("CardsAndBans$Rules", "numbers", "[I", true)
def cb_y4 : Nat → FieldType := fun k => match k with
  | _ => .array (.int)
theorem cb_n4 : ∀ a, a < 1 → ∀ b, b < 1 → a ≠ b → (cb_T4 a).2.1 ≠ (cb_T4 b).2.1 := by decide +kernel
theorem cb_p4 : ∀ k, k < 1 → parseFieldDescriptor (cb_T4 k).2.2.1 = some (cb_y4 k) := by decide +kernel
def cb_T5 : u_T := fun k => match k with
  | 0 => ("CardsAndBans$State", "players", "I", false)
  | 1 => ("CardsAndBans$State", "matches", "I", false)
  | 2 => ("CardsAndBans$State", "banCount", "I", false)
  | 3 => ("CardsAndBans$State", "entriesEver", "I", false)
  | 4 => ("CardsAndBans$State", "teams", "[I", true)
  | 5 => ("CardsAndBans$State", "cautionCounts", "[I", true)
  | 6 => ("CardsAndBans$State", "playedCounts", "[I", true)
  | 7 => ("CardsAndBans$State", "playerCards", "[I", true)
  | 8 => ("CardsAndBans$State", "teamCards", "[I", true)
  | 9 => ("CardsAndBans$State", "banNumbers", "[I", true)
  | _ => ("CardsAndBans$State", "entries", "[I", true)
def cb_y5 : Nat → FieldType := fun k => match k with
  | 0 => .int
  | 1 => .int
  | 2 => .int
  | 3 => .int
  | 4 => .array (.int)
  | 5 => .array (.int)
  | 6 => .array (.int)
  | 7 => .array (.int)
  | 8 => .array (.int)
  | 9 => .array (.int)
  | _ => .array (.int)
theorem cb_n5 : ∀ a, a < 11 → ∀ b, b < 11 → a ≠ b → (cb_T5 a).2.1 ≠ (cb_T5 b).2.1 := by decide +kernel
theorem cb_p5 : ∀ k, k < 11 → parseFieldDescriptor (cb_T5 k).2.2.1 = some (cb_y5 k) := by decide +kernel
def cb_T6 : u_T := fun k => match k with
  | 0 => ("CardsAndBans$History", "states", "[LCardsAndBans$State;", true)
  | 1 => ("CardsAndBans$History", "next", "I", false)
  | _ => ("CardsAndBans$History", "size", "I", false)
def cb_y6 : Nat → FieldType := fun k => match k with
  | 0 => .array (.object "CardsAndBans$State")
  | 1 => .int
  | _ => .int
theorem cb_n6 : ∀ a, a < 3 → ∀ b, b < 3 → a ≠ b → (cb_T6 a).2.1 ≠ (cb_T6 b).2.1 := by decide +kernel
theorem cb_p6 : ∀ k, k < 3 → parseFieldDescriptor (cb_T6 k).2.2.1 = some (cb_y6 k) := by decide +kernel
def cb_T7 : u_T := fun k => match k with
  | 0 => ("CardsAndBans$Match", "state", "LCardsAndBans$State;", true)
  | 1 => ("CardsAndBans$Match", "rules", "LCardsAndBans$Rules;", true)
  | 2 => ("CardsAndBans$Match", "cup", "I", true)
  | 3 => ("CardsAndBans$Match", "a", "I", true)
  | 4 => ("CardsAndBans$Match", "b", "I", true)
  | 5 => ("CardsAndBans$Match", "outs", "I", false)
  | 6 => ("CardsAndBans$Match", "cautioned", "I", false)
  | _ => ("CardsAndBans$Match", "sentOff", "I", false)
def cb_y7 : Nat → FieldType := fun k => match k with
  | 0 => .object "CardsAndBans$State"
  | 1 => .object "CardsAndBans$Rules"
  | 2 => .int
  | 3 => .int
  | 4 => .int
  | 5 => .int
  | 6 => .int
  | _ => .int
theorem cb_n7 : ∀ a, a < 8 → ∀ b, b < 8 → a ≠ b → (cb_T7 a).2.1 ≠ (cb_T7 b).2.1 := by decide +kernel
theorem cb_p7 : ∀ k, k < 8 → parseFieldDescriptor (cb_T7 k).2.2.1 = some (cb_y7 k) := by decide +kernel
def cb_T8 : u_T := fun k => match k with
  | 0 => ("CardsAndBansModel", "w", "[I", true)
  | 1 => ("CardsAndBansModel", "aside", "[I", true)
  | 2 => ("CardsAndBansModel", "kept", "[I", true)
  | 3 => ("CardsAndBansModel", "isKept", "Z", false)
  | 4 => ("CardsAndBansModel", "past", "[I", true)
  | 5 => ("CardsAndBansModel", "pastMany", "I", false)
  | 6 => ("CardsAndBansModel", "rule", "[I", true)
  | 7 => ("CardsAndBansModel", "stepAt", "[I", true)
  | 8 => ("CardsAndBansModel", "stepGives", "[I", true)
  | 9 => ("CardsAndBansModel", "text", "[B", true)
  | 10 => ("CardsAndBansModel", "typed", "I", false)
  | 11 => ("CardsAndBansModel", "row", "[J", true)
  | 12 => ("CardsAndBansModel", "rowMany", "I", false)
  | 13 => ("CardsAndBansModel", "thrown", "I", false)
  | 14 => ("CardsAndBansModel", "servedNow", "I", false)
  | 15 => ("CardsAndBansModel", "outNow", "I", false)
  | 16 => ("CardsAndBansModel", "cardRed", "[I", true)
  | 17 => ("CardsAndBansModel", "cardOf", "[I", true)
  | 18 => ("CardsAndBansModel", "cardMany", "I", false)
  | 19 => ("CardsAndBansModel", "cautioned", "I", false)
  | 20 => ("CardsAndBansModel", "sentOff", "I", false)
  | 21 => ("CardsAndBansModel", "size", "I", false)
  | 22 => ("CardsAndBansModel", "here", "I", false)
  | 23 => ("CardsAndBansModel", "wrong", "I", false)
  | 24 => ("CardsAndBansModel", "read", "[I", true)
  | 25 => ("CardsAndBansModel", "readAt", "[I", true)
  | 26 => ("CardsAndBansModel", "readGives", "[I", true)
  | 27 => ("CardsAndBansModel", "givenTo", "[I", true)
  | 28 => ("CardsAndBansModel", "givenIn", "[I", true)
  | 29 => ("CardsAndBansModel", "givenFor", "[I", true)
  | 30 => ("CardsAndBansModel", "page", "[B", true)
  | 31 => ("CardsAndBansModel", "pageMany", "I", false)
  | 32 => ("CardsAndBansModel", "listCup", "[I", true)
  | 33 => ("CardsAndBansModel", "listOne", "[I", true)
  | 34 => ("CardsAndBansModel", "listTwo", "[I", true)
  | _ => ("CardsAndBansModel", "listMany", "I", false)
def cb_y8 : Nat → FieldType := fun k => match k with
  | 0 => .array (.int)
  | 1 => .array (.int)
  | 2 => .array (.int)
  | 3 => .boolean
  | 4 => .array (.int)
  | 5 => .int
  | 6 => .array (.int)
  | 7 => .array (.int)
  | 8 => .array (.int)
  | 9 => .array (.byte)
  | 10 => .int
  | 11 => .array (.long)
  | 12 => .int
  | 13 => .int
  | 14 => .int
  | 15 => .int
  | 16 => .array (.int)
  | 17 => .array (.int)
  | 18 => .int
  | 19 => .int
  | 20 => .int
  | 21 => .int
  | 22 => .int
  | 23 => .int
  | 24 => .array (.int)
  | 25 => .array (.int)
  | 26 => .array (.int)
  | 27 => .array (.int)
  | 28 => .array (.int)
  | 29 => .array (.int)
  | 30 => .array (.byte)
  | 31 => .int
  | 32 => .array (.int)
  | 33 => .array (.int)
  | 34 => .array (.int)
  | _ => .int
theorem cb_n8 : ∀ a, a < 36 → ∀ b, b < 36 → a ≠ b → (cb_T8 a).2.1 ≠ (cb_T8 b).2.1 := by decide +kernel
theorem cb_p8 : ∀ k, k < 36 → parseFieldDescriptor (cb_T8 k).2.2.1 = some (cb_y8 k) := by decide +kernel
def cb_T9 : u_T := fun _ => ("java/lang/Throwable", "depth", "I", false)
abbrev cb_cl : List vw_C := [("CardsAndBans", cb_T0, 11), ("CardsAndBans$Text", cb_T1, 4), ("CardsAndBans$Items", cb_T2, 2), ("CardsAndBans$Row", cb_T3, 2), ("CardsAndBans$Rules", cb_T4, 1), ("CardsAndBans$State", cb_T5, 11), ("CardsAndBans$History", cb_T6, 3), ("CardsAndBans$Match", cb_T7, 8), ("CardsAndBansModel", cb_T8, 36), ("java/util/NoSuchElementException", cb_T9, 0)]
def cb_gw : List Cond := lw_tbl.filter goodWord
theorem cb_gm {w : Cond} (i : Nat) (h : lw_tbl[i]? = some w) (g : goodWord w = true) : w ∈ cb_gw := List.mem_filter.mpr ⟨List.mem_of_getElem? h, g⟩
theorem cb_gs {ws : List Cond} (ps : List Nat) (hp : ws = ps.filterMap (fun i => lw_tbl[i]?)) (h : ws.all goodWord = true) : ∀ w ∈ ws, w ∈ cb_gw := by
  intro w hw
  have h1 := List.all_eq_true.mp h w hw
  rw [hp] at hw
  obtain ⟨i, -, hi⟩ := List.mem_filterMap.mp hw
  exact cb_gm i hi h1
theorem cb_gg : ∀ w ∈ cb_gw, w ∈ lw_tbl ∧ ((w.onTables && w.keeps) = true ∨ ∃ ty, w = .arrayClass ty) := fun w h => ⟨(List.mem_filter.mp h).1, good_of_word (List.mem_filter.mp h).2⟩
theorem cb_i0 : ∀ w ∈ u_ws "CardsAndBans" cb_T0 11, w ∈ cb_gw := cb_gs [250, 252, 254, 256, 258, 260, 262, 264, 266, 268, 270] (by decide +kernel) (by decide +kernel)
theorem cb_i1 : ∀ w ∈ u_ws "CardsAndBans$Text" cb_T1 4, w ∈ cb_gw := cb_gs [107, 109, 111, 113] (by decide +kernel) (by decide +kernel)
theorem cb_i2 : ∀ w ∈ u_ws "CardsAndBans$Items" cb_T2 2, w ∈ cb_gw := cb_gs [127, 129] (by decide +kernel) (by decide +kernel)
theorem cb_i3 : ∀ w ∈ u_ws "CardsAndBans$Row" cb_T3 2, w ∈ cb_gw := cb_gs [142, 144] (by decide +kernel) (by decide +kernel)
theorem cb_i4 : ∀ w ∈ u_ws "CardsAndBans$Rules" cb_T4 1, w ∈ cb_gw := cb_gs [165] (by decide +kernel) (by decide +kernel)
theorem cb_i5 : ∀ w ∈ u_ws "CardsAndBans$State" cb_T5 11, w ∈ cb_gw := cb_gs [197, 199, 201, 203, 205, 207, 209, 211, 213, 215, 217] (by decide +kernel) (by decide +kernel)
theorem cb_i6 : ∀ w ∈ u_ws "CardsAndBans$History" cb_T6 3, w ∈ cb_gw := cb_gs [232, 234, 236] (by decide +kernel) (by decide +kernel)
theorem cb_i7 : ∀ w ∈ u_ws "CardsAndBans$Match" cb_T7 8, w ∈ cb_gw := cb_gs [535, 537, 539, 541, 543, 545, 547, 549] (by decide +kernel) (by decide +kernel)
theorem cb_i8 : ∀ w ∈ u_ws "CardsAndBansModel" cb_T8 36, w ∈ cb_gw := cb_gs [1036, 1038, 1040, 1042, 1044, 1046, 1048, 1050, 1052, 1054, 1056, 1058, 1060, 1062, 1064, 1066, 1068, 1070, 1072, 1074, 1076, 1078, 1080, 1082, 1084, 1086, 1088, 1090, 1092, 1094, 1096, 1098, 1100, 1102, 1104, 1106] (by decide +kernel) (by decide +kernel)
/-- the words of nest mates: they stay, but are not among the good ones -/
def cb_nw : List Cond := [(Jvm.Cond.methodLinkNest "CardsAndBans" (9 : Nat) ({ cls := "CardsAndBans$Text", name := "<init>", desc := "()V" } : Jvm.MethodName) "CardsAndBans"), (Jvm.Cond.fieldLinkNest "CardsAndBans" (71 : Nat) "CardsAndBans$Text" "length" "I" "CardsAndBans"), (Jvm.Cond.fieldLinkNest "CardsAndBans" (363 : Nat) "CardsAndBans$Text" "at" "I" "CardsAndBans"), (Jvm.Cond.fieldLinkNest "CardsAndBans" (351 : Nat) "CardsAndBans$Text" "fault" "I" "CardsAndBans"), (Jvm.Cond.methodLinkNest "CardsAndBans" (21 : Nat) ({ cls := "CardsAndBans$Items", name := "<init>", desc := "()V" } : Jvm.MethodName) "CardsAndBans"), (Jvm.Cond.fieldLinkNest "CardsAndBans$State" (52 : Nat) "CardsAndBans$Items" "size" "I" "CardsAndBans"), (Jvm.Cond.fieldLinkNest "CardsAndBans" (177 : Nat) "CardsAndBans$Items" "size" "I" "CardsAndBans"), (Jvm.Cond.methodLinkNest "CardsAndBans" (28 : Nat) ({ cls := "CardsAndBans$Row", name := "<init>", desc := "()V" } : Jvm.MethodName) "CardsAndBans"), (Jvm.Cond.fieldLinkNest "CardsAndBans" (314 : Nat) "CardsAndBans$Row" "size" "I" "CardsAndBans"), (Jvm.Cond.methodLinkNest "CardsAndBans" (45 : Nat) ({ cls := "CardsAndBans$State", name := "<init>", desc := "()V" } : Jvm.MethodName) "CardsAndBans"), (Jvm.Cond.fieldLinkNest "CardsAndBans$Match" (41 : Nat) "CardsAndBans$State" "players" "I" "CardsAndBans"), (Jvm.Cond.fieldLinkNest "CardsAndBans" (106 : Nat) "CardsAndBans$State" "players" "I" "CardsAndBans"), (Jvm.Cond.fieldLinkNest "CardsAndBans$Match" (29 : Nat) "CardsAndBans$State" "matches" "I" "CardsAndBans"), (Jvm.Cond.fieldLinkNest "CardsAndBans" (195 : Nat) "CardsAndBans$State" "matches" "I" "CardsAndBans"), (Jvm.Cond.fieldLinkNest "CardsAndBans$Match" (67 : Nat) "CardsAndBans$State" "banCount" "I" "CardsAndBans"), (Jvm.Cond.fieldLinkNest "CardsAndBans" (129 : Nat) "CardsAndBans$State" "banCount" "I" "CardsAndBans"), (Jvm.Cond.fieldLinkNest "CardsAndBans$Match" (57 : Nat) "CardsAndBans$State" "teams" "[I" "CardsAndBans"), (Jvm.Cond.fieldLinkNest "CardsAndBans" (144 : Nat) "CardsAndBans$State" "teams" "[I" "CardsAndBans"), (Jvm.Cond.fieldLinkNest "CardsAndBans" (238 : Nat) "CardsAndBans$State" "cautionCounts" "[I" "CardsAndBans"), (Jvm.Cond.fieldLinkNest "CardsAndBans" (247 : Nat) "CardsAndBans$State" "playedCounts" "[I" "CardsAndBans"), (Jvm.Cond.fieldLinkNest "CardsAndBans" (331 : Nat) "CardsAndBans$State" "playerCards" "[I" "CardsAndBans"), (Jvm.Cond.fieldLinkNest "CardsAndBans" (319 : Nat) "CardsAndBans$State" "teamCards" "[I" "CardsAndBans"), (Jvm.Cond.methodLinkNest "CardsAndBans" (58 : Nat) ({ cls := "CardsAndBans$History", name := "<init>", desc := "()V" } : Jvm.MethodName) "CardsAndBans"), (Jvm.Cond.fieldLinkNest "CardsAndBans" (347 : Nat) "CardsAndBans$History" "size" "I" "CardsAndBans"), (Jvm.Cond.methodLinkNest "CardsAndBans$State" (73 : Nat) ({ cls := "CardsAndBans", name := "bit", desc := "(I)I" } : Jvm.MethodName) "CardsAndBans"), (Jvm.Cond.fieldLinkNest "CardsAndBans" (198 : Nat) "CardsAndBans$Match" "outs" "I" "CardsAndBans"), (Jvm.Cond.methodLinkNest "CardsAndBans$Match" (44 : Nat) ({ cls := "CardsAndBans", name := "hasBit", desc := "(II)Z" } : Jvm.MethodName) "CardsAndBans"), (Jvm.Cond.methodLinkNest "CardsAndBans$Match" (77 : Nat) ({ cls := "CardsAndBans", name := "bit", desc := "(I)I" } : Jvm.MethodName) "CardsAndBans"), (Jvm.Cond.methodLinkNest "CardsAndBans$History" (24 : Nat) ({ cls := "CardsAndBans$State", name := "<init>", desc := "()V" } : Jvm.MethodName) "CardsAndBans")]
theorem cb_nt : ∀ w ∈ cb_nw, w ∈ lw_tbl := by
  have h : cb_nw = [96, 102, 104, 106, 119, 125, 126, 135, 141, 170, 175, 176, 177, 179, 181, 182, 185, 186, 188, 190, 192, 194, 222, 231, 503, 532, 576, 619, 656].filterMap (fun i => lw_tbl[i]?) := by decide +kernel
  intro w hw
  rw [h] at hw
  obtain ⟨i, -, hi⟩ := List.mem_filterMap.mp hw
  exact List.mem_of_getElem? hi
theorem cb_nwarm {s U : State} (hW : s.WarmedH U.vm) (h : ∀ w ∈ cb_nw, va_Nw w s) : ∀ w ∈ cb_nw, va_Nw w U := by
  have key : ∀ w ∈ cb_nw, (match w with | .fieldLinkNest .. => true | .methodLinkNest .. => true | _ => false) = true := by decide +kernel
  intro w hw
  have h1 := h w hw
  have h2 := key w hw
  cases w <;> first | exact va_Nw.warmF hW h1 | exact va_Nw.warmM hW h1 | cases h2
theorem cb_nof {s : State} {args : Array Value} (hts : ∀ w ∈ lw_tbl, w.before args s = true) : ∀ w ∈ cb_nw, va_Nw w s := by
  have key : ∀ w ∈ cb_nw, w.onTables = true := by decide +kernel
  exact fun w hw => va_Nw.of (key w hw) (hts w (cb_nt w hw))
end
section
/-! AN ABSTRACT MACHINE: locals by place, a stack, a heap of numbered cells; rows of a method are acts, calls, returns.
`ia_run` goes by fuel, `ia_den` is what it comes to; the equations of `ia_den` are what later parts compute with. -/
abbrev ia_E : Type := (Nat × vp_A) ⊕ (Nat × List Value)
abbrev ia_L : Type := List (Option Value)
/-- next cell, slots made so far, the script, the cells -/
abbrev ia_H : Type := Nat × Nat × (Nat × (Nat → Int32)) × (Nat → ia_E)
abbrev ia_S : Type := Nat × ia_L × List Value × ia_H
abbrev ia_F : Type := Nat → ia_L → List Value → ia_H → Option ia_S
abbrev ia_R : Type := ia_F ⊕ ((Nat × Nat × Nat) ⊕ Nat)
abbrev ia_O : Type := Option (Option Value × ia_H)
def ia_dead : ia_E := .inr (99, [])
def ia_c (h : ia_H) (a : Nat) : ia_E := h.2.2.2 a
def ia_up (h : ia_H) (a : Nat) (e : ia_E) : ia_H := (h.1, h.2.1, h.2.2.1, fun k => if k = a then e else h.2.2.2 k)
def ia_new (h : ia_H) (n : Nat) (e : ia_E) : ia_H := (h.1 + 1, h.2.1 + n, h.2.2.1, fun k => if k = h.1 then e else h.2.2.2 k)
/-- reading and writing cells -/
def ia_gI (h : ia_H) (ci a k : Nat) : Option Int32 := match ia_c h a with
  | .inr (c, fs) => if c = ci then (match fs[k]? with | some (.int x) => some x | _ => none) else none
  | .inl _ => none
def ia_gR (h : ia_H) (ci a k : Nat) : Option Nat := match ia_c h a with
  | .inr (c, fs) => if c = ci then (match fs[k]? with | some (.ref x) => some x | _ => none) else none
  | .inl _ => none
def ia_pF (h : ia_H) (ci a k : Nat) (v : Value) : Option ia_H := match ia_c h a with
  | .inr (c, fs) => if c = ci ∧ k < fs.length then some (ia_up h a (.inr (c, fs.set k v))) else none
  | .inl _ => none
/-- arrays of ints, chars, bytes: t is 0, 2, 3 -/
def ia_ld (h : ia_H) (t a : Nat) (i : Int32) : Option Int32 := match ia_c h a with
  | .inl (t', n, .inl f) => if t' = t ∧ ¬ (i < 0 ∨ n ≤ i.toNatClampNeg) then some (f i.toNatClampNeg) else none
  | _ => none
def ia_st (h : ia_H) (t a : Nat) (i x : Int32) : Option ia_H := match ia_c h a with
  | .inl (t', n, .inl f) => if t' = t ∧ ¬ (i < 0 ∨ n ≤ i.toNatClampNeg) then some (ia_up h a (.inl (t', n, .inl (upd f i.toNatClampNeg x)))) else none
  | _ => none
def ia_ldL (h : ia_H) (a : Nat) (i : Int32) : Option Int64 := match ia_c h a with
  | .inl (t', n, .inr (.inl f)) => if t' = 1 ∧ ¬ (i < 0 ∨ n ≤ i.toNatClampNeg) then some (f i.toNatClampNeg) else none
  | _ => none
def ia_stL (h : ia_H) (a : Nat) (i : Int32) (x : Int64) : Option ia_H := match ia_c h a with
  | .inl (t', n, .inr (.inl f)) => if t' = 1 ∧ ¬ (i < 0 ∨ n ≤ i.toNatClampNeg) then some (ia_up h a (.inl (t', n, .inr (.inl (vp_updL f i.toNatClampNeg x))))) else none
  | _ => none
def ia_ldR (h : ia_H) (a : Nat) (i : Int32) : Option (Option Nat) := match ia_c h a with
  | .inl (t', n, .inr (.inr (.inr (.inr f)))) => if t' = 4 ∧ ¬ (i < 0 ∨ n ≤ i.toNatClampNeg) then some (f i.toNatClampNeg) else none
  | _ => none
/-- into the row of states: an object of kind 5 alone -/
def ia_stR (h : ia_H) (a : Nat) (i : Int32) (v : Nat) : Option ia_H := match ia_c h a, ia_c h v with
  | .inl (t', n, .inr (.inr (.inr (.inr f)))), .inr (c, _ :: _) => if t' = 4 ∧ c = 5 ∧ ¬ (i < 0 ∨ n ≤ i.toNatClampNeg) then some (ia_up h a (.inl (t', n, .inr (.inr (.inr (.inr (va_up f i.toNatClampNeg (some v)))))))) else none
  | _, _ => none
def ia_len (h : ia_H) (a : Nat) : Option Int32 := match ia_c h a with
  | .inl (t', n, _) => if t' < 5 then some (Int32.ofNat n) else none
  | .inr _ => none
/-- System.arraycopy of ints -/
def ia_cp (h : ia_H) (a b : Nat) (sp dp n : Int32) : Option ia_H := match ia_c h a, ia_c h b with
  | .inl (t0, n0, .inl f), .inl (t1, n1, .inl g) => if t0 = 0 ∧ t1 = 0 ∧ ¬ sp < 0 ∧ ¬ dp < 0 ∧ ¬ n < 0 ∧ sp.toNatClampNeg + n.toNatClampNeg ≤ n0 ∧ dp.toNatClampNeg + n.toNatClampNeg ≤ n1 then some (ia_up h b (.inl (t1, n1, .inl (va_cpy f g sp.toNatClampNeg dp.toNatClampNeg n.toNatClampNeg)))) else none
  | _, _ => none
/-! acts -/
/-- the words that arguments take -/
def ia_w : List Value → Nat
  | [] => 0
  | v :: vs => v.category + ia_w vs
def ia_const (v : Value) : ia_F := fun k L st h => some (k + 1, L, v :: st, h)
def ia_iload (i : Nat) : ia_F := fun k L st h => match L[i]? with
  | some (some (.int x)) => some (k + 1, L, .int x :: st, h)
  | _ => none
def ia_lload (i : Nat) : ia_F := fun k L st h => match L[i]?, L[i + 1]? with
  | some (some (.long x)), some none => some (k + 1, L, .long x :: st, h)
  | _, _ => none
def ia_aload (i : Nat) : ia_F := fun k L st h => match L[i]? with
  | some (some (.ref x)) => some (k + 1, L, .ref x :: st, h)
  | some (some .null) => some (k + 1, L, .null :: st, h)
  | some (some (.float x)) => some (k + 1, L, .float x :: st, h)
  | _ => none
def ia_istore (i : Nat) : ia_F := fun k L st h => match st with
  | .int x :: st => if i < L.length then some (k + 1, L.set i (some (.int x)), st, h) else none
  | _ => none
def ia_lstore (i : Nat) : ia_F := fun k L st h => match st with
  | .long x :: st => if i + 1 < L.length then some (k + 1, (L.set i (some (.long x))).set (i + 1) none, st, h) else none
  | _ => none
def ia_astore (i : Nat) : ia_F := fun k L st h => match st with
  | .ref x :: st => if i < L.length then some (k + 1, L.set i (some (.ref x)), st, h) else none
  | .null :: st => if i < L.length then some (k + 1, L.set i (some .null), st, h) else none
  | _ => none
def ia_iinc (i : Nat) (n : Int) : ia_F := fun k L st h => match L[i]? with
  | some (some (.int x)) => some (k + 1, L.set i (some (.int (x + Int32.ofInt n))), st, h)
  | _ => none
def ia_i1 (f : Int32 → Int32) : ia_F := fun k L st h => match st with
  | .int x :: st => some (k + 1, L, .int (f x) :: st, h)
  | _ => none
def ia_i2 (f : Int32 → Int32 → Int32) : ia_F := fun k L st h => match st with
  | .int y :: .int x :: st => some (k + 1, L, .int (f x y) :: st, h)
  | _ => none
def ia_i2z (f : Int32 → Int32 → Int32) : ia_F := fun k L st h => match st with
  | .int y :: .int x :: st => if y = 0 then none else some (k + 1, L, .int (f x y) :: st, h)
  | _ => none
def ia_l2 (f : Int64 → Int64 → Int64) : ia_F := fun k L st h => match st with
  | .long y :: .long x :: st => some (k + 1, L, .long (f x y) :: st, h)
  | _ => none
def ia_lsh (f : Int64 → Int32 → Int64) : ia_F := fun k L st h => match st with
  | .int y :: .long x :: st => some (k + 1, L, .long (f x y) :: st, h)
  | _ => none
def ia_lcmp : ia_F := fun k L st h => match st with
  | .long y :: .long x :: st => some (k + 1, L, .int (lg_cmp x y) :: st, h)
  | _ => none
def ia_i2l : ia_F := fun k L st h => match st with
  | .int x :: st => some (k + 1, L, .long x.toInt64 :: st, h)
  | _ => none
def ia_l2i : ia_F := fun k L st h => match st with
  | .long x :: st => some (k + 1, L, .int x.toInt32 :: st, h)
  | _ => none
def ia_dup : ia_F := fun k L st h => match st with
  | v :: st => if v.category = 1 then some (k + 1, L, v :: v :: st, h) else none
  | _ => none
def ia_pop : ia_F := fun k L st h => match st with
  | v :: st => if v.category = 1 then some (k + 1, L, st, h) else none
  | _ => none
def ia_dupx1 : ia_F := fun k L st h => match st with
  | v :: w :: st => if v.category = 1 ∧ w.category = 1 then some (k + 1, L, v :: w :: v :: st, h) else none
  | _ => none
def ia_dup2 : ia_F := fun k L st h => match st with
  | v :: w :: st => if v.category = 1 ∧ w.category = 1 then some (k + 1, L, v :: w :: v :: w :: st, h) else none
  | _ => none
def ia_goto (t : Nat) : ia_F := fun _ L st h => some (t, L, st, h)
def ia_ifeq (t : Nat) : ia_F := fun k L st h => match st with
  | .int x :: st => some (if x = 0 then t else k + 1, L, st, h)
  | _ => none
def ia_ifne (t : Nat) : ia_F := fun k L st h => match st with
  | .int x :: st => some (if x = 0 then k + 1 else t, L, st, h)
  | _ => none
def ia_iflt (t : Nat) : ia_F := fun k L st h => match st with
  | .int x :: st => some (if x < 0 then t else k + 1, L, st, h)
  | _ => none
def ia_ifge (t : Nat) : ia_F := fun k L st h => match st with
  | .int x :: st => some (if 0 ≤ x then t else k + 1, L, st, h)
  | _ => none
def ia_ifgt (t : Nat) : ia_F := fun k L st h => match st with
  | .int x :: st => some (if 0 < x then t else k + 1, L, st, h)
  | _ => none
def ia_ifle (t : Nat) : ia_F := fun k L st h => match st with
  | .int x :: st => some (if x ≤ 0 then t else k + 1, L, st, h)
  | _ => none
def ia_ieq (t : Nat) : ia_F := fun k L st h => match st with
  | .int y :: .int x :: st => some (if x = y then t else k + 1, L, st, h)
  | _ => none
def ia_ine (t : Nat) : ia_F := fun k L st h => match st with
  | .int y :: .int x :: st => some (if x = y then k + 1 else t, L, st, h)
  | _ => none
def ia_ilt (t : Nat) : ia_F := fun k L st h => match st with
  | .int y :: .int x :: st => some (if x < y then t else k + 1, L, st, h)
  | _ => none
def ia_ige (t : Nat) : ia_F := fun k L st h => match st with
  | .int y :: .int x :: st => some (if y ≤ x then t else k + 1, L, st, h)
  | _ => none
def ia_igt (t : Nat) : ia_F := fun k L st h => match st with
  | .int y :: .int x :: st => some (if y < x then t else k + 1, L, st, h)
  | _ => none
def ia_ile (t : Nat) : ia_F := fun k L st h => match st with
  | .int y :: .int x :: st => some (if x ≤ y then t else k + 1, L, st, h)
  | _ => none
def ia_nonnull (t : Nat) : ia_F := fun k L st h => match st with
  | .ref _ :: st => some (t, L, st, h)
  | .null :: st => some (k + 1, L, st, h)
  | _ => none
/-- a table from 0 on -/
def ia_sw (ts : List Nat) (d : Nat) : ia_F := fun _ L st h => match st with
  | .int x :: st => some (if x.toInt < 0 ∨ (ts.length : Int) ≤ x.toInt then d else ts.getD x.toInt.toNat d, L, st, h)
  | _ => none
def ia_getI (ci f : Nat) : ia_F := fun k L st h => match st with
  | .ref a :: st => (ia_gI h ci a f).map fun x => (k + 1, L, .int x :: st, h)
  | _ => none
def ia_getR (ci f : Nat) : ia_F := fun k L st h => match st with
  | .ref a :: st => (ia_gR h ci a f).map fun x => (k + 1, L, .ref x :: st, h)
  | _ => none
def ia_putI (ci f : Nat) : ia_F := fun k L st h => match st with
  | .int x :: .ref a :: st => (ia_pF h ci a f (.int x)).map fun h => (k + 1, L, st, h)
  | _ => none
def ia_putZ (ci f : Nat) : ia_F := fun k L st h => match st with
  | .int x :: .ref a :: st => if x = 0 ∨ x = 1 then (ia_pF h ci a f (.int x)).map fun h => (k + 1, L, st, h) else none
  | _ => none
def ia_putR (ci f : Nat) : ia_F := fun k L st h => match st with
  | .ref x :: .ref a :: st => (ia_pF h ci a f (.ref x)).map fun h => (k + 1, L, st, h)
  | _ => none
/-- an int array, or the script -/
def ia_iald : ia_F := fun k L st h => match st with
  | .int i :: .ref a :: st => (ia_ld h 0 a i).map fun x => (k + 1, L, .int x :: st, h)
  | .int i :: .float _ :: st => if i < 0 ∨ h.2.2.1.1 ≤ i.toNatClampNeg then none else some (k + 1, L, .int (h.2.2.1.2 i.toNatClampNeg) :: st, h)
  | _ => none
def ia_ald (t : Nat) : ia_F := fun k L st h => match st with
  | .int i :: .ref a :: st => (ia_ld h t a i).map fun x => (k + 1, L, .int x :: st, h)
  | _ => none
def ia_lald : ia_F := fun k L st h => match st with
  | .int i :: .ref a :: st => (ia_ldL h a i).map fun x => (k + 1, L, .long x :: st, h)
  | _ => none
def ia_rald : ia_F := fun k L st h => match st with
  | .int i :: .ref a :: st => (ia_ldR h a i).map fun x => (k + 1, L, va_rf x :: st, h)
  | _ => none
def ia_iast : ia_F := fun k L st h => match st with
  | .int x :: .int i :: .ref a :: st => (ia_st h 0 a i x).map fun h => (k + 1, L, st, h)
  | _ => none
def ia_bast : ia_F := fun k L st h => match st with
  | .int x :: .int i :: .ref a :: st => (ia_st h 3 a i (x.toInt8.toInt32)).map fun h => (k + 1, L, st, h)
  | _ => none
def ia_cast : ia_F := fun k L st h => match st with
  | .int x :: .int i :: .ref a :: st => (ia_st h 2 a i (x.toUInt32.toUInt16.toUInt32.toInt32)).map fun h => (k + 1, L, st, h)
  | _ => none
def ia_last : ia_F := fun k L st h => match st with
  | .long x :: .int i :: .ref a :: st => (ia_stL h a i x).map fun h => (k + 1, L, st, h)
  | _ => none
def ia_rast : ia_F := fun k L st h => match st with
  | .ref v :: .int i :: .ref a :: st => (ia_stR h a i v).map fun h => (k + 1, L, st, h)
  | _ => none
def ia_alen : ia_F := fun k L st h => match st with
  | .ref a :: st => (ia_len h a).map fun x => (k + 1, L, .int x :: st, h)
  | .float _ :: st => some (k + 1, L, .int (Int32.ofNat h.2.2.1.1) :: st, h)
  | _ => none
/-- arrays of zeros: t is 0, 1, 2, 3, 4 (ints, longs, chars, bytes, states) -/
def ia_zero (t : Nat) : (Nat → Int32) ⊕ (Nat → Int64) ⊕ (Nat → UInt32) ⊕ (Nat → UInt64) ⊕ (Nat → Option Nat) := if t = 1 then .inr (.inl fun _ => 0) else if t = 4 then .inr (.inr (.inr (.inr fun _ => none))) else .inl fun _ => 0
def ia_newa (t : Nat) : ia_F := fun k L st h => match st with
  | .int n :: st => if ¬ n < 0 ∧ n.toNatClampNeg ≤ 10000 then some (k + 1, L, .ref h.1 :: st, ia_new h n.toNatClampNeg (.inl (t, n.toNatClampNeg, ia_zero t))) else none
  | _ => none
def ia_newo (ci n : Nat) (fs : List Value) : ia_F := fun k L st h => some (k + 1, L, .ref h.1 :: st, ia_new h n (.inr (ci, fs)))
def ia_copy : ia_F := fun k L st h => match st with
  | .int n :: .int dp :: .ref b :: .int sp :: .ref a :: st => if ia_w st ≤ 8 then (ia_cp h a b sp dp n).map fun h => (k + 1, L, st, h) else none
  | _ => none
def ia_min : ia_F := fun k L st h => match st with
  | .int y :: .int x :: st => if ia_w st ≤ 8 then some (k + 1, L, .int (if y < x then y else x) :: st, h) else none
  | _ => none
def ia_oinit : ia_F := fun k L st h => match st with
  | .ref _ :: st => if ia_w st ≤ 8 then some (k + 1, L, st, h) else none
  | _ => none
/-- what a return of kind r answers: 0 nothing, 1 an int, 2 a boolean, 3 a long, 4 a reference -/
def ia_ret (r : Nat) (st : List Value) : Option (Option Value) := match r, st with
  | 0, [] => some none
  | 1, [.int x] => some (some (.int x))
  | 2, [.int x] => if x = 0 ∨ x = 1 then some (some (.int x)) else none
  | 3, [.long x] => some (some (.long x))
  | 4, [.ref x] => some (some (.ref x))
  | _, _ => none
/-- locals at the entry -/
def ia_ent : Nat → List Value → ia_L
  | n, [] => List.replicate n none
  | n, v :: vs => if v.category = 2 then some v :: none :: ia_ent (n - 2) vs else some v :: ia_ent (n - 1) vs
/-- who is asked: 100 nobody, 101 some object, else an object of that kind -/
def ia_ok (h : ia_H) (rc : Nat) (as : List Value) : Bool := if rc = 100 then true else match as with
  | .ref b :: _ => if rc = 101 then true else (match ia_c h b with
    | .inr (c, _ :: _) => c == rc
    | _ => false)
  | _ => false
section IAD
variable (P : Nat → Nat → Option ia_R) (M : Nat → Nat)
/-- P: a method's rows; M: its locals -/
def ia_run : Nat → Nat → Nat → ia_L → List Value → ia_H → ia_O
  | 0, _, _, _, _, _ => none
  | n + 1, y, k, L, st, h => match P y k with
    | none => none
    | some (.inl f) => (f k L st h).bind fun s => ia_run n y s.1 s.2.1 s.2.2.1 s.2.2.2
    | some (.inr (.inl (z, na, rc))) => if st.length < na ∨ M z < ia_w (st.take na) ∨ 8 < ia_w (st.drop na) ∨ ia_ok h rc (st.take na).reverse = false then none else
        (ia_run n z 0 (ia_ent (M z) (st.take na).reverse) [] h).bind fun s => ia_run n y (k + 1) L (s.1.toList ++ st.drop na) s.2
    | some (.inr (.inr r)) => (ia_ret r st).map fun v => (v, h)
theorem ia_run_succ : ∀ (n y k : Nat) (L : ia_L) (st : List Value) (h : ia_H) (o : Option Value × ia_H), ia_run P M n y k L st h = some o → ia_run P M (n + 1) y k L st h = some o := by
  intro n
  induction n with
  | zero => intro y k L st h o ho; cases ho
  | succ n ih =>
    intro y k L st h o ho
    rw [ia_run] at ho ⊢
    split at ho
    · cases ho
    · rename_i f hf
      rw [Option.bind_eq_some_iff] at ho ⊢
      obtain ⟨s, h1, h2⟩ := ho
      exact ⟨s, h1, ih _ _ _ _ _ _ h2⟩
    · rename_i z na rc hf
      split at ho
      · cases ho
      · rename_i hlt
        rw [if_neg hlt]
        rw [Option.bind_eq_some_iff] at ho ⊢
        obtain ⟨s, h1, h2⟩ := ho
        exact ⟨s, ih _ _ _ _ _ _ h1, ih _ _ _ _ _ _ h2⟩
    · exact ho
theorem ia_run_le {n m y k : Nat} {L : ia_L} {st : List Value} {h : ia_H} {o : Option Value × ia_H} (hnm : n ≤ m) (ho : ia_run P M n y k L st h = some o) : ia_run P M m y k L st h = some o := by
  induction hnm with
  | refl => exact ho
  | step _ ih => exact ia_run_succ P M _ _ _ _ _ _ _ ih
/-- what a run comes to -/
noncomputable def ia_den (y k : Nat) (L : ia_L) (st : List Value) (h : ia_H) : ia_O :=
  @dite _ (∃ (o : Option Value × ia_H) (n : Nat), ia_run P M n y k L st h = some o) (Classical.propDecidable _) (fun w => some (Classical.choose w)) (fun _ => none)
theorem ia_den_iff {y k : Nat} {L : ia_L} {st : List Value} {h : ia_H} {o : Option Value × ia_H} : ia_den P M y k L st h = some o ↔ ∃ n, ia_run P M n y k L st h = some o := by
  unfold ia_den
  by_cases w : ∃ (o : Option Value × ia_H) (n : Nat), ia_run P M n y k L st h = some o
  · rw [dif_pos w]
    obtain ⟨n1, h1⟩ := Classical.choose_spec w
    constructor
    · intro e
      cases e
      exact ⟨n1, h1⟩
    · rintro ⟨n, hn⟩
      have a := ia_run_le P M (Nat.le_max_left n n1) hn
      have b := ia_run_le P M (Nat.le_max_right n n1) h1
      rw [a] at b
      rw [Option.some.inj b]
  · rw [dif_neg w]
    constructor
    · intro e; cases e
    · rintro ⟨n, hn⟩; exact absurd ⟨o, n, hn⟩ w
theorem ia_den_ext {y k y' k' : Nat} {L L' : ia_L} {st st' : List Value} {h h' : ia_H} (e : ∀ o, (∃ n, ia_run P M n y k L st h = some o) ↔ ia_den P M y' k' L' st' h' = some o) : ia_den P M y k L st h = ia_den P M y' k' L' st' h' := by
  apply Option.ext
  intro o
  rw [ia_den_iff]
  exact e o
theorem ia_den_go {y k : Nat} {f : ia_F} (hP : P y k = some (.inl f)) (L : ia_L) (st : List Value) (h : ia_H) : ia_den P M y k L st h = (f k L st h).bind fun s => ia_den P M y s.1 s.2.1 s.2.2.1 s.2.2.2 := by
  apply Option.ext
  intro o
  rw [ia_den_iff, Option.bind_eq_some_iff]
  constructor
  · rintro ⟨n, hn⟩
    cases n with
    | zero => cases hn
    | succ n =>
      rw [ia_run, hP] at hn
      obtain ⟨s, h1, h2⟩ := Option.bind_eq_some_iff.mp hn
      exact ⟨s, h1, (ia_den_iff P M).mpr ⟨n, h2⟩⟩
  · rintro ⟨s, h1, h2⟩
    obtain ⟨n, hn⟩ := (ia_den_iff P M).mp h2
    refine ⟨n + 1, ?_⟩
    rw [ia_run, hP]
    exact Option.bind_eq_some_iff.mpr ⟨s, h1, hn⟩
theorem ia_den_to {y k : Nat} {f : ia_F} (hP : P y k = some (.inl f)) {L : ia_L} {st : List Value} {h : ia_H} {k' : Nat} {L' : ia_L} {st' : List Value} {h' : ia_H} (hf : f k L st h = some (k', L', st', h')) : ia_den P M y k L st h = ia_den P M y k' L' st' h' := by
  rw [ia_den_go P M hP, hf]
  rfl
theorem ia_den_ret {y k r : Nat} (hP : P y k = some (.inr (.inr r))) (L : ia_L) (st : List Value) (h : ia_H) : ia_den P M y k L st h = (ia_ret r st).map fun v => (v, h) := by
  apply Option.ext
  intro o
  rw [ia_den_iff]
  constructor
  · rintro ⟨n, hn⟩
    cases n with
    | zero => cases hn
    | succ n =>
      rw [ia_run, hP] at hn
      exact hn
  · intro e
    refine ⟨1, ?_⟩
    rw [ia_run, hP]
    exact e
/-- a whole method, from its arguments -/
noncomputable def ia_call (y : Nat) (as : List Value) (h : ia_H) : ia_O := ia_den P M y 0 (ia_ent (M y) as) [] h
theorem ia_den_call {y k z na rc : Nat} (hP : P y k = some (.inr (.inl (z, na, rc)))) (L : ia_L) (st : List Value) (h : ia_H) (hl : na ≤ st.length) (hw : ia_w (st.take na) ≤ M z) (hd : ia_w (st.drop na) ≤ 8) : ia_den P M y k L st h = if ia_ok h rc (st.take na).reverse = true then (ia_call P M z (st.take na).reverse h).bind fun s => ia_den P M y (k + 1) L (s.1.toList ++ st.drop na) s.2 else none := by
  by_cases hok : ia_ok h rc (st.take na).reverse = true
  · have hnl : ¬ (st.length < na ∨ M z < ia_w (st.take na) ∨ 8 < ia_w (st.drop na) ∨ ia_ok h rc (st.take na).reverse = false) := by
      rintro (q | q | q | q)
      · omega
      · omega
      · omega
      · rw [hok] at q; cases q
    rw [if_pos hok]
    apply Option.ext
    intro o
    rw [ia_den_iff, Option.bind_eq_some_iff]
    unfold ia_call
    constructor
    · rintro ⟨n, hn⟩
      cases n with
      | zero => cases hn
      | succ n =>
        rw [ia_run, hP] at hn
        dsimp only at hn
        rw [if_neg hnl] at hn
        obtain ⟨s, h1, h2⟩ := Option.bind_eq_some_iff.mp hn
        exact ⟨s, (ia_den_iff P M).mpr ⟨n, h1⟩, (ia_den_iff P M).mpr ⟨n, h2⟩⟩
    · rintro ⟨s, h1, h2⟩
      obtain ⟨n2, hn2⟩ := (ia_den_iff P M).mp h2
      obtain ⟨n1, hn1⟩ := (ia_den_iff P M).mp h1
      refine ⟨max n1 n2 + 1, ?_⟩
      rw [ia_run, hP]
      dsimp only
      rw [if_neg hnl]
      exact Option.bind_eq_some_iff.mpr ⟨s, ia_run_le P M (Nat.le_max_left _ _) hn1, ia_run_le P M (Nat.le_max_right _ _) hn2⟩
  · rw [if_neg hok]
    apply Option.ext
    intro o
    rw [ia_den_iff]
    constructor
    · rintro ⟨n, hn⟩
      cases n with
      | zero => cases hn
      | succ n =>
        rw [ia_run, hP] at hn
        dsimp only at hn
        rw [if_pos (Or.inr (Or.inr (Or.inr (Bool.eq_false_iff.mpr hok))))] at hn
        cases hn
    · intro e; cases e
end IAD
end
section
/-! THE ACTS ARE THE MACHINE'S OWN STEPS. Cell k of the abstract heap is cell z + k of the machine's; the script is the cell b. -/
def is_tr (z b : Nat) : Value → Value
  | .ref k => .ref (z + k)
  | .float _ => .ref b
  | v => v
theorem is_cat (z b : Nat) (v : Value) : (is_tr z b v).category = v.category := by cases v <;> rfl
def is_trA (z : Nat) (a : vp_A) : vp_A := (a.1, match a.2 with
  | .inr (.inr (.inr (.inr f))) => .inr (.inr (.inr (.inr fun j => (f j).map (z + ·))))
  | x => x)
abbrev is_D : Type := va_G × (Nat → ClassId)
def is_E (D : is_D) (z b : Nat) : ia_E → va_E
  | .inl q => .inl (D.2 q.1, is_trA z q.2)
  | .inr q => .inr (q.1, q.2.map (is_tr z b))
def is_tys (dA : Nat → ClassId) : List (ClassId × FieldType) := [(dA 0, .int), (dA 1, .long), (dA 2, .char), (dA 3, .byte), (dA 4, .object "CardsAndBans$State")]
def is_Rl (D : is_D) (z b : Nat) (sc : Nat × (Nat → Int32)) (h : ia_H) (H : Heap) : Prop :=
  H.size = z + h.1 ∧ (∀ k, k < h.1 → va_at D.1 cb_cl (z + k, is_E D z b (ia_c h k)) H) ∧ (∀ k, h.1 ≤ k → ia_c h k = ia_dead) ∧ h.2.2.1 = sc
def is_LH (z b nL : Nat) (ls : Array Slot) (L : ia_L) : Prop :=
  ls.size = nL ∧ L.length = nL ∧ lv_wf ls ∧ ∀ (i : Nat) (v : Value), L[i]? = some (some v) → (v.category = 2 → L[i + 1]? = some none) → ls[i]? = some (.val (is_tr z b v))
/-- a method: name, bytes, locals, what it returns, frames and locals below it, places of its rows, its rows -/
abbrev is_M : Type := MethodName × ByteArray × Nat × Option FieldType × Nat × Nat × List Nat × List ia_R
abbrev is_cc (t : is_M) : ByteArray := t.2.1
abbrev is_mL (t : is_M) : Nat := t.2.2.1
abbrev is_rt (t : is_M) : Option FieldType := t.2.2.2.1
abbrev is_rF (t : is_M) : Nat := t.2.2.2.2.1
abbrev is_rL (t : is_M) : Nat := t.2.2.2.2.2.1
abbrev is_pc (t : is_M) (k : Nat) : Nat := t.2.2.2.2.2.2.1.getD k 0
abbrev is_row (t : is_M) (k : Nat) : Option ia_R := t.2.2.2.2.2.2.2[k]?
def is_Cx (t : is_M) (p : Program) (R : Room) (s : State) (m : MethodId) (args : Array Value) (meth : Method) (c : Code) (D : is_D) (z b : Nat) (sc : Nat × (Nat → Int32)) (H0 : Heap) : Prop :=
  p.tables.exec = Jvm.exec ∧ c.code = is_cc t ∧ c.maxLocals = is_mL t ∧ s.vm.findClass t.1.cls = some m.cls ∧ (∀ w ∈ cb_gw, w.before args s = true) ∧ (∀ w ∈ cb_nw, va_Nw w s) ∧ va_AO "CardsAndBans$State" s ∧
  va_K D.1 cb_cl (is_tys D.2) s ∧ meth.name = t.1.name ∧ va_X b sc.1 sc.2 s H0 ∧ b < z ∧ z ≤ H0.size ∧ is_rF t ≤ R.frames ∧ is_rL t ≤ R.locals
def is_FW (t : is_M) (p : Program) (l : Launch) (e : Env) (R : Room) (s : State) (m : MethodId) (args : Array Value) (below : List Frame) (meth : Method) (c : Code) (D : is_D) (z b : Nat) (sc : Nat × (Nat → Int32)) (H0 : Heap) (nx0 sn0 : Nat) (Q : State → Prop) (k : Nat) (L : ia_L) (st : List Value) (h : ia_H) : Prop :=
  ∀ (H : Heap) (locs : List Loc) (ls : Array Slot), is_Rl D z b sc h H → va_S (fun q => z ≤ q) H0 H locs → is_LH z b (is_mL t) ls L →
    W p l e R s m args below meth c H locs (h.1 - nx0) (h.2.1 - sn0) Q (F0 m (is_pc t k) ls (st.map (is_tr z b)))
def is_Ok (t : is_M) (k : Nat) (f : ia_F) : Prop :=
  ∀ (L : ia_L) (st : List Value) (h : ia_H) (k' : Nat) (L' : ia_L) (st' : List Value) (h' : ia_H), f k L st h = some (k', L', st', h') → h.1 ≤ h'.1 ∧ h.2.1 ≤ h'.2.1 ∧
    ∀ (p : Program) (l : Launch) (e : Env) (R : Room) (s : State) (m : MethodId) (args : Array Value) (below : List Frame) (meth : Method) (c : Code) (D : is_D) (z b : Nat) (sc : Nat × (Nat → Int32)) (H0 : Heap) (nx0 sn0 : Nat) (Q : State → Prop),
      is_Cx t p R s m args meth c D z b sc H0 → nx0 ≤ h.1 → sn0 ≤ h.2.1 → h'.1 - nx0 ≤ R.cells → h'.2.1 - sn0 ≤ R.slots →
      is_FW t p l e R s m args below meth c D z b sc H0 nx0 sn0 Q k' L' st' h' → is_FW t p l e R s m args below meth c D z b sc H0 nx0 sn0 Q k L st h
/-- an instruction, and the row behind it -/
def is_At (t : is_M) (k : Nat) (i : Instr) (n : Nat) : Prop := is_pc t (k + 1) = is_pc t k + n ∧ decode (is_cc t) (is_pc t k) = .ok (i, n)
def is_To (t : is_M) (k : Nat) (off : Int) (tgt : Nat) : Prop := (is_pc t k : Int) + off = (is_pc t tgt : Int)
/-! locals -/
def is_lv (z b : Nat) (L : ia_L) : List (Nat × Value) := (List.range L.length).filterMap fun j => match L[j]? with
  | some (some v) => if v.category = 2 ∧ ¬ L[j + 1]? = some none then none else some (j, is_tr z b v)
  | _ => none
theorem is_lv_mem {z b : Nat} {L : ia_L} {q : Nat × Value} (h : q ∈ is_lv z b L) : ∃ v, L[q.1]? = some (some v) ∧ (v.category = 2 → L[q.1 + 1]? = some none) ∧ q.2 = is_tr z b v := by
  obtain ⟨j, -, h2⟩ := List.mem_filterMap.mp h
  split at h2
  · rename_i v hv
    split at h2
    · cases h2
    · rename_i hc
      cases h2
      exact ⟨v, hv, fun h => Classical.byContradiction fun g => hc ⟨h, g⟩, rfl⟩
  · cases h2
theorem is_lv_of {z b : Nat} {L : ia_L} {j : Nat} {v : Value} (h : L[j]? = some (some v)) (hc : v.category = 2 → L[j + 1]? = some none) : (j, is_tr z b v) ∈ is_lv z b L := by
  refine List.mem_filterMap.mpr ⟨j, List.mem_range.mpr (List.getElem?_eq_some_iff.mp h).1, ?_⟩
  rw [h]
  dsimp only
  rw [if_neg]
  rintro ⟨h1, h2⟩
  exact h2 (hc h1)
theorem is_LH.has {z b nL : Nat} {ls : Array Slot} {L : ia_L} (h : is_LH z b nL ls L) : lv_has ls nL (is_lv z b L) := by
  refine ⟨h.1, h.2.2.1, fun q hq => ?_⟩
  obtain ⟨v, h1, h2, h3⟩ := is_lv_mem hq
  rw [h3]
  exact h.2.2.2 q.1 v h1 h2
theorem is_LH.set1 {z b nL i : Nat} {ls ls' : Array Slot} {L : ia_L} {v : Value} (h : is_LH z b nL ls L) (hc : v.category = 1) (h' : lv_has ls' nL ((i, is_tr z b v) :: (is_lv z b L).filter (fun q => !(q.1 == i) && !(q.1 + 1 == i && q.2.category == 2)))) : is_LH z b nL ls' (L.set i (some v)) := by
  refine ⟨h'.1, by rw [List.length_set]; exact h.2.1, h'.2.1, fun j w hj hw => ?_⟩
  by_cases hji : j = i
  · subst hji
    have hlt : j < L.length := by
      have := (List.getElem?_eq_some_iff.mp hj).1
      rwa [List.length_set] at this
    rw [List.getElem?_set_self hlt] at hj
    cases hj
    exact h'.2.2 _ List.mem_cons_self
  · rw [List.getElem?_set_ne (Ne.symm hji)] at hj
    have hw2 : w.category = 2 → L[j + 1]? = some none ∧ ¬ j + 1 = i := by
      intro hc2
      have h1 := hw hc2
      by_cases hi : j + 1 = i
      · subst hi
        have hlt : j + 1 < L.length := by
          have := (List.getElem?_eq_some_iff.mp h1).1
          rwa [List.length_set] at this
        rw [List.getElem?_set_self hlt] at h1
        cases h1
      · rw [List.getElem?_set_ne (Ne.symm hi)] at h1
        exact ⟨h1, hi⟩
    refine h'.2.2 (j, is_tr z b w) (List.mem_cons_of_mem _ (List.mem_filter.mpr ⟨is_lv_of hj (fun g => (hw2 g).1), ?_⟩))
    have hx : (is_tr z b w).category = w.category := is_cat z b w
    by_cases hc2 : w.category = 2
    · have := (hw2 hc2).2
      simp [hji, this]
    · simp [hji, hx, hc2]
theorem is_LH.set2 {z b nL i : Nat} {ls ls' : Array Slot} {L : ia_L} {x : Int64} (h : is_LH z b nL ls L) (h' : lv_has ls' nL ((i, .long x) :: (is_lv z b L).filter (fun q => !(q.1 == i) && (!(q.1 == i + 1) && !(q.1 + 1 == i && q.2.category == 2))))) : is_LH z b nL ls' ((L.set i (some (.long x))).set (i + 1) none) := by
  refine ⟨h'.1, by rw [List.length_set, List.length_set]; exact h.2.1, h'.2.1, fun j w hj hw => ?_⟩
  have hji1 : ¬ j = i + 1 := by
    intro e
    subst e
    have hlt : i + 1 < (L.set i (some (.long x))).length := by
      have := (List.getElem?_eq_some_iff.mp hj).1
      rwa [List.length_set] at this
    rw [List.getElem?_set_self hlt] at hj
    cases hj
  rw [List.getElem?_set_ne (Ne.symm hji1)] at hj
  by_cases hji : j = i
  · subst hji
    have hlt : j < L.length := by
      have := (List.getElem?_eq_some_iff.mp hj).1
      rwa [List.length_set] at this
    rw [List.getElem?_set_self hlt] at hj
    cases hj
    exact h'.2.2 _ List.mem_cons_self
  · rw [List.getElem?_set_ne (Ne.symm hji)] at hj
    have hw2 : w.category = 2 → L[j + 1]? = some none ∧ ¬ j + 1 = i := by
      intro hc2
      have h1 := hw hc2
      rw [List.getElem?_set_ne (by omega)] at h1
      by_cases hi : j + 1 = i
      · subst hi
        have hlt : j + 1 < L.length := by
          have := (List.getElem?_eq_some_iff.mp h1).1
          rwa [List.length_set] at this
        rw [List.getElem?_set_self hlt] at h1
        cases h1
      · rw [List.getElem?_set_ne (Ne.symm hi)] at h1
        exact ⟨h1, hi⟩
    refine h'.2.2 (j, is_tr z b w) (List.mem_cons_of_mem _ (List.mem_filter.mpr ⟨is_lv_of hj (fun g => (hw2 g).1), ?_⟩))
    have hx : (is_tr z b w).category = w.category := is_cat z b w
    by_cases hc2 : w.category = 2
    · have := (hw2 hc2).2
      simp [hji, hji1, this]
    · simp [hji, hji1, hx, hc2]

theorem ok_iadd {t : is_M} {k : Nat} (A : is_At t k (.iadd) 1) : is_Ok t k (ia_i2 fun x y => x + y) := by
  intro L st h k' L' st' h' hf
  unfold ia_i2 at hf
  split at hf
  · cases hf
    refine ⟨Nat.le_refl _, Nat.le_refl _, ?_⟩
    intro p l e R s m args below meth c D z b sc H0 nx0 sn0 Q C hn hs hcl hsl F H locs ls r S lh
    have w := F H locs ls r S lh
    rw [A.1] at w
    exact lv_iadd C.1 C.2.1 A.2 w
  · cases hf
theorem ok_isub {t : is_M} {k : Nat} (A : is_At t k (.isub) 1) : is_Ok t k (ia_i2 fun x y => x - y) := by
  intro L st h k' L' st' h' hf
  unfold ia_i2 at hf
  split at hf
  · cases hf
    refine ⟨Nat.le_refl _, Nat.le_refl _, ?_⟩
    intro p l e R s m args below meth c D z b sc H0 nx0 sn0 Q C hn hs hcl hsl F H locs ls r S lh
    have w := F H locs ls r S lh
    rw [A.1] at w
    exact lv_isub C.1 C.2.1 A.2 w
  · cases hf
theorem ok_imul {t : is_M} {k : Nat} (A : is_At t k (.imul) 1) : is_Ok t k (ia_i2 fun x y => x * y) := by
  intro L st h k' L' st' h' hf
  unfold ia_i2 at hf
  split at hf
  · cases hf
    refine ⟨Nat.le_refl _, Nat.le_refl _, ?_⟩
    intro p l e R s m args below meth c D z b sc H0 nx0 sn0 Q C hn hs hcl hsl F H locs ls r S lh
    have w := F H locs ls r S lh
    rw [A.1] at w
    exact lv_imul C.1 C.2.1 A.2 w
  · cases hf
theorem ok_iand {t : is_M} {k : Nat} (A : is_At t k (.iand) 1) : is_Ok t k (ia_i2 fun x y => x &&& y) := by
  intro L st h k' L' st' h' hf
  unfold ia_i2 at hf
  split at hf
  · cases hf
    refine ⟨Nat.le_refl _, Nat.le_refl _, ?_⟩
    intro p l e R s m args below meth c D z b sc H0 nx0 sn0 Q C hn hs hcl hsl F H locs ls r S lh
    have w := F H locs ls r S lh
    rw [A.1] at w
    exact lv_iand C.1 C.2.1 A.2 w
  · cases hf
theorem ok_ior {t : is_M} {k : Nat} (A : is_At t k (.ior) 1) : is_Ok t k (ia_i2 fun x y => x ||| y) := by
  intro L st h k' L' st' h' hf
  unfold ia_i2 at hf
  split at hf
  · cases hf
    refine ⟨Nat.le_refl _, Nat.le_refl _, ?_⟩
    intro p l e R s m args below meth c D z b sc H0 nx0 sn0 Q C hn hs hcl hsl F H locs ls r S lh
    have w := F H locs ls r S lh
    rw [A.1] at w
    exact lv_ior C.1 C.2.1 A.2 w
  · cases hf
theorem ok_ixor {t : is_M} {k : Nat} (A : is_At t k (.ixor) 1) : is_Ok t k (ia_i2 fun x y => x ^^^ y) := by
  intro L st h k' L' st' h' hf
  unfold ia_i2 at hf
  split at hf
  · cases hf
    refine ⟨Nat.le_refl _, Nat.le_refl _, ?_⟩
    intro p l e R s m args below meth c D z b sc H0 nx0 sn0 Q C hn hs hcl hsl F H locs ls r S lh
    have w := F H locs ls r S lh
    rw [A.1] at w
    exact lv_ixor C.1 C.2.1 A.2 w
  · cases hf
theorem ok_ishl {t : is_M} {k : Nat} (A : is_At t k (.ishl) 1) : is_Ok t k (ia_i2 fun x y => x <<< (y &&& 31)) := by
  intro L st h k' L' st' h' hf
  unfold ia_i2 at hf
  split at hf
  · cases hf
    refine ⟨Nat.le_refl _, Nat.le_refl _, ?_⟩
    intro p l e R s m args below meth c D z b sc H0 nx0 sn0 Q C hn hs hcl hsl F H locs ls r S lh
    have w := F H locs ls r S lh
    rw [A.1] at w
    exact lv_ishl C.1 C.2.1 A.2 w
  · cases hf
theorem ok_ishr {t : is_M} {k : Nat} (A : is_At t k (.ishr) 1) : is_Ok t k (ia_i2 fun x y => x >>> (y &&& 31)) := by
  intro L st h k' L' st' h' hf
  unfold ia_i2 at hf
  split at hf
  · cases hf
    refine ⟨Nat.le_refl _, Nat.le_refl _, ?_⟩
    intro p l e R s m args below meth c D z b sc H0 nx0 sn0 Q C hn hs hcl hsl F H locs ls r S lh
    have w := F H locs ls r S lh
    rw [A.1] at w
    exact lv_ishr C.1 C.2.1 A.2 w
  · cases hf
theorem ok_iushr {t : is_M} {k : Nat} (A : is_At t k (.iushr) 1) : is_Ok t k (ia_i2 fun x y => (x.toUInt32 >>> (y.toUInt32 &&& Int32.toUInt32 31)).toInt32) := by
  intro L st h k' L' st' h' hf
  unfold ia_i2 at hf
  split at hf
  · cases hf
    refine ⟨Nat.le_refl _, Nat.le_refl _, ?_⟩
    intro p l e R s m args below meth c D z b sc H0 nx0 sn0 Q C hn hs hcl hsl F H locs ls r S lh
    have w := F H locs ls r S lh
    rw [A.1] at w
    exact lv_iushr C.1 C.2.1 A.2 rfl w
  · cases hf
theorem ok_ladd {t : is_M} {k : Nat} (A : is_At t k (.ladd) 1) : is_Ok t k (ia_l2 fun x y => x + y) := by
  intro L st h k' L' st' h' hf
  unfold ia_l2 at hf
  split at hf
  · cases hf
    refine ⟨Nat.le_refl _, Nat.le_refl _, ?_⟩
    intro p l e R s m args below meth c D z b sc H0 nx0 sn0 Q C hn hs hcl hsl F H locs ls r S lh
    have w := F H locs ls r S lh
    rw [A.1] at w
    exact lv_ladd C.1 C.2.1 A.2 w
  · cases hf
theorem ok_lsub {t : is_M} {k : Nat} (A : is_At t k (.lsub) 1) : is_Ok t k (ia_l2 fun x y => x - y) := by
  intro L st h k' L' st' h' hf
  unfold ia_l2 at hf
  split at hf
  · cases hf
    refine ⟨Nat.le_refl _, Nat.le_refl _, ?_⟩
    intro p l e R s m args below meth c D z b sc H0 nx0 sn0 Q C hn hs hcl hsl F H locs ls r S lh
    have w := F H locs ls r S lh
    rw [A.1] at w
    exact lv_lsub C.1 C.2.1 A.2 w
  · cases hf
theorem ok_land {t : is_M} {k : Nat} (A : is_At t k (.land) 1) : is_Ok t k (ia_l2 fun x y => x &&& y) := by
  intro L st h k' L' st' h' hf
  unfold ia_l2 at hf
  split at hf
  · cases hf
    refine ⟨Nat.le_refl _, Nat.le_refl _, ?_⟩
    intro p l e R s m args below meth c D z b sc H0 nx0 sn0 Q C hn hs hcl hsl F H locs ls r S lh
    have w := F H locs ls r S lh
    rw [A.1] at w
    exact lv_land C.1 C.2.1 A.2 w
  · cases hf
theorem ok_lor {t : is_M} {k : Nat} (A : is_At t k (.lor) 1) : is_Ok t k (ia_l2 fun x y => x ||| y) := by
  intro L st h k' L' st' h' hf
  unfold ia_l2 at hf
  split at hf
  · cases hf
    refine ⟨Nat.le_refl _, Nat.le_refl _, ?_⟩
    intro p l e R s m args below meth c D z b sc H0 nx0 sn0 Q C hn hs hcl hsl F H locs ls r S lh
    have w := F H locs ls r S lh
    rw [A.1] at w
    exact lv_lor C.1 C.2.1 A.2 w
  · cases hf
theorem ok_lshl {t : is_M} {k : Nat} (A : is_At t k (.lshl) 1) : is_Ok t k (ia_lsh fun x y => x <<< (y.toInt64 &&& 63)) := by
  intro L st h k' L' st' h' hf
  unfold ia_lsh at hf
  split at hf
  · cases hf
    refine ⟨Nat.le_refl _, Nat.le_refl _, ?_⟩
    intro p l e R s m args below meth c D z b sc H0 nx0 sn0 Q C hn hs hcl hsl F H locs ls r S lh
    have w := F H locs ls r S lh
    rw [A.1] at w
    exact lv_lshl C.1 C.2.1 A.2 rfl w
  · cases hf
theorem ok_lushr {t : is_M} {k : Nat} (A : is_At t k (.lushr) 1) : is_Ok t k (ia_lsh fun x y => (x.toUInt64 >>> (y.toInt64.toUInt64 &&& Int64.toUInt64 63)).toInt64) := by
  intro L st h k' L' st' h' hf
  unfold ia_lsh at hf
  split at hf
  · cases hf
    refine ⟨Nat.le_refl _, Nat.le_refl _, ?_⟩
    intro p l e R s m args below meth c D z b sc H0 nx0 sn0 Q C hn hs hcl hsl F H locs ls r S lh
    have w := F H locs ls r S lh
    rw [A.1] at w
    exact lv_lushr C.1 C.2.1 A.2 rfl w
  · cases hf
theorem ok_lcmp {t : is_M} {k : Nat} (A : is_At t k (.lcmp) 1) : is_Ok t k (ia_lcmp) := by
  intro L st h k' L' st' h' hf
  unfold ia_lcmp at hf
  split at hf
  · cases hf
    refine ⟨Nat.le_refl _, Nat.le_refl _, ?_⟩
    intro p l e R s m args below meth c D z b sc H0 nx0 sn0 Q C hn hs hcl hsl F H locs ls r S lh
    have w := F H locs ls r S lh
    rw [A.1] at w
    exact W.lcmp C.1 C.2.1 A.2 w
  · cases hf
theorem ok_i2l {t : is_M} {k : Nat} (A : is_At t k (.i2l) 1) : is_Ok t k (ia_i2l) := by
  intro L st h k' L' st' h' hf
  unfold ia_i2l at hf
  split at hf
  · cases hf
    refine ⟨Nat.le_refl _, Nat.le_refl _, ?_⟩
    intro p l e R s m args below meth c D z b sc H0 nx0 sn0 Q C hn hs hcl hsl F H locs ls r S lh
    have w := F H locs ls r S lh
    rw [A.1] at w
    exact lv_i2l C.1 C.2.1 A.2 rfl w
  · cases hf
theorem ok_l2i {t : is_M} {k : Nat} (A : is_At t k (.l2i) 1) : is_Ok t k (ia_l2i) := by
  intro L st h k' L' st' h' hf
  unfold ia_l2i at hf
  split at hf
  · cases hf
    refine ⟨Nat.le_refl _, Nat.le_refl _, ?_⟩
    intro p l e R s m args below meth c D z b sc H0 nx0 sn0 Q C hn hs hcl hsl F H locs ls r S lh
    have w := F H locs ls r S lh
    rw [A.1] at w
    exact lv_l2i C.1 C.2.1 A.2 rfl w
  · cases hf
theorem ok_i2b {t : is_M} {k : Nat} (A : is_At t k (.i2b) 1) : is_Ok t k (ia_i1 fun x => x.toInt8.toInt32) := by
  intro L st h k' L' st' h' hf
  unfold ia_i1 at hf
  split at hf
  · cases hf
    refine ⟨Nat.le_refl _, Nat.le_refl _, ?_⟩
    intro p l e R s m args below meth c D z b sc H0 nx0 sn0 Q C hn hs hcl hsl F H locs ls r S lh
    have w := F H locs ls r S lh
    rw [A.1] at w
    exact lv_i2b C.1 C.2.1 A.2 rfl w
  · cases hf
theorem ok_i2c {t : is_M} {k : Nat} (A : is_At t k (.i2c) 1) : is_Ok t k (ia_i1 fun x => (x.toUInt32 % 65536).toInt32) := by
  intro L st h k' L' st' h' hf
  unfold ia_i1 at hf
  split at hf
  · cases hf
    refine ⟨Nat.le_refl _, Nat.le_refl _, ?_⟩
    intro p l e R s m args below meth c D z b sc H0 nx0 sn0 Q C hn hs hcl hsl F H locs ls r S lh
    have w := F H locs ls r S lh
    rw [A.1] at w
    exact lv_i2c C.1 C.2.1 A.2 rfl w
  · cases hf
theorem ok_idiv {t : is_M} {k : Nat} (A : is_At t k .idiv 1) : is_Ok t k (ia_i2z fun x y => x / y) := by
  intro L st h k' L' st' h' hf
  unfold ia_i2z at hf
  split at hf
  · split at hf
    · cases hf
    · rename_i hne
      cases hf
      refine ⟨Nat.le_refl _, Nat.le_refl _, ?_⟩
      intro p l e R s m args below meth c D z b sc H0 nx0 sn0 Q C hn hs hcl hsl F H locs ls r S lh
      have w := F H locs ls r S lh
      rw [A.1] at w
      exact lv_idiv C.1 C.2.1 A.2 hne w
  · cases hf
theorem ok_irem {t : is_M} {k : Nat} (A : is_At t k .irem 1) : is_Ok t k (ia_i2z fun x y => x - x / y * y) := by
  intro L st h k' L' st' h' hf
  unfold ia_i2z at hf
  split at hf
  · split at hf
    · cases hf
    · rename_i hne
      cases hf
      refine ⟨Nat.le_refl _, Nat.le_refl _, ?_⟩
      intro p l e R s m args below meth c D z b sc H0 nx0 sn0 Q C hn hs hcl hsl F H locs ls r S lh
      have w := F H locs ls r S lh
      rw [A.1] at w
      exact lv_irem C.1 C.2.1 A.2 hne w
  · cases hf
theorem ok_iconst {t : is_M} {k : Nat} {n : Int} {v : Int32} (hv : Int32.ofInt n = v) (A : is_At t k (.iconst n) 1) : is_Ok t k (ia_const (.int v)) := by
  intro L st h k' L' st' h' hf
  unfold ia_const at hf
  cases hf
  refine ⟨Nat.le_refl _, Nat.le_refl _, ?_⟩
  intro p l e R s m args below meth c D z b sc H0 nx0 sn0 Q C hn hs hcl hsl F H locs ls r S lh
  have w := F H locs ls r S lh
  rw [A.1] at w
  exact lv_iconst C.1 C.2.1 A.2 hv w
theorem ok_bipush {t : is_M} {k : Nat} {n : Int} {v : Int32} (hv : (Int8.ofInt n).toInt32 = v) (A : is_At t k (.bipush n) 2) : is_Ok t k (ia_const (.int v)) := by
  intro L st h k' L' st' h' hf
  unfold ia_const at hf
  cases hf
  refine ⟨Nat.le_refl _, Nat.le_refl _, ?_⟩
  intro p l e R s m args below meth c D z b sc H0 nx0 sn0 Q C hn hs hcl hsl F H locs ls r S lh
  have w := F H locs ls r S lh
  rw [A.1] at w
  exact lv_bipush C.1 C.2.1 A.2 hv w
theorem ok_sipush {t : is_M} {k : Nat} {n : Int} {v : Int32} (hv : (Int16.ofInt n).toInt32 = v) (A : is_At t k (.sipush n) 3) : is_Ok t k (ia_const (.int v)) := by
  intro L st h k' L' st' h' hf
  unfold ia_const at hf
  cases hf
  refine ⟨Nat.le_refl _, Nat.le_refl _, ?_⟩
  intro p l e R s m args below meth c D z b sc H0 nx0 sn0 Q C hn hs hcl hsl F H locs ls r S lh
  have w := F H locs ls r S lh
  rw [A.1] at w
  exact lv_sipush C.1 C.2.1 A.2 hv w
theorem ok_lconst {t : is_M} {k : Nat} {n : Fin 2} {v : Int64} (hv : Int64.ofNat (n : Nat) = v) (A : is_At t k (.lconst n) 1) : is_Ok t k (ia_const (.long v)) := by
  intro L st h k' L' st' h' hf
  unfold ia_const at hf
  cases hf
  refine ⟨Nat.le_refl _, Nat.le_refl _, ?_⟩
  intro p l e R s m args below meth c D z b sc H0 nx0 sn0 Q C hn hs hcl hsl F H locs ls r S lh
  have w := F H locs ls r S lh
  rw [A.1] at w
  exact lv_lconst C.1 C.2.1 A.2 hv w
theorem ok_ldcw {t : is_M} {k : Nat} {index : Nat} {v : Int32} (hc : Cond.constant t.1.cls index v ∈ cb_gw) (A : is_At t k (.ldc_w index) 3) : is_Ok t k (ia_const (.int v)) := by
  intro L st h k' L' st' h' hf
  unfold ia_const at hf
  cases hf
  refine ⟨Nat.le_refl _, Nat.le_refl _, ?_⟩
  intro p l e R s m args below meth c D z b sc H0 nx0 sn0 Q C hn hs hcl hsl F H locs ls r S lh
  have w := F H locs ls r S lh
  rw [A.1] at w
  exact lv_ldcw C.1 C.2.1 C.2.2.2.1 (C.2.2.2.2.1 _ hc) A.2 w
theorem ok_ldc2 {t : is_M} {k : Nat} {index : Nat} {v : Int64} (hc : Cond.constantLong t.1.cls index v ∈ cb_gw) (A : is_At t k (.ldc2_w index) 3) : is_Ok t k (ia_const (.long v)) := by
  intro L st h k' L' st' h' hf
  unfold ia_const at hf
  cases hf
  refine ⟨Nat.le_refl _, Nat.le_refl _, ?_⟩
  intro p l e R s m args below meth c D z b sc H0 nx0 sn0 Q C hn hs hcl hsl F H locs ls r S lh
  have w := F H locs ls r S lh
  rw [A.1] at w
  exact lv_ldc2 C.1 C.2.1 C.2.2.2.1 (C.2.2.2.2.1 _ hc) A.2 w
theorem ok_iload_n {t : is_M} {k : Nat} {i : Fin 4} {j : Nat} (hj : (i : Nat) = j) (A : is_At t k (.iload_n i) 1) : is_Ok t k (ia_iload j) := by
  intro L st h k' L' st' h' hf
  unfold ia_iload at hf
  split at hf
  · rename_i x hv
    cases hf
    refine ⟨Nat.le_refl _, Nat.le_refl _, ?_⟩
    intro p l e R s m args below meth c D z b sc H0 nx0 sn0 Q C hn hs hcl hsl F H locs ls r S lh
    have w := F H locs ls r S lh
    rw [A.1] at w
    exact lv_iload_n C.1 C.2.1 A.2 hj (lh.2.2.2 _ _ hv (fun g => by cases g)) w
  · cases hf
theorem ok_iload {t : is_M} {k : Nat} {j : Nat} (A : is_At t k (.iload j) 2) : is_Ok t k (ia_iload j) := by
  intro L st h k' L' st' h' hf
  unfold ia_iload at hf
  split at hf
  · rename_i x hv
    cases hf
    refine ⟨Nat.le_refl _, Nat.le_refl _, ?_⟩
    intro p l e R s m args below meth c D z b sc H0 nx0 sn0 Q C hn hs hcl hsl F H locs ls r S lh
    have w := F H locs ls r S lh
    rw [A.1] at w
    exact lv_iload C.1 C.2.1 A.2 (lh.2.2.2 _ _ hv (fun g => by cases g)) w
  · cases hf
theorem ok_lload_n {t : is_M} {k : Nat} {i : Fin 4} {j : Nat} (hj : (i : Nat) = j) (A : is_At t k (.lload_n i) 1) : is_Ok t k (ia_lload j) := by
  intro L st h k' L' st' h' hf
  unfold ia_lload at hf
  split at hf
  · rename_i x hv hv2
    cases hf
    refine ⟨Nat.le_refl _, Nat.le_refl _, ?_⟩
    intro p l e R s m args below meth c D z b sc H0 nx0 sn0 Q C hn hs hcl hsl F H locs ls r S lh
    have w := F H locs ls r S lh
    rw [A.1] at w
    exact lv_lload_n C.1 C.2.1 A.2 hj (lh.2.2.2 _ _ hv (fun _ => hv2)) w
  · cases hf
theorem ok_lload {t : is_M} {k : Nat} {j : Nat} (A : is_At t k (.lload j) 2) : is_Ok t k (ia_lload j) := by
  intro L st h k' L' st' h' hf
  unfold ia_lload at hf
  split at hf
  · rename_i x hv hv2
    cases hf
    refine ⟨Nat.le_refl _, Nat.le_refl _, ?_⟩
    intro p l e R s m args below meth c D z b sc H0 nx0 sn0 Q C hn hs hcl hsl F H locs ls r S lh
    have w := F H locs ls r S lh
    rw [A.1] at w
    exact lv_lload C.1 C.2.1 A.2 (lh.2.2.2 _ _ hv (fun _ => hv2)) w
  · cases hf
theorem ok_aload_n {t : is_M} {k : Nat} {i : Fin 4} {j : Nat} (hj : (i : Nat) = j) (A : is_At t k (.aload_n i) 1) : is_Ok t k (ia_aload j) := by
  intro L st h k' L' st' h' hf
  unfold ia_aload at hf
  split at hf
  · rename_i x hv
    cases hf
    refine ⟨Nat.le_refl _, Nat.le_refl _, ?_⟩
    intro p l e R s m args below meth c D z b sc H0 nx0 sn0 Q C hn hs hcl hsl F H locs ls r S lh
    have w := F H locs ls r S lh
    rw [A.1] at w
    exact lv_aload_n C.1 C.2.1 A.2 hj (lh.2.2.2 _ _ hv (fun g => by cases g)) w
  · rename_i hv
    cases hf
    refine ⟨Nat.le_refl _, Nat.le_refl _, ?_⟩
    intro p l e R s m args below meth c D z b sc H0 nx0 sn0 Q C hn hs hcl hsl F H locs ls r S lh
    have w := F H locs ls r S lh
    rw [A.1] at w
    exact lv_aload_nN C.1 C.2.1 A.2 hj (lh.2.2.2 _ _ hv (fun g => by cases g)) w
  · rename_i x hv
    cases hf
    refine ⟨Nat.le_refl _, Nat.le_refl _, ?_⟩
    intro p l e R s m args below meth c D z b sc H0 nx0 sn0 Q C hn hs hcl hsl F H locs ls r S lh
    have w := F H locs ls r S lh
    rw [A.1] at w
    exact lv_aload_n C.1 C.2.1 A.2 hj (lh.2.2.2 _ _ hv (fun g => by cases g)) w
  · cases hf
theorem ok_aload {t : is_M} {k : Nat} {j : Nat} (A : is_At t k (.aload j) 2) : is_Ok t k (ia_aload j) := by
  intro L st h k' L' st' h' hf
  unfold ia_aload at hf
  split at hf
  · rename_i x hv
    cases hf
    refine ⟨Nat.le_refl _, Nat.le_refl _, ?_⟩
    intro p l e R s m args below meth c D z b sc H0 nx0 sn0 Q C hn hs hcl hsl F H locs ls r S lh
    have w := F H locs ls r S lh
    rw [A.1] at w
    exact lv_aload C.1 C.2.1 A.2 (lh.2.2.2 _ _ hv (fun g => by cases g)) w
  · rename_i hv
    cases hf
    refine ⟨Nat.le_refl _, Nat.le_refl _, ?_⟩
    intro p l e R s m args below meth c D z b sc H0 nx0 sn0 Q C hn hs hcl hsl F H locs ls r S lh
    have w := F H locs ls r S lh
    rw [A.1] at w
    exact lv_aloadN C.1 C.2.1 A.2 (lh.2.2.2 _ _ hv (fun g => by cases g)) w
  · rename_i x hv
    cases hf
    refine ⟨Nat.le_refl _, Nat.le_refl _, ?_⟩
    intro p l e R s m args below meth c D z b sc H0 nx0 sn0 Q C hn hs hcl hsl F H locs ls r S lh
    have w := F H locs ls r S lh
    rw [A.1] at w
    exact lv_aload C.1 C.2.1 A.2 (lh.2.2.2 _ _ hv (fun g => by cases g)) w
  · cases hf
theorem ok_istore_n {t : is_M} {k : Nat} {i : Fin 4} {j : Nat} (hj : (i : Nat) = j) (A : is_At t k (.istore_n i) 1) : is_Ok t k (ia_istore j) := by
  intro L st h k' L' st' h' hf
  unfold ia_istore at hf
  split at hf
  · split at hf
    · rename_i hi
      cases hf
      refine ⟨Nat.le_refl _, Nat.le_refl _, ?_⟩
      intro p l e R s m args below meth c D z b sc H0 nx0 sn0 Q C hn hs hcl hsl F H locs ls r S lh
      refine lv_istore_n C.1 C.2.1 A.2 hj lh.has (by rw [← lh.2.1]; exact hi) rfl (fun ls' h' => ?_)
      have w := F H locs ls' r S (lh.set1 rfl h')
      rw [A.1] at w
      exact w
    · cases hf
  · cases hf
theorem ok_istore {t : is_M} {k : Nat} {j : Nat} (A : is_At t k (.istore j) 2) : is_Ok t k (ia_istore j) := by
  intro L st h k' L' st' h' hf
  unfold ia_istore at hf
  split at hf
  · split at hf
    · rename_i hi
      cases hf
      refine ⟨Nat.le_refl _, Nat.le_refl _, ?_⟩
      intro p l e R s m args below meth c D z b sc H0 nx0 sn0 Q C hn hs hcl hsl F H locs ls r S lh
      refine lv_istore C.1 C.2.1 A.2 lh.has (by rw [← lh.2.1]; exact hi) rfl (fun ls' h' => ?_)
      have w := F H locs ls' r S (lh.set1 rfl h')
      rw [A.1] at w
      exact w
    · cases hf
  · cases hf
theorem ok_lstore_n {t : is_M} {k : Nat} {i : Fin 4} {j : Nat} (hj : (i : Nat) = j) (A : is_At t k (.lstore_n i) 1) : is_Ok t k (ia_lstore j) := by
  intro L st h k' L' st' h' hf
  unfold ia_lstore at hf
  split at hf
  · split at hf
    · rename_i hi
      cases hf
      refine ⟨Nat.le_refl _, Nat.le_refl _, ?_⟩
      intro p l e R s m args below meth c D z b sc H0 nx0 sn0 Q C hn hs hcl hsl F H locs ls r S lh
      refine lv_lstore_n C.1 C.2.1 A.2 hj lh.has (by rw [← lh.2.1]; exact hi) rfl (fun ls' h' => ?_)
      have w := F H locs ls' r S (lh.set2 h')
      rw [A.1] at w
      exact w
    · cases hf
  · cases hf
theorem ok_lstore {t : is_M} {k : Nat} {j : Nat} (A : is_At t k (.lstore j) 2) : is_Ok t k (ia_lstore j) := by
  intro L st h k' L' st' h' hf
  unfold ia_lstore at hf
  split at hf
  · split at hf
    · rename_i hi
      cases hf
      refine ⟨Nat.le_refl _, Nat.le_refl _, ?_⟩
      intro p l e R s m args below meth c D z b sc H0 nx0 sn0 Q C hn hs hcl hsl F H locs ls r S lh
      refine lv_lstore C.1 C.2.1 A.2 lh.has (by rw [← lh.2.1]; exact hi) rfl (fun ls' h' => ?_)
      have w := F H locs ls' r S (lh.set2 h')
      rw [A.1] at w
      exact w
    · cases hf
  · cases hf
theorem ok_astore_n {t : is_M} {k : Nat} {i : Fin 4} {j : Nat} (hj : (i : Nat) = j) (A : is_At t k (.astore_n i) 1) : is_Ok t k (ia_astore j) := by
  intro L st h k' L' st' h' hf
  unfold ia_astore at hf
  split at hf
  · split at hf
    · rename_i hi
      cases hf
      refine ⟨Nat.le_refl _, Nat.le_refl _, ?_⟩
      intro p l e R s m args below meth c D z b sc H0 nx0 sn0 Q C hn hs hcl hsl F H locs ls r S lh
      refine lv_astore_n C.1 C.2.1 A.2 hj lh.has (by rw [← lh.2.1]; exact hi) rfl (fun ls' h' => ?_)
      have w := F H locs ls' r S (lh.set1 rfl h')
      rw [A.1] at w
      exact w
    · cases hf
  · split at hf
    · rename_i hi
      cases hf
      refine ⟨Nat.le_refl _, Nat.le_refl _, ?_⟩
      intro p l e R s m args below meth c D z b sc H0 nx0 sn0 Q C hn hs hcl hsl F H locs ls r S lh
      refine lv_astore_nN C.1 C.2.1 A.2 hj lh.has (by rw [← lh.2.1]; exact hi) rfl (fun ls' h' => ?_)
      have w := F H locs ls' r S (lh.set1 rfl h')
      rw [A.1] at w
      exact w
    · cases hf
  · cases hf
theorem ok_astore {t : is_M} {k : Nat} {j : Nat} (A : is_At t k (.astore j) 2) : is_Ok t k (ia_astore j) := by
  intro L st h k' L' st' h' hf
  unfold ia_astore at hf
  split at hf
  · split at hf
    · rename_i hi
      cases hf
      refine ⟨Nat.le_refl _, Nat.le_refl _, ?_⟩
      intro p l e R s m args below meth c D z b sc H0 nx0 sn0 Q C hn hs hcl hsl F H locs ls r S lh
      refine lv_astore C.1 C.2.1 A.2 lh.has (by rw [← lh.2.1]; exact hi) rfl (fun ls' h' => ?_)
      have w := F H locs ls' r S (lh.set1 rfl h')
      rw [A.1] at w
      exact w
    · cases hf
  · split at hf
    · rename_i hi
      cases hf
      refine ⟨Nat.le_refl _, Nat.le_refl _, ?_⟩
      intro p l e R s m args below meth c D z b sc H0 nx0 sn0 Q C hn hs hcl hsl F H locs ls r S lh
      refine lv_astoreN C.1 C.2.1 A.2 lh.has (by rw [← lh.2.1]; exact hi) rfl (fun ls' h' => ?_)
      have w := F H locs ls' r S (lh.set1 rfl h')
      rw [A.1] at w
      exact w
    · cases hf
  · cases hf
theorem ok_iinc {t : is_M} {k : Nat} {j : Nat} {n : Int} (A : is_At t k (.iinc j n) 3) : is_Ok t k (ia_iinc j n) := by
  intro L st h k' L' st' h' hf
  unfold ia_iinc at hf
  split at hf
  · rename_i x hv
    cases hf
    refine ⟨Nat.le_refl _, Nat.le_refl _, ?_⟩
    intro p l e R s m args below meth c D z b sc H0 nx0 sn0 Q C hn hs hcl hsl F H locs ls r S lh
    obtain ⟨i, hi⟩ := List.getElem?_of_mem (is_lv_of (z := z) (b := b) hv (fun g => by cases g))
    refine lv_iinc C.1 C.2.1 A.2 lh.has hi rfl (by rw [← lh.2.1]; exact (List.getElem?_eq_some_iff.mp hv).1) rfl (fun ls' h' => ?_)
    have w := F H locs ls' r S (lh.set1 (v := .int (x + Int32.ofInt n)) rfl h')
    rw [A.1] at w
    exact w
  · cases hf
theorem ok_dup {t : is_M} {k : Nat} (A : is_At t k .dup 1) : is_Ok t k ia_dup := by
  intro L st h k' L' st' h' hf
  unfold ia_dup at hf
  split at hf
  · split at hf
    · rename_i hc
      cases hf
      refine ⟨Nat.le_refl _, Nat.le_refl _, ?_⟩
      intro p l e R s m args below meth c D z b sc H0 nx0 sn0 Q C hn hs hcl hsl F H locs ls r S lh
      have w := F H locs ls r S lh
      rw [A.1] at w
      exact lv_dup C.1 C.2.1 A.2 ((is_cat z b _).trans hc) w
    · cases hf
  · cases hf
theorem ok_pop {t : is_M} {k : Nat} (A : is_At t k .pop 1) : is_Ok t k ia_pop := by
  intro L st h k' L' st' h' hf
  unfold ia_pop at hf
  split at hf
  · split at hf
    · rename_i hc
      cases hf
      refine ⟨Nat.le_refl _, Nat.le_refl _, ?_⟩
      intro p l e R s m args below meth c D z b sc H0 nx0 sn0 Q C hn hs hcl hsl F H locs ls r S lh
      have w := F H locs ls r S lh
      rw [A.1] at w
      exact lv_pop C.1 C.2.1 A.2 ((is_cat z b _).trans hc) w
    · cases hf
  · cases hf
theorem ok_dupx1 {t : is_M} {k : Nat} (A : is_At t k .dup_x1 1) : is_Ok t k ia_dupx1 := by
  intro L st h k' L' st' h' hf
  unfold ia_dupx1 at hf
  split at hf
  · split at hf
    · rename_i hc
      cases hf
      refine ⟨Nat.le_refl _, Nat.le_refl _, ?_⟩
      intro p l e R s m args below meth c D z b sc H0 nx0 sn0 Q C hn hs hcl hsl F H locs ls r S lh
      have w := F H locs ls r S lh
      rw [A.1] at w
      exact lv_dup_x1 C.1 C.2.1 A.2 ((is_cat z b _).trans hc.1) ((is_cat z b _).trans hc.2) w
    · cases hf
  · cases hf
theorem ok_dup2 {t : is_M} {k : Nat} (A : is_At t k .dup2 1) : is_Ok t k ia_dup2 := by
  intro L st h k' L' st' h' hf
  unfold ia_dup2 at hf
  split at hf
  · split at hf
    · rename_i hc
      cases hf
      refine ⟨Nat.le_refl _, Nat.le_refl _, ?_⟩
      intro p l e R s m args below meth c D z b sc H0 nx0 sn0 Q C hn hs hcl hsl F H locs ls r S lh
      have w := F H locs ls r S lh
      rw [A.1] at w
      exact lv_dup2_11 C.1 C.2.1 A.2 ((is_cat z b _).trans hc.1) ((is_cat z b _).trans hc.2) w
    · cases hf
  · cases hf
theorem ok_goto {t : is_M} {k tgt : Nat} {off : Int} (A : decode (is_cc t) (is_pc t k) = .ok (.goto off, 3)) (J : is_To t k off tgt) : is_Ok t k (ia_goto tgt) := by
  intro L st h k' L' st' h' hf
  unfold ia_goto at hf
  cases hf
  refine ⟨Nat.le_refl _, Nat.le_refl _, ?_⟩
  intro p l e R s m args below meth c D z b sc H0 nx0 sn0 Q C hn hs hcl hsl F H locs ls r S lh
  exact lv_goto C.1 C.2.1 A J (F H locs ls r S lh)
theorem ok_ifeq {t : is_M} {k tgt : Nat} {off : Int} (A : is_At t k (.ifCond .eq off) 3) (J : is_To t k off tgt) : is_Ok t k (ia_ifeq tgt) := by
  intro L st h k' L' st' h' hf
  unfold ia_ifeq at hf
  split at hf
  · cases hf
    refine ⟨Nat.le_refl _, Nat.le_refl _, ?_⟩
    intro p l e R s m args below meth c D z b sc H0 nx0 sn0 Q C hn hs hcl hsl F H locs ls r S lh
    have w := F H locs ls r S lh
    refine lv_if_eq C.1 C.2.1 A.2 J (fun q => ?_) (fun q => ?_)
    · rw [if_pos q] at w
      exact w
    · rw [if_neg q, A.1] at w
      exact w
  · cases hf
theorem ok_ifne {t : is_M} {k tgt : Nat} {off : Int} (A : is_At t k (.ifCond .ne off) 3) (J : is_To t k off tgt) : is_Ok t k (ia_ifne tgt) := by
  intro L st h k' L' st' h' hf
  unfold ia_ifne at hf
  split at hf
  · cases hf
    refine ⟨Nat.le_refl _, Nat.le_refl _, ?_⟩
    intro p l e R s m args below meth c D z b sc H0 nx0 sn0 Q C hn hs hcl hsl F H locs ls r S lh
    have w := F H locs ls r S lh
    refine lv_if_ne C.1 C.2.1 A.2 J (fun q => ?_) (fun q => ?_)
    · rw [if_neg q] at w
      exact w
    · rw [if_pos q, A.1] at w
      exact w
  · cases hf
theorem ok_iflt {t : is_M} {k tgt : Nat} {off : Int} (A : is_At t k (.ifCond .lt off) 3) (J : is_To t k off tgt) : is_Ok t k (ia_iflt tgt) := by
  intro L st h k' L' st' h' hf
  unfold ia_iflt at hf
  split at hf
  · cases hf
    refine ⟨Nat.le_refl _, Nat.le_refl _, ?_⟩
    intro p l e R s m args below meth c D z b sc H0 nx0 sn0 Q C hn hs hcl hsl F H locs ls r S lh
    have w := F H locs ls r S lh
    refine lv_if_lt C.1 C.2.1 A.2 J (fun q => ?_) (fun q => ?_)
    · rw [if_pos q] at w
      exact w
    · rw [if_neg q, A.1] at w
      exact w
  · cases hf
theorem ok_ifge {t : is_M} {k tgt : Nat} {off : Int} (A : is_At t k (.ifCond .ge off) 3) (J : is_To t k off tgt) : is_Ok t k (ia_ifge tgt) := by
  intro L st h k' L' st' h' hf
  unfold ia_ifge at hf
  split at hf
  · cases hf
    refine ⟨Nat.le_refl _, Nat.le_refl _, ?_⟩
    intro p l e R s m args below meth c D z b sc H0 nx0 sn0 Q C hn hs hcl hsl F H locs ls r S lh
    have w := F H locs ls r S lh
    refine lv_if_ge C.1 C.2.1 A.2 J (fun q => ?_) (fun q => ?_)
    · rw [if_pos q] at w
      exact w
    · rw [if_neg q, A.1] at w
      exact w
  · cases hf
theorem ok_ifgt {t : is_M} {k tgt : Nat} {off : Int} (A : is_At t k (.ifCond .gt off) 3) (J : is_To t k off tgt) : is_Ok t k (ia_ifgt tgt) := by
  intro L st h k' L' st' h' hf
  unfold ia_ifgt at hf
  split at hf
  · cases hf
    refine ⟨Nat.le_refl _, Nat.le_refl _, ?_⟩
    intro p l e R s m args below meth c D z b sc H0 nx0 sn0 Q C hn hs hcl hsl F H locs ls r S lh
    have w := F H locs ls r S lh
    refine lv_if_gt C.1 C.2.1 A.2 J (fun q => ?_) (fun q => ?_)
    · rw [if_pos q] at w
      exact w
    · rw [if_neg q, A.1] at w
      exact w
  · cases hf
theorem ok_ifle {t : is_M} {k tgt : Nat} {off : Int} (A : is_At t k (.ifCond .le off) 3) (J : is_To t k off tgt) : is_Ok t k (ia_ifle tgt) := by
  intro L st h k' L' st' h' hf
  unfold ia_ifle at hf
  split at hf
  · cases hf
    refine ⟨Nat.le_refl _, Nat.le_refl _, ?_⟩
    intro p l e R s m args below meth c D z b sc H0 nx0 sn0 Q C hn hs hcl hsl F H locs ls r S lh
    have w := F H locs ls r S lh
    refine lv_if_le C.1 C.2.1 A.2 J (fun q => ?_) (fun q => ?_)
    · rw [if_pos q] at w
      exact w
    · rw [if_neg q, A.1] at w
      exact w
  · cases hf
theorem ok_ieq {t : is_M} {k tgt : Nat} {off : Int} (A : is_At t k (.if_icmp .eq off) 3) (J : is_To t k off tgt) : is_Ok t k (ia_ieq tgt) := by
  intro L st h k' L' st' h' hf
  unfold ia_ieq at hf
  split at hf
  · cases hf
    refine ⟨Nat.le_refl _, Nat.le_refl _, ?_⟩
    intro p l e R s m args below meth c D z b sc H0 nx0 sn0 Q C hn hs hcl hsl F H locs ls r S lh
    have w := F H locs ls r S lh
    refine lv_icmp_eq C.1 C.2.1 A.2 J (fun q => ?_) (fun q => ?_)
    · rw [if_pos q] at w
      exact w
    · rw [if_neg q, A.1] at w
      exact w
  · cases hf
theorem ok_ine {t : is_M} {k tgt : Nat} {off : Int} (A : is_At t k (.if_icmp .ne off) 3) (J : is_To t k off tgt) : is_Ok t k (ia_ine tgt) := by
  intro L st h k' L' st' h' hf
  unfold ia_ine at hf
  split at hf
  · cases hf
    refine ⟨Nat.le_refl _, Nat.le_refl _, ?_⟩
    intro p l e R s m args below meth c D z b sc H0 nx0 sn0 Q C hn hs hcl hsl F H locs ls r S lh
    have w := F H locs ls r S lh
    refine lv_icmp_ne C.1 C.2.1 A.2 J (fun q => ?_) (fun q => ?_)
    · rw [if_neg q] at w
      exact w
    · rw [if_pos q, A.1] at w
      exact w
  · cases hf
theorem ok_ilt {t : is_M} {k tgt : Nat} {off : Int} (A : is_At t k (.if_icmp .lt off) 3) (J : is_To t k off tgt) : is_Ok t k (ia_ilt tgt) := by
  intro L st h k' L' st' h' hf
  unfold ia_ilt at hf
  split at hf
  · cases hf
    refine ⟨Nat.le_refl _, Nat.le_refl _, ?_⟩
    intro p l e R s m args below meth c D z b sc H0 nx0 sn0 Q C hn hs hcl hsl F H locs ls r S lh
    have w := F H locs ls r S lh
    refine lv_icmp_lt C.1 C.2.1 A.2 J (fun q => ?_) (fun q => ?_)
    · rw [if_pos q] at w
      exact w
    · rw [if_neg q, A.1] at w
      exact w
  · cases hf
theorem ok_ige {t : is_M} {k tgt : Nat} {off : Int} (A : is_At t k (.if_icmp .ge off) 3) (J : is_To t k off tgt) : is_Ok t k (ia_ige tgt) := by
  intro L st h k' L' st' h' hf
  unfold ia_ige at hf
  split at hf
  · cases hf
    refine ⟨Nat.le_refl _, Nat.le_refl _, ?_⟩
    intro p l e R s m args below meth c D z b sc H0 nx0 sn0 Q C hn hs hcl hsl F H locs ls r S lh
    have w := F H locs ls r S lh
    refine lv_icmp_ge C.1 C.2.1 A.2 J (fun q => ?_) (fun q => ?_)
    · rw [if_pos q] at w
      exact w
    · rw [if_neg q, A.1] at w
      exact w
  · cases hf
theorem ok_igt {t : is_M} {k tgt : Nat} {off : Int} (A : is_At t k (.if_icmp .gt off) 3) (J : is_To t k off tgt) : is_Ok t k (ia_igt tgt) := by
  intro L st h k' L' st' h' hf
  unfold ia_igt at hf
  split at hf
  · cases hf
    refine ⟨Nat.le_refl _, Nat.le_refl _, ?_⟩
    intro p l e R s m args below meth c D z b sc H0 nx0 sn0 Q C hn hs hcl hsl F H locs ls r S lh
    have w := F H locs ls r S lh
    refine lv_icmp_gt C.1 C.2.1 A.2 J (fun q => ?_) (fun q => ?_)
    · rw [if_pos q] at w
      exact w
    · rw [if_neg q, A.1] at w
      exact w
  · cases hf
theorem ok_ile {t : is_M} {k tgt : Nat} {off : Int} (A : is_At t k (.if_icmp .le off) 3) (J : is_To t k off tgt) : is_Ok t k (ia_ile tgt) := by
  intro L st h k' L' st' h' hf
  unfold ia_ile at hf
  split at hf
  · cases hf
    refine ⟨Nat.le_refl _, Nat.le_refl _, ?_⟩
    intro p l e R s m args below meth c D z b sc H0 nx0 sn0 Q C hn hs hcl hsl F H locs ls r S lh
    have w := F H locs ls r S lh
    refine lv_icmp_le C.1 C.2.1 A.2 J (fun q => ?_) (fun q => ?_)
    · rw [if_pos q] at w
      exact w
    · rw [if_neg q, A.1] at w
      exact w
  · cases hf
theorem ok_nonnull {t : is_M} {k tgt : Nat} {off : Int} (A : is_At t k (.ifnonnull off) 3) (J : is_To t k off tgt) : is_Ok t k (ia_nonnull tgt) := by
  intro L st h k' L' st' h' hf
  unfold ia_nonnull at hf
  split at hf
  · cases hf
    refine ⟨Nat.le_refl _, Nat.le_refl _, ?_⟩
    intro p l e R s m args below meth c D z b sc H0 nx0 sn0 Q C hn hs hcl hsl F H locs ls r S lh
    exact lv_ifnonnull C.1 C.2.1 A.2 J (F H locs ls r S lh)
  · cases hf
    refine ⟨Nat.le_refl _, Nat.le_refl _, ?_⟩
    intro p l e R s m args below meth c D z b sc H0 nx0 sn0 Q C hn hs hcl hsl F H locs ls r S lh
    have w := F H locs ls r S lh
    rw [A.1] at w
    exact lv_ifnonnullN C.1 C.2.1 A.2 w
  · cases hf
theorem ok_sw {t : is_M} {k d n : Nat} {ts : List Nat} {dflt hi : Int} {offs : Array Int} (A : decode (is_cc t) (is_pc t k) = .ok (.tableswitch dflt 0 hi offs, n)) (hh : hi + 1 = ts.length) (Jd : is_To t k dflt d) (J : ∀ j, j < ts.length → ∃ off, offs[j]? = some off ∧ is_To t k off (ts.getD j d)) : is_Ok t k (ia_sw ts d) := by
  intro L st h k' L' st' h' hf
  unfold ia_sw at hf
  split at hf
  · rename_i x st1
    cases hf
    refine ⟨Nat.le_refl _, Nat.le_refl _, ?_⟩
    intro p l e R s m args below meth c D z b sc H0 nx0 sn0 Q C hn hs hcl hsl F H locs ls r S lh
    have w := F H locs ls r S lh
    by_cases hx : x.toInt < 0 ∨ (ts.length : Int) ≤ x.toInt
    · rw [if_pos hx] at w
      exact lv_tableOut C.1 C.2.1 A (by omega) Jd w
    · rw [if_neg hx] at w
      obtain ⟨off, h1, h2⟩ := J x.toInt.toNat (by omega)
      exact lv_tableIn C.1 C.2.1 A (by omega) (by omega) (by rw [Int.sub_zero]; exact h1) h2 w
  · cases hf
end
section
/-! the heap: what the reading and writing words say -/
theorem is_gI {h : ia_H} {ci a k : Nat} {x : Int32} (hg : ia_gI h ci a k = some x) : ∃ fs : List Value, ia_c h a = .inr (ci, fs) ∧ fs[k]? = some (.int x) := by
  unfold ia_gI at hg
  split at hg
  · rename_i c fs hc
    split at hg
    · rename_i he
      subst he
      split at hg
      · rename_i y hy
        cases hg
        exact ⟨fs, hc, hy⟩
      · cases hg
    · cases hg
  · cases hg
theorem is_gR {h : ia_H} {ci a k : Nat} {x : Nat} (hg : ia_gR h ci a k = some x) : ∃ fs : List Value, ia_c h a = .inr (ci, fs) ∧ fs[k]? = some (.ref x) := by
  unfold ia_gR at hg
  split at hg
  · rename_i c fs hc
    split at hg
    · rename_i he
      subst he
      split at hg
      · rename_i y hy
        cases hg
        exact ⟨fs, hc, hy⟩
      · cases hg
    · cases hg
  · cases hg
theorem is_pF {h h' : ia_H} {ci a k : Nat} {v : Value} (hg : ia_pF h ci a k v = some h') : ∃ fs : List Value, ia_c h a = .inr (ci, fs) ∧ k < fs.length ∧ h' = ia_up h a (.inr (ci, fs.set k v)) := by
  unfold ia_pF at hg
  split at hg
  · rename_i c fs hc
    split at hg
    · rename_i he
      obtain ⟨he, hk⟩ := he
      subst he
      cases hg
      exact ⟨fs, hc, hk, rfl⟩
    · cases hg
  · cases hg
theorem is_ld {h : ia_H} {t a : Nat} {i x : Int32} (hg : ia_ld h t a i = some x) : ∃ (n : Nat) (f : Nat → Int32), ia_c h a = .inl (t, n, .inl f) ∧ vp_in i n ∧ x = f i.toNatClampNeg := by
  unfold ia_ld at hg
  split at hg
  · rename_i t' n f hc
    split at hg
    · rename_i he
      obtain ⟨he, hk⟩ := he
      subst he
      cases hg
      exact ⟨n, f, hc, hk, rfl⟩
    · cases hg
  · cases hg
theorem is_st {h h' : ia_H} {t a : Nat} {i x : Int32} (hg : ia_st h t a i x = some h') : ∃ (n : Nat) (f : Nat → Int32), ia_c h a = .inl (t, n, .inl f) ∧ vp_in i n ∧ h' = ia_up h a (.inl (t, n, .inl (upd f i.toNatClampNeg x))) := by
  unfold ia_st at hg
  split at hg
  · rename_i t' n f hc
    split at hg
    · rename_i he
      obtain ⟨he, hk⟩ := he
      subst he
      cases hg
      exact ⟨n, f, hc, hk, rfl⟩
    · cases hg
  · cases hg
theorem is_ldL {h : ia_H} {a : Nat} {i : Int32} {x : Int64} (hg : ia_ldL h a i = some x) : ∃ (n : Nat) (f : Nat → Int64), ia_c h a = .inl (1, n, .inr (.inl f)) ∧ vp_in i n ∧ x = f i.toNatClampNeg := by
  unfold ia_ldL at hg
  split at hg
  · rename_i t' n f hc
    split at hg
    · rename_i he
      obtain ⟨he, hk⟩ := he
      subst he
      cases hg
      exact ⟨n, f, hc, hk, rfl⟩
    · cases hg
  · cases hg
theorem is_stL {h h' : ia_H} {a : Nat} {i : Int32} {x : Int64} (hg : ia_stL h a i x = some h') : ∃ (n : Nat) (f : Nat → Int64), ia_c h a = .inl (1, n, .inr (.inl f)) ∧ vp_in i n ∧ h' = ia_up h a (.inl (1, n, .inr (.inl (vp_updL f i.toNatClampNeg x)))) := by
  unfold ia_stL at hg
  split at hg
  · rename_i t' n f hc
    split at hg
    · rename_i he
      obtain ⟨he, hk⟩ := he
      subst he
      cases hg
      exact ⟨n, f, hc, hk, rfl⟩
    · cases hg
  · cases hg
theorem is_ldR {h : ia_H} {a : Nat} {i : Int32} {x : Option Nat} (hg : ia_ldR h a i = some x) : ∃ (n : Nat) (f : Nat → Option Nat), ia_c h a = .inl (4, n, .inr (.inr (.inr (.inr f)))) ∧ vp_in i n ∧ x = f i.toNatClampNeg := by
  unfold ia_ldR at hg
  split at hg
  · rename_i t' n f hc
    split at hg
    · rename_i he
      obtain ⟨he, hk⟩ := he
      subst he
      cases hg
      exact ⟨n, f, hc, hk, rfl⟩
    · cases hg
  · cases hg
theorem is_stR {h h' : ia_H} {a v : Nat} {i : Int32} (hg : ia_stR h a i v = some h') : ∃ (n : Nat) (f : Nat → Option Nat) (w : Value) (fs : List Value), ia_c h a = .inl (4, n, .inr (.inr (.inr (.inr f)))) ∧ ia_c h v = .inr (5, w :: fs) ∧ vp_in i n ∧ h' = ia_up h a (.inl (4, n, .inr (.inr (.inr (.inr (va_up f i.toNatClampNeg (some v))))))) := by
  unfold ia_stR at hg
  split at hg
  · rename_i t' n f c w fs hc hv
    split at hg
    · rename_i he
      obtain ⟨he, he2, hk⟩ := he
      subst he
      subst he2
      cases hg
      exact ⟨n, f, w, fs, hc, hv, hk, rfl⟩
    · cases hg
  · cases hg
theorem is_len {h : ia_H} {a : Nat} {x : Int32} (hg : ia_len h a = some x) : ∃ (t : Nat) (q : vp_A), ia_c h a = .inl (t, q) ∧ t < 5 ∧ Int32.ofNat q.1 = x := by
  unfold ia_len at hg
  split at hg
  · rename_i t' n q hc
    split at hg
    · rename_i he
      cases hg
      exact ⟨t', (n, q), hc, he, rfl⟩
    · cases hg
  · cases hg
theorem is_cp {h h' : ia_H} {a a1 : Nat} {sp dp n : Int32} (hg : ia_cp h a a1 sp dp n = some h') : ∃ (n0 n1 : Nat) (f g : Nat → Int32), ia_c h a = .inl (0, n0, .inl f) ∧ ia_c h a1 = .inl (0, n1, .inl g) ∧ ¬ sp < 0 ∧ ¬ dp < 0 ∧ ¬ n < 0 ∧ sp.toNatClampNeg + n.toNatClampNeg ≤ n0 ∧ dp.toNatClampNeg + n.toNatClampNeg ≤ n1 ∧ h' = ia_up h a1 (.inl (0, n1, .inl (va_cpy f g sp.toNatClampNeg dp.toNatClampNeg n.toNatClampNeg))) := by
  unfold ia_cp at hg
  split at hg
  · rename_i t0 n0 f t1 n1 g hc hc1
    split at hg
    · rename_i he
      obtain ⟨e0, e1, q1, q2, q3, q4, q5⟩ := he
      subst e0
      subst e1
      cases hg
      exact ⟨n0, n1, f, g, hc, hc1, q1, q2, q3, q4, q5, rfl⟩
    · cases hg
  · cases hg
/-! the relation -/
theorem is_Rl.lt {D : is_D} {z b : Nat} {sc : Nat × (Nat → Int32)} {h : ia_H} {H : Heap} (r : is_Rl D z b sc h H) {a : Nat} (hd : ia_c h a ≠ ia_dead) : a < h.1 := by
  rcases Nat.lt_or_ge a h.1 with q | q
  · exact q
  · exact absurd (r.2.2.1 a q) hd
theorem is_Rl.at {D : is_D} {z b : Nat} {sc : Nat × (Nat → Int32)} {h : ia_H} {H : Heap} (r : is_Rl D z b sc h H) {a : Nat} {e : ia_E} (he : ia_c h a = e) (hd : e ≠ ia_dead) : va_at D.1 cb_cl (z + a, is_E D z b e) H := by
  subst he
  exact r.2.1 a (r.lt hd)
theorem is_nd1 {q : Nat × vp_A} : (.inl q : ia_E) ≠ ia_dead := fun h => by cases h
theorem is_nd2 {c k : Nat} {fs : List Value} {v : Value} (h : fs[k]? = some v) : (.inr (c, fs) : ia_E) ≠ ia_dead := by
  intro e
  cases e
  cases h
theorem is_nd3 {c k : Nat} {fs : List Value} (h : k < fs.length) : (.inr (c, fs) : ia_E) ≠ ia_dead := by
  intro e
  cases e
  cases h
theorem is_Rl.up {D : is_D} {z b : Nat} {sc : Nat × (Nat → Int32)} {h : ia_H} {H H1 : Heap} (r : is_Rl D z b sc h H) {a : Nat} {e' : ia_E} (ha : a < h.1) (hv : va_at D.1 cb_cl (z + a, is_E D z b e') H1) (hz : H1.size = H.size) (oq : ∀ q : Nat, q ≠ z + a → H1[q]? = H[q]?) : is_Rl D z b sc (ia_up h a e') H1 := by
  refine ⟨hz.trans r.1, fun k hk => ?_, fun k hk => ?_, r.2.2.2⟩
  · by_cases e : k = a
    · subst e
      simp only [ia_c, ia_up, if_true]
      exact hv
    · simp only [ia_c, ia_up, if_neg e]
      exact va_at.kept (r.2.1 k hk) (oq (z + k) (by omega))
  · have : ¬ k = a := by have : h.1 ≤ k := hk; omega
    simp only [ia_c, ia_up, if_neg this]
    exact r.2.2.1 k hk
theorem is_Rl.new {D : is_D} {z b : Nat} {sc : Nat × (Nat → Int32)} {h : ia_H} {H H1 : Heap} (r : is_Rl D z b sc h H) {n : Nat} {e' : ia_E} (hv : va_at D.1 cb_cl (z + h.1, is_E D z b e') H1) (hz : H1.size = H.size + 1) (oq : ∀ q : Nat, q < H.size → H1[q]? = H[q]?) : is_Rl D z b sc (ia_new h n e') H1 := by
  refine ⟨by rw [hz, r.1]; rfl, fun k hk => ?_, fun k hk => ?_, r.2.2.2⟩
  · by_cases e : k = h.1
    · subst e
      simp only [ia_c, ia_new, if_true]
      exact hv
    · have hk' : k < h.1 := by have : k < h.1 + 1 := hk; omega
      simp only [ia_c, ia_new, if_neg e]
      exact va_at.kept (r.2.1 k hk') (oq (z + k) (by rw [r.1]; omega))
  · have hk' : h.1 + 1 ≤ k := hk
    have : ¬ k = h.1 := by omega
    simp only [ia_c, ia_new, if_neg this]
    exact r.2.2.1 k (by omega)
theorem is_S.put {z : Nat} {H0 H H1 : Heap} {locs : List Loc} {a k : Nat} (h : va_S (fun q => z ≤ q) H0 H locs) (hz : H1.size = H.size) (oq : ∀ q : Nat, q ≠ z + a → H1[q]? = H[q]?) : va_S (fun q => z ≤ q) H0 H1 (locs ++ [⟨z + a, k⟩]) := h.put hz oq (Nat.le_add_right z a)
theorem is_S.new {z : Nat} {H0 H H1 : Heap} {locs : List Loc} (h : va_S (fun q => z ≤ q) H0 H locs) (hz : H1.size = H.size + 1) (oq : ∀ q : Nat, q < H.size → H1[q]? = H[q]?) : va_S (fun q => z ≤ q) H0 H1 locs :=
  ⟨Nat.le_trans h.1 (by omega), fun q h1 h2 => (oq q (Nat.lt_of_lt_of_le h1 h.1)).trans (h.2.1 q h1 h2), h.2.2⟩
/-! fields -/
/-- the link of a field: among the good words, or a nest mate's -/
def is_fl (t : is_M) (index : Nat) (q : String × String × String × Bool) : Prop := Cond.fieldLink t.1.cls index q.1 q.2.1 q.2.2.1 ∈ cb_gw ∨ ∃ host, Cond.fieldLinkNest t.1.cls index q.1 q.2.1 q.2.2.1 host ∈ cb_nw
section ISH
variable {t : is_M} {p : Program} {l : Launch} {e : Env} {R : Room} {s : State} {m : MethodId} {args : Array Value} {below : List Frame} {meth : Method} {c : Code} {D : is_D} {z b : Nat} {sc : Nat × (Nat → Int32)} {H0 H : Heap} {locs : List Loc} {cells slots : Nat} {Q : State → Prop} {pc : Nat} {ls : Array Slot} {rest : List Value}
theorem is_get (C : is_Cx t p R s m args meth c D z b sc H0) {h : ia_H} (r : is_Rl D z b sc h H) {ci a k : Nat} {fs : List Value} {v : Value} (he : ia_c h a = .inr (ci, fs)) (hv : fs[k]? = some v) {Cn : String} {T : u_T} {N index : Nat} (hc : cb_cl[ci]? = some (Cn, T, N)) (hin : ∀ w ∈ u_ws Cn T N, w ∈ cb_gw) (hk : k < N) (hl : is_fl t index (T k)) (hdg : decode (is_cc t) pc = .ok (.getfield index, 3))
    (kk : W p l e R s m args below meth c H locs cells slots Q (F0 m (pc + 3) ls (is_tr z b v :: rest))) : W p l e R s m args below meth c H locs cells slots Q (F0 m pc ls (.ref (z + a) :: rest)) := by
  obtain ⟨hx, hb, hml, hown, hts, hnw, hao, hK, hnm, hX, hbz, hzH, hRf, hRl⟩ := C
  have hat : va_P D.1 cb_cl [(z + a, .inr (ci, fs.map (is_tr z b)))] H := by
    intro k q hq
    have hz : k < 1 := (List.getElem?_eq_some_iff.mp hq).1
    rw [show k = 0 by omega] at hq
    cases hq
    exact r.at he (is_nd2 hv)
  have hv' : (fs.map (is_tr z b))[k]? = some (is_tr z b v) := by rw [List.getElem?_map, hv]; rfl
  rcases hl with hl | ⟨host, hl⟩
  · exact va_get hx hb hts hin hown hK hat 0 rfl hc k hk (hts _ hl) (fun _ h => h) hv' hdg kk
  · exact va_getN hx hb hts hin hown hK hat 0 rfl hc k hk (va_Nw.use rfl (hnw _ hl)) (fun _ h => h) hv' hdg kk
theorem is_put (C : is_Cx t p R s m args meth c D z b sc H0) {h : ia_H} (r : is_Rl D z b sc h H) (S : va_S (fun q => z ≤ q) H0 H locs) {ci a k : Nat} {fs : List Value} {v : Value} (he : ia_c h a = .inr (ci, fs)) (hlen : k < fs.length) {Cn : String} {T : u_T} {N index : Nat} (hc : cb_cl[ci]? = some (Cn, T, N)) (hin : ∀ w ∈ u_ws Cn T N, w ∈ cb_gw) (ty0 : Nat → FieldType) (hty : ∀ k, k < N → parseFieldDescriptor (T k).2.2.1 = some (ty0 k)) (hnm : ∀ a, a < N → ∀ b, b < N → a ≠ b → (T a).2.1 ≠ (T b).2.1) (hk : k < N)
    (hl : (is_fl t index (T k) ∧ (T k).2.2.2 = false) ∨ (Cond.fieldLink t.1.cls index (T k).1 (T k).2.1 (T k).2.2.1 ∈ cb_gw ∧ (T k).2.2.2 = true ∧ t.1.name = "<init>" ∧ (T k).1 = t.1.cls)) (hn : narrow (ty0 k) (is_tr z b v) = is_tr z b v) (hfit : fits (ty0 k) (is_tr z b v) = true) (hdg : decode (is_cc t) pc = .ok (.putfield index, 3))
    (kk : ∀ (H1 : Heap) (locs1 : List Loc), is_Rl D z b sc (ia_up h a (.inr (ci, fs.set k v))) H1 → va_S (fun q => z ≤ q) H0 H1 locs1 → W p l e R s m args below meth c H1 locs1 cells slots Q (F0 m (pc + 3) ls rest)) : W p l e R s m args below meth c H locs cells slots Q (F0 m pc ls (is_tr z b v :: .ref (z + a) :: rest)) := by
  obtain ⟨hx, hb, hml, hown, hts, hnw, hao, hK, hname, hX, hbz, hzH, hRf, hRl⟩ := C
  have hap := va_apart (own := t.1.cls) hts hin ty0 hty hnm hK hc
  have hlt : a < h.1 := r.lt (by rw [he]; exact is_nd3 hlen)
  obtain ⟨r0, h1, cell, q1, q2, q3, q4⟩ := r.at he (is_nd3 hlen)
  have hr : r0 = (Cn, T, N) := Option.some.inj (h1.symm.trans hc)
  subst hr
  obtain ⟨hSl, hfc, kC, hkC, hkind⟩ := hK.1 ci _ hc
  obtain ⟨cf, kf, fi, f, hi, hsl⟩ := hSl k hk
  have hst := (u_facts hfc hkC (u_lays hts hin hk) hi).1
  have hd := hty k hk
  have fin : ∀ H' : Heap, H'[z + a]? = some (cell.setSlot f.slot (is_tr z b v)) → H'.size = H.size → (∀ q, q ≠ z + a → H'[q]? = H[q]?) → W p l e R s m args below meth c H' (locs ++ [⟨z + a, f.slot⟩]) cells slots Q (F0 m (pc + 3) ls rest) := by
    intro H' e1 e2 e3
    refine kk H' _ (r.up hlt ?_ e2 e3) (is_S.put S e2 e3)
    rw [hsl] at e1
    refine ⟨_, hc, t_OB.to (V := updV (vp_V (fs.map (is_tr z b))) k (is_tr z b v)) ⟨_, e1, q2, q3, t_set q4 hap hk _⟩ (fun j _ => ?_)⟩
    rw [vp_updV_set (by rw [List.length_map]; exact hlen), ← List.map_set]
  rcases hl with ⟨hl, hfin⟩ | ⟨hl, hfin, hin2, hdecl⟩
  · have hlay := hts _ (hin _ (u_in_lay hk))
    unfold u_lay at hlay
    rw [if_neg (by rw [hfin]; decide)] at hlay
    have h6 := u_store hfc hkC hkind hlay hi hd hn hfit
    rcases hl with hl | ⟨host, hl⟩
    · exact W.putK hx hb (f := f) ⟨hown, hts _ hl, ⟨_, _, _, hi⟩, hst⟩ (by rw [q2]; exact h6) q1 q3 (by rw [hsl]; exact k2_hasslot (q4 k hk)) rfl rfl hdg fin
    · exact va_WputK hx hb (f := f) hown (va_Nw.use rfl (hnw _ hl)) hi hst (by rw [q2]; exact h6) q1 q3 (by rw [hsl]; exact k2_hasslot (q4 k hk)) rfl rfl hdg fin
  · have hlay := hts _ (hin _ (u_in_lay hk))
    unfold u_lay at hlay
    rw [if_pos hfin] at hlay
    have hcf : m.cls = cf := by
      obtain ⟨_, _, c', _, _, _, -, -, hf', -, -, -, hown2, -⟩ := Cond.laysFinal_spec hlay
      have e1 : c' = cf := by have := hi.symm.trans hf'; simp at this; exact this.1.symm
      rw [hdecl] at hown2
      rw [← e1]; exact Option.some.inj (hown.symm.trans hown2)
    have h6 := u_fits hfc hkC hkind (Or.inr hlay) hi hd hn hfit
    exact W.putFinK hx hb hown (hts _ hl) hi hst hcf (hname.trans hin2) (by rw [q2]; exact h6) q1 q3 (by rw [hsl]; exact k2_hasslot (q4 k hk)) rfl rfl hdg fin
end ISH
theorem ok_getI {t : is_M} {k ci f : Nat} {Cn : String} {T : u_T} {N index : Nat} (hc : cb_cl[ci]? = some (Cn, T, N)) (hin : ∀ w ∈ u_ws Cn T N, w ∈ cb_gw) (hk : f < N) (hl : is_fl t index (T f)) (A : is_At t k (.getfield index) 3) : is_Ok t k (ia_getI ci f) := by
  intro L st h k' L' st' h' hf
  unfold ia_getI at hf
  split at hf
  · obtain ⟨x, hg, hf⟩ := Option.map_eq_some_iff.mp hf
    cases hf
    obtain ⟨fs, h1, h2⟩ := is_gI hg
    refine ⟨Nat.le_refl _, Nat.le_refl _, ?_⟩
    intro p l e R s m args below meth c D z b sc H0 nx0 sn0 Q C hn hs hcl hsl F H locs ls r S lh
    have w := F H locs ls r S lh
    rw [A.1] at w
    exact is_get C r h1 h2 hc hin hk hl A.2 w
  · cases hf
theorem ok_getR {t : is_M} {k ci f : Nat} {Cn : String} {T : u_T} {N index : Nat} (hc : cb_cl[ci]? = some (Cn, T, N)) (hin : ∀ w ∈ u_ws Cn T N, w ∈ cb_gw) (hk : f < N) (hl : is_fl t index (T f)) (A : is_At t k (.getfield index) 3) : is_Ok t k (ia_getR ci f) := by
  intro L st h k' L' st' h' hf
  unfold ia_getR at hf
  split at hf
  · obtain ⟨x, hg, hf⟩ := Option.map_eq_some_iff.mp hf
    cases hf
    obtain ⟨fs, h1, h2⟩ := is_gR hg
    refine ⟨Nat.le_refl _, Nat.le_refl _, ?_⟩
    intro p l e R s m args below meth c D z b sc H0 nx0 sn0 Q C hn hs hcl hsl F H locs ls r S lh
    have w := F H locs ls r S lh
    rw [A.1] at w
    exact is_get C r h1 h2 hc hin hk hl A.2 w
  · cases hf
/-- the link of a field that is written -/
def is_pl (t : is_M) (index : Nat) (q : String × String × String × Bool) : Prop := (is_fl t index q ∧ q.2.2.2 = false) ∨ (Cond.fieldLink t.1.cls index q.1 q.2.1 q.2.2.1 ∈ cb_gw ∧ q.2.2.2 = true ∧ t.1.name = "<init>" ∧ q.1 = t.1.cls)

theorem is_P1 {D : va_G} {cl : List vw_C} {q : Nat × va_E} {H : Heap} (h : va_at D cl q H) : va_P D cl [q] H := by
  intro k q' hq
  have hz : k < 1 := (List.getElem?_eq_some_iff.mp hq).1
  rw [show k = 0 by omega] at hq
  cases hq
  exact h
/-- the words of a stack -/
theorem is_w_sum (z b : Nat) (st : List Value) : ((st.map (is_tr z b)).map fun v => v.category).sum = ia_w st := by
  induction st with
  | nil => rfl
  | cons v st ih =>
    simp only [List.map_cons, List.sum_cons, ia_w, ih, is_cat]
section ISC
variable {p : Program} {l : Launch} {e : Env} {R : Room} {s : State} {m : MethodId} {args : Array Value} {below : List Frame} {meth : Method} {c : Code} {H : Heap} {locs : List Loc} {cells slots : Nat} {Q : State → Prop} {cc : ByteArray} {pc : Nat} {ls : Array Slot} {rest : List Value}
theorem is_copyi (hexec : p.tables.exec = Jvm.exec) (hb : c.code = cc) (hml : c.maxLocals = ls.size) {own : String} {index : Nat} (hown : s.vm.findClass own = some m.cls) (hlink : (Cond.methodLink own index arraycopyName).before args s = true) (hnat : (Cond.native arraycopyName).before args s = true) (hstat : (Cond.static arraycopyName).before args s = true) (hini : (Cond.initialized "java/lang/System").before args s = true)
    {a0 a : Nat} {cI : ClassId} {n0 n1 : Nat} {f g : Nat → Int32} (harr : ArrOfT s cI .int) (hc0 : H[a0]? = some (vp_cell cI (n0, .inl f))) (hc1 : H[a]? = some (vp_cell cI (n1, .inl g)))
    {sp dp n : Int32} (h1 : ¬ sp < 0) (h2 : ¬ dp < 0) (h3 : ¬ n < 0) (h4 : sp.toNatClampNeg + n.toNatClampNeg ≤ n0) (h5 : dp.toNatClampNeg + n.toNatClampNeg ≤ n1)
    (hframes : 1 ≤ R.frames) (hlocals : (rest.map fun v => v.category).sum + (nativeFrameWords "java/lang/System" "arraycopy" 5 + 11) ≤ R.locals) (hdg : decode cc pc = .ok (.invokestatic index, 3))
    (kk : ∀ (H1 : Heap) (L1 : List Loc), H1[a]? = some (vp_cell cI (n1, .inl (va_cpy f g sp.toNatClampNeg dp.toNatClampNeg n.toNatClampNeg))) → H1.size = H.size → (∀ q : Nat, q ≠ a → H1[q]? = H[q]?) → (∀ q ∈ L1, q.base = a) → W p l e R s m args below meth c H1 (locs ++ L1) cells slots Q (F0 m (pc + 3) ls rest)) : W p l e R s m args below meth c H locs cells slots Q (F0 m pc ls (.int n :: .int dp :: .ref a :: .int sp :: .ref a0 :: rest)) := by
  have nn : ∀ z : Int32, ¬ z < 0 → z.toInt = (z.toNatClampNeg : Int) := by
    intro z hz
    have hz0 : (0 : Int) ≤ z.toInt := by
      have := Int32.not_lt.mp hz
      simpa using Int32.le_iff_toInt_le.mp this
    show z.toInt = ((z.toInt.toNat : Nat) : Int)
    omega
  intro T hT X
  obtain ⟨-, k0, hk0, cm0, hkk0⟩ := harr n0 (fun j => .int (f j))
  obtain ⟨-, k1, hk1, cm1, hkk1⟩ := harr n1 (fun j => .int (g j))
  obtain ⟨vm', X', step⟩ := X.arraycopy hexec hown hlink hnat hstat hini (src := a0) (dst := a) (cs := vp_cell cI (n0, .inl f)) (cd := vp_cell cI (n1, .inl g)) (srcPos := sp) (destPos := dp) (n := n) (by rw [hT]; exact hc0) (by rw [hT]; exact hc1)
    (fun _ h => by cases h) (fun _ h => by cases h) (fun h => by cases h) (fun h => by cases h) hk0 hk1 hkk0 hkk1 (by simp [refKind]) h1 h2 h3
    (by rw [nn sp h1, nn n h3]; show ¬ _ > ((arrV cI n0 (fun j => .int (f j))).slots.size : Int); rw [arrV_size]; omega)
    (by rw [nn dp h2, nn n h3]; show ¬ _ > ((arrV cI n1 (fun j => .int (g j))).slots.size : Int); rw [arrV_size]; omega)
    (fun vm₁ _ i hi => by
      have e : (vp_cell cI (n0, .inl f)).slots.getD (sp.toNatClampNeg + i) .null = .int (f (sp.toNatClampNeg + i)) := by
        show (arrV cI n0 (fun j => .int (f j))).slots.getD _ _ = _
        rw [Array.getD_eq_getD_getElem?, arrV_read _ _ (by omega)]
        rfl
      refine ⟨?_, ?_⟩
      · rw [e]
        rfl
      · rw [e]
        exact trivial)
    (g := F0 m pc ls (.int n :: .int dp :: .ref a :: .int sp :: .ref a0 :: rest)) rfl (by rw [hml]) (rest := rest) rfl (by rw [hb]; exact hdg) hframes (by show 2 * 0 + _ + _ ≤ _; omega)
  have e1 : copied (vp_cell cI (n0, .inl f)) (vp_cell cI (n1, .inl g)) sp dp n = vp_cell cI (n1, .inl (va_cpy f g sp.toNatClampNeg dp.toNatClampNeg n.toNatClampNeg)) := va_copied (fun z => .int z) cI cI f g h4
  rw [e1] at X' step
  have hl : a < H.size := (Array.getElem?_eq_some_iff.mp hc1).1
  have hheap : ((T.setVm vm').setCell a (vp_cell cI (n1, .inl (va_cpy f g sp.toNatClampNeg dp.toNatClampNeg n.toNatClampNeg)))).heap = H.setIfInBounds a (vp_cell cI (n1, .inl (va_cpy f g sp.toNatClampNeg dp.toNatClampNeg n.toNatClampNeg))) := by rw [← hT]; rfl
  obtain ⟨t, a1, b1⟩ := kk _ _ (show (H.setIfInBounds a _)[a]? = some _ by simp [Array.getElem?_setIfInBounds, hl]) (by simp) (fun q hq => by simp [Array.getElem?_setIfInBounds, Ne.symm hq]) (fun q hq => by
      obtain ⟨z, -, hz⟩ := List.mem_map.mp hq
      rw [← hz]) _ hheap X'
  exact ⟨t, step t a1, b1⟩
end ISC

theorem ok_putI {t : is_M} {k ci f : Nat} {Cn : String} {T : u_T} {N index : Nat} (hc : cb_cl[ci]? = some (Cn, T, N)) (hin : ∀ w ∈ u_ws Cn T N, w ∈ cb_gw) (ty0 : Nat → FieldType) (hty : ∀ k, k < N → parseFieldDescriptor (T k).2.2.1 = some (ty0 k)) (hnm : ∀ a, a < N → ∀ b, b < N → a ≠ b → (T a).2.1 ≠ (T b).2.1) (hk : f < N) (hl : is_pl t index (T f)) (hy : ty0 f = .int) (A : is_At t k (.putfield index) 3) : is_Ok t k (ia_putI ci f) := by
  intro L st h k' L' st' h' hf
  unfold ia_putI at hf
  split at hf
  · obtain ⟨x, hg, hf⟩ := Option.map_eq_some_iff.mp hf
    cases hf
    obtain ⟨fs, h1, h2, rfl⟩ := is_pF hg
    refine ⟨Nat.le_refl _, Nat.le_refl _, ?_⟩
    intro p l e R s m args below meth c D z b sc H0 nx0 sn0 Q C hn hs hcl hsl F H locs ls r S lh
    refine is_put C r S h1 h2 hc hin ty0 hty hnm hk hl (by rw [hy]; rfl) (by rw [hy]; rfl) A.2 (fun H1 locs1 r1 S1 => ?_)
    have w := F H1 locs1 ls r1 S1 lh
    rw [A.1] at w
    exact w
  · cases hf
theorem ok_putR {t : is_M} {k ci f : Nat} {Cn : String} {T : u_T} {N index : Nat} (hc : cb_cl[ci]? = some (Cn, T, N)) (hin : ∀ w ∈ u_ws Cn T N, w ∈ cb_gw) (ty0 : Nat → FieldType) (hty : ∀ k, k < N → parseFieldDescriptor (T k).2.2.1 = some (ty0 k)) (hnm : ∀ a, a < N → ∀ b, b < N → a ≠ b → (T a).2.1 ≠ (T b).2.1) (hk : f < N) (hl : is_pl t index (T f)) (hy : (∃ C, ty0 f = .object C) ∨ ∃ u, ty0 f = .array u) (A : is_At t k (.putfield index) 3) : is_Ok t k (ia_putR ci f) := by
  intro L st h k' L' st' h' hf
  unfold ia_putR at hf
  split at hf
  · obtain ⟨x, hg, hf⟩ := Option.map_eq_some_iff.mp hf
    cases hf
    obtain ⟨fs, h1, h2, rfl⟩ := is_pF hg
    refine ⟨Nat.le_refl _, Nat.le_refl _, ?_⟩
    intro p l e R s m args below meth c D z b sc H0 nx0 sn0 Q C hn hs hcl hsl F H locs ls r S lh
    refine is_put C r S h1 h2 hc hin ty0 hty hnm hk hl (by rcases hy with ⟨_, hy⟩ | ⟨_, hy⟩ <;> (rw [hy]; rfl)) (by rcases hy with ⟨_, hy⟩ | ⟨_, hy⟩ <;> (rw [hy]; rfl)) A.2 (fun H1 locs1 r1 S1 => ?_)
    have w := F H1 locs1 ls r1 S1 lh
    rw [A.1] at w
    exact w
  · cases hf
theorem ok_putZ {t : is_M} {k ci f : Nat} {Cn : String} {T : u_T} {N index : Nat} (hc : cb_cl[ci]? = some (Cn, T, N)) (hin : ∀ w ∈ u_ws Cn T N, w ∈ cb_gw) (ty0 : Nat → FieldType) (hty : ∀ k, k < N → parseFieldDescriptor (T k).2.2.1 = some (ty0 k)) (hnm : ∀ a, a < N → ∀ b, b < N → a ≠ b → (T a).2.1 ≠ (T b).2.1) (hk : f < N) (hl : is_pl t index (T f)) (hy : ty0 f = .boolean) (A : is_At t k (.putfield index) 3) : is_Ok t k (ia_putZ ci f) := by
  intro L st h k' L' st' h' hf
  unfold ia_putZ at hf
  split at hf
  · split at hf
    · rename_i hz
      obtain ⟨x, hg, hf⟩ := Option.map_eq_some_iff.mp hf
      cases hf
      obtain ⟨fs, h1, h2, rfl⟩ := is_pF hg
      refine ⟨Nat.le_refl _, Nat.le_refl _, ?_⟩
      intro p l e R s m args below meth c D z b sc H0 nx0 sn0 Q C hn hs hcl hsl F H locs ls r S lh
      refine is_put C r S h1 h2 hc hin ty0 hty hnm hk hl (by rw [hy]; rcases hz with rfl | rfl <;> first | exact (show narrow .boolean (Value.int 0) = .int 0 by decide) | exact (show narrow .boolean (Value.int 1) = .int 1 by decide)) (by rw [hy]; rcases hz with rfl | rfl <;> rfl) A.2 (fun H1 locs1 r1 S1 => ?_)
      have w := F H1 locs1 ls r1 S1 lh
      rw [A.1] at w
      exact w
    · cases hf
  · cases hf
theorem ok_iald {t : is_M} {k : Nat} (A : is_At t k .iaload 1) : is_Ok t k ia_iald := by
  intro L st h k' L' st' h' hf
  unfold ia_iald at hf
  split at hf
  · obtain ⟨x, hg, hf⟩ := Option.map_eq_some_iff.mp hf
    cases hf
    obtain ⟨n, f, h1, h2, rfl⟩ := is_ld hg
    refine ⟨Nat.le_refl _, Nat.le_refl _, ?_⟩
    intro p l e R s m args below meth c D z b sc H0 nx0 sn0 Q C hn hs hcl hsl F H locs ls r S lh
    have w := F H locs ls r S lh
    rw [A.1] at w
    obtain ⟨hx, hb, hml, hown, hts, hnw, hao, hK, hnm, hX, hbz, hzH, hRf, hRl⟩ := C
    have hat := is_P1 (r.at h1 is_nd1)
    exact va_iald hx hb hK hat 0 0 rfl rfl h2 A.2 w
  · split at hf
    · cases hf
    · rename_i hi
      cases hf
      refine ⟨Nat.le_refl _, Nat.le_refl _, ?_⟩
      intro p l e R s m args below meth c D z b sc H0 nx0 sn0 Q C hn hs hcl hsl F H locs ls r S lh
      have w := F H locs ls r S lh
      rw [A.1] at w
      obtain ⟨hx, hb, hml, hown, hts, hnw, hao, hK, hnm, hX, hbz, hzH, hRf, hRl⟩ := C
      have hsc : h.2.2.1 = sc := r.2.2.2
      rw [hsc] at hi w
      exact va_sld hx hb hX (Nat.lt_of_lt_of_le hbz hzH) (by show ¬ z ≤ b; omega) S hi A.2 w
  · cases hf
theorem ok_bald {t : is_M} {k : Nat} (A : is_At t k .baload 1) : is_Ok t k (ia_ald 3) := by
  intro L st h k' L' st' h' hf
  unfold ia_ald at hf
  split at hf
  · obtain ⟨x, hg, hf⟩ := Option.map_eq_some_iff.mp hf
    cases hf
    obtain ⟨n, f, h1, h2, rfl⟩ := is_ld hg
    refine ⟨Nat.le_refl _, Nat.le_refl _, ?_⟩
    intro p l e R s m args below meth c D z b sc H0 nx0 sn0 Q C hn hs hcl hsl F H locs ls r S lh
    have w := F H locs ls r S lh
    rw [A.1] at w
    obtain ⟨hx, hb, hml, hown, hts, hnw, hao, hK, hnm, hX, hbz, hzH, hRf, hRl⟩ := C
    have hat := is_P1 (r.at h1 is_nd1)
    exact va_bald hx hb hK hat 0 3 rfl rfl h2 A.2 w
  · cases hf
theorem ok_cald {t : is_M} {k : Nat} (A : is_At t k .caload 1) : is_Ok t k (ia_ald 2) := by
  intro L st h k' L' st' h' hf
  unfold ia_ald at hf
  split at hf
  · obtain ⟨x, hg, hf⟩ := Option.map_eq_some_iff.mp hf
    cases hf
    obtain ⟨n, f, h1, h2, rfl⟩ := is_ld hg
    refine ⟨Nat.le_refl _, Nat.le_refl _, ?_⟩
    intro p l e R s m args below meth c D z b sc H0 nx0 sn0 Q C hn hs hcl hsl F H locs ls r S lh
    have w := F H locs ls r S lh
    rw [A.1] at w
    obtain ⟨hx, hb, hml, hown, hts, hnw, hao, hK, hnm, hX, hbz, hzH, hRf, hRl⟩ := C
    have hat := is_P1 (r.at h1 is_nd1)
    exact va_cald hx hb hK hat 0 2 rfl rfl h2 A.2 w
  · cases hf
theorem ok_lald {t : is_M} {k : Nat} (A : is_At t k .laload 1) : is_Ok t k ia_lald := by
  intro L st h k' L' st' h' hf
  unfold ia_lald at hf
  split at hf
  · obtain ⟨x, hg, hf⟩ := Option.map_eq_some_iff.mp hf
    cases hf
    obtain ⟨n, f, h1, h2, rfl⟩ := is_ldL hg
    refine ⟨Nat.le_refl _, Nat.le_refl _, ?_⟩
    intro p l e R s m args below meth c D z b sc H0 nx0 sn0 Q C hn hs hcl hsl F H locs ls r S lh
    have w := F H locs ls r S lh
    rw [A.1] at w
    obtain ⟨hx, hb, hml, hown, hts, hnw, hao, hK, hnm, hX, hbz, hzH, hRf, hRl⟩ := C
    have hat := is_P1 (r.at h1 is_nd1)
    exact va_lald hx hb hK hat 0 1 rfl rfl h2 A.2 w
  · cases hf
theorem ok_rald {t : is_M} {k : Nat} (A : is_At t k .aaload 1) : is_Ok t k ia_rald := by
  intro L st h k' L' st' h' hf
  unfold ia_rald at hf
  split at hf
  · obtain ⟨x, hg, hf⟩ := Option.map_eq_some_iff.mp hf
    cases hf
    obtain ⟨n, f, h1, h2, rfl⟩ := is_ldR hg
    refine ⟨Nat.le_refl _, Nat.le_refl _, ?_⟩
    intro p l e R s m args below meth c D z b sc H0 nx0 sn0 Q C hn hs hcl hsl F H locs ls r S lh
    have w := F H locs ls r S lh
    rw [A.1] at w
    obtain ⟨hx, hb, hml, hown, hts, hnw, hao, hK, hnm, hX, hbz, hzH, hRf, hRl⟩ := C
    have hat := is_P1 (r.at h1 is_nd1)
    exact va_aldq hx hb hK hat 0 4 rfl rfl h2 A.2 (by
      have e : ∀ q : Option Nat, is_tr z b (va_rf q) = va_rf (q.map (z + ·)) := fun q => by cases q <;> rfl
      rw [List.map_cons, e] at w
      exact w)
  · cases hf
theorem ok_iast {t : is_M} {k : Nat} (A : is_At t k .iastore 1) : is_Ok t k ia_iast := by
  intro L st h k' L' st' h' hf
  unfold ia_iast at hf
  split at hf
  · rename_i x i a st1
    obtain ⟨h2, hg, hf⟩ := Option.map_eq_some_iff.mp hf
    cases hf
    obtain ⟨n, f, h1, hin, rfl⟩ := is_st hg
    refine ⟨Nat.le_refl _, Nat.le_refl _, ?_⟩
    intro p l e R s m args below meth c D z b sc H0 nx0 sn0 Q C hn hs hcl hsl F H locs ls r S lh
    obtain ⟨hx, hb, hml, hown, hts, hnw, hao, hK, hnm, hX, hbz, hzH, hRf, hRl⟩ := C
    have hat := r.at h1 is_nd1
    refine W.iast hx hb hat ((hK.2 0 _ rfl).1 n (fun j => .int (f j))) (fun q => by cases q) (by show ¬ (i < 0 ∨ (arrV _ _ _).slots.size ≤ _); rw [arrV_size]; exact hin) rfl rfl A.2 fun H1 e1 z1 oq => ?_
    have w := F H1 _ ls (r.up (r.lt (by rw [h1]; exact is_nd1)) ?_ z1 oq) (is_S.put (k := i.toNatClampNeg) S z1 oq) lh
    · rw [A.1] at w
      exact w
    · show H1[z + a]? = some (vp_cell _ _)
      rw [e1]
      show some ((vp_cell (D.2 0) (n, .inl f)).setSlot _ _) = some (vp_cell (D.2 0) (n, .inl _))
      rw [vp_cell_i, vp_cell_i, arrV_store]
      congr 2
      funext q
      by_cases hq : q = i.toNatClampNeg
      · subst hq
        simp [updV, upd, narrow]
      · simp [updV, upd, hq]
  · cases hf
theorem ok_bast {t : is_M} {k : Nat} (A : is_At t k .bastore 1) : is_Ok t k ia_bast := by
  intro L st h k' L' st' h' hf
  unfold ia_bast at hf
  split at hf
  · rename_i x i a st1
    obtain ⟨h2, hg, hf⟩ := Option.map_eq_some_iff.mp hf
    cases hf
    obtain ⟨n, f, h1, hin, rfl⟩ := is_st hg
    refine ⟨Nat.le_refl _, Nat.le_refl _, ?_⟩
    intro p l e R s m args below meth c D z b sc H0 nx0 sn0 Q C hn hs hcl hsl F H locs ls r S lh
    obtain ⟨hx, hb, hml, hown, hts, hnw, hao, hK, hnm, hX, hbz, hzH, hRf, hRl⟩ := C
    have hat := r.at h1 is_nd1
    refine W.bast hx hb hat ((hK.2 3 _ rfl).1 n (fun j => .int (f j))) (fun q => by cases q) (by show ¬ (i < 0 ∨ (arrV _ _ _).slots.size ≤ _); rw [arrV_size]; exact hin) rfl rfl A.2 fun H1 e1 z1 oq => ?_
    have w := F H1 _ ls (r.up (r.lt (by rw [h1]; exact is_nd1)) ?_ z1 oq) (is_S.put (k := i.toNatClampNeg) S z1 oq) lh
    · rw [A.1] at w
      exact w
    · show H1[z + a]? = some (vp_cell _ _)
      rw [e1]
      show some ((vp_cell (D.2 3) (n, .inl f)).setSlot _ _) = some (vp_cell (D.2 3) (n, .inl _))
      rw [vp_cell_i, vp_cell_i, arrV_store]
      congr 2
      funext q
      by_cases hq : q = i.toNatClampNeg
      · subst hq
        simp [updV, upd, narrow]
      · simp [updV, upd, hq]
  · cases hf
theorem ok_cast {t : is_M} {k : Nat} (A : is_At t k .castore 1) : is_Ok t k ia_cast := by
  intro L st h k' L' st' h' hf
  unfold ia_cast at hf
  split at hf
  · rename_i x i a st1
    obtain ⟨h2, hg, hf⟩ := Option.map_eq_some_iff.mp hf
    cases hf
    obtain ⟨n, f, h1, hin, rfl⟩ := is_st hg
    refine ⟨Nat.le_refl _, Nat.le_refl _, ?_⟩
    intro p l e R s m args below meth c D z b sc H0 nx0 sn0 Q C hn hs hcl hsl F H locs ls r S lh
    obtain ⟨hx, hb, hml, hown, hts, hnw, hao, hK, hnm, hX, hbz, hzH, hRf, hRl⟩ := C
    have hat := r.at h1 is_nd1
    refine W.cast hx hb hat ((hK.2 2 _ rfl).1 n (fun j => .int (f j))) (fun q => by cases q) (by show ¬ (i < 0 ∨ (arrV _ _ _).slots.size ≤ _); rw [arrV_size]; exact hin) rfl rfl A.2 fun H1 e1 z1 oq => ?_
    have w := F H1 _ ls (r.up (r.lt (by rw [h1]; exact is_nd1)) ?_ z1 oq) (is_S.put (k := i.toNatClampNeg) S z1 oq) lh
    · rw [A.1] at w
      exact w
    · show H1[z + a]? = some (vp_cell _ _)
      rw [e1]
      show some ((vp_cell (D.2 2) (n, .inl f)).setSlot _ _) = some (vp_cell (D.2 2) (n, .inl _))
      rw [vp_cell_i, vp_cell_i, arrV_store]
      congr 2
      funext q
      by_cases hq : q = i.toNatClampNeg
      · subst hq
        simp [updV, upd, narrow]
      · simp [updV, upd, hq]
  · cases hf
theorem ok_last {t : is_M} {k : Nat} (A : is_At t k .lastore 1) : is_Ok t k ia_last := by
  intro L st h k' L' st' h' hf
  unfold ia_last at hf
  split at hf
  · rename_i x i a st1
    obtain ⟨h2, hg, hf⟩ := Option.map_eq_some_iff.mp hf
    cases hf
    obtain ⟨n, f, h1, hin, rfl⟩ := is_stL hg
    refine ⟨Nat.le_refl _, Nat.le_refl _, ?_⟩
    intro p l e R s m args below meth c D z b sc H0 nx0 sn0 Q C hn hs hcl hsl F H locs ls r S lh
    obtain ⟨hx, hb, hml, hown, hts, hnw, hao, hK, hnm, hX, hbz, hzH, hRf, hRl⟩ := C
    have hat := r.at h1 is_nd1
    refine W.last hx hb hat ((hK.2 1 _ rfl).1 n (fun j => .long (f j))) (fun q => by cases q) (by show ¬ (i < 0 ∨ (arrV _ _ _).slots.size ≤ _); rw [arrV_size]; exact hin) rfl rfl A.2 fun H1 e1 z1 oq => ?_
    have w := F H1 _ ls (r.up (r.lt (by rw [h1]; exact is_nd1)) ?_ z1 oq) (is_S.put (k := i.toNatClampNeg) S z1 oq) lh
    · rw [A.1] at w
      exact w
    · show H1[z + a]? = some (vp_cell _ _)
      rw [e1]
      show some ((vp_cell (D.2 1) (n, .inr (.inl f))).setSlot _ _) = some (vp_cell (D.2 1) (n, .inr (.inl _)))
      rw [vp_cell_l, vp_cell_l, arrV_store]
      congr 2
      funext q
      by_cases hq : q = i.toNatClampNeg
      · subst hq
        simp [updV, vp_updL]
      · simp [updV, vp_updL, hq]
  · cases hf
theorem ok_rast {t : is_M} {k : Nat} (A : is_At t k .aastore 1) : is_Ok t k ia_rast := by
  intro L st h k' L' st' h' hf
  unfold ia_rast at hf
  split at hf
  · rename_i v i a st1
    obtain ⟨h2, hg, hf⟩ := Option.map_eq_some_iff.mp hf
    cases hf
    obtain ⟨n, f, v0, fs, h1, hv, hin, rfl⟩ := is_stR hg
    refine ⟨Nat.le_refl _, Nat.le_refl _, ?_⟩
    intro p l e R s m args below meth c D z b sc H0 nx0 sn0 Q C hn hs hcl hsl F H locs ls r S lh
    obtain ⟨hx, hb, hml, hown, hts, hnw, hao, hK, hnm, hX, hbz, hzH, hRf, hRl⟩ := C
    have hat := r.at h1 is_nd1
    obtain ⟨r', hr', cellV, g1, g2, g3, -⟩ := r.at hv (is_nd2 (k := 0) rfl)
    have hcls := (hK.1 5 _ rfl).2
    obtain ⟨kA, comp, k1, k2, k3, -⟩ := (hK.2 4 _ rfl).2
    have hcomp : comp = D.1.1 5 := Option.some.inj (k3.symm.trans hcls.1)
    subst hcomp
    obtain ⟨kC, hkC, -⟩ := id hcls.2
    have hlt : i.toNatClampNeg < n := Nat.not_le.mp fun q => hin (Or.inr q)
    refine W.aast hx hb hat (fun q h => by cases h) (fun h => by cases h) k1 k2 rfl hkC ⟨fun q => hin (Or.inl q), by show _ < (arrV _ _ _).slots.size; rw [arrV_size]; exact hlt⟩ g1 (fun q h => by rw [g3] at h; cases h) (by rw [g2]; exact hkC) (by rw [g2]; exact va_assign hcls) rfl rfl A.2 fun H1 e1 z1 oq => ?_
    have w := F H1 _ ls (r.up (r.lt (by rw [h1]; exact is_nd1)) ?_ z1 oq) (is_S.put (k := i.toNatClampNeg) S z1 oq) lh
    · rw [A.1] at w
      exact w
    · show H1[z + a]? = some (vp_cell _ _)
      rw [e1]
      show some ((vp_cell (D.2 4) (n, .inr (.inr (.inr (.inr _))))).setSlot _ _) = some (vp_cell (D.2 4) (n, .inr (.inr (.inr (.inr _)))))
      rw [vp_cell_q, vp_cell_q, arrV_store]
      congr 2
      funext q
      by_cases hq : q = i.toNatClampNeg
      · subst hq
        simp [updV, va_up, va_rf]
      · simp [updV, va_up, hq]
  · cases hf
theorem ok_alen {t : is_M} {k : Nat} (A : is_At t k .arraylength 1) : is_Ok t k ia_alen := by
  intro L st h k' L' st' h' hf
  unfold ia_alen at hf
  split at hf
  · obtain ⟨x, hg, hf⟩ := Option.map_eq_some_iff.mp hf
    cases hf
    obtain ⟨ty, q, h1, h2, h3⟩ := is_len hg
    refine ⟨Nat.le_refl _, Nat.le_refl _, ?_⟩
    intro p l e R s m args below meth c D z b sc H0 nx0 sn0 Q C hn hs hcl hsl F H locs ls r S lh
    have w := F H locs ls r S lh
    rw [A.1] at w
    obtain ⟨hx, hb, hml, hown, hts, hnw, hao, hK, hnm, hX, hbz, hzH, hRf, hRl⟩ := C
    have hat := is_P1 (r.at h1 is_nd1)
    rcases (show ty = 0 ∨ ty = 1 ∨ ty = 2 ∨ ty = 3 ∨ ty = 4 by omega) with rfl | rfl | rfl | rfl | rfl
    · exact va_alen hx hb hK hat 0 0 rfl rfl h3 A.2 w
    · exact va_alen hx hb hK hat 0 1 rfl rfl h3 A.2 w
    · exact va_alen hx hb hK hat 0 2 rfl rfl h3 A.2 w
    · exact va_alen hx hb hK hat 0 3 rfl rfl h3 A.2 w
    · exact va_alen hx hb hK hat 0 4 rfl rfl h3 A.2 w
  · cases hf
    refine ⟨Nat.le_refl _, Nat.le_refl _, ?_⟩
    intro p l e R s m args below meth c D z b sc H0 nx0 sn0 Q C hn hs hcl hsl F H locs ls r S lh
    have w := F H locs ls r S lh
    rw [A.1] at w
    obtain ⟨hx, hb, hml, hown, hts, hnw, hao, hK, hnm, hX, hbz, hzH, hRf, hRl⟩ := C
    have hsc : h.2.2.1 = sc := r.2.2.2
    rw [hsc] at w
    exact va_slen hx hb hX (Nat.lt_of_lt_of_le hbz hzH) (by show ¬ z ≤ b; omega) S A.2 w
  · cases hf
theorem ok_newa_int {t : is_M} {k : Nat} (harr : Cond.arrayClass .int ∈ cb_gw) (A : is_At t k (.newarray .int) 2) : is_Ok t k (ia_newa 0) := by
  intro L st h k' L' st' h' hf
  unfold ia_newa at hf
  split at hf
  · rename_i n st1
    split at hf
    · rename_i hc
      obtain ⟨hn0, hn1⟩ := hc
      cases hf
      refine ⟨Nat.le_succ _, Nat.le_add_right _ _, ?_⟩
      intro p l e R s m args below meth c D z b sc H0 nx0 sn0 Q C hn hs hcl hsl F H locs ls r S lh
      have hcl' : h.1 + 1 - nx0 ≤ R.cells := hcl
      have hsl' : h.2.1 + n.toNatClampNeg - sn0 ≤ R.slots := hsl
      obtain ⟨hx, hb, hml, hown, hts, hnw, hao, hK, hnm, hX, hbz, hzH, hRf, hRl⟩ := C
      refine va_newaK hx hb (atype := .int) (hts _ harr) rfl A.2 rfl hn0 rfl (by show _ * componentBytes .int ≤ _; simp only [componentBytes]; omega) (by omega) (by omega) r.1 fun H1 cA e1 z1 o1 hAr hNm => ?_
      have hcA : cA = D.2 0 := by
        have h2 : s.vm.findClass ("[" ++ (.int : FieldType).toString) = some (D.2 0) := (hK.2 0 _ rfl).2
        exact Option.some.inj (hNm.symm.trans h2)
      subst hcA
      have oq : ∀ q : Nat, q < H.size → H1[q]? = H[q]? := fun q hq => o1 q (by rw [← r.1]; exact hq)
      have w := F H1 locs ls (r.new (n := n.toNatClampNeg) (e' := .inl (0, n.toNatClampNeg, ia_zero 0)) e1 (by rw [z1, r.1]) oq) (is_S.new S (by rw [z1, r.1]) oq) lh
      rw [A.1] at w
      have g1 : (ia_new h n.toNatClampNeg (.inl (0, n.toNatClampNeg, ia_zero 0))).1 - nx0 = h.1 - nx0 + 1 := by show h.1 + 1 - nx0 = _; omega
      have g2 : (ia_new h n.toNatClampNeg (.inl (0, n.toNatClampNeg, ia_zero 0))).2.1 - sn0 = h.2.1 - sn0 + n.toNatClampNeg := by show h.2.1 + n.toNatClampNeg - sn0 = _; omega
      rw [g1, g2] at w
      exact w
    · cases hf
  · cases hf
theorem ok_newa_long {t : is_M} {k : Nat} (harr : Cond.arrayClass .long ∈ cb_gw) (A : is_At t k (.newarray .long) 2) : is_Ok t k (ia_newa 1) := by
  intro L st h k' L' st' h' hf
  unfold ia_newa at hf
  split at hf
  · rename_i n st1
    split at hf
    · rename_i hc
      obtain ⟨hn0, hn1⟩ := hc
      cases hf
      refine ⟨Nat.le_succ _, Nat.le_add_right _ _, ?_⟩
      intro p l e R s m args below meth c D z b sc H0 nx0 sn0 Q C hn hs hcl hsl F H locs ls r S lh
      have hcl' : h.1 + 1 - nx0 ≤ R.cells := hcl
      have hsl' : h.2.1 + n.toNatClampNeg - sn0 ≤ R.slots := hsl
      obtain ⟨hx, hb, hml, hown, hts, hnw, hao, hK, hnm, hX, hbz, hzH, hRf, hRl⟩ := C
      refine va_newaK hx hb (atype := .long) (hts _ harr) rfl A.2 rfl hn0 rfl (by show _ * componentBytes .long ≤ _; simp only [componentBytes]; omega) (by omega) (by omega) r.1 fun H1 cA e1 z1 o1 hAr hNm => ?_
      have hcA : cA = D.2 1 := by
        have h2 : s.vm.findClass ("[" ++ (.long : FieldType).toString) = some (D.2 1) := (hK.2 1 _ rfl).2
        exact Option.some.inj (hNm.symm.trans h2)
      subst hcA
      have oq : ∀ q : Nat, q < H.size → H1[q]? = H[q]? := fun q hq => o1 q (by rw [← r.1]; exact hq)
      have w := F H1 locs ls (r.new (n := n.toNatClampNeg) (e' := .inl (1, n.toNatClampNeg, ia_zero 1)) e1 (by rw [z1, r.1]) oq) (is_S.new S (by rw [z1, r.1]) oq) lh
      rw [A.1] at w
      have g1 : (ia_new h n.toNatClampNeg (.inl (1, n.toNatClampNeg, ia_zero 1))).1 - nx0 = h.1 - nx0 + 1 := by show h.1 + 1 - nx0 = _; omega
      have g2 : (ia_new h n.toNatClampNeg (.inl (1, n.toNatClampNeg, ia_zero 1))).2.1 - sn0 = h.2.1 - sn0 + n.toNatClampNeg := by show h.2.1 + n.toNatClampNeg - sn0 = _; omega
      rw [g1, g2] at w
      exact w
    · cases hf
  · cases hf
theorem ok_newa_char {t : is_M} {k : Nat} (harr : Cond.arrayClass .char ∈ cb_gw) (A : is_At t k (.newarray .char) 2) : is_Ok t k (ia_newa 2) := by
  intro L st h k' L' st' h' hf
  unfold ia_newa at hf
  split at hf
  · rename_i n st1
    split at hf
    · rename_i hc
      obtain ⟨hn0, hn1⟩ := hc
      cases hf
      refine ⟨Nat.le_succ _, Nat.le_add_right _ _, ?_⟩
      intro p l e R s m args below meth c D z b sc H0 nx0 sn0 Q C hn hs hcl hsl F H locs ls r S lh
      have hcl' : h.1 + 1 - nx0 ≤ R.cells := hcl
      have hsl' : h.2.1 + n.toNatClampNeg - sn0 ≤ R.slots := hsl
      obtain ⟨hx, hb, hml, hown, hts, hnw, hao, hK, hnm, hX, hbz, hzH, hRf, hRl⟩ := C
      refine va_newaK hx hb (atype := .char) (hts _ harr) rfl A.2 rfl hn0 rfl (by show _ * componentBytes .char ≤ _; simp only [componentBytes]; omega) (by omega) (by omega) r.1 fun H1 cA e1 z1 o1 hAr hNm => ?_
      have hcA : cA = D.2 2 := by
        have h2 : s.vm.findClass ("[" ++ (.char : FieldType).toString) = some (D.2 2) := (hK.2 2 _ rfl).2
        exact Option.some.inj (hNm.symm.trans h2)
      subst hcA
      have oq : ∀ q : Nat, q < H.size → H1[q]? = H[q]? := fun q hq => o1 q (by rw [← r.1]; exact hq)
      have w := F H1 locs ls (r.new (n := n.toNatClampNeg) (e' := .inl (2, n.toNatClampNeg, ia_zero 2)) e1 (by rw [z1, r.1]) oq) (is_S.new S (by rw [z1, r.1]) oq) lh
      rw [A.1] at w
      have g1 : (ia_new h n.toNatClampNeg (.inl (2, n.toNatClampNeg, ia_zero 2))).1 - nx0 = h.1 - nx0 + 1 := by show h.1 + 1 - nx0 = _; omega
      have g2 : (ia_new h n.toNatClampNeg (.inl (2, n.toNatClampNeg, ia_zero 2))).2.1 - sn0 = h.2.1 - sn0 + n.toNatClampNeg := by show h.2.1 + n.toNatClampNeg - sn0 = _; omega
      rw [g1, g2] at w
      exact w
    · cases hf
  · cases hf
theorem ok_newa_byte {t : is_M} {k : Nat} (harr : Cond.arrayClass .byte ∈ cb_gw) (A : is_At t k (.newarray .byte) 2) : is_Ok t k (ia_newa 3) := by
  intro L st h k' L' st' h' hf
  unfold ia_newa at hf
  split at hf
  · rename_i n st1
    split at hf
    · rename_i hc
      obtain ⟨hn0, hn1⟩ := hc
      cases hf
      refine ⟨Nat.le_succ _, Nat.le_add_right _ _, ?_⟩
      intro p l e R s m args below meth c D z b sc H0 nx0 sn0 Q C hn hs hcl hsl F H locs ls r S lh
      have hcl' : h.1 + 1 - nx0 ≤ R.cells := hcl
      have hsl' : h.2.1 + n.toNatClampNeg - sn0 ≤ R.slots := hsl
      obtain ⟨hx, hb, hml, hown, hts, hnw, hao, hK, hnm, hX, hbz, hzH, hRf, hRl⟩ := C
      refine va_newaK hx hb (atype := .byte) (hts _ harr) rfl A.2 rfl hn0 rfl (by show _ * componentBytes .byte ≤ _; simp only [componentBytes]; omega) (by omega) (by omega) r.1 fun H1 cA e1 z1 o1 hAr hNm => ?_
      have hcA : cA = D.2 3 := by
        have h2 : s.vm.findClass ("[" ++ (.byte : FieldType).toString) = some (D.2 3) := (hK.2 3 _ rfl).2
        exact Option.some.inj (hNm.symm.trans h2)
      subst hcA
      have oq : ∀ q : Nat, q < H.size → H1[q]? = H[q]? := fun q hq => o1 q (by rw [← r.1]; exact hq)
      have w := F H1 locs ls (r.new (n := n.toNatClampNeg) (e' := .inl (3, n.toNatClampNeg, ia_zero 3)) e1 (by rw [z1, r.1]) oq) (is_S.new S (by rw [z1, r.1]) oq) lh
      rw [A.1] at w
      have g1 : (ia_new h n.toNatClampNeg (.inl (3, n.toNatClampNeg, ia_zero 3))).1 - nx0 = h.1 - nx0 + 1 := by show h.1 + 1 - nx0 = _; omega
      have g2 : (ia_new h n.toNatClampNeg (.inl (3, n.toNatClampNeg, ia_zero 3))).2.1 - sn0 = h.2.1 - sn0 + n.toNatClampNeg := by show h.2.1 + n.toNatClampNeg - sn0 = _; omega
      rw [g1, g2] at w
      exact w
    · cases hf
  · cases hf
theorem ok_newr {t : is_M} {k : Nat} {index : Nat} (hlink : Cond.classLink t.1.cls index "CardsAndBans$State" ∈ cb_gw) (A : is_At t k (.anewarray index) 3) : is_Ok t k (ia_newa 4) := by
  intro L st h k' L' st' h' hf
  unfold ia_newa at hf
  split at hf
  · rename_i n st1
    split at hf
    · rename_i hc
      obtain ⟨hn0, hn1⟩ := hc
      cases hf
      refine ⟨Nat.le_succ _, Nat.le_add_right _ _, ?_⟩
      intro p l e R s m args below meth c D z b sc H0 nx0 sn0 Q C hn hs hcl hsl F H locs ls r S lh
      have hcl' : h.1 + 1 - nx0 ≤ R.cells := hcl
      have hsl' : h.2.1 + n.toNatClampNeg - sn0 ≤ R.slots := hsl
      obtain ⟨hx, hb, hml, hown, hts, hnw, hao, hK, hnm, hX, hbz, hzH, hRf, hRl⟩ := C
      refine W.anew hx hb hown (hts _ hlink) (va_AO.use hao) rfl A.2 rfl hn0 (by omega) (by omega) (by omega) fun cA kA comp e1 e2 e3 e4 => ?_
      have hcA : cA = D.2 4 := by
        obtain ⟨_, _, _, _, _, h2⟩ := (hK.2 4 _ rfl).2
        exact Option.some.inj (e1.symm.trans h2)
      subst hcA
      generalize hH1 : H.push _ = H1
      have z1 : H1.size = H.size + 1 := by rw [← hH1]; simp
      have oq : ∀ q : Nat, q < H.size → H1[q]? = H[q]? := fun q hq => by rw [← hH1, Array.getElem?_push, if_neg (Nat.ne_of_lt hq)]
      have e5 : H1[z + h.1]? = some (vp_cell (D.2 4) (n.toNatClampNeg, .inr (.inr (.inr (.inr fun _ => none))))) := by
        rw [← hH1, ← r.1, vp_cell_q]
        show _ = some (arrV (D.2 4) n.toNatClampNeg (fun _ => .null))
        rw [← arrV_new]
        simp
      have w := F H1 locs ls (r.new (n := n.toNatClampNeg) (e' := .inl (4, n.toNatClampNeg, ia_zero 4)) e5 z1 oq) (is_S.new S z1 oq) lh
      rw [A.1] at w
      have g1 : (ia_new h n.toNatClampNeg (.inl (4, n.toNatClampNeg, ia_zero 4))).1 - nx0 = h.1 - nx0 + 1 := by show h.1 + 1 - nx0 = _; omega
      have g2 : (ia_new h n.toNatClampNeg (.inl (4, n.toNatClampNeg, ia_zero 4))).2.1 - sn0 = h.2.1 - sn0 + n.toNatClampNeg := by show h.2.1 + n.toNatClampNeg - sn0 = _; omega
      rw [g1, g2] at w
      rw [r.1]
      exact w
    · cases hf
  · cases hf
theorem ok_newo {t : is_M} {k ci : Nat} {Cn : String} {T : u_T} {N index : Nat} {fs : List Value} (hc : cb_cl[ci]? = some (Cn, T, N)) (hin : ∀ w ∈ u_ws Cn T N, w ∈ cb_gw) (ty0 : Nat → FieldType) (hty : ∀ k, k < N → parseFieldDescriptor (T k).2.2.1 = some (ty0 k)) (hcl : Cond.classLink t.1.cls index Cn ∈ cb_gw) (hinst : Cond.instantiable Cn N ∈ cb_gw) (hini : Cond.initialized Cn ∈ cb_gw) (hfs : ∀ j, j < N → defaultValue (ty0 j) = vp_V fs j) (hrf : ∀ z b, fs.map (is_tr z b) = fs) (A : is_At t k (.new index) 3) : is_Ok t k (ia_newo ci N fs) := by
  intro L st h k' L' st' h' hf
  unfold ia_newo at hf
  cases hf
  refine ⟨Nat.le_succ _, Nat.le_add_right _ _, ?_⟩
  intro p l e R s m args below meth c D z b sc H0 nx0 sn0 Q C hn hs hcl1 hsl F H locs ls r S lh
  have hcl' : h.1 + 1 - nx0 ≤ R.cells := hcl1
  have hsl' : h.2.1 + N - sn0 ≤ R.slots := hsl
  obtain ⟨hx, hb, hml, hown, hts, hnw, hao, hK, hnm, hX, hbz, hzH, hRf, hRl⟩ := C
  have hKn := hK.1 ci _ hc
  refine W.newcK hx hb hown (hts _ hcl) (hts _ hinst) (hts _ hini) rfl A.2 (by omega) (by omega) hKn.2.1 r.1 fun H1 kC hkC e1 z1 o1 => ?_
  have oq : ∀ q : Nat, q < H.size → H1[q]? = H[q]? := fun q hq => o1 q (by rw [← r.1]; exact hq)
  have e5 : va_at D.1 cb_cl (z + h.1, is_E D z b (.inr (ci, fs))) H1 := by
    show ∃ r : vw_C, _
    refine ⟨_, hc, ?_⟩
    have := (u_born ty0 hts hin hKn hkC e1 hty).to hfs
    dsimp only [is_E]
    rw [hrf z b]
    exact this
  have w := F H1 locs ls (r.new (n := N) e5 (by rw [z1, r.1]) oq) (is_S.new S (by rw [z1, r.1]) oq) lh
  rw [A.1] at w
  have g1 : (ia_new h N (.inr (ci, fs))).1 - nx0 = h.1 - nx0 + 1 := by show h.1 + 1 - nx0 = _; omega
  have g2 : (ia_new h N (.inr (ci, fs))).2.1 - sn0 = h.2.1 - sn0 + N := by show h.2.1 + N - sn0 = _; omega
  rw [g1, g2] at w
  exact w
theorem ok_oinit {t : is_M} {k index : Nat} (hlink : Cond.methodLink t.1.cls index Lib.objectInit ∈ cb_gw) (hinst : Cond.instanceMethod Lib.objectInit ∈ cb_gw) (hcode : Cond.code Lib.objectInit ⟨#[0xb1]⟩ 1 none ∈ cb_gw) (hF : 1 ≤ is_rF t) (hL : 20 ≤ is_rL t) (A : is_At t k (.invokespecial index) 3) : is_Ok t k ia_oinit := by
  intro L st h k' L' st' h' hf
  unfold ia_oinit at hf
  split at hf
  · rename_i a st1
    split at hf
    · rename_i hw
      cases hf
      refine ⟨Nat.le_refl _, Nat.le_refl _, ?_⟩
      intro p l e R s m args below meth c D z b sc H0 nx0 sn0 Q C hn hs hcl hsl F H locs ls r S lh
      have w := F H locs ls r S lh
      rw [A.1] at w
      obtain ⟨hx, hb, hml, hown, hts, hnw, hao, hK, hnm, hX, hbz, hzH, hRf, hRl⟩ := C
      refine W.objInit hx hb hown (hts _ hlink) (hts _ hinst) (hts _ hcode) rfl (by rw [hml]; exact lh.1) rfl A.2 (Nat.le_trans hF hRf) ?_ w
      show 2 * 0 + _ + 12 ≤ _
      have := is_w_sum z b st'
      omega
    · cases hf
  · cases hf
theorem ok_min {t : is_M} {k index : Nat} (hlink : Cond.methodLink t.1.cls index Lib.Math.min.name ∈ cb_gw) (hst : Cond.static Lib.Math.min.name ∈ cb_gw) (hini : Cond.initialized "java/lang/Math" ∈ cb_gw) (hcode : Cond.code Lib.Math.min.name Lib.Math.min.code 2 (some .int) ∈ cb_gw) (hF : 1 ≤ is_rF t) (hL : 21 ≤ is_rL t) (A : is_At t k (.invokestatic index) 3) : is_Ok t k ia_min := by
  intro L st h k' L' st' h' hf
  unfold ia_min at hf
  split at hf
  · rename_i y x st1
    split at hf
    · rename_i hw
      cases hf
      refine ⟨Nat.le_refl _, Nat.le_refl _, ?_⟩
      intro p l e R s m args below meth c D z b sc H0 nx0 sn0 Q C hn hs hcl hsl F H locs ls r S lh
      have w := F H locs ls r S lh
      rw [A.1] at w
      obtain ⟨hx, hb, hml, hown, hts, hnw, hao, hK, hnm, hX, hbz, hzH, hRf, hRl⟩ := C
      have := is_w_sum z b st1
      exact va_mmin hx hb (by rw [hml]; exact lh.1.symm) hown (hts _ hlink) (hts _ hst) (hts _ hini) (hts _ hcode) (Nat.le_trans hF hRf) (by omega) (by omega) (by omega) A.2 w
    · cases hf
  · cases hf
theorem ok_copy {t : is_M} {k index : Nat} (hlink : Cond.methodLink t.1.cls index arraycopyName ∈ cb_gw) (hnat : Cond.native arraycopyName ∈ cb_gw) (hst : Cond.static arraycopyName ∈ cb_gw) (hini : Cond.initialized "java/lang/System" ∈ cb_gw) (hF : 1 ≤ is_rF t) (hL : 8 + (nativeFrameWords "java/lang/System" "arraycopy" 5 + 11) ≤ is_rL t) (A : is_At t k (.invokestatic index) 3) : is_Ok t k ia_copy := by
  intro L st h k' L' st' h' hf
  unfold ia_copy at hf
  split at hf
  · rename_i n dp a1 sp a0 st1
    split at hf
    · rename_i hw
      obtain ⟨h2, hg, hf⟩ := Option.map_eq_some_iff.mp hf
      cases hf
      obtain ⟨n0, n1, f, g, h0, h1, q1, q2, q3, q4, q5, rfl⟩ := is_cp hg
      refine ⟨Nat.le_refl _, Nat.le_refl _, ?_⟩
      intro p l e R s m args below meth c D z b sc H0 nx0 sn0 Q C hn hs hcl hsl F H locs ls r S lh
      obtain ⟨hx, hb, hml, hown, hts, hnw, hao, hK, hnm, hX, hbz, hzH, hRf, hRl⟩ := C
      have := is_w_sum z b st'
      refine is_copyi hx hb (by rw [hml]; exact lh.1.symm) hown (hts _ hlink) (hts _ hnat) (hts _ hst) (hts _ hini) ((hK.2 0 _ rfl).1) (r.at h0 is_nd1) (r.at h1 is_nd1) q1 q2 q3 q4 q5 (Nat.le_trans hF hRf) (by omega) A.2 fun H1 L1 e1 z1 oq hL1 => ?_
      have w := F H1 (locs ++ L1) ls (r.up (r.lt (by rw [h1]; exact is_nd1)) e1 z1 oq) ⟨by rw [z1]; exact S.1, fun q g1 g2 => (oq q (fun e => g2 (by rw [e]; exact Nat.le_add_right _ _))).trans (S.2.1 q g1 g2), fun q hq => by
        rcases List.mem_append.mp hq with h | h
        · exact S.2.2 q h
        · show z ≤ q.base
          rw [hL1 q h]
          exact Nat.le_add_right _ _⟩ lh
      rw [A.1] at w
      exact w
    · cases hf
  · cases hf
end
section
/-! RUNS OF THE ABSTRACT MACHINE ARE RUNS OF THE MACHINE: one theorem for all methods, by the fuel. -/
/-- the link of a method that is called -/
def is_ml (t : is_M) (index : Nat) (y : MethodName) : Prop := Cond.methodLink t.1.cls index y ∈ cb_gw ∨ ∃ host, Cond.methodLinkNest t.1.cls index y host ∈ cb_nw
def is_np (y : MethodName) (n : Nat) : Prop := (parseMethodDescriptor y.desc).map (fun d => d.parameters.length) = some n
def is_OkC (t u : is_M) (k na rc : Nat) : Prop :=
  is_rF u + 1 ≤ is_rF t ∧ 8 + (is_mL u + 11) + is_rL u ≤ is_rL t ∧ (u.1.cls ≠ "java/lang/invoke/MethodHandle" ∧ u.1.cls ≠ "java/lang/invoke/VarHandle") ∧ Cond.initialized u.1.cls ∈ cb_gw ∧ is_pc t (k + 1) = is_pc t k + 3 ∧
  ∃ index, is_ml t index u.1 ∧
    ((rc = 100 ∧ decode (is_cc t) (is_pc t k) = .ok (.invokestatic index, 3) ∧ Cond.static u.1 ∈ cb_gw ∧ is_np u.1 na) ∨
     (rc = 101 ∧ decode (is_cc t) (is_pc t k) = .ok (.invokespecial index, 3) ∧ u.1.name = "<init>" ∧ is_rt u = none ∧ Cond.instanceMethod u.1 ∈ cb_gw ∧ is_np u.1 (na - 1) ∧ 1 ≤ na) ∨
     (rc < 100 ∧ (∃ T N, cb_cl[rc]? = some (u.1.cls, T, N)) ∧ decode (is_cc t) (is_pc t k) = .ok (.invokevirtual index, 3) ∧ Cond.instanceMethod u.1 ∈ cb_gw ∧ Cond.selects u.1.cls u.1 u.1 ∈ cb_gw ∧ is_np u.1 (na - 1) ∧ 1 ≤ na))
def is_OkR (t : is_M) (k r : Nat) : Prop :=
  (r = 0 ∧ decode (is_cc t) (is_pc t k) = .ok (.return_, 1) ∧ is_rt t = none) ∨ (r = 1 ∧ decode (is_cc t) (is_pc t k) = .ok (.ireturn, 1) ∧ is_rt t = some .int) ∨
  (r = 2 ∧ decode (is_cc t) (is_pc t k) = .ok (.ireturn, 1) ∧ is_rt t = some .boolean) ∨ (r = 3 ∧ decode (is_cc t) (is_pc t k) = .ok (.lreturn, 1) ∧ is_rt t = some .long) ∨
  (r = 4 ∧ decode (is_cc t) (is_pc t k) = .ok (.areturn, 1) ∧ ∃ C, is_rt t = some (.object C))
/-- a row of a method, in a table MT whose first NM are called -/
def is_OkW (MT : Nat → is_M) (NM : Nat) (t : is_M) (k : Nat) : ia_R → Prop
  | .inl f => is_Ok t k f
  | .inr (.inl q) => q.1 < NM ∧ is_OkC t (MT q.1) k q.2.1 q.2.2
  | .inr (.inr r) => is_OkR t k r
def is_Gr (MT : Nat → is_M) (NM : Nat) (t : is_M) : Prop := ∀ k w, is_row t k = some w → is_OkW MT NM t k w
def is_Gc (t : is_M) : Prop := plainName t.1.cls = true ∧ Cond.code t.1 (is_cc t) (is_mL t) (is_rt t) ∈ cb_gw ∧ is_pc t 0 = 0
def is_ws (t : is_M) : List Cond := Cond.code t.1 (is_cc t) (is_mL t) (is_rt t) :: cb_gw
def is_rm (t : is_M) (mc ms : Nat) : Room := { frames := is_rF t, cells := mc, slots := ms, locals := is_rL t }
def is_Pc (D : is_D) (z b : Nat) (sc : Nat × (Nat → Int32)) (as : List Value) (h : ia_H) : Array Value → State → Prop := fun v U =>
  v = (as.map (is_tr z b)).toArray ∧ is_Rl D z b sc h U.heap ∧ va_K D.1 cb_cl (is_tys D.2) U ∧ (∀ w ∈ cb_nw, va_Nw w U) ∧ va_AO "CardsAndBans$State" U ∧ va_X b sc.1 sc.2 U U.heap ∧ b < z
def is_Qc (D : is_D) (z b : Nat) (sc : Nat × (Nat → Int32)) (r : Option Value) (h : ia_H) : Array Value → State → Outcome → State → Prop := fun _ st oc t =>
  oc = .returned (r.map (is_tr z b)) ∧ is_Rl D z b sc h t.heap ∧ va_F (fun q => z ≤ q) st t
def is_Mt (l : Launch) (D : is_D) (z b : Nat) (sc : Nat × (Nat → Int32)) (t : is_M) (as : List Value) (h : ia_H) (r : Option Value) (h' : ia_H) : Prop :=
  Met l t.1 (is_ws t) (is_rm t (h'.1 - h.1) (h'.2.1 - h.2.1)) (is_Pc D z b sc as h) (is_Qc D z b sc r h') (h'.1 - h.1) (h'.2.1 - h.2.1) (fun q => z ≤ q)
/-! the entry -/
theorem is_ent_len (n : Nat) (as : List Value) (h : ia_w as ≤ n) : (ia_ent n as).length = n := by
  induction as generalizing n with
  | nil => simp [ia_ent]
  | cons v as ih =>
    simp only [ia_w] at h
    rw [ia_ent]
    by_cases hc : v.category = 2
    · rw [if_pos hc]
      simp only [List.length_cons]
      rw [ih (n - 2) (by omega)]
      omega
    · have h1 : v.category = 1 := (lv_cat v).resolve_right hc
      rw [if_neg hc]
      simp only [List.length_cons]
      rw [ih (n - 1) (by omega)]
      omega
theorem is_sl_len (z b : Nat) (as : List Value) : (lg_sl (as.map (is_tr z b))).length = ia_w as := by
  induction as with
  | nil => rfl
  | cons v as ih =>
    have e : lg_sl ((v :: as).map (is_tr z b)) = (if (is_tr z b v).category = 2 then [.val (is_tr z b v), .second] else [.val (is_tr z b v)]) ++ lg_sl (as.map (is_tr z b)) := by
      simp [lg_sl]
    rw [e, List.length_append, ih, is_cat, ia_w]
    rcases lv_cat v with hc | hc <;> simp [hc]
theorem is_ent_at (z b : Nat) (as : List Value) : ∀ (n i : Nat) (v : Value) (tl : List Slot), (ia_ent n as)[i]? = some (some v) → (lg_sl (as.map (is_tr z b)) ++ tl)[i]? = some (.val (is_tr z b v)) := by
  induction as with
  | nil =>
    intro n i v tl h
    simp [ia_ent, List.getElem?_replicate] at h
  | cons w as ih =>
    intro n i v tl h
    have e : lg_sl ((w :: as).map (is_tr z b)) = (if (is_tr z b w).category = 2 then [.val (is_tr z b w), .second] else [.val (is_tr z b w)]) ++ lg_sl (as.map (is_tr z b)) := by
      simp [lg_sl]
    rw [e, is_cat]
    rw [ia_ent] at h
    by_cases hc : w.category = 2
    · rw [if_pos hc] at h ⊢
      match i, h with
      | 0, h => simp at h; subst h; rfl
      | 1, h => simp at h
      | i + 2, h =>
        simp only [List.getElem?_cons_succ] at h
        simpa using ih (n - 2) i v tl h
    · rw [if_neg hc] at h ⊢
      match i, h with
      | 0, h => simp at h; subst h; rfl
      | i + 1, h =>
        simp only [List.getElem?_cons_succ] at h
        simpa using ih (n - 1) i v tl h
theorem is_ent_LH (z b n : Nat) (as : List Value) (h : ia_w as ≤ n) : is_LH z b n ((lg_sl (as.map (is_tr z b)) ++ List.replicate (n - (lg_sl (as.map (is_tr z b))).length) Slot.unset).toArray) (ia_ent n as) := by
  have hl := lv_entry (as.map (is_tr z b)) (n := n) (by rw [is_sl_len]; exact h)
  refine ⟨hl.1, is_ent_len n as h, hl.2.1, fun i v hi _ => ?_⟩
  rw [List.getElem?_toArray]
  exact is_ent_at z b as n i v _ hi
/-! calls -/
theorem is_good (t : is_M) (hc : is_Gc t) : GoodIn cb_gw (is_ws t) := by
  intro w hw
  rcases List.mem_cons.mp hw with rfl | hw
  · exact ⟨hc.2.1, (cb_gg _ hc.2.1).2⟩
  · exact ⟨hw, (cb_gg _ hw).2⟩
theorem is_blind {D : is_D} {z b : Nat} {sc : Nat × (Nat → Int32)} {as : List Value} {h : ia_H} : FrameBlind (is_Pc D z b sc as h) := by
  intro a U g mk q
  obtain ⟨q1, q2, q3, q4, q5, q6, q7⟩ := q
  exact ⟨q1, q2, va_K.moved (u := U) (U := U.calling g mk a) (Vm.Alike.refl U.vm) q3, fun w hw => va_Nw.same (u := U) (U := U.calling g mk a) (by
    have key : ∀ w ∈ cb_nw, w.onTables = true := by decide +kernel
    exact key w hw) rfl (q4 w hw), va_AO.moved (u := U) (U := U.calling g mk a) (Vm.Alike.refl U.vm) q5, va_X.moved (u := U) (U := U.calling g mk a) (Vm.Alike.refl U.vm) q6, q7⟩
section ISL
variable {t u : is_M} {p : Program} {l : Launch} {e : Env} {R : Room} {s : State} {m : MethodId} {args : Array Value} {below : List Frame} {meth : Method} {c : Code} {D : is_D} {z b : Nat} {sc : Nat × (Nat → Int32)} {H0 H : Heap} {locs : List Loc} {cells slots : Nat} {Q : State → Prop} {ls : Array Slot}
theorem is_callW (C : is_Cx t p R s m args meth c D z b sc H0) {h h' : ia_H} {r : Option Value} {st : List Value} {k na rc : Nat} (K : is_OkC t u k na rc) (hu : is_Gc u) (rl : is_Rl D z b sc h H) (S : va_S (fun q => z ≤ q) H0 H locs) (hls : ls.size = is_mL t)
    (hlen : na ≤ st.length) (hw8 : ia_w (st.drop na) ≤ 8) (hok : ia_ok h rc (st.take na).reverse = true) (hM : is_Mt l D z b sc u (st.take na).reverse h r h') (hf : cells + (h'.1 - h.1) ≤ R.cells ∧ slots + (h'.2.1 - h.2.1) ≤ R.slots)
    (kk : ∀ (H1 : Heap) (locs1 : List Loc), is_Rl D z b sc h' H1 → va_S (fun q => z ≤ q) H0 H1 locs1 → W p l e R s m args below meth c H1 locs1 (cells + (h'.1 - h.1)) (slots + (h'.2.1 - h.2.1)) Q (F0 m (is_pc t (k + 1)) ls ((r.toList ++ st.drop na).map (is_tr z b)))) :
    W p l e R s m args below meth c H locs cells slots Q (F0 m (is_pc t k) ls (st.map (is_tr z b))) := by
  obtain ⟨hx, hb, hml, hown, hts, hnw, hao, hK, hname, hX, hbz, hzH, hRf, hRl⟩ := C
  obtain ⟨kF, kL, kD, kI, kP, index, km, kk3⟩ := K
  have hXH : va_X b sc.1 sc.2 s H := hX.kept (S.2.1 b (Nat.lt_of_lt_of_le hbz hzH) (by show ¬ z ≤ b; omega))
  have hpre : ∀ U : State, U.heap = H → s.WarmedH U.vm → is_Pc D z b sc (st.take na).reverse h ((st.take na).reverse.map (is_tr z b)).toArray U := by
    intro U hU hW
    refine ⟨rfl, by rw [hU]; exact rl, va_K.moved hW.alike hK, cb_nwarm hW hnw, va_AO.moved hW.alike hao, ?_, hbz⟩
    rw [hU]
    exact va_X.moved hW.alike hXH
  have hroom : (is_rm u (h'.1 - h.1) (h'.2.1 - h.2.1)).frames + 1 ≤ R.frames ∧ 8 + (is_mL u + 11) + (is_rm u (h'.1 - h.1) (h'.2.1 - h.2.1)).locals ≤ R.locals := ⟨Nat.le_trans kF hRf, Nat.le_trans kL hRl⟩
  have hrest : 2 * (F0 m (is_pc t k) ls (st.map (is_tr z b))).monitorRoom + (((st.drop na).map (is_tr z b)).map fun v => v.category).sum ≤ 8 := lv_room (by rw [is_w_sum]; exact hw8)
  have hsplit : st.map (is_tr z b) = ((st.take na).reverse.map (is_tr z b)).reverse ++ (st.drop na).map (is_tr z b) := by
    rw [← List.map_reverse, List.reverse_reverse, ← List.map_append, List.take_append_drop]
  have hS : CallFix p m c (is_cc t) (is_mL t) s args cb_gw t.1.cls := ⟨hx, hb, hml, hown, hts⟩
  have fin : va_Run p l e R s m args below meth c H locs cells slots (h'.1 - h.1) (h'.2.1 - h.2.1) (F0 m (is_pc t k) ls (st.map (is_tr z b))) ((st.drop na).map (is_tr z b)) (is_Qc D z b sc r h' ((st.take na).reverse.map (is_tr z b)).toArray) (fun q => z ≤ q) → W p l e R s m args below meth c H locs cells slots Q (F0 m (is_pc t k) ls (st.map (is_tr z b))) := by
    intro hr T hT X
    obtain ⟨v, st₀, t1, T', L, h0, X', hL, e1, e2, ⟨hv, hrl, hz, hk⟩, stp⟩ := hr T hT X
    cases hv
    rw [h0] at hz hk
    obtain ⟨t2, a1, b1⟩ := kk T'.heap (locs ++ L) (by rw [e1]; exact hrl) ⟨Nat.le_trans S.1 (by rw [e1]; exact hz), fun q h1 h2 => by rw [e1, hk q (Nat.lt_of_lt_of_le h1 S.1) h2]; exact S.2.1 q h1 h2, fun q hq => by
        rcases List.mem_append.mp hq with h | h
        · exact S.2.2 q h
        · exact hL q h⟩ T' rfl X'
    refine ⟨t2, stp t2 ?_, b1⟩
    have hfr : F0 m (is_pc t (k + 1)) ls ((r.toList ++ st.drop na).map (is_tr z b)) = { F0 m (is_pc t k) ls (st.map (is_tr z b)) with pc := (F0 m (is_pc t k) ls (st.map (is_tr z b))).pc + 3, stack := (r.map (is_tr z b)).toList ++ (st.drop na).map (is_tr z b) } := by
      rw [kP, List.map_append]
      cases r <;> rfl
    rw [← hfr]
    exact a1
  rcases kk3 with ⟨hrc, kd, ks, kn⟩ | ⟨hrc, kd, ki1, ki2, ki3, kn, kna⟩ | ⟨hrc, ⟨T0, N0, kc⟩, kd, ki, kse, kn, kna⟩
  · -- static
    refine fin ?_
    have hn : ((st.take na).reverse.map (is_tr z b)).length = na := by simp; omega
    rcases km with km | ⟨host, km⟩
    · exact va_runS (As := (st.take na).reverse.map (is_tr z b)) (rest := (st.drop na).map (is_tr z b)) hS hM ⟨callB_of na hts (is_good u hu) rfl rfl rfl (hts _ kI) (hts _ km) ⟨kD.1, kD.2, kn⟩ hroom, hts _ ks⟩ ⟨is_blind, hpre⟩ rfl hn hls hsplit hrest kd hf
    · exact va_runSN (As := (st.take na).reverse.map (is_tr z b)) (rest := (st.drop na).map (is_tr z b)) hS hM ⟨va_cnB na hts (is_good u hu) rfl rfl rfl (hnw _ km) (hts _ kI) ⟨kD.1, kD.2, kn⟩ hroom, hts _ ks, trivial⟩ ⟨is_blind, hpre⟩ rfl hn hls hsplit hrest kd hf
  · -- a constructor
    subst hrc
    cases has : (st.take na).reverse with
    | nil => rw [has] at hok; simp [ia_ok] at hok
    | cons a as =>
      rw [has] at hok hpre hM hsplit fin
      cases a with
      | ref a =>
        have hn : (as.map (is_tr z b)).length = na - 1 := by
          have := congrArg List.length has
          simp at this
          simp
          omega
        have hsp : st.map (is_tr z b) = (as.map (is_tr z b)).reverse ++ .ref (z + a) :: (st.drop na).map (is_tr z b) := by
          rw [hsplit]
          simp [is_tr]
        obtain ⟨yu, cu, mu, ru, fu, lu, pu, wu⟩ := u
        have hru : ru = none := ki2
        subst hru
        refine fin ?_
        rcases km with km | ⟨host, km⟩
        · exact va_runI (As := as.map (is_tr z b)) (rest := (st.drop na).map (is_tr z b)) hS hM ⟨callB_of (na - 1) hts (is_good _ hu) rfl rfl rfl (hts _ kI) (hts _ km) ⟨kD.1, kD.2, kn⟩ hroom, ki1, hts _ ki3⟩ ⟨is_blind, hpre⟩ rfl hn hls hsp hrest kd hf
        · exact va_runIN (As := as.map (is_tr z b)) (rest := (st.drop na).map (is_tr z b)) hS hM ⟨va_cnB (na - 1) hts (is_good _ hu) rfl rfl rfl (hnw _ km) (hts _ kI) ⟨kD.1, kD.2, kn⟩ hroom, ki1, hts _ ki3⟩ ⟨is_blind, hpre⟩ rfl hn hls hsp hrest kd hf
      | _ => simp [ia_ok] at hok
  · -- a method of an object
    have h100 : ¬ rc = 100 := by omega
    have h101 : ¬ rc = 101 := by omega
    cases has : (st.take na).reverse with
    | nil => rw [has] at hok; simp [ia_ok, h100] at hok
    | cons a as =>
      rw [has] at hok hpre hM hsplit fin
      cases a with
      | ref a =>
        have hn : (as.map (is_tr z b)).length = na - 1 := by
          have := congrArg List.length has
          simp at this
          simp
          omega
        have hsp : st.map (is_tr z b) = (as.map (is_tr z b)).reverse ++ .ref (z + a) :: (st.drop na).map (is_tr z b) := by
          rw [hsplit]
          simp [is_tr]
        have hrecv : ∃ cell : Cell, H[z + a]? = some cell ∧ cell.vm.isStatics = false ∧ s.vm.findClass u.1.cls = some cell.cls := by
          simp only [ia_ok, h100, h101, if_false] at hok
          split at hok
          · rename_i cc v fs he
            have hcc : cc = rc := by simpa using hok
            subst hcc
            have hat := is_P1 (rl.at he (is_nd2 (k := 0) rfl))
            exact va_recv hK hat (ci := cc) (q0 := 0) kc rfl
          · cases hok
        refine fin ?_
        rcases km with km | ⟨host, km⟩
        · exact va_runV (C := u.1.cls) (As := as.map (is_tr z b)) (rest := (st.drop na).map (is_tr z b)) hS hM ⟨callB_of (na - 1) hts (is_good u hu) rfl rfl rfl (hts _ kI) (hts _ km) ⟨kD.1, kD.2, kn⟩ hroom, hts _ ki, hts _ kse⟩ ⟨is_blind, hrecv, hpre⟩ rfl hn hls hsp hrest kd hf
        · exact va_runVN (C := u.1.cls) (As := as.map (is_tr z b)) (rest := (st.drop na).map (is_tr z b)) hS hM ⟨va_cnB (na - 1) hts (is_good u hu) rfl rfl rfl (hnw _ km) (hts _ kI) ⟨kD.1, kD.2, kn⟩ hroom, hts _ ki, hts _ kse⟩ ⟨is_blind, hrecv, hpre⟩ rfl hn hls hsp hrest kd hf
      | _ => simp [ia_ok, h100] at hok
end ISL
/-! the theorem -/
def is_St (MT : Nat → is_M) (NM n : Nat) : Prop :=
  ∀ (y k : Nat) (L : ia_L) (st : List Value) (h : ia_H) (r : Option Value) (hF : ia_H), ia_run (fun y k => is_row (MT y) k) (fun y => is_mL (MT y)) n y k L st h = some (r, hF) → is_Gr MT NM (MT y) → h.1 ≤ hF.1 ∧ h.2.1 ≤ hF.2.1 ∧
    ∀ (p : Program) (l : Launch) (e : Env) (R : Room) (s : State) (m : MethodId) (args : Array Value) (below : List Frame) (meth : Method) (c : Code) (D : is_D) (z b : Nat) (sc : Nat × (Nat → Int32)) (H0 : Heap) (nx0 sn0 : Nat) (Q : State → Prop),
      is_Cx (MT y) p R s m args meth c D z b sc H0 → nx0 ≤ h.1 → sn0 ≤ h.2.1 → hF.1 - nx0 ≤ R.cells → hF.2.1 - sn0 ≤ R.slots →
      (∀ (k' : Nat) (L' : ia_L) (st' : List Value) (q : Nat), is_row (MT y) k' = some (.inr (.inr q)) → ia_ret q st' = some r → is_FW (MT y) p l e R s m args below meth c D z b sc H0 nx0 sn0 Q k' L' st' hF) →
      is_FW (MT y) p l e R s m args below meth c D z b sc H0 nx0 sn0 Q k L st h
theorem is_metOf {MT : Nat → is_M} {NM n : Nat} (IH : is_St MT NM n) (l : Launch) (D : is_D) (z b : Nat) (sc : Nat × (Nat → Int32)) {y : Nat} (hg : is_Gr MT NM (MT y)) (hc : is_Gc (MT y)) {as : List Value} {h hF : ia_H} {r : Option Value} (hw : ia_w as ≤ is_mL (MT y))
    (hr : ia_run (fun y k => is_row (MT y) k) (fun y => is_mL (MT y)) n y 0 (ia_ent (is_mL (MT y)) as) [] h = some (r, hF)) : is_Mt l D z b sc (MT y) as h r hF := by
  refine Met.ofW (cc := is_cc (MT y)) (maxL := is_mL (MT y)) (ret := is_rt (MT y)) hc.1 rfl ?_
  intro p e s m args below meth c s₁ B hml hv
  obtain ⟨rfl, rl, hK, hnw, hao, hX, hbz⟩ := hv
  have hts := atoms_spec (ws := is_ws (MT y)) B.pre
  have hlocks := B.notSynchronized
  have C : is_Cx (MT y) p (headSpec (is_ws (MT y)) (is_rm (MT y) (hF.1 - h.1) (hF.2.1 - h.2.1))).room s m ((as.map (is_tr z b)).toArray) meth c D z b sc s.heap :=
    ⟨B.exec, B.bytes, hml, findClass_of_methodNamed B.named, fun w hw => hts w (List.mem_cons_of_mem _ hw), hnw, hao, hK, (name_of_methodNamed B.named B.method).1, hX, hbz, by rw [rl.1]; exact Nat.le_add_right _ _, Nat.le_refl _, Nat.le_refl _⟩
  obtain ⟨-, -, key⟩ := IH y 0 _ [] h r hF hr hg
  have hfw := key p l e _ s m _ below meth c D z b sc s.heap h.1 h.2.1 (MQ below (is_Qc D z b sc r hF) ((as.map (is_tr z b)).toArray) s (hF.1 - h.1) (hF.2.1 - h.2.1) (fun q => z ≤ q)) C (Nat.le_refl _) (Nat.le_refl _) (Nat.le_refl _) (Nat.le_refl _) ?_
  · have w := hfw s.heap [] _ rl va_S.rf (is_ent_LH z b _ as hw)
    rw [Nat.sub_self, Nat.sub_self] at w
    rw [lg_entry_eq]
    have h0 : is_pc (MT y) 0 = 0 := hc.2.2
    rw [h0] at w
    exact w
  · intro k' L' st' q hrow hret H locs ls rl' S lh
    have hR := hg k' _ hrow
    have hq : ∀ v, r.map (is_tr z b) = v → ∀ t : State, t.heap = H → s.WarmedH t.vm → is_Qc D z b sc r hF ((as.map (is_tr z b)).toArray) s (.returned v) t := by
      rintro v rfl t ht hW
      exact ⟨rfl, by rw [ht]; exact rl', S.F ht⟩
    rcases hR with ⟨rfl, kd, krt⟩ | ⟨rfl, kd, krt⟩ | ⟨rfl, kd, krt⟩ | ⟨rfl, kd, krt⟩ | ⟨rfl, kd, C0, krt⟩
    · match st', hret with
      | [], hret =>
        cases hret
        exact W.vret C.1 C.2.1 (B.returns.trans krt) (hq _ rfl) S.2.2 kd
    · match st', hret with
      | [.int x], hret =>
        cases hret
        exact W.iret C.1 C.2.1 (B.returns.trans krt) (hq _ rfl) S.2.2 kd
    · match st', hret with
      | [.int x], hret =>
        simp only [ia_ret] at hret
        split at hret
        · rename_i hx
          cases hret
          exact W.zret (ty := .boolean) C.1 C.2.1 (B.returns.trans krt) (by rcases hx with rfl | rfl <;> decide) (hq _ rfl) S.2.2 kd
        · cases hret
    · match st', hret with
      | [.long x], hret =>
        cases hret
        exact W.lret C.1 C.2.1 (B.returns.trans krt) (hq _ rfl) S.2.2 kd
    · match st', hret with
      | [.ref x], hret =>
        cases hret
        exact W.aret C.1 C.2.1 (B.returns.trans krt) (Or.inl ⟨_, rfl⟩) (Or.inr ⟨_, rfl⟩) (hq _ rfl) S.2.2 kd
theorem is_sound {MT : Nat → is_M} {NM : Nat} (hG : ∀ y, y < NM → is_Gr MT NM (MT y) ∧ is_Gc (MT y)) : ∀ n, is_St MT NM n := by
  intro n
  induction n with
  | zero => intro y k L st h r hF hr; cases hr
  | succ n IH =>
    intro y k L st h r hF hr hg
    rw [ia_run] at hr
    split at hr
    · cases hr
    · rename_i f hf
      obtain ⟨⟨k1, L1, st1, h1⟩, hr1, hr2⟩ := Option.bind_eq_some_iff.mp hr
      obtain ⟨a1, a2, a3⟩ := (hg k _ hf : is_Ok (MT y) k f) L st h k1 L1 st1 h1 hr1
      obtain ⟨b1, b2, b3⟩ := IH y k1 L1 st1 h1 r hF hr2 hg
      refine ⟨Nat.le_trans a1 b1, Nat.le_trans a2 b2, ?_⟩
      intro p l e R s m args below meth c D z b sc H0 nx0 sn0 Q C hn hs hcl hsl HR
      exact a3 p l e R s m args below meth c D z b sc H0 nx0 sn0 Q C hn hs (by omega) (by omega) (b3 p l e R s m args below meth c D z b sc H0 nx0 sn0 Q C (Nat.le_trans hn a1) (Nat.le_trans hs a2) hcl hsl HR)
    · rename_i u na rc hf
      split at hr
      · cases hr
      · rename_i hnl
        obtain ⟨⟨v, h1⟩, hr1, hr2⟩ := Option.bind_eq_some_iff.mp hr
        obtain ⟨hu, K⟩ := (hg k _ hf : u < NM ∧ is_OkC (MT y) (MT u) k na rc)
        obtain ⟨a1, a2, -⟩ := IH u 0 _ [] h v h1 hr1 (hG u hu).1
        obtain ⟨b1, b2, b3⟩ := IH y (k + 1) L _ h1 r hF hr2 hg
        refine ⟨Nat.le_trans a1 b1, Nat.le_trans a2 b2, ?_⟩
        intro p l e R s m args below meth c D z b sc H0 nx0 sn0 Q C hn hs hcl hsl HR H locs ls rl S lh
        have q1 : na ≤ st.length := by omega
        have q2 : ia_w (st.take na) ≤ is_mL (MT u) := by omega
        have q3 : ia_w (st.drop na) ≤ 8 := by omega
        have q4 : ia_ok h rc (st.take na).reverse = true := by
          cases hx : ia_ok h rc (st.take na).reverse with
          | true => rfl
          | false => exact absurd (Or.inr (Or.inr (Or.inr hx))) hnl
        have hwr : ia_w (st.take na).reverse = ia_w (st.take na) := by
          have hs : ∀ l : List Value, ia_w l = (l.map fun v => v.category).sum := by
            intro l
            induction l with
            | nil => rfl
            | cons v l ih => simp [ia_w, ih]
          rw [hs, hs, List.map_reverse, List.sum_reverse]
        have hM := is_metOf IH l D z b sc (hG u hu).1 (hG u hu).2 (by rw [hwr]; exact q2) hr1
        have hfw := b3 p l e R s m args below meth c D z b sc H0 nx0 sn0 Q C (Nat.le_trans hn a1) (Nat.le_trans hs a2) hcl hsl HR
        refine is_callW C K (hG u hu).2 rl S lh.1 q1 q3 q4 hM ⟨by omega, by omega⟩ fun H1 locs1 rl1 S1 => ?_
        have w := hfw H1 locs1 ls rl1 S1 lh
        have e1 : h.1 - nx0 + (h1.1 - h.1) = h1.1 - nx0 := by omega
        have e2 : h.2.1 - sn0 + (h1.2.1 - h.2.1) = h1.2.1 - sn0 := by omega
        rw [e1, e2]
        exact w
    · rename_i q hf
      obtain ⟨v, hr1, hr2⟩ := Option.map_eq_some_iff.mp hr
      cases hr2
      refine ⟨Nat.le_refl _, Nat.le_refl _, ?_⟩
      intro p l e R s m args below meth c D z b sc H0 nx0 sn0 Q C hn hs hcl hsl HR
      exact HR k L st q hf hr1
end
