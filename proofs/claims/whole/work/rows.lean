section
-- ===== PART A: goes FIRST, ahead of the names: the tables' words, and 'selects' of the private methods out of them =====
/-- a private method of a class that the tables say can be made, by its rows of tables_1 -/
def lw_okq (q : MethodName × Nat) : Prop := (q.1.cls ≠ "java/lang/invoke/MethodHandle" ∧ q.1.cls ≠ "java/lang/invoke/VarHandle") ∧ Cond.instantiable q.1.cls q.2 ∈ tables_1 ∧ Cond.privateMethod q.1 ∈ tables_1 ∧ Cond.instanceMethod q.1 ∈ tables_1
theorem lw_p0 : lw_okq (⟨"CardsAndBans", "readRules", "()I"⟩, 11) := ⟨⟨by decide +kernel, by decide +kernel⟩, List.mem_of_getElem? (i := 20) (by decide +kernel), List.mem_of_getElem? (i := 231) (by decide +kernel), List.mem_of_getElem? (i := 232) (by decide +kernel)⟩
theorem lw_p1 : lw_okq (⟨"CardsAndBans", "readRulesOf", "(I)V"⟩, 11) := ⟨⟨by decide +kernel, by decide +kernel⟩, List.mem_of_getElem? (i := 20) (by decide +kernel), List.mem_of_getElem? (i := 263) (by decide +kernel), List.mem_of_getElem? (i := 264) (by decide +kernel)⟩
theorem lw_p2 : lw_okq (⟨"CardsAndBans$Text", "isDigitNext", "()Z"⟩, 4) := ⟨⟨by decide +kernel, by decide +kernel⟩, List.mem_of_getElem? (i := 28) (by decide +kernel), List.mem_of_getElem? (i := 281) (by decide +kernel), List.mem_of_getElem? (i := 282) (by decide +kernel)⟩
theorem lw_p3 : lw_okq (⟨"CardsAndBans", "readStepsOf", "(I)V"⟩, 11) := ⟨⟨by decide +kernel, by decide +kernel⟩, List.mem_of_getElem? (i := 20) (by decide +kernel), List.mem_of_getElem? (i := 288) (by decide +kernel), List.mem_of_getElem? (i := 289) (by decide +kernel)⟩
theorem lw_p4 : lw_okq (⟨"CardsAndBans", "wrongSign", "()I"⟩, 11) := ⟨⟨by decide +kernel, by decide +kernel⟩, List.mem_of_getElem? (i := 20) (by decide +kernel), List.mem_of_getElem? (i := 323) (by decide +kernel), List.mem_of_getElem? (i := 324) (by decide +kernel)⟩
theorem lw_p5 : lw_okq (⟨"CardsAndBans", "readTeams", "()V"⟩, 11) := ⟨⟨by decide +kernel, by decide +kernel⟩, List.mem_of_getElem? (i := 20) (by decide +kernel), List.mem_of_getElem? (i := 338) (by decide +kernel), List.mem_of_getElem? (i := 339) (by decide +kernel)⟩
theorem lw_p6 : lw_okq (⟨"CardsAndBans", "writeRules", "()V"⟩, 11) := ⟨⟨by decide +kernel, by decide +kernel⟩, List.mem_of_getElem? (i := 20) (by decide +kernel), List.mem_of_getElem? (i := 380) (by decide +kernel), List.mem_of_getElem? (i := 381) (by decide +kernel)⟩
theorem lw_p7 : lw_okq (⟨"CardsAndBans", "isPlayer", "(I)Z"⟩, 11) := ⟨⟨by decide +kernel, by decide +kernel⟩, List.mem_of_getElem? (i := 20) (by decide +kernel), List.mem_of_getElem? (i := 405) (by decide +kernel), List.mem_of_getElem? (i := 406) (by decide +kernel)⟩
theorem lw_p8 : lw_okq (⟨"CardsAndBans", "readCards", "()V"⟩, 11) := ⟨⟨by decide +kernel, by decide +kernel⟩, List.mem_of_getElem? (i := 20) (by decide +kernel), List.mem_of_getElem? (i := 442) (by decide +kernel), List.mem_of_getElem? (i := 443) (by decide +kernel)⟩
theorem lw_p9 : lw_okq (⟨"CardsAndBans$Match", "banBy", "(II)I"⟩, 8) := ⟨⟨by decide +kernel, by decide +kernel⟩, List.mem_of_getElem? (i := 454) (by decide +kernel), List.mem_of_getElem? (i := 534) (by decide +kernel), List.mem_of_getElem? (i := 535) (by decide +kernel)⟩
theorem lw_p10 : lw_okq (⟨"CardsAndBans$Match", "finishOf", "(I)V"⟩, 8) := ⟨⟨by decide +kernel, by decide +kernel⟩, List.mem_of_getElem? (i := 454) (by decide +kernel), List.mem_of_getElem? (i := 566) (by decide +kernel), List.mem_of_getElem? (i := 567) (by decide +kernel)⟩
theorem lw_p11 : lw_okq (⟨"CardsAndBans", "readGiven", "()V"⟩, 11) := ⟨⟨by decide +kernel, by decide +kernel⟩, List.mem_of_getElem? (i := 20) (by decide +kernel), List.mem_of_getElem? (i := 610) (by decide +kernel), List.mem_of_getElem? (i := 611) (by decide +kernel)⟩
theorem lw_p12 : lw_okq (⟨"CardsAndBans", "isBan", "(I)Z"⟩, 11) := ⟨⟨by decide +kernel, by decide +kernel⟩, List.mem_of_getElem? (i := 20) (by decide +kernel), List.mem_of_getElem? (i := 622) (by decide +kernel), List.mem_of_getElem? (i := 623) (by decide +kernel)⟩
theorem lw_p13 : lw_okq (⟨"CardsAndBans", "readMatches", "()V"⟩, 11) := ⟨⟨by decide +kernel, by decide +kernel⟩, List.mem_of_getElem? (i := 20) (by decide +kernel), List.mem_of_getElem? (i := 732) (by decide +kernel), List.mem_of_getElem? (i := 733) (by decide +kernel)⟩
theorem lw_p14 : lw_okq (⟨"CardsAndBans", "isMatchOf", "(II)Z"⟩, 11) := ⟨⟨by decide +kernel, by decide +kernel⟩, List.mem_of_getElem? (i := 20) (by decide +kernel), List.mem_of_getElem? (i := 737) (by decide +kernel), List.mem_of_getElem? (i := 738) (by decide +kernel)⟩
theorem lw_p15 : lw_okq (⟨"CardsAndBans", "fairestBeside", "(I)I"⟩, 11) := ⟨⟨by decide +kernel, by decide +kernel⟩, List.mem_of_getElem? (i := 20) (by decide +kernel), List.mem_of_getElem? (i := 805) (by decide +kernel), List.mem_of_getElem? (i := 806) (by decide +kernel)⟩
def lw_privs_1 : List (MethodName × Nat) := [(⟨"CardsAndBans", "readRules", "()I"⟩, 11), (⟨"CardsAndBans", "readRulesOf", "(I)V"⟩, 11), (⟨"CardsAndBans$Text", "isDigitNext", "()Z"⟩, 4), (⟨"CardsAndBans", "readStepsOf", "(I)V"⟩, 11), (⟨"CardsAndBans", "wrongSign", "()I"⟩, 11), (⟨"CardsAndBans", "readTeams", "()V"⟩, 11), (⟨"CardsAndBans", "writeRules", "()V"⟩, 11), (⟨"CardsAndBans", "isPlayer", "(I)Z"⟩, 11), (⟨"CardsAndBans", "readCards", "()V"⟩, 11), (⟨"CardsAndBans$Match", "banBy", "(II)I"⟩, 8), (⟨"CardsAndBans$Match", "finishOf", "(I)V"⟩, 8), (⟨"CardsAndBans", "readGiven", "()V"⟩, 11), (⟨"CardsAndBans", "isBan", "(I)Z"⟩, 11), (⟨"CardsAndBans", "readMatches", "()V"⟩, 11), (⟨"CardsAndBans", "isMatchOf", "(II)Z"⟩, 11), (⟨"CardsAndBans", "fairestBeside", "(I)I"⟩, 11)]
theorem lw_r1 : ∀ q ∈ lw_privs_1, lw_okq q := List.forall_mem_cons.mpr ⟨lw_p0, List.forall_mem_cons.mpr ⟨lw_p1, List.forall_mem_cons.mpr ⟨lw_p2, List.forall_mem_cons.mpr ⟨lw_p3, List.forall_mem_cons.mpr ⟨lw_p4, List.forall_mem_cons.mpr ⟨lw_p5, List.forall_mem_cons.mpr ⟨lw_p6, List.forall_mem_cons.mpr ⟨lw_p7, List.forall_mem_cons.mpr ⟨lw_p8, List.forall_mem_cons.mpr ⟨lw_p9, List.forall_mem_cons.mpr ⟨lw_p10, List.forall_mem_cons.mpr ⟨lw_p11, List.forall_mem_cons.mpr ⟨lw_p12, List.forall_mem_cons.mpr ⟨lw_p13, List.forall_mem_cons.mpr ⟨lw_p14, List.forall_mem_cons.mpr ⟨lw_p15, fun _ h => absurd h List.not_mem_nil⟩⟩⟩⟩⟩⟩⟩⟩⟩⟩⟩⟩⟩⟩⟩⟩
theorem lw_p16 : lw_okq (⟨"java/lang/Throwable", "fillInStackTrace", "(I)Ljava/lang/Throwable;"⟩, 6) := ⟨⟨by decide +kernel, by decide +kernel⟩, List.mem_of_getElem? (i := 903) (by decide +kernel), List.mem_of_getElem? (i := 901) (by decide +kernel), List.mem_of_getElem? (i := 902) (by decide +kernel)⟩
theorem lw_p17 : lw_okq (⟨"CardsAndBansModel", "begin", "()V"⟩, 36) := ⟨⟨by decide +kernel, by decide +kernel⟩, List.mem_of_getElem? (i := 928) (by decide +kernel), List.mem_of_getElem? (i := 1064) (by decide +kernel), List.mem_of_getElem? (i := 1065) (by decide +kernel)⟩
theorem lw_p18 : lw_okq (⟨"CardsAndBansModel", "readsRule", "(I)I"⟩, 36) := ⟨⟨by decide +kernel, by decide +kernel⟩, List.mem_of_getElem? (i := 928) (by decide +kernel), List.mem_of_getElem? (i := 1068) (by decide +kernel), List.mem_of_getElem? (i := 1069) (by decide +kernel)⟩
theorem lw_p19 : lw_okq (⟨"CardsAndBansModel", "digit", "(II)I"⟩, 36) := ⟨⟨by decide +kernel, by decide +kernel⟩, List.mem_of_getElem? (i := 928) (by decide +kernel), List.mem_of_getElem? (i := 1072) (by decide +kernel), List.mem_of_getElem? (i := 1073) (by decide +kernel)⟩
theorem lw_p20 : lw_okq (⟨"CardsAndBansModel", "sees", "()I"⟩, 36) := ⟨⟨by decide +kernel, by decide +kernel⟩, List.mem_of_getElem? (i := 928) (by decide +kernel), List.mem_of_getElem? (i := 1076) (by decide +kernel), List.mem_of_getElem? (i := 1077) (by decide +kernel)⟩
theorem lw_p21 : lw_okq (⟨"CardsAndBansModel", "fault", "(I)V"⟩, 36) := ⟨⟨by decide +kernel, by decide +kernel⟩, List.mem_of_getElem? (i := 928) (by decide +kernel), List.mem_of_getElem? (i := 1080) (by decide +kernel), List.mem_of_getElem? (i := 1081) (by decide +kernel)⟩
theorem lw_p22 : lw_okq (⟨"CardsAndBansModel", "expect", "(C)V"⟩, 36) := ⟨⟨by decide +kernel, by decide +kernel⟩, List.mem_of_getElem? (i := 928) (by decide +kernel), List.mem_of_getElem? (i := 1084) (by decide +kernel), List.mem_of_getElem? (i := 1085) (by decide +kernel)⟩
theorem lw_p23 : lw_okq (⟨"CardsAndBansModel", "number", "(II)I"⟩, 36) := ⟨⟨by decide +kernel, by decide +kernel⟩, List.mem_of_getElem? (i := 928) (by decide +kernel), List.mem_of_getElem? (i := 1088) (by decide +kernel), List.mem_of_getElem? (i := 1089) (by decide +kernel)⟩
theorem lw_p24 : lw_okq (⟨"CardsAndBansModel", "readsSteps", "(I)V"⟩, 36) := ⟨⟨by decide +kernel, by decide +kernel⟩, List.mem_of_getElem? (i := 928) (by decide +kernel), List.mem_of_getElem? (i := 1094) (by decide +kernel), List.mem_of_getElem? (i := 1095) (by decide +kernel)⟩
theorem lw_p25 : lw_okq (⟨"CardsAndBansModel", "endsText", "()V"⟩, 36) := ⟨⟨by decide +kernel, by decide +kernel⟩, List.mem_of_getElem? (i := 928) (by decide +kernel), List.mem_of_getElem? (i := 1098) (by decide +kernel), List.mem_of_getElem? (i := 1099) (by decide +kernel)⟩
theorem lw_p26 : lw_okq (⟨"CardsAndBansModel", "isPlayer", "(I)Z"⟩, 36) := ⟨⟨by decide +kernel, by decide +kernel⟩, List.mem_of_getElem? (i := 928) (by decide +kernel), List.mem_of_getElem? (i := 1122) (by decide +kernel), List.mem_of_getElem? (i := 1123) (by decide +kernel)⟩
theorem lw_p27 : lw_okq (⟨"CardsAndBansModel", "banOf", "(II)I"⟩, 36) := ⟨⟨by decide +kernel, by decide +kernel⟩, List.mem_of_getElem? (i := 928) (by decide +kernel), List.mem_of_getElem? (i := 1126) (by decide +kernel), List.mem_of_getElem? (i := 1127) (by decide +kernel)⟩
theorem lw_p28 : lw_okq (⟨"CardsAndBansModel", "isOpen", "(I)Z"⟩, 36) := ⟨⟨by decide +kernel, by decide +kernel⟩, List.mem_of_getElem? (i := 928) (by decide +kernel), List.mem_of_getElem? (i := 1130) (by decide +kernel), List.mem_of_getElem? (i := 1131) (by decide +kernel)⟩
theorem lw_p29 : lw_okq (⟨"CardsAndBansModel", "tell", "(J)V"⟩, 36) := ⟨⟨by decide +kernel, by decide +kernel⟩, List.mem_of_getElem? (i := 928) (by decide +kernel), List.mem_of_getElem? (i := 1134) (by decide +kernel), List.mem_of_getElem? (i := 1135) (by decide +kernel)⟩
theorem lw_p30 : lw_okq (⟨"CardsAndBansModel", "readsCards", "()V"⟩, 36) := ⟨⟨by decide +kernel, by decide +kernel⟩, List.mem_of_getElem? (i := 928) (by decide +kernel), List.mem_of_getElem? (i := 1149) (by decide +kernel), List.mem_of_getElem? (i := 1150) (by decide +kernel)⟩
theorem lw_p31 : lw_okq (⟨"CardsAndBansModel", "lays", "()V"⟩, 36) := ⟨⟨by decide +kernel, by decide +kernel⟩, List.mem_of_getElem? (i := 928) (by decide +kernel), List.mem_of_getElem? (i := 1153) (by decide +kernel), List.mem_of_getElem? (i := 1154) (by decide +kernel)⟩
def lw_privs_2 : List (MethodName × Nat) := [(⟨"java/lang/Throwable", "fillInStackTrace", "(I)Ljava/lang/Throwable;"⟩, 6), (⟨"CardsAndBansModel", "begin", "()V"⟩, 36), (⟨"CardsAndBansModel", "readsRule", "(I)I"⟩, 36), (⟨"CardsAndBansModel", "digit", "(II)I"⟩, 36), (⟨"CardsAndBansModel", "sees", "()I"⟩, 36), (⟨"CardsAndBansModel", "fault", "(I)V"⟩, 36), (⟨"CardsAndBansModel", "expect", "(C)V"⟩, 36), (⟨"CardsAndBansModel", "number", "(II)I"⟩, 36), (⟨"CardsAndBansModel", "readsSteps", "(I)V"⟩, 36), (⟨"CardsAndBansModel", "endsText", "()V"⟩, 36), (⟨"CardsAndBansModel", "isPlayer", "(I)Z"⟩, 36), (⟨"CardsAndBansModel", "banOf", "(II)I"⟩, 36), (⟨"CardsAndBansModel", "isOpen", "(I)Z"⟩, 36), (⟨"CardsAndBansModel", "tell", "(J)V"⟩, 36), (⟨"CardsAndBansModel", "readsCards", "()V"⟩, 36), (⟨"CardsAndBansModel", "lays", "()V"⟩, 36)]
theorem lw_r2 : ∀ q ∈ lw_privs_2, lw_okq q := List.forall_mem_cons.mpr ⟨lw_p16, List.forall_mem_cons.mpr ⟨lw_p17, List.forall_mem_cons.mpr ⟨lw_p18, List.forall_mem_cons.mpr ⟨lw_p19, List.forall_mem_cons.mpr ⟨lw_p20, List.forall_mem_cons.mpr ⟨lw_p21, List.forall_mem_cons.mpr ⟨lw_p22, List.forall_mem_cons.mpr ⟨lw_p23, List.forall_mem_cons.mpr ⟨lw_p24, List.forall_mem_cons.mpr ⟨lw_p25, List.forall_mem_cons.mpr ⟨lw_p26, List.forall_mem_cons.mpr ⟨lw_p27, List.forall_mem_cons.mpr ⟨lw_p28, List.forall_mem_cons.mpr ⟨lw_p29, List.forall_mem_cons.mpr ⟨lw_p30, List.forall_mem_cons.mpr ⟨lw_p31, fun _ h => absurd h List.not_mem_nil⟩⟩⟩⟩⟩⟩⟩⟩⟩⟩⟩⟩⟩⟩⟩⟩
theorem lw_p32 : lw_okq (⟨"CardsAndBansModel", "serves", "(III)V"⟩, 36) := ⟨⟨by decide +kernel, by decide +kernel⟩, List.mem_of_getElem? (i := 928) (by decide +kernel), List.mem_of_getElem? (i := 1157) (by decide +kernel), List.mem_of_getElem? (i := 1158) (by decide +kernel)⟩
theorem lw_p33 : lw_okq (⟨"CardsAndBansModel", "barring", "(II)I"⟩, 36) := ⟨⟨by decide +kernel, by decide +kernel⟩, List.mem_of_getElem? (i := 928) (by decide +kernel), List.mem_of_getElem? (i := 1161) (by decide +kernel), List.mem_of_getElem? (i := 1162) (by decide +kernel)⟩
theorem lw_p34 : lw_okq (⟨"CardsAndBansModel", "bars", "(II)Z"⟩, 36) := ⟨⟨by decide +kernel, by decide +kernel⟩, List.mem_of_getElem? (i := 928) (by decide +kernel), List.mem_of_getElem? (i := 1165) (by decide +kernel), List.mem_of_getElem? (i := 1166) (by decide +kernel)⟩
theorem lw_p35 : lw_okq (⟨"CardsAndBansModel", "isOf", "(II)Z"⟩, 36) := ⟨⟨by decide +kernel, by decide +kernel⟩, List.mem_of_getElem? (i := 928) (by decide +kernel), List.mem_of_getElem? (i := 1169) (by decide +kernel), List.mem_of_getElem? (i := 1170) (by decide +kernel)⟩
theorem lw_p36 : lw_okq (⟨"CardsAndBansModel", "isIn", "(III)Z"⟩, 36) := ⟨⟨by decide +kernel, by decide +kernel⟩, List.mem_of_getElem? (i := 928) (by decide +kernel), List.mem_of_getElem? (i := 1173) (by decide +kernel), List.mem_of_getElem? (i := 1174) (by decide +kernel)⟩
theorem lw_p37 : lw_okq (⟨"CardsAndBansModel", "sets", "(III)V"⟩, 36) := ⟨⟨by decide +kernel, by decide +kernel⟩, List.mem_of_getElem? (i := 928) (by decide +kernel), List.mem_of_getElem? (i := 1177) (by decide +kernel), List.mem_of_getElem? (i := 1178) (by decide +kernel)⟩
theorem lw_p38 : lw_okq (⟨"CardsAndBansModel", "writes", "(II)V"⟩, 36) := ⟨⟨by decide +kernel, by decide +kernel⟩, List.mem_of_getElem? (i := 928) (by decide +kernel), List.mem_of_getElem? (i := 1181) (by decide +kernel), List.mem_of_getElem? (i := 1182) (by decide +kernel)⟩
theorem lw_p39 : lw_okq (⟨"CardsAndBansModel", "shows", "(IIII)I"⟩, 36) := ⟨⟨by decide +kernel, by decide +kernel⟩, List.mem_of_getElem? (i := 928) (by decide +kernel), List.mem_of_getElem? (i := 1185) (by decide +kernel), List.mem_of_getElem? (i := 1186) (by decide +kernel)⟩
theorem lw_p40 : lw_okq (⟨"CardsAndBansModel", "sends", "(I)V"⟩, 36) := ⟨⟨by decide +kernel, by decide +kernel⟩, List.mem_of_getElem? (i := 928) (by decide +kernel), List.mem_of_getElem? (i := 1189) (by decide +kernel), List.mem_of_getElem? (i := 1190) (by decide +kernel)⟩
theorem lw_p41 : lw_okq (⟨"CardsAndBansModel", "stepFor", "(II)I"⟩, 36) := ⟨⟨by decide +kernel, by decide +kernel⟩, List.mem_of_getElem? (i := 928) (by decide +kernel), List.mem_of_getElem? (i := 1193) (by decide +kernel), List.mem_of_getElem? (i := 1194) (by decide +kernel)⟩
theorem lw_p42 : lw_okq (⟨"CardsAndBansModel", "comes", "(III)Z"⟩, 36) := ⟨⟨by decide +kernel, by decide +kernel⟩, List.mem_of_getElem? (i := 928) (by decide +kernel), List.mem_of_getElem? (i := 1197) (by decide +kernel), List.mem_of_getElem? (i := 1198) (by decide +kernel)⟩
theorem lw_p43 : lw_okq (⟨"CardsAndBansModel", "puts", "()V"⟩, 36) := ⟨⟨by decide +kernel, by decide +kernel⟩, List.mem_of_getElem? (i := 928) (by decide +kernel), List.mem_of_getElem? (i := 1201) (by decide +kernel), List.mem_of_getElem? (i := 1202) (by decide +kernel)⟩
theorem lw_p44 : lw_okq (⟨"CardsAndBansModel", "hasPlayed", "(II)V"⟩, 36) := ⟨⟨by decide +kernel, by decide +kernel⟩, List.mem_of_getElem? (i := 928) (by decide +kernel), List.mem_of_getElem? (i := 1205) (by decide +kernel), List.mem_of_getElem? (i := 1206) (by decide +kernel)⟩
theorem lw_p45 : lw_okq (⟨"CardsAndBansModel", "did", "()V"⟩, 36) := ⟨⟨by decide +kernel, by decide +kernel⟩, List.mem_of_getElem? (i := 928) (by decide +kernel), List.mem_of_getElem? (i := 1209) (by decide +kernel), List.mem_of_getElem? (i := 1210) (by decide +kernel)⟩
theorem lw_p46 : lw_okq (⟨"CardsAndBansModel", "does", "()V"⟩, 36) := ⟨⟨by decide +kernel, by decide +kernel⟩, List.mem_of_getElem? (i := 928) (by decide +kernel), List.mem_of_getElem? (i := 1217) (by decide +kernel), List.mem_of_getElem? (i := 1218) (by decide +kernel)⟩
theorem lw_p47 : lw_okq (⟨"CardsAndBansModel", "pendingMany", "()I"⟩, 36) := ⟨⟨by decide +kernel, by decide +kernel⟩, List.mem_of_getElem? (i := 928) (by decide +kernel), List.mem_of_getElem? (i := 1238) (by decide +kernel), List.mem_of_getElem? (i := 1239) (by decide +kernel)⟩
def lw_privs_3 : List (MethodName × Nat) := [(⟨"CardsAndBansModel", "serves", "(III)V"⟩, 36), (⟨"CardsAndBansModel", "barring", "(II)I"⟩, 36), (⟨"CardsAndBansModel", "bars", "(II)Z"⟩, 36), (⟨"CardsAndBansModel", "isOf", "(II)Z"⟩, 36), (⟨"CardsAndBansModel", "isIn", "(III)Z"⟩, 36), (⟨"CardsAndBansModel", "sets", "(III)V"⟩, 36), (⟨"CardsAndBansModel", "writes", "(II)V"⟩, 36), (⟨"CardsAndBansModel", "shows", "(IIII)I"⟩, 36), (⟨"CardsAndBansModel", "sends", "(I)V"⟩, 36), (⟨"CardsAndBansModel", "stepFor", "(II)I"⟩, 36), (⟨"CardsAndBansModel", "comes", "(III)Z"⟩, 36), (⟨"CardsAndBansModel", "puts", "()V"⟩, 36), (⟨"CardsAndBansModel", "hasPlayed", "(II)V"⟩, 36), (⟨"CardsAndBansModel", "did", "()V"⟩, 36), (⟨"CardsAndBansModel", "does", "()V"⟩, 36), (⟨"CardsAndBansModel", "pendingMany", "()I"⟩, 36)]
theorem lw_r3 : ∀ q ∈ lw_privs_3, lw_okq q := List.forall_mem_cons.mpr ⟨lw_p32, List.forall_mem_cons.mpr ⟨lw_p33, List.forall_mem_cons.mpr ⟨lw_p34, List.forall_mem_cons.mpr ⟨lw_p35, List.forall_mem_cons.mpr ⟨lw_p36, List.forall_mem_cons.mpr ⟨lw_p37, List.forall_mem_cons.mpr ⟨lw_p38, List.forall_mem_cons.mpr ⟨lw_p39, List.forall_mem_cons.mpr ⟨lw_p40, List.forall_mem_cons.mpr ⟨lw_p41, List.forall_mem_cons.mpr ⟨lw_p42, List.forall_mem_cons.mpr ⟨lw_p43, List.forall_mem_cons.mpr ⟨lw_p44, List.forall_mem_cons.mpr ⟨lw_p45, List.forall_mem_cons.mpr ⟨lw_p46, List.forall_mem_cons.mpr ⟨lw_p47, fun _ h => absurd h List.not_mem_nil⟩⟩⟩⟩⟩⟩⟩⟩⟩⟩⟩⟩⟩⟩⟩⟩
theorem lw_p48 : lw_okq (⟨"CardsAndBansModel", "isBan", "(I)Z"⟩, 36) := ⟨⟨by decide +kernel, by decide +kernel⟩, List.mem_of_getElem? (i := 928) (by decide +kernel), List.mem_of_getElem? (i := 1246) (by decide +kernel), List.mem_of_getElem? (i := 1247) (by decide +kernel)⟩
theorem lw_p49 : lw_okq (⟨"CardsAndBansModel", "allCautions", "()I"⟩, 36) := ⟨⟨by decide +kernel, by decide +kernel⟩, List.mem_of_getElem? (i := 928) (by decide +kernel), List.mem_of_getElem? (i := 1262) (by decide +kernel), List.mem_of_getElem? (i := 1263) (by decide +kernel)⟩
theorem lw_p50 : lw_okq (⟨"CardsAndBansModel", "outOf", "(II)I"⟩, 36) := ⟨⟨by decide +kernel, by decide +kernel⟩, List.mem_of_getElem? (i := 928) (by decide +kernel), List.mem_of_getElem? (i := 1274) (by decide +kernel), List.mem_of_getElem? (i := 1275) (by decide +kernel)⟩
theorem lw_p51 : lw_okq (⟨"CardsAndBansModel", "isOut", "(II)Z"⟩, 36) := ⟨⟨by decide +kernel, by decide +kernel⟩, List.mem_of_getElem? (i := 928) (by decide +kernel), List.mem_of_getElem? (i := 1278) (by decide +kernel), List.mem_of_getElem? (i := 1279) (by decide +kernel)⟩
theorem lw_p52 : lw_okq (⟨"CardsAndBansModel", "missed", "(IIZ)I"⟩, 36) := ⟨⟨by decide +kernel, by decide +kernel⟩, List.mem_of_getElem? (i := 928) (by decide +kernel), List.mem_of_getElem? (i := 1282) (by decide +kernel), List.mem_of_getElem? (i := 1283) (by decide +kernel)⟩
theorem lw_p53 : lw_okq (⟨"CardsAndBansModel", "leftOf", "(I)I"⟩, 36) := ⟨⟨by decide +kernel, by decide +kernel⟩, List.mem_of_getElem? (i := 928) (by decide +kernel), List.mem_of_getElem? (i := 1294) (by decide +kernel), List.mem_of_getElem? (i := 1295) (by decide +kernel)⟩
theorem lw_p54 : lw_okq (⟨"CardsAndBansModel", "writesSign", "(I)V"⟩, 36) := ⟨⟨by decide +kernel, by decide +kernel⟩, List.mem_of_getElem? (i := 928) (by decide +kernel), List.mem_of_getElem? (i := 1319) (by decide +kernel), List.mem_of_getElem? (i := 1320) (by decide +kernel)⟩
theorem lw_p55 : lw_okq (⟨"CardsAndBansModel", "writesRule", "(I)V"⟩, 36) := ⟨⟨by decide +kernel, by decide +kernel⟩, List.mem_of_getElem? (i := 928) (by decide +kernel), List.mem_of_getElem? (i := 1323) (by decide +kernel), List.mem_of_getElem? (i := 1324) (by decide +kernel)⟩
theorem lw_p56 : lw_okq (⟨"CardsAndBansModel", "writesNumber", "(I)V"⟩, 36) := ⟨⟨by decide +kernel, by decide +kernel⟩, List.mem_of_getElem? (i := 928) (by decide +kernel), List.mem_of_getElem? (i := 1327) (by decide +kernel), List.mem_of_getElem? (i := 1328) (by decide +kernel)⟩
theorem lw_p57 : lw_okq (⟨"CardsAndBansModel", "readsList", "()V"⟩, 36) := ⟨⟨by decide +kernel, by decide +kernel⟩, List.mem_of_getElem? (i := 928) (by decide +kernel), List.mem_of_getElem? (i := 1348) (by decide +kernel), List.mem_of_getElem? (i := 1349) (by decide +kernel)⟩
theorem lw_p58 : lw_okq (⟨"CardsAndBansModel", "isTold", "(II)Z"⟩, 36) := ⟨⟨by decide +kernel, by decide +kernel⟩, List.mem_of_getElem? (i := 928) (by decide +kernel), List.mem_of_getElem? (i := 1352) (by decide +kernel), List.mem_of_getElem? (i := 1353) (by decide +kernel)⟩
theorem lw_p59 : lw_okq (⟨"CardsAndBansModel", "comesTo", "(I)V"⟩, 36) := ⟨⟨by decide +kernel, by decide +kernel⟩, List.mem_of_getElem? (i := 928) (by decide +kernel), List.mem_of_getElem? (i := 1356) (by decide +kernel), List.mem_of_getElem? (i := 1357) (by decide +kernel)⟩
theorem lw_p60 : lw_okq (⟨"CardsAndBansModel", "goesBy", "(III)V"⟩, 36) := ⟨⟨by decide +kernel, by decide +kernel⟩, List.mem_of_getElem? (i := 928) (by decide +kernel), List.mem_of_getElem? (i := 1360) (by decide +kernel), List.mem_of_getElem? (i := 1361) (by decide +kernel)⟩
theorem lw_p61 : lw_okq (⟨"CardsAndBansModel", "outOfSome", "()I"⟩, 36) := ⟨⟨by decide +kernel, by decide +kernel⟩, List.mem_of_getElem? (i := 928) (by decide +kernel), List.mem_of_getElem? (i := 1372) (by decide +kernel), List.mem_of_getElem? (i := 1373) (by decide +kernel)⟩
theorem lw_p62 : lw_okq (⟨"CardsAndBansModel", "openMany", "()I"⟩, 36) := ⟨⟨by decide +kernel, by decide +kernel⟩, List.mem_of_getElem? (i := 928) (by decide +kernel), List.mem_of_getElem? (i := 1376) (by decide +kernel), List.mem_of_getElem? (i := 1377) (by decide +kernel)⟩
theorem lw_p63 : lw_okq (⟨"CardsAndBansModel", "pointsOf", "(I)I"⟩, 36) := ⟨⟨by decide +kernel, by decide +kernel⟩, List.mem_of_getElem? (i := 928) (by decide +kernel), List.mem_of_getElem? (i := 1413) (by decide +kernel), List.mem_of_getElem? (i := 1414) (by decide +kernel)⟩
def lw_privs_4 : List (MethodName × Nat) := [(⟨"CardsAndBansModel", "isBan", "(I)Z"⟩, 36), (⟨"CardsAndBansModel", "allCautions", "()I"⟩, 36), (⟨"CardsAndBansModel", "outOf", "(II)I"⟩, 36), (⟨"CardsAndBansModel", "isOut", "(II)Z"⟩, 36), (⟨"CardsAndBansModel", "missed", "(IIZ)I"⟩, 36), (⟨"CardsAndBansModel", "leftOf", "(I)I"⟩, 36), (⟨"CardsAndBansModel", "writesSign", "(I)V"⟩, 36), (⟨"CardsAndBansModel", "writesRule", "(I)V"⟩, 36), (⟨"CardsAndBansModel", "writesNumber", "(I)V"⟩, 36), (⟨"CardsAndBansModel", "readsList", "()V"⟩, 36), (⟨"CardsAndBansModel", "isTold", "(II)Z"⟩, 36), (⟨"CardsAndBansModel", "comesTo", "(I)V"⟩, 36), (⟨"CardsAndBansModel", "goesBy", "(III)V"⟩, 36), (⟨"CardsAndBansModel", "outOfSome", "()I"⟩, 36), (⟨"CardsAndBansModel", "openMany", "()I"⟩, 36), (⟨"CardsAndBansModel", "pointsOf", "(I)I"⟩, 36)]
theorem lw_r4 : ∀ q ∈ lw_privs_4, lw_okq q := List.forall_mem_cons.mpr ⟨lw_p48, List.forall_mem_cons.mpr ⟨lw_p49, List.forall_mem_cons.mpr ⟨lw_p50, List.forall_mem_cons.mpr ⟨lw_p51, List.forall_mem_cons.mpr ⟨lw_p52, List.forall_mem_cons.mpr ⟨lw_p53, List.forall_mem_cons.mpr ⟨lw_p54, List.forall_mem_cons.mpr ⟨lw_p55, List.forall_mem_cons.mpr ⟨lw_p56, List.forall_mem_cons.mpr ⟨lw_p57, List.forall_mem_cons.mpr ⟨lw_p58, List.forall_mem_cons.mpr ⟨lw_p59, List.forall_mem_cons.mpr ⟨lw_p60, List.forall_mem_cons.mpr ⟨lw_p61, List.forall_mem_cons.mpr ⟨lw_p62, List.forall_mem_cons.mpr ⟨lw_p63, fun _ h => absurd h List.not_mem_nil⟩⟩⟩⟩⟩⟩⟩⟩⟩⟩⟩⟩⟩⟩⟩⟩
theorem lw_p64 : lw_okq (⟨"CardsAndBansModel", "entries", "()I"⟩, 36) := ⟨⟨by decide +kernel, by decide +kernel⟩, List.mem_of_getElem? (i := 928) (by decide +kernel), List.mem_of_getElem? (i := 1437) (by decide +kernel), List.mem_of_getElem? (i := 1438) (by decide +kernel)⟩
theorem lw_p65 : lw_okq (⟨"CardsAndBansModel", "pageAt", "(I)I"⟩, 36) := ⟨⟨by decide +kernel, by decide +kernel⟩, List.mem_of_getElem? (i := 928) (by decide +kernel), List.mem_of_getElem? (i := 1443) (by decide +kernel), List.mem_of_getElem? (i := 1444) (by decide +kernel)⟩
theorem lw_p66 : lw_okq (⟨"CardsAndBansModel", "lost", "()I"⟩, 36) := ⟨⟨by decide +kernel, by decide +kernel⟩, List.mem_of_getElem? (i := 928) (by decide +kernel), List.mem_of_getElem? (i := 1463) (by decide +kernel), List.mem_of_getElem? (i := 1464) (by decide +kernel)⟩
def lw_privs_5 : List (MethodName × Nat) := [(⟨"CardsAndBansModel", "entries", "()I"⟩, 36), (⟨"CardsAndBansModel", "pageAt", "(I)I"⟩, 36), (⟨"CardsAndBansModel", "lost", "()I"⟩, 36)]
theorem lw_r5 : ∀ q ∈ lw_privs_5, lw_okq q := List.forall_mem_cons.mpr ⟨lw_p64, List.forall_mem_cons.mpr ⟨lw_p65, List.forall_mem_cons.mpr ⟨lw_p66, fun _ h => absurd h List.not_mem_nil⟩⟩⟩
def lw_privs : List (MethodName × Nat) := lw_privs_1 ++ (lw_privs_2 ++ (lw_privs_3 ++ (lw_privs_4 ++ (lw_privs_5))))
def lw_tbl : List Cond := k2_sels lw_privs ++ tables_1
theorem lw_privs_ok : ∀ q ∈ lw_privs, lw_okq q := by
  show ∀ q ∈ lw_privs_1 ++ (lw_privs_2 ++ (lw_privs_3 ++ (lw_privs_4 ++ (lw_privs_5)))), lw_okq q
  exact List.forall_mem_append.mpr ⟨lw_r1, List.forall_mem_append.mpr ⟨lw_r2, List.forall_mem_append.mpr ⟨lw_r3, List.forall_mem_append.mpr ⟨lw_r4, lw_r5⟩⟩⟩⟩

/-! names: the classes of the abstract heap, their fields in the order of the tables, the words that stay good -/
def cb_T0 : u_T := fun k => match k with
  | 0 => ("CardsAndBans", "text", "LCardsAndBans$Text;", true)
  | 1 => ("CardsAndBans", "page", "LCardsAndBans$Text;", true)
  | 2 => ("CardsAndBans", "items", "LCardsAndBans$Items;", true)
  | 3 => ("CardsAndBans", "row", "LCardsAndBans$Row;", true)
  | 4 => ("CardsAndBans", "rules", "LCardsAndBans$Rules;", true)
  | 5 => ("CardsAndBans", "draft", "LCardsAndBans$Rules;", true)
  | 6 => ("CardsAndBans", "now", "LCardsAndBans$State;", true)
  | 7 => ("CardsAndBans", "thought", "LCardsAndBans$State;", true)
  | 8 => ("CardsAndBans", "kept", "LCardsAndBans$State;", true)
  | 9 => ("CardsAndBans", "history", "LCardsAndBans$History;", true)
  | _ => ("CardsAndBans", "isKept", "Z", false)
def cb_y0 : Nat → FieldType := fun k => match k with
  | 0 => .object "CardsAndBans$Text"
  | 1 => .object "CardsAndBans$Text"
  | 2 => .object "CardsAndBans$Items"
  | 3 => .object "CardsAndBans$Row"
  | 4 => .object "CardsAndBans$Rules"
  | 5 => .object "CardsAndBans$Rules"
  | 6 => .object "CardsAndBans$State"
  | 7 => .object "CardsAndBans$State"
  | 8 => .object "CardsAndBans$State"
  | 9 => .object "CardsAndBans$History"
  | _ => .boolean
theorem cb_n0 : ∀ a, a < 11 → ∀ b, b < 11 → a ≠ b → (cb_T0 a).2.1 ≠ (cb_T0 b).2.1 := by decide +kernel
theorem cb_p0 : ∀ k, k < 11 → parseFieldDescriptor (cb_T0 k).2.2.1 = some (cb_y0 k) := by decide +kernel
def cb_T1 : u_T := fun k => match k with
  | 0 => ("CardsAndBans$Text", "signs", "[C", true)
  | 1 => ("CardsAndBans$Text", "length", "I", false)
  | 2 => ("CardsAndBans$Text", "at", "I", false)
  | _ => ("CardsAndBans$Text", "fault", "I", false)
def cb_y1 : Nat → FieldType := fun k => match k with
  | 0 => .array (.char)
  | 1 => .int
  | 2 => .int
  | _ => .int
theorem cb_n1 : ∀ a, a < 4 → ∀ b, b < 4 → a ≠ b → (cb_T1 a).2.1 ≠ (cb_T1 b).2.1 := by decide +kernel
theorem cb_p1 : ∀ k, k < 4 → parseFieldDescriptor (cb_T1 k).2.2.1 = some (cb_y1 k) := by decide +kernel
def cb_T2 : u_T := fun k => match k with
  | 0 => ("CardsAndBans$Items", "numbers", "[I", true)
  | _ => ("CardsAndBans$Items", "size", "I", false)
def cb_y2 : Nat → FieldType := fun k => match k with
  | 0 => .array (.int)
  | _ => .int
theorem cb_n2 : ∀ a, a < 2 → ∀ b, b < 2 → a ≠ b → (cb_T2 a).2.1 ≠ (cb_T2 b).2.1 := by decide +kernel
theorem cb_p2 : ∀ k, k < 2 → parseFieldDescriptor (cb_T2 k).2.2.1 = some (cb_y2 k) := by decide +kernel
def cb_T3 : u_T := fun k => match k with
  | 0 => ("CardsAndBans$Row", "numbers", "[I", true)
  | _ => ("CardsAndBans$Row", "size", "I", false)
def cb_y3 : Nat → FieldType := fun k => match k with
  | 0 => .array (.int)
  | _ => .int
theorem cb_n3 : ∀ a, a < 2 → ∀ b, b < 2 → a ≠ b → (cb_T3 a).2.1 ≠ (cb_T3 b).2.1 := by decide +kernel
theorem cb_p3 : ∀ k, k < 2 → parseFieldDescriptor (cb_T3 k).2.2.1 = some (cb_y3 k) := by decide +kernel
def cb_T4 : u_T := fun k => match k with
  | _ => ("CardsAndBans$Rules", "numbers", "[I", true)
def cb_y4 : Nat → FieldType := fun k => match k with
  | _ => .array (.int)
theorem cb_n4 : ∀ a, a < 1 → ∀ b, b < 1 → a ≠ b → (cb_T4 a).2.1 ≠ (cb_T4 b).2.1 := by decide +kernel
theorem cb_p4 : ∀ k, k < 1 → parseFieldDescriptor (cb_T4 k).2.2.1 = some (cb_y4 k) := by decide +kernel
def cb_T5 : u_T := fun k => match k with
  | 0 => ("CardsAndBans$State", "players", "I", false)
  | 1 => ("CardsAndBans$State", "matches", "I", false)
  | 2 => ("CardsAndBans$State", "banCount", "I", false)
  | 3 => ("CardsAndBans$State", "entriesEver", "I", false)
  | 4 => ("CardsAndBans$State", "teams", "[I", true)
  | 5 => ("CardsAndBans$State", "cautionCounts", "[I", true)
  | 6 => ("CardsAndBans$State", "playedCounts", "[I", true)
  | 7 => ("CardsAndBans$State", "playerCards", "[I", true)
  | 8 => ("CardsAndBans$State", "teamCards", "[I", true)
  | 9 => ("CardsAndBans$State", "banNumbers", "[I", true)
  | _ => ("CardsAndBans$State", "entries", "[I", true)
def cb_y5 : Nat → FieldType := fun k => match k with
  | 0 => .int
  | 1 => .int
  | 2 => .int
  | 3 => .int
  | 4 => .array (.int)
  | 5 => .array (.int)
  | 6 => .array (.int)
  | 7 => .array (.int)
  | 8 => .array (.int)
  | 9 => .array (.int)
  | _ => .array (.int)
theorem cb_n5 : ∀ a, a < 11 → ∀ b, b < 11 → a ≠ b → (cb_T5 a).2.1 ≠ (cb_T5 b).2.1 := by decide +kernel
theorem cb_p5 : ∀ k, k < 11 → parseFieldDescriptor (cb_T5 k).2.2.1 = some (cb_y5 k) := by decide +kernel
def cb_T6 : u_T := fun k => match k with
  | 0 => ("CardsAndBans$History", "states", "[LCardsAndBans$State;", true)
  | 1 => ("CardsAndBans$History", "next", "I", false)
  | _ => ("CardsAndBans$History", "size", "I", false)
def cb_y6 : Nat → FieldType := fun k => match k with
  | 0 => .array (.object "CardsAndBans$State")
  | 1 => .int
  | _ => .int
theorem cb_n6 : ∀ a, a < 3 → ∀ b, b < 3 → a ≠ b → (cb_T6 a).2.1 ≠ (cb_T6 b).2.1 := by decide +kernel
theorem cb_p6 : ∀ k, k < 3 → parseFieldDescriptor (cb_T6 k).2.2.1 = some (cb_y6 k) := by decide +kernel
def cb_T7 : u_T := fun k => match k with
  | 0 => ("CardsAndBans$Match", "state", "LCardsAndBans$State;", true)
  | 1 => ("CardsAndBans$Match", "rules", "LCardsAndBans$Rules;", true)
  | 2 => ("CardsAndBans$Match", "cup", "I", true)
  | 3 => ("CardsAndBans$Match", "a", "I", true)
  | 4 => ("CardsAndBans$Match", "b", "I", true)
  | 5 => ("CardsAndBans$Match", "outs", "I", false)
  | 6 => ("CardsAndBans$Match", "cautioned", "I", false)
  | _ => ("CardsAndBans$Match", "sentOff", "I", false)
def cb_y7 : Nat → FieldType := fun k => match k with
  | 0 => .object "CardsAndBans$State"
  | 1 => .object "CardsAndBans$Rules"
  | 2 => .int
  | 3 => .int
  | 4 => .int
  | 5 => .int
  | 6 => .int
  | _ => .int
theorem cb_n7 : ∀ a, a < 8 → ∀ b, b < 8 → a ≠ b → (cb_T7 a).2.1 ≠ (cb_T7 b).2.1 := by decide +kernel
theorem cb_p7 : ∀ k, k < 8 → parseFieldDescriptor (cb_T7 k).2.2.1 = some (cb_y7 k) := by decide +kernel
def cb_T8 : u_T := fun k => match k with
  | 0 => ("CardsAndBansModel", "w", "[I", true)
  | 1 => ("CardsAndBansModel", "aside", "[I", true)
  | 2 => ("CardsAndBansModel", "kept", "[I", true)
  | 3 => ("CardsAndBansModel", "isKept", "Z", false)
  | 4 => ("CardsAndBansModel", "past", "[I", true)
  | 5 => ("CardsAndBansModel", "pastMany", "I", false)
  | 6 => ("CardsAndBansModel", "rule", "[I", true)
  | 7 => ("CardsAndBansModel", "stepAt", "[I", true)
  | 8 => ("CardsAndBansModel", "stepGives", "[I", true)
  | 9 => ("CardsAndBansModel", "text", "[B", true)
  | 10 => ("CardsAndBansModel", "typed", "I", false)
  | 11 => ("CardsAndBansModel", "row", "[J", true)
  | 12 => ("CardsAndBansModel", "rowMany", "I", false)
  | 13 => ("CardsAndBansModel", "thrown", "I", false)
  | 14 => ("CardsAndBansModel", "servedNow", "I", false)
  | 15 => ("CardsAndBansModel", "outNow", "I", false)
  | 16 => ("CardsAndBansModel", "cardRed", "[I", true)
  | 17 => ("CardsAndBansModel", "cardOf", "[I", true)
  | 18 => ("CardsAndBansModel", "cardMany", "I", false)
  | 19 => ("CardsAndBansModel", "cautioned", "I", false)
  | 20 => ("CardsAndBansModel", "sentOff", "I", false)
  | 21 => ("CardsAndBansModel", "size", "I", false)
  | 22 => ("CardsAndBansModel", "here", "I", false)
  | 23 => ("CardsAndBansModel", "wrong", "I", false)
  | 24 => ("CardsAndBansModel", "read", "[I", true)
  | 25 => ("CardsAndBansModel", "readAt", "[I", true)
  | 26 => ("CardsAndBansModel", "readGives", "[I", true)
  | 27 => ("CardsAndBansModel", "givenTo", "[I", true)
  | 28 => ("CardsAndBansModel", "givenIn", "[I", true)
  | 29 => ("CardsAndBansModel", "givenFor", "[I", true)
  | 30 => ("CardsAndBansModel", "page", "[B", true)
  | 31 => ("CardsAndBansModel", "pageMany", "I", false)
  | 32 => ("CardsAndBansModel", "listCup", "[I", true)
  | 33 => ("CardsAndBansModel", "listOne", "[I", true)
  | 34 => ("CardsAndBansModel", "listTwo", "[I", true)
  | _ => ("CardsAndBansModel", "listMany", "I", false)
def cb_y8 : Nat → FieldType := fun k => match k with
  | 0 => .array (.int)
  | 1 => .array (.int)
  | 2 => .array (.int)
  | 3 => .boolean
  | 4 => .array (.int)
  | 5 => .int
  | 6 => .array (.int)
  | 7 => .array (.int)
  | 8 => .array (.int)
  | 9 => .array (.byte)
  | 10 => .int
  | 11 => .array (.long)
  | 12 => .int
  | 13 => .int
  | 14 => .int
  | 15 => .int
  | 16 => .array (.int)
  | 17 => .array (.int)
  | 18 => .int
  | 19 => .int
  | 20 => .int
  | 21 => .int
  | 22 => .int
  | 23 => .int
  | 24 => .array (.int)
  | 25 => .array (.int)
  | 26 => .array (.int)
  | 27 => .array (.int)
  | 28 => .array (.int)
  | 29 => .array (.int)
  | 30 => .array (.byte)
  | 31 => .int
  | 32 => .array (.int)
  | 33 => .array (.int)
  | 34 => .array (.int)
  | _ => .int
theorem cb_n8 : ∀ a, a < 36 → ∀ b, b < 36 → a ≠ b → (cb_T8 a).2.1 ≠ (cb_T8 b).2.1 := by decide +kernel
theorem cb_p8 : ∀ k, k < 36 → parseFieldDescriptor (cb_T8 k).2.2.1 = some (cb_y8 k) := by decide +kernel
def cb_T9 : u_T := fun _ => ("java/lang/Throwable", "depth", "I", false)
abbrev cb_cl : List vw_C := [("CardsAndBans", cb_T0, 11), ("CardsAndBans$Text", cb_T1, 4), ("CardsAndBans$Items", cb_T2, 2), ("CardsAndBans$Row", cb_T3, 2), ("CardsAndBans$Rules", cb_T4, 1), ("CardsAndBans$State", cb_T5, 11), ("CardsAndBans$History", cb_T6, 3), ("CardsAndBans$Match", cb_T7, 8), ("CardsAndBansModel", cb_T8, 36), ("java/util/NoSuchElementException", cb_T9, 0)]
def cb_gw : List Cond := lw_tbl.filter goodWord
theorem cb_gm {w : Cond} (i : Nat) (h : lw_tbl[i]? = some w) (g : goodWord w = true) : w ∈ cb_gw := List.mem_filter.mpr ⟨List.mem_of_getElem? h, g⟩
theorem cb_gs {ws : List Cond} (ps : List Nat) (hp : ws = ps.filterMap (fun i => lw_tbl[i]?)) (h : ws.all goodWord = true) : ∀ w ∈ ws, w ∈ cb_gw := by
  intro w hw
  have h1 := List.all_eq_true.mp h w hw
  rw [hp] at hw
  obtain ⟨i, -, hi⟩ := List.mem_filterMap.mp hw
  exact cb_gm i hi h1
theorem cb_gg : ∀ w ∈ cb_gw, w ∈ lw_tbl ∧ ((w.onTables && w.keeps) = true ∨ ∃ ty, w = .arrayClass ty) := fun w h => ⟨(List.mem_filter.mp h).1, good_of_word (List.mem_filter.mp h).2⟩
theorem cb_i0 : ∀ w ∈ u_ws "CardsAndBans" cb_T0 11, w ∈ cb_gw := cb_gs [250, 252, 254, 256, 258, 260, 262, 264, 266, 268, 270] (by decide +kernel) (by decide +kernel)
theorem cb_i1 : ∀ w ∈ u_ws "CardsAndBans$Text" cb_T1 4, w ∈ cb_gw := cb_gs [107, 109, 111, 113] (by decide +kernel) (by decide +kernel)
theorem cb_i2 : ∀ w ∈ u_ws "CardsAndBans$Items" cb_T2 2, w ∈ cb_gw := cb_gs [127, 129] (by decide +kernel) (by decide +kernel)
theorem cb_i3 : ∀ w ∈ u_ws "CardsAndBans$Row" cb_T3 2, w ∈ cb_gw := cb_gs [142, 144] (by decide +kernel) (by decide +kernel)
theorem cb_i4 : ∀ w ∈ u_ws "CardsAndBans$Rules" cb_T4 1, w ∈ cb_gw := cb_gs [165] (by decide +kernel) (by decide +kernel)
theorem cb_i5 : ∀ w ∈ u_ws "CardsAndBans$State" cb_T5 11, w ∈ cb_gw := cb_gs [197, 199, 201, 203, 205, 207, 209, 211, 213, 215, 217] (by decide +kernel) (by decide +kernel)
theorem cb_i6 : ∀ w ∈ u_ws "CardsAndBans$History" cb_T6 3, w ∈ cb_gw := cb_gs [232, 234, 236] (by decide +kernel) (by decide +kernel)
theorem cb_i7 : ∀ w ∈ u_ws "CardsAndBans$Match" cb_T7 8, w ∈ cb_gw := cb_gs [535, 537, 539, 541, 543, 545, 547, 549] (by decide +kernel) (by decide +kernel)
theorem cb_i8 : ∀ w ∈ u_ws "CardsAndBansModel" cb_T8 36, w ∈ cb_gw := cb_gs [1036, 1038, 1040, 1042, 1044, 1046, 1048, 1050, 1052, 1054, 1056, 1058, 1060, 1062, 1064, 1066, 1068, 1070, 1072, 1074, 1076, 1078, 1080, 1082, 1084, 1086, 1088, 1090, 1092, 1094, 1096, 1098, 1100, 1102, 1104, 1106] (by decide +kernel) (by decide +kernel)
/-- the words of nest mates: they stay, but are not among the good ones -/
def cb_nw : List Cond := [(Jvm.Cond.methodLinkNest "CardsAndBans" (9 : Nat) ({ cls := "CardsAndBans$Text", name := "<init>", desc := "()V" } : Jvm.MethodName) "CardsAndBans"), (Jvm.Cond.fieldLinkNest "CardsAndBans" (71 : Nat) "CardsAndBans$Text" "length" "I" "CardsAndBans"), (Jvm.Cond.fieldLinkNest "CardsAndBans" (363 : Nat) "CardsAndBans$Text" "at" "I" "CardsAndBans"), (Jvm.Cond.fieldLinkNest "CardsAndBans" (351 : Nat) "CardsAndBans$Text" "fault" "I" "CardsAndBans"), (Jvm.Cond.methodLinkNest "CardsAndBans" (21 : Nat) ({ cls := "CardsAndBans$Items", name := "<init>", desc := "()V" } : Jvm.MethodName) "CardsAndBans"), (Jvm.Cond.fieldLinkNest "CardsAndBans$State" (52 : Nat) "CardsAndBans$Items" "size" "I" "CardsAndBans"), (Jvm.Cond.fieldLinkNest "CardsAndBans" (177 : Nat) "CardsAndBans$Items" "size" "I" "CardsAndBans"), (Jvm.Cond.methodLinkNest "CardsAndBans" (28 : Nat) ({ cls := "CardsAndBans$Row", name := "<init>", desc := "()V" } : Jvm.MethodName) "CardsAndBans"), (Jvm.Cond.fieldLinkNest "CardsAndBans" (314 : Nat) "CardsAndBans$Row" "size" "I" "CardsAndBans"), (Jvm.Cond.methodLinkNest "CardsAndBans" (45 : Nat) ({ cls := "CardsAndBans$State", name := "<init>", desc := "()V" } : Jvm.MethodName) "CardsAndBans"), (Jvm.Cond.fieldLinkNest "CardsAndBans$Match" (41 : Nat) "CardsAndBans$State" "players" "I" "CardsAndBans"), (Jvm.Cond.fieldLinkNest "CardsAndBans" (106 : Nat) "CardsAndBans$State" "players" "I" "CardsAndBans"), (Jvm.Cond.fieldLinkNest "CardsAndBans$Match" (29 : Nat) "CardsAndBans$State" "matches" "I" "CardsAndBans"), (Jvm.Cond.fieldLinkNest "CardsAndBans" (195 : Nat) "CardsAndBans$State" "matches" "I" "CardsAndBans"), (Jvm.Cond.fieldLinkNest "CardsAndBans$Match" (67 : Nat) "CardsAndBans$State" "banCount" "I" "CardsAndBans"), (Jvm.Cond.fieldLinkNest "CardsAndBans" (129 : Nat) "CardsAndBans$State" "banCount" "I" "CardsAndBans"), (Jvm.Cond.fieldLinkNest "CardsAndBans$Match" (57 : Nat) "CardsAndBans$State" "teams" "[I" "CardsAndBans"), (Jvm.Cond.fieldLinkNest "CardsAndBans" (144 : Nat) "CardsAndBans$State" "teams" "[I" "CardsAndBans"), (Jvm.Cond.fieldLinkNest "CardsAndBans" (238 : Nat) "CardsAndBans$State" "cautionCounts" "[I" "CardsAndBans"), (Jvm.Cond.fieldLinkNest "CardsAndBans" (247 : Nat) "CardsAndBans$State" "playedCounts" "[I" "CardsAndBans"), (Jvm.Cond.fieldLinkNest "CardsAndBans" (331 : Nat) "CardsAndBans$State" "playerCards" "[I" "CardsAndBans"), (Jvm.Cond.fieldLinkNest "CardsAndBans" (319 : Nat) "CardsAndBans$State" "teamCards" "[I" "CardsAndBans"), (Jvm.Cond.methodLinkNest "CardsAndBans" (58 : Nat) ({ cls := "CardsAndBans$History", name := "<init>", desc := "()V" } : Jvm.MethodName) "CardsAndBans"), (Jvm.Cond.fieldLinkNest "CardsAndBans" (347 : Nat) "CardsAndBans$History" "size" "I" "CardsAndBans"), (Jvm.Cond.methodLinkNest "CardsAndBans$State" (73 : Nat) ({ cls := "CardsAndBans", name := "bit", desc := "(I)I" } : Jvm.MethodName) "CardsAndBans"), (Jvm.Cond.fieldLinkNest "CardsAndBans" (198 : Nat) "CardsAndBans$Match" "outs" "I" "CardsAndBans"), (Jvm.Cond.methodLinkNest "CardsAndBans$Match" (44 : Nat) ({ cls := "CardsAndBans", name := "hasBit", desc := "(II)Z" } : Jvm.MethodName) "CardsAndBans"), (Jvm.Cond.methodLinkNest "CardsAndBans$Match" (77 : Nat) ({ cls := "CardsAndBans", name := "bit", desc := "(I)I" } : Jvm.MethodName) "CardsAndBans"), (Jvm.Cond.methodLinkNest "CardsAndBans$History" (24 : Nat) ({ cls := "CardsAndBans$State", name := "<init>", desc := "()V" } : Jvm.MethodName) "CardsAndBans")]
theorem cb_nt : ∀ w ∈ cb_nw, w ∈ lw_tbl := by
  have h : cb_nw = [96, 102, 104, 106, 119, 125, 126, 135, 141, 170, 175, 176, 177, 179, 181, 182, 185, 186, 188, 190, 192, 194, 222, 231, 503, 532, 576, 619, 656].filterMap (fun i => lw_tbl[i]?) := by decide +kernel
  intro w hw
  rw [h] at hw
  obtain ⟨i, -, hi⟩ := List.mem_filterMap.mp hw
  exact List.mem_of_getElem? hi
theorem cb_nwarm {s U : State} (hW : s.WarmedH U.vm) (h : ∀ w ∈ cb_nw, va_Nw w s) : ∀ w ∈ cb_nw, va_Nw w U := by
  have key : ∀ w ∈ cb_nw, (match w with | .fieldLinkNest .. => true | .methodLinkNest .. => true | _ => false) = true := by decide +kernel
  intro w hw
  have h1 := h w hw
  have h2 := key w hw
  cases w <;> first | exact va_Nw.warmF hW h1 | exact va_Nw.warmM hW h1 | cases h2
theorem cb_nof {s : State} {args : Array Value} (hts : ∀ w ∈ lw_tbl, w.before args s = true) : ∀ w ∈ cb_nw, va_Nw w s := by
  have key : ∀ w ∈ cb_nw, w.onTables = true := by decide +kernel
  exact fun w hw => va_Nw.of (key w hw) (hts w (cb_nt w hw))
end
section
/-! AN ABSTRACT MACHINE: locals by place, a stack, a heap of numbered cells; rows of a method are acts, calls, returns.
`ia_run` goes by fuel, `ia_den` is what it comes to; the equations of `ia_den` are what later parts compute with. -/
abbrev ia_E : Type := (Nat × vp_A) ⊕ (Nat × List Value)
abbrev ia_L : Type := List (Option Value)
/-- next cell, slots made so far, the script, the cells -/
abbrev ia_H : Type := Nat × Nat × (Nat × (Nat → Int32)) × (Nat → ia_E)
abbrev ia_S : Type := Nat × ia_L × List Value × ia_H
abbrev ia_F : Type := Nat → ia_L → List Value → ia_H → Option ia_S
abbrev ia_R : Type := ia_F ⊕ ((Nat × Nat × Nat) ⊕ Nat)
abbrev ia_O : Type := Option (Option Value × ia_H)
def ia_dead : ia_E := .inr (99, [])
def ia_c (h : ia_H) (a : Nat) : ia_E := h.2.2.2 a
def ia_up (h : ia_H) (a : Nat) (e : ia_E) : ia_H := (h.1, h.2.1, h.2.2.1, fun k => if k = a then e else h.2.2.2 k)
def ia_new (h : ia_H) (n : Nat) (e : ia_E) : ia_H := (h.1 + 1, h.2.1 + n, h.2.2.1, fun k => if k = h.1 then e else h.2.2.2 k)
/-- reading and writing cells -/
def ia_gI (h : ia_H) (ci a k : Nat) : Option Int32 := match ia_c h a with
  | .inr (c, fs) => if c = ci then (match fs[k]? with | some (.int x) => some x | _ => none) else none
  | .inl _ => none
def ia_gR (h : ia_H) (ci a k : Nat) : Option Nat := match ia_c h a with
  | .inr (c, fs) => if c = ci then (match fs[k]? with | some (.ref x) => some x | _ => none) else none
  | .inl _ => none
def ia_pF (h : ia_H) (ci a k : Nat) (v : Value) : Option ia_H := match ia_c h a with
  | .inr (c, fs) => if c = ci ∧ k < fs.length then some (ia_up h a (.inr (c, fs.set k v))) else none
  | .inl _ => none
/-- arrays of ints, chars, bytes: t is 0, 2, 3 -/
def ia_ld (h : ia_H) (t a : Nat) (i : Int32) : Option Int32 := match ia_c h a with
  | .inl (t', n, .inl f) => if t' = t ∧ ¬ (i < 0 ∨ n ≤ i.toNatClampNeg) then some (f i.toNatClampNeg) else none
  | _ => none
def ia_st (h : ia_H) (t a : Nat) (i x : Int32) : Option ia_H := match ia_c h a with
  | .inl (t', n, .inl f) => if t' = t ∧ ¬ (i < 0 ∨ n ≤ i.toNatClampNeg) then some (ia_up h a (.inl (t', n, .inl (upd f i.toNatClampNeg x)))) else none
  | _ => none
def ia_ldL (h : ia_H) (a : Nat) (i : Int32) : Option Int64 := match ia_c h a with
  | .inl (t', n, .inr (.inl f)) => if t' = 1 ∧ ¬ (i < 0 ∨ n ≤ i.toNatClampNeg) then some (f i.toNatClampNeg) else none
  | _ => none
def ia_stL (h : ia_H) (a : Nat) (i : Int32) (x : Int64) : Option ia_H := match ia_c h a with
  | .inl (t', n, .inr (.inl f)) => if t' = 1 ∧ ¬ (i < 0 ∨ n ≤ i.toNatClampNeg) then some (ia_up h a (.inl (t', n, .inr (.inl (vp_updL f i.toNatClampNeg x))))) else none
  | _ => none
def ia_ldR (h : ia_H) (a : Nat) (i : Int32) : Option (Option Nat) := match ia_c h a with
  | .inl (t', n, .inr (.inr (.inr (.inr f)))) => if t' = 4 ∧ ¬ (i < 0 ∨ n ≤ i.toNatClampNeg) then some (f i.toNatClampNeg) else none
  | _ => none
/-- into the row of states: an object of kind 5 alone -/
def ia_stR (h : ia_H) (a : Nat) (i : Int32) (v : Nat) : Option ia_H := match ia_c h a, ia_c h v with
  | .inl (t', n, .inr (.inr (.inr (.inr f)))), .inr (c, _ :: _) => if t' = 4 ∧ c = 5 ∧ ¬ (i < 0 ∨ n ≤ i.toNatClampNeg) then some (ia_up h a (.inl (t', n, .inr (.inr (.inr (.inr (va_up f i.toNatClampNeg (some v)))))))) else none
  | _, _ => none
def ia_len (h : ia_H) (a : Nat) : Option Int32 := match ia_c h a with
  | .inl (t', n, _) => if t' < 5 then some (Int32.ofNat n) else none
  | .inr _ => none
/-- System.arraycopy of ints -/
def ia_cp (h : ia_H) (a b : Nat) (sp dp n : Int32) : Option ia_H := match ia_c h a, ia_c h b with
  | .inl (t0, n0, .inl f), .inl (t1, n1, .inl g) => if t0 = 0 ∧ t1 = 0 ∧ ¬ sp < 0 ∧ ¬ dp < 0 ∧ ¬ n < 0 ∧ sp.toNatClampNeg + n.toNatClampNeg ≤ n0 ∧ dp.toNatClampNeg + n.toNatClampNeg ≤ n1 then some (ia_up h b (.inl (t1, n1, .inl (va_cpy f g sp.toNatClampNeg dp.toNatClampNeg n.toNatClampNeg)))) else none
  | _, _ => none
/-! acts -/
/-- the words that arguments take -/
def ia_w : List Value → Nat
  | [] => 0
  | v :: vs => v.category + ia_w vs
def ia_const (v : Value) : ia_F := fun k L st h => some (k + 1, L, v :: st, h)
def ia_iload (i : Nat) : ia_F := fun k L st h => match L[i]? with
  | some (some (.int x)) => some (k + 1, L, .int x :: st, h)
  | _ => none
def ia_lload (i : Nat) : ia_F := fun k L st h => match L[i]?, L[i + 1]? with
  | some (some (.long x)), some none => some (k + 1, L, .long x :: st, h)
  | _, _ => none
def ia_aload (i : Nat) : ia_F := fun k L st h => match L[i]? with
  | some (some (.ref x)) => some (k + 1, L, .ref x :: st, h)
  | some (some .null) => some (k + 1, L, .null :: st, h)
  | some (some (.float x)) => some (k + 1, L, .float x :: st, h)
  | _ => none
def ia_istore (i : Nat) : ia_F := fun k L st h => match st with
  | .int x :: st => if i < L.length then some (k + 1, L.set i (some (.int x)), st, h) else none
  | _ => none
def ia_lstore (i : Nat) : ia_F := fun k L st h => match st with
  | .long x :: st => if i + 1 < L.length then some (k + 1, (L.set i (some (.long x))).set (i + 1) none, st, h) else none
  | _ => none
def ia_astore (i : Nat) : ia_F := fun k L st h => match st with
  | .ref x :: st => if i < L.length then some (k + 1, L.set i (some (.ref x)), st, h) else none
  | .null :: st => if i < L.length then some (k + 1, L.set i (some .null), st, h) else none
  | _ => none
def ia_iinc (i : Nat) (n : Int) : ia_F := fun k L st h => match L[i]? with
  | some (some (.int x)) => some (k + 1, L.set i (some (.int (x + Int32.ofInt n))), st, h)
  | _ => none
def ia_i1 (f : Int32 → Int32) : ia_F := fun k L st h => match st with
  | .int x :: st => some (k + 1, L, .int (f x) :: st, h)
  | _ => none
def ia_i2 (f : Int32 → Int32 → Int32) : ia_F := fun k L st h => match st with
  | .int y :: .int x :: st => some (k + 1, L, .int (f x y) :: st, h)
  | _ => none
def ia_i2z (f : Int32 → Int32 → Int32) : ia_F := fun k L st h => match st with
  | .int y :: .int x :: st => if y = 0 then none else some (k + 1, L, .int (f x y) :: st, h)
  | _ => none
def ia_l2 (f : Int64 → Int64 → Int64) : ia_F := fun k L st h => match st with
  | .long y :: .long x :: st => some (k + 1, L, .long (f x y) :: st, h)
  | _ => none
def ia_lsh (f : Int64 → Int32 → Int64) : ia_F := fun k L st h => match st with
  | .int y :: .long x :: st => some (k + 1, L, .long (f x y) :: st, h)
  | _ => none
def ia_lcmp : ia_F := fun k L st h => match st with
  | .long y :: .long x :: st => some (k + 1, L, .int (lg_cmp x y) :: st, h)
  | _ => none
def ia_i2l : ia_F := fun k L st h => match st with
  | .int x :: st => some (k + 1, L, .long x.toInt64 :: st, h)
  | _ => none
def ia_l2i : ia_F := fun k L st h => match st with
  | .long x :: st => some (k + 1, L, .int x.toInt32 :: st, h)
  | _ => none
def ia_dup : ia_F := fun k L st h => match st with
  | v :: st => if v.category = 1 then some (k + 1, L, v :: v :: st, h) else none
  | _ => none
def ia_pop : ia_F := fun k L st h => match st with
  | v :: st => if v.category = 1 then some (k + 1, L, st, h) else none
  | _ => none
def ia_dupx1 : ia_F := fun k L st h => match st with
  | v :: w :: st => if v.category = 1 ∧ w.category = 1 then some (k + 1, L, v :: w :: v :: st, h) else none
  | _ => none
def ia_dup2 : ia_F := fun k L st h => match st with
  | v :: w :: st => if v.category = 1 ∧ w.category = 1 then some (k + 1, L, v :: w :: v :: w :: st, h) else none
  | _ => none
def ia_goto (t : Nat) : ia_F := fun _ L st h => some (t, L, st, h)
def ia_ifeq (t : Nat) : ia_F := fun k L st h => match st with
  | .int x :: st => some (if x = 0 then t else k + 1, L, st, h)
  | _ => none
def ia_ifne (t : Nat) : ia_F := fun k L st h => match st with
  | .int x :: st => some (if x = 0 then k + 1 else t, L, st, h)
  | _ => none
def ia_iflt (t : Nat) : ia_F := fun k L st h => match st with
  | .int x :: st => some (if x < 0 then t else k + 1, L, st, h)
  | _ => none
def ia_ifge (t : Nat) : ia_F := fun k L st h => match st with
  | .int x :: st => some (if 0 ≤ x then t else k + 1, L, st, h)
  | _ => none
def ia_ifgt (t : Nat) : ia_F := fun k L st h => match st with
  | .int x :: st => some (if 0 < x then t else k + 1, L, st, h)
  | _ => none
def ia_ifle (t : Nat) : ia_F := fun k L st h => match st with
  | .int x :: st => some (if x ≤ 0 then t else k + 1, L, st, h)
  | _ => none
def ia_ieq (t : Nat) : ia_F := fun k L st h => match st with
  | .int y :: .int x :: st => some (if x = y then t else k + 1, L, st, h)
  | _ => none
def ia_ine (t : Nat) : ia_F := fun k L st h => match st with
  | .int y :: .int x :: st => some (if x = y then k + 1 else t, L, st, h)
  | _ => none
def ia_ilt (t : Nat) : ia_F := fun k L st h => match st with
  | .int y :: .int x :: st => some (if x < y then t else k + 1, L, st, h)
  | _ => none
def ia_ige (t : Nat) : ia_F := fun k L st h => match st with
  | .int y :: .int x :: st => some (if y ≤ x then t else k + 1, L, st, h)
  | _ => none
def ia_igt (t : Nat) : ia_F := fun k L st h => match st with
  | .int y :: .int x :: st => some (if y < x then t else k + 1, L, st, h)
  | _ => none
def ia_ile (t : Nat) : ia_F := fun k L st h => match st with
  | .int y :: .int x :: st => some (if x ≤ y then t else k + 1, L, st, h)
  | _ => none
def ia_nonnull (t : Nat) : ia_F := fun k L st h => match st with
  | .ref _ :: st => some (t, L, st, h)
  | .null :: st => some (k + 1, L, st, h)
  | _ => none
/-- a table from 0 on -/
def ia_sw (ts : List Nat) (d : Nat) : ia_F := fun _ L st h => match st with
  | .int x :: st => some (if x.toInt < 0 ∨ (ts.length : Int) ≤ x.toInt then d else ts.getD x.toInt.toNat d, L, st, h)
  | _ => none
def ia_getI (ci f : Nat) : ia_F := fun k L st h => match st with
  | .ref a :: st => (ia_gI h ci a f).map fun x => (k + 1, L, .int x :: st, h)
  | _ => none
def ia_getR (ci f : Nat) : ia_F := fun k L st h => match st with
  | .ref a :: st => (ia_gR h ci a f).map fun x => (k + 1, L, .ref x :: st, h)
  | _ => none
def ia_putI (ci f : Nat) : ia_F := fun k L st h => match st with
  | .int x :: .ref a :: st => (ia_pF h ci a f (.int x)).map fun h => (k + 1, L, st, h)
  | _ => none
def ia_putZ (ci f : Nat) : ia_F := fun k L st h => match st with
  | .int x :: .ref a :: st => if x = 0 ∨ x = 1 then (ia_pF h ci a f (.int x)).map fun h => (k + 1, L, st, h) else none
  | _ => none
def ia_putR (ci f : Nat) : ia_F := fun k L st h => match st with
  | .ref x :: .ref a :: st => (ia_pF h ci a f (.ref x)).map fun h => (k + 1, L, st, h)
  | _ => none
/-- an int array, or the script -/
def ia_iald : ia_F := fun k L st h => match st with
  | .int i :: .ref a :: st => (ia_ld h 0 a i).map fun x => (k + 1, L, .int x :: st, h)
  | .int i :: .float _ :: st => if i < 0 ∨ h.2.2.1.1 ≤ i.toNatClampNeg then none else some (k + 1, L, .int (h.2.2.1.2 i.toNatClampNeg) :: st, h)
  | _ => none
def ia_ald (t : Nat) : ia_F := fun k L st h => match st with
  | .int i :: .ref a :: st => (ia_ld h t a i).map fun x => (k + 1, L, .int x :: st, h)
  | _ => none
def ia_lald : ia_F := fun k L st h => match st with
  | .int i :: .ref a :: st => (ia_ldL h a i).map fun x => (k + 1, L, .long x :: st, h)
  | _ => none
def ia_rald : ia_F := fun k L st h => match st with
  | .int i :: .ref a :: st => (ia_ldR h a i).map fun x => (k + 1, L, va_rf x :: st, h)
  | _ => none
def ia_iast : ia_F := fun k L st h => match st with
  | .int x :: .int i :: .ref a :: st => (ia_st h 0 a i x).map fun h => (k + 1, L, st, h)
  | _ => none
def ia_bast : ia_F := fun k L st h => match st with
  | .int x :: .int i :: .ref a :: st => (ia_st h 3 a i (x.toInt8.toInt32)).map fun h => (k + 1, L, st, h)
  | _ => none
def ia_cast : ia_F := fun k L st h => match st with
  | .int x :: .int i :: .ref a :: st => (ia_st h 2 a i (x.toUInt32.toUInt16.toUInt32.toInt32)).map fun h => (k + 1, L, st, h)
  | _ => none
def ia_last : ia_F := fun k L st h => match st with
  | .long x :: .int i :: .ref a :: st => (ia_stL h a i x).map fun h => (k + 1, L, st, h)
  | _ => none
def ia_rast : ia_F := fun k L st h => match st with
  | .ref v :: .int i :: .ref a :: st => (ia_stR h a i v).map fun h => (k + 1, L, st, h)
  | _ => none
def ia_alen : ia_F := fun k L st h => match st with
  | .ref a :: st => (ia_len h a).map fun x => (k + 1, L, .int x :: st, h)
  | .float _ :: st => some (k + 1, L, .int (Int32.ofNat h.2.2.1.1) :: st, h)
  | _ => none
/-- arrays of zeros: t is 0, 1, 2, 3, 4 (ints, longs, chars, bytes, states) -/
def ia_zero (t : Nat) : (Nat → Int32) ⊕ (Nat → Int64) ⊕ (Nat → UInt32) ⊕ (Nat → UInt64) ⊕ (Nat → Option Nat) := if t = 1 then .inr (.inl fun _ => 0) else if t = 4 then .inr (.inr (.inr (.inr fun _ => none))) else .inl fun _ => 0
def ia_newa (t : Nat) : ia_F := fun k L st h => match st with
  | .int n :: st => if ¬ n < 0 ∧ n.toNatClampNeg ≤ 10000 then some (k + 1, L, .ref h.1 :: st, ia_new h n.toNatClampNeg (.inl (t, n.toNatClampNeg, ia_zero t))) else none
  | _ => none
def ia_newo (ci n : Nat) (fs : List Value) : ia_F := fun k L st h => some (k + 1, L, .ref h.1 :: st, ia_new h n (.inr (ci, fs)))
def ia_copy : ia_F := fun k L st h => match st with
  | .int n :: .int dp :: .ref b :: .int sp :: .ref a :: st => if ia_w st ≤ 8 then (ia_cp h a b sp dp n).map fun h => (k + 1, L, st, h) else none
  | _ => none
def ia_min : ia_F := fun k L st h => match st with
  | .int y :: .int x :: st => if ia_w st ≤ 8 then some (k + 1, L, .int (if y < x then y else x) :: st, h) else none
  | _ => none
def ia_oinit : ia_F := fun k L st h => match st with
  | .ref _ :: st => if ia_w st ≤ 8 then some (k + 1, L, st, h) else none
  | _ => none
/-- what a return of kind r answers: 0 nothing, 1 an int, 2 a boolean, 3 a long, 4 a reference -/
def ia_ret (r : Nat) (st : List Value) : Option (Option Value) := match r, st with
  | 0, [] => some none
  | 1, [.int x] => some (some (.int x))
  | 2, [.int x] => if x = 0 ∨ x = 1 then some (some (.int x)) else none
  | 3, [.long x] => some (some (.long x))
  | 4, [.ref x] => some (some (.ref x))
  | _, _ => none
/-- locals at the entry -/
def ia_ent : Nat → List Value → ia_L
  | n, [] => List.replicate n none
  | n, v :: vs => if v.category = 2 then some v :: none :: ia_ent (n - 2) vs else some v :: ia_ent (n - 1) vs
/-- who is asked: 100 nobody, 101 some object, else an object of that kind -/
def ia_ok (h : ia_H) (rc : Nat) (as : List Value) : Bool := if rc = 100 then true else match as with
  | .ref b :: _ => if rc = 101 then true else (match ia_c h b with
    | .inr (c, _ :: _) => c == rc
    | _ => false)
  | _ => false
section IAD
variable (P : Nat → Nat → Option ia_R) (M : Nat → Nat)
/-- P: a method's rows; M: its locals -/
def ia_run : Nat → Nat → Nat → ia_L → List Value → ia_H → ia_O
  | 0, _, _, _, _, _ => none
  | n + 1, y, k, L, st, h => match P y k with
    | none => none
    | some (.inl f) => (f k L st h).bind fun s => ia_run n y s.1 s.2.1 s.2.2.1 s.2.2.2
    | some (.inr (.inl (z, na, rc))) => if st.length < na ∨ M z < ia_w (st.take na) ∨ 8 < ia_w (st.drop na) ∨ ia_ok h rc (st.take na).reverse = false then none else
        (ia_run n z 0 (ia_ent (M z) (st.take na).reverse) [] h).bind fun s => ia_run n y (k + 1) L (s.1.toList ++ st.drop na) s.2
    | some (.inr (.inr r)) => (ia_ret r st).map fun v => (v, h)
theorem ia_run_succ : ∀ (n y k : Nat) (L : ia_L) (st : List Value) (h : ia_H) (o : Option Value × ia_H), ia_run P M n y k L st h = some o → ia_run P M (n + 1) y k L st h = some o := by
  intro n
  induction n with
  | zero => intro y k L st h o ho; cases ho
  | succ n ih =>
    intro y k L st h o ho
    rw [ia_run] at ho ⊢
    split at ho
    · cases ho
    · rename_i f hf
      rw [Option.bind_eq_some_iff] at ho ⊢
      obtain ⟨s, h1, h2⟩ := ho
      exact ⟨s, h1, ih _ _ _ _ _ _ h2⟩
    · rename_i z na rc hf
      split at ho
      · cases ho
      · rename_i hlt
        rw [if_neg hlt]
        rw [Option.bind_eq_some_iff] at ho ⊢
        obtain ⟨s, h1, h2⟩ := ho
        exact ⟨s, ih _ _ _ _ _ _ h1, ih _ _ _ _ _ _ h2⟩
    · exact ho
theorem ia_run_le {n m y k : Nat} {L : ia_L} {st : List Value} {h : ia_H} {o : Option Value × ia_H} (hnm : n ≤ m) (ho : ia_run P M n y k L st h = some o) : ia_run P M m y k L st h = some o := by
  induction hnm with
  | refl => exact ho
  | step _ ih => exact ia_run_succ P M _ _ _ _ _ _ _ ih
/-- what a run comes to -/
noncomputable def ia_den (y k : Nat) (L : ia_L) (st : List Value) (h : ia_H) : ia_O :=
  @dite _ (∃ (o : Option Value × ia_H) (n : Nat), ia_run P M n y k L st h = some o) (Classical.propDecidable _) (fun w => some (Classical.choose w)) (fun _ => none)
theorem ia_den_iff {y k : Nat} {L : ia_L} {st : List Value} {h : ia_H} {o : Option Value × ia_H} : ia_den P M y k L st h = some o ↔ ∃ n, ia_run P M n y k L st h = some o := by
  unfold ia_den
  by_cases w : ∃ (o : Option Value × ia_H) (n : Nat), ia_run P M n y k L st h = some o
  · rw [dif_pos w]
    obtain ⟨n1, h1⟩ := Classical.choose_spec w
    constructor
    · intro e
      cases e
      exact ⟨n1, h1⟩
    · rintro ⟨n, hn⟩
      have a := ia_run_le P M (Nat.le_max_left n n1) hn
      have b := ia_run_le P M (Nat.le_max_right n n1) h1
      rw [a] at b
      rw [Option.some.inj b]
  · rw [dif_neg w]
    constructor
    · intro e; cases e
    · rintro ⟨n, hn⟩; exact absurd ⟨o, n, hn⟩ w
theorem ia_den_ext {y k y' k' : Nat} {L L' : ia_L} {st st' : List Value} {h h' : ia_H} (e : ∀ o, (∃ n, ia_run P M n y k L st h = some o) ↔ ia_den P M y' k' L' st' h' = some o) : ia_den P M y k L st h = ia_den P M y' k' L' st' h' := by
  apply Option.ext
  intro o
  rw [ia_den_iff]
  exact e o
theorem ia_den_go {y k : Nat} {f : ia_F} (hP : P y k = some (.inl f)) (L : ia_L) (st : List Value) (h : ia_H) : ia_den P M y k L st h = (f k L st h).bind fun s => ia_den P M y s.1 s.2.1 s.2.2.1 s.2.2.2 := by
  apply Option.ext
  intro o
  rw [ia_den_iff, Option.bind_eq_some_iff]
  constructor
  · rintro ⟨n, hn⟩
    cases n with
    | zero => cases hn
    | succ n =>
      rw [ia_run, hP] at hn
      obtain ⟨s, h1, h2⟩ := Option.bind_eq_some_iff.mp hn
      exact ⟨s, h1, (ia_den_iff P M).mpr ⟨n, h2⟩⟩
  · rintro ⟨s, h1, h2⟩
    obtain ⟨n, hn⟩ := (ia_den_iff P M).mp h2
    refine ⟨n + 1, ?_⟩
    rw [ia_run, hP]
    exact Option.bind_eq_some_iff.mpr ⟨s, h1, hn⟩
theorem ia_den_to {y k : Nat} {f : ia_F} (hP : P y k = some (.inl f)) {L : ia_L} {st : List Value} {h : ia_H} {k' : Nat} {L' : ia_L} {st' : List Value} {h' : ia_H} (hf : f k L st h = some (k', L', st', h')) : ia_den P M y k L st h = ia_den P M y k' L' st' h' := by
  rw [ia_den_go P M hP, hf]
  rfl
theorem ia_den_ret {y k r : Nat} (hP : P y k = some (.inr (.inr r))) (L : ia_L) (st : List Value) (h : ia_H) : ia_den P M y k L st h = (ia_ret r st).map fun v => (v, h) := by
  apply Option.ext
  intro o
  rw [ia_den_iff]
  constructor
  · rintro ⟨n, hn⟩
    cases n with
    | zero => cases hn
    | succ n =>
      rw [ia_run, hP] at hn
      exact hn
  · intro e
    refine ⟨1, ?_⟩
    rw [ia_run, hP]
    exact e
/-- a whole method, from its arguments -/
noncomputable def ia_call (y : Nat) (as : List Value) (h : ia_H) : ia_O := ia_den P M y 0 (ia_ent (M y) as) [] h
theorem ia_den_call {y k z na rc : Nat} (hP : P y k = some (.inr (.inl (z, na, rc)))) (L : ia_L) (st : List Value) (h : ia_H) (hl : na ≤ st.length) (hw : ia_w (st.take na) ≤ M z) (hd : ia_w (st.drop na) ≤ 8) : ia_den P M y k L st h = if ia_ok h rc (st.take na).reverse = true then (ia_call P M z (st.take na).reverse h).bind fun s => ia_den P M y (k + 1) L (s.1.toList ++ st.drop na) s.2 else none := by
  by_cases hok : ia_ok h rc (st.take na).reverse = true
  · have hnl : ¬ (st.length < na ∨ M z < ia_w (st.take na) ∨ 8 < ia_w (st.drop na) ∨ ia_ok h rc (st.take na).reverse = false) := by
      rintro (q | q | q | q)
      · omega
      · omega
      · omega
      · rw [hok] at q; cases q
    rw [if_pos hok]
    apply Option.ext
    intro o
    rw [ia_den_iff, Option.bind_eq_some_iff]
    unfold ia_call
    constructor
    · rintro ⟨n, hn⟩
      cases n with
      | zero => cases hn
      | succ n =>
        rw [ia_run, hP] at hn
        dsimp only at hn
        rw [if_neg hnl] at hn
        obtain ⟨s, h1, h2⟩ := Option.bind_eq_some_iff.mp hn
        exact ⟨s, (ia_den_iff P M).mpr ⟨n, h1⟩, (ia_den_iff P M).mpr ⟨n, h2⟩⟩
    · rintro ⟨s, h1, h2⟩
      obtain ⟨n2, hn2⟩ := (ia_den_iff P M).mp h2
      obtain ⟨n1, hn1⟩ := (ia_den_iff P M).mp h1
      refine ⟨max n1 n2 + 1, ?_⟩
      rw [ia_run, hP]
      dsimp only
      rw [if_neg hnl]
      exact Option.bind_eq_some_iff.mpr ⟨s, ia_run_le P M (Nat.le_max_left _ _) hn1, ia_run_le P M (Nat.le_max_right _ _) hn2⟩
  · rw [if_neg hok]
    apply Option.ext
    intro o
    rw [ia_den_iff]
    constructor
    · rintro ⟨n, hn⟩
      cases n with
      | zero => cases hn
      | succ n =>
        rw [ia_run, hP] at hn
        dsimp only at hn
        rw [if_pos (Or.inr (Or.inr (Or.inr (Bool.eq_false_iff.mpr hok))))] at hn
        cases hn
    · intro e; cases e
end IAD
end
section
/-! THE ACTS ARE THE MACHINE'S OWN STEPS. Cell k of the abstract heap is cell z + k of the machine's; the script is the cell b. -/
def is_tr (z b : Nat) : Value → Value
  | .ref k => .ref (z + k)
  | .float _ => .ref b
  | v => v
theorem is_cat (z b : Nat) (v : Value) : (is_tr z b v).category = v.category := by cases v <;> rfl
def is_trA (z : Nat) (a : vp_A) : vp_A := (a.1, match a.2 with
  | .inr (.inr (.inr (.inr f))) => .inr (.inr (.inr (.inr fun j => (f j).map (z + ·))))
  | x => x)
abbrev is_D : Type := va_G × (Nat → ClassId)
def is_E (D : is_D) (z b : Nat) : ia_E → va_E
  | .inl q => .inl (D.2 q.1, is_trA z q.2)
  | .inr q => .inr (q.1, q.2.map (is_tr z b))
def is_tys (dA : Nat → ClassId) : List (ClassId × FieldType) := [(dA 0, .int), (dA 1, .long), (dA 2, .char), (dA 3, .byte), (dA 4, .object "CardsAndBans$State")]
def is_Rl (D : is_D) (z b : Nat) (sc : Nat × (Nat → Int32)) (h : ia_H) (H : Heap) : Prop :=
  H.size = z + h.1 ∧ (∀ k, k < h.1 → va_at D.1 cb_cl (z + k, is_E D z b (ia_c h k)) H) ∧ (∀ k, h.1 ≤ k → ia_c h k = ia_dead) ∧ h.2.2.1 = sc
def is_LH (z b nL : Nat) (ls : Array Slot) (L : ia_L) : Prop :=
  ls.size = nL ∧ L.length = nL ∧ lv_wf ls ∧ ∀ (i : Nat) (v : Value), L[i]? = some (some v) → (v.category = 2 → L[i + 1]? = some none) → ls[i]? = some (.val (is_tr z b v))
/-- a method: name, bytes, locals, what it returns, frames and locals below it, places of its rows, its rows -/
abbrev is_M : Type := MethodName × ByteArray × Nat × Option FieldType × Nat × Nat × List Nat × List ia_R
abbrev is_cc (t : is_M) : ByteArray := t.2.1
abbrev is_mL (t : is_M) : Nat := t.2.2.1
abbrev is_rt (t : is_M) : Option FieldType := t.2.2.2.1
abbrev is_rF (t : is_M) : Nat := t.2.2.2.2.1
abbrev is_rL (t : is_M) : Nat := t.2.2.2.2.2.1
abbrev is_pc (t : is_M) (k : Nat) : Nat := t.2.2.2.2.2.2.1.getD k 0
abbrev is_row (t : is_M) (k : Nat) : Option ia_R := t.2.2.2.2.2.2.2[k]?
def is_Cx (t : is_M) (p : Program) (l : Launch) (R : Room) (s : State) (m : MethodId) (args : Array Value) (meth : Method) (c : Code) (D : is_D) (z b : Nat) (sc : Nat × (Nat → Int32)) (H0 : Heap) : Prop :=
  p.tables.exec = Jvm.exec ∧ c.code = is_cc t ∧ c.maxLocals = is_mL t ∧ s.vm.findClass t.1.cls = some m.cls ∧ (∀ w ∈ cb_gw, w.before args s = true) ∧ (∀ w ∈ cb_nw, va_Nw w s) ∧ va_AO "CardsAndBans$State" s ∧
  va_K D.1 cb_cl (is_tys D.2) s ∧ meth.name = t.1.name ∧ va_X b sc.1 sc.2 s H0 ∧ b < z ∧ z ≤ H0.size ∧ is_rF t ≤ R.frames ∧ is_rL t ≤ R.locals ∧
  (t.1.cls = "CardsAndBansLaw" → (∀ w ∈ lw_tbl, w.before args s = true) ∧ (Jvm.Cond.and given_1 narrow_1).before args s = true ∧ l.flags = flags0 ∧ z = s.heap.size ∧ H0 = s.heap)
def is_FW (t : is_M) (p : Program) (l : Launch) (e : Env) (R : Room) (s : State) (m : MethodId) (args : Array Value) (below : List Frame) (meth : Method) (c : Code) (D : is_D) (z b : Nat) (sc : Nat × (Nat → Int32)) (H0 : Heap) (nx0 sn0 : Nat) (Q : State → Prop) (k : Nat) (L : ia_L) (st : List Value) (h : ia_H) : Prop :=
  ∀ (H : Heap) (locs : List Loc) (ls : Array Slot), is_Rl D z b sc h H → va_S (fun q => z ≤ q) H0 H locs → is_LH z b (is_mL t) ls L →
    W p l e R s m args below meth c H locs (h.1 - nx0) (h.2.1 - sn0) Q (F0 m (is_pc t k) ls (st.map (is_tr z b)))
def is_Ok (t : is_M) (k : Nat) (f : ia_F) : Prop :=
  ∀ (L : ia_L) (st : List Value) (h : ia_H) (k' : Nat) (L' : ia_L) (st' : List Value) (h' : ia_H), f k L st h = some (k', L', st', h') → h.1 ≤ h'.1 ∧ h.2.1 ≤ h'.2.1 ∧
    ∀ (p : Program) (l : Launch) (e : Env) (R : Room) (s : State) (m : MethodId) (args : Array Value) (below : List Frame) (meth : Method) (c : Code) (D : is_D) (z b : Nat) (sc : Nat × (Nat → Int32)) (H0 : Heap) (nx0 sn0 : Nat) (Q : State → Prop),
      is_Cx t p l R s m args meth c D z b sc H0 → nx0 ≤ h.1 → sn0 ≤ h.2.1 → h'.1 - nx0 ≤ R.cells → h'.2.1 - sn0 ≤ R.slots →
      is_FW t p l e R s m args below meth c D z b sc H0 nx0 sn0 Q k' L' st' h' → is_FW t p l e R s m args below meth c D z b sc H0 nx0 sn0 Q k L st h
/-- an instruction, and the row behind it -/
def is_At (t : is_M) (k : Nat) (i : Instr) (n : Nat) : Prop := is_pc t (k + 1) = is_pc t k + n ∧ decode (is_cc t) (is_pc t k) = .ok (i, n)
abbrev is_To (t : is_M) (k : Nat) (off : Int) (tgt : Nat) : Prop := (is_pc t k : Int) + off = (is_pc t tgt : Int)
/-! locals -/
def is_lv (z b : Nat) (L : ia_L) : List (Nat × Value) := (List.range L.length).filterMap fun j => match L[j]? with
  | some (some v) => if v.category = 2 ∧ ¬ L[j + 1]? = some none then none else some (j, is_tr z b v)
  | _ => none
theorem is_lv_mem {z b : Nat} {L : ia_L} {q : Nat × Value} (h : q ∈ is_lv z b L) : ∃ v, L[q.1]? = some (some v) ∧ (v.category = 2 → L[q.1 + 1]? = some none) ∧ q.2 = is_tr z b v := by
  obtain ⟨j, -, h2⟩ := List.mem_filterMap.mp h
  split at h2
  · rename_i v hv
    split at h2
    · cases h2
    · rename_i hc
      cases h2
      exact ⟨v, hv, fun h => Classical.byContradiction fun g => hc ⟨h, g⟩, rfl⟩
  · cases h2
theorem is_lv_of {z b : Nat} {L : ia_L} {j : Nat} {v : Value} (h : L[j]? = some (some v)) (hc : v.category = 2 → L[j + 1]? = some none) : (j, is_tr z b v) ∈ is_lv z b L := by
  refine List.mem_filterMap.mpr ⟨j, List.mem_range.mpr (List.getElem?_eq_some_iff.mp h).1, ?_⟩
  rw [h]
  dsimp only
  rw [if_neg]
  rintro ⟨h1, h2⟩
  exact h2 (hc h1)
theorem is_LH.has {z b nL : Nat} {ls : Array Slot} {L : ia_L} (h : is_LH z b nL ls L) : lv_has ls nL (is_lv z b L) := by
  refine ⟨h.1, h.2.2.1, fun q hq => ?_⟩
  obtain ⟨v, h1, h2, h3⟩ := is_lv_mem hq
  rw [h3]
  exact h.2.2.2 q.1 v h1 h2
theorem is_LH.set1 {z b nL i : Nat} {ls ls' : Array Slot} {L : ia_L} {v : Value} (h : is_LH z b nL ls L) (hc : v.category = 1) (h' : lv_has ls' nL ((i, is_tr z b v) :: (is_lv z b L).filter (fun q => !(q.1 == i) && !(q.1 + 1 == i && q.2.category == 2)))) : is_LH z b nL ls' (L.set i (some v)) := by
  refine ⟨h'.1, by rw [List.length_set]; exact h.2.1, h'.2.1, fun j w hj hw => ?_⟩
  by_cases hji : j = i
  · subst hji
    have hlt : j < L.length := by
      have := (List.getElem?_eq_some_iff.mp hj).1
      rwa [List.length_set] at this
    rw [List.getElem?_set_self hlt] at hj
    cases hj
    exact h'.2.2 _ List.mem_cons_self
  · rw [List.getElem?_set_ne (Ne.symm hji)] at hj
    have hw2 : w.category = 2 → L[j + 1]? = some none ∧ ¬ j + 1 = i := by
      intro hc2
      have h1 := hw hc2
      by_cases hi : j + 1 = i
      · subst hi
        have hlt : j + 1 < L.length := by
          have := (List.getElem?_eq_some_iff.mp h1).1
          rwa [List.length_set] at this
        rw [List.getElem?_set_self hlt] at h1
        cases h1
      · rw [List.getElem?_set_ne (Ne.symm hi)] at h1
        exact ⟨h1, hi⟩
    refine h'.2.2 (j, is_tr z b w) (List.mem_cons_of_mem _ (List.mem_filter.mpr ⟨is_lv_of hj (fun g => (hw2 g).1), ?_⟩))
    have hx : (is_tr z b w).category = w.category := is_cat z b w
    by_cases hc2 : w.category = 2
    · have := (hw2 hc2).2
      simp [hji, this]
    · simp [hji, hx, hc2]
theorem is_LH.set2 {z b nL i : Nat} {ls ls' : Array Slot} {L : ia_L} {x : Int64} (h : is_LH z b nL ls L) (h' : lv_has ls' nL ((i, .long x) :: (is_lv z b L).filter (fun q => !(q.1 == i) && (!(q.1 == i + 1) && !(q.1 + 1 == i && q.2.category == 2))))) : is_LH z b nL ls' ((L.set i (some (.long x))).set (i + 1) none) := by
  refine ⟨h'.1, by rw [List.length_set, List.length_set]; exact h.2.1, h'.2.1, fun j w hj hw => ?_⟩
  have hji1 : ¬ j = i + 1 := by
    intro e
    subst e
    have hlt : i + 1 < (L.set i (some (.long x))).length := by
      have := (List.getElem?_eq_some_iff.mp hj).1
      rwa [List.length_set] at this
    rw [List.getElem?_set_self hlt] at hj
    cases hj
  rw [List.getElem?_set_ne (Ne.symm hji1)] at hj
  by_cases hji : j = i
  · subst hji
    have hlt : j < L.length := by
      have := (List.getElem?_eq_some_iff.mp hj).1
      rwa [List.length_set] at this
    rw [List.getElem?_set_self hlt] at hj
    cases hj
    exact h'.2.2 _ List.mem_cons_self
  · rw [List.getElem?_set_ne (Ne.symm hji)] at hj
    have hw2 : w.category = 2 → L[j + 1]? = some none ∧ ¬ j + 1 = i := by
      intro hc2
      have h1 := hw hc2
      rw [List.getElem?_set_ne (by omega)] at h1
      by_cases hi : j + 1 = i
      · subst hi
        have hlt : j + 1 < L.length := by
          have := (List.getElem?_eq_some_iff.mp h1).1
          rwa [List.length_set] at this
        rw [List.getElem?_set_self hlt] at h1
        cases h1
      · rw [List.getElem?_set_ne (Ne.symm hi)] at h1
        exact ⟨h1, hi⟩
    refine h'.2.2 (j, is_tr z b w) (List.mem_cons_of_mem _ (List.mem_filter.mpr ⟨is_lv_of hj (fun g => (hw2 g).1), ?_⟩))
    have hx : (is_tr z b w).category = w.category := is_cat z b w
    by_cases hc2 : w.category = 2
    · have := (hw2 hc2).2
      simp [hji, hji1, this]
    · simp [hji, hji1, hx, hc2]

theorem ok_iadd {t : is_M} {k : Nat} (A : is_At t k (.iadd) 1) : is_Ok t k (ia_i2 fun x y => x + y) := by
  intro L st h k' L' st' h' hf
  unfold ia_i2 at hf
  split at hf
  · cases hf
    refine ⟨Nat.le_refl _, Nat.le_refl _, ?_⟩
    intro p l e R s m args below meth c D z b sc H0 nx0 sn0 Q C hn hs hcl hsl F H locs ls r S lh
    have w := F H locs ls r S lh
    rw [A.1] at w
    exact lv_iadd C.1 C.2.1 A.2 w
  · cases hf
theorem ok_isub {t : is_M} {k : Nat} (A : is_At t k (.isub) 1) : is_Ok t k (ia_i2 fun x y => x - y) := by
  intro L st h k' L' st' h' hf
  unfold ia_i2 at hf
  split at hf
  · cases hf
    refine ⟨Nat.le_refl _, Nat.le_refl _, ?_⟩
    intro p l e R s m args below meth c D z b sc H0 nx0 sn0 Q C hn hs hcl hsl F H locs ls r S lh
    have w := F H locs ls r S lh
    rw [A.1] at w
    exact lv_isub C.1 C.2.1 A.2 w
  · cases hf
theorem ok_imul {t : is_M} {k : Nat} (A : is_At t k (.imul) 1) : is_Ok t k (ia_i2 fun x y => x * y) := by
  intro L st h k' L' st' h' hf
  unfold ia_i2 at hf
  split at hf
  · cases hf
    refine ⟨Nat.le_refl _, Nat.le_refl _, ?_⟩
    intro p l e R s m args below meth c D z b sc H0 nx0 sn0 Q C hn hs hcl hsl F H locs ls r S lh
    have w := F H locs ls r S lh
    rw [A.1] at w
    exact lv_imul C.1 C.2.1 A.2 w
  · cases hf
theorem ok_iand {t : is_M} {k : Nat} (A : is_At t k (.iand) 1) : is_Ok t k (ia_i2 fun x y => x &&& y) := by
  intro L st h k' L' st' h' hf
  unfold ia_i2 at hf
  split at hf
  · cases hf
    refine ⟨Nat.le_refl _, Nat.le_refl _, ?_⟩
    intro p l e R s m args below meth c D z b sc H0 nx0 sn0 Q C hn hs hcl hsl F H locs ls r S lh
    have w := F H locs ls r S lh
    rw [A.1] at w
    exact lv_iand C.1 C.2.1 A.2 w
  · cases hf
theorem ok_ior {t : is_M} {k : Nat} (A : is_At t k (.ior) 1) : is_Ok t k (ia_i2 fun x y => x ||| y) := by
  intro L st h k' L' st' h' hf
  unfold ia_i2 at hf
  split at hf
  · cases hf
    refine ⟨Nat.le_refl _, Nat.le_refl _, ?_⟩
    intro p l e R s m args below meth c D z b sc H0 nx0 sn0 Q C hn hs hcl hsl F H locs ls r S lh
    have w := F H locs ls r S lh
    rw [A.1] at w
    exact lv_ior C.1 C.2.1 A.2 w
  · cases hf
theorem ok_ixor {t : is_M} {k : Nat} (A : is_At t k (.ixor) 1) : is_Ok t k (ia_i2 fun x y => x ^^^ y) := by
  intro L st h k' L' st' h' hf
  unfold ia_i2 at hf
  split at hf
  · cases hf
    refine ⟨Nat.le_refl _, Nat.le_refl _, ?_⟩
    intro p l e R s m args below meth c D z b sc H0 nx0 sn0 Q C hn hs hcl hsl F H locs ls r S lh
    have w := F H locs ls r S lh
    rw [A.1] at w
    exact lv_ixor C.1 C.2.1 A.2 w
  · cases hf
theorem ok_ishl {t : is_M} {k : Nat} (A : is_At t k (.ishl) 1) : is_Ok t k (ia_i2 fun x y => x <<< (y &&& 31)) := by
  intro L st h k' L' st' h' hf
  unfold ia_i2 at hf
  split at hf
  · cases hf
    refine ⟨Nat.le_refl _, Nat.le_refl _, ?_⟩
    intro p l e R s m args below meth c D z b sc H0 nx0 sn0 Q C hn hs hcl hsl F H locs ls r S lh
    have w := F H locs ls r S lh
    rw [A.1] at w
    exact lv_ishl C.1 C.2.1 A.2 w
  · cases hf
theorem ok_ishr {t : is_M} {k : Nat} (A : is_At t k (.ishr) 1) : is_Ok t k (ia_i2 fun x y => x >>> (y &&& 31)) := by
  intro L st h k' L' st' h' hf
  unfold ia_i2 at hf
  split at hf
  · cases hf
    refine ⟨Nat.le_refl _, Nat.le_refl _, ?_⟩
    intro p l e R s m args below meth c D z b sc H0 nx0 sn0 Q C hn hs hcl hsl F H locs ls r S lh
    have w := F H locs ls r S lh
    rw [A.1] at w
    exact lv_ishr C.1 C.2.1 A.2 w
  · cases hf
theorem ok_iushr {t : is_M} {k : Nat} (A : is_At t k (.iushr) 1) : is_Ok t k (ia_i2 fun x y => (x.toUInt32 >>> (y.toUInt32 &&& Int32.toUInt32 31)).toInt32) := by
  intro L st h k' L' st' h' hf
  unfold ia_i2 at hf
  split at hf
  · cases hf
    refine ⟨Nat.le_refl _, Nat.le_refl _, ?_⟩
    intro p l e R s m args below meth c D z b sc H0 nx0 sn0 Q C hn hs hcl hsl F H locs ls r S lh
    have w := F H locs ls r S lh
    rw [A.1] at w
    exact lv_iushr C.1 C.2.1 A.2 rfl w
  · cases hf
theorem ok_ladd {t : is_M} {k : Nat} (A : is_At t k (.ladd) 1) : is_Ok t k (ia_l2 fun x y => x + y) := by
  intro L st h k' L' st' h' hf
  unfold ia_l2 at hf
  split at hf
  · cases hf
    refine ⟨Nat.le_refl _, Nat.le_refl _, ?_⟩
    intro p l e R s m args below meth c D z b sc H0 nx0 sn0 Q C hn hs hcl hsl F H locs ls r S lh
    have w := F H locs ls r S lh
    rw [A.1] at w
    exact lv_ladd C.1 C.2.1 A.2 w
  · cases hf
theorem ok_lsub {t : is_M} {k : Nat} (A : is_At t k (.lsub) 1) : is_Ok t k (ia_l2 fun x y => x - y) := by
  intro L st h k' L' st' h' hf
  unfold ia_l2 at hf
  split at hf
  · cases hf
    refine ⟨Nat.le_refl _, Nat.le_refl _, ?_⟩
    intro p l e R s m args below meth c D z b sc H0 nx0 sn0 Q C hn hs hcl hsl F H locs ls r S lh
    have w := F H locs ls r S lh
    rw [A.1] at w
    exact lv_lsub C.1 C.2.1 A.2 w
  · cases hf
theorem ok_land {t : is_M} {k : Nat} (A : is_At t k (.land) 1) : is_Ok t k (ia_l2 fun x y => x &&& y) := by
  intro L st h k' L' st' h' hf
  unfold ia_l2 at hf
  split at hf
  · cases hf
    refine ⟨Nat.le_refl _, Nat.le_refl _, ?_⟩
    intro p l e R s m args below meth c D z b sc H0 nx0 sn0 Q C hn hs hcl hsl F H locs ls r S lh
    have w := F H locs ls r S lh
    rw [A.1] at w
    exact lv_land C.1 C.2.1 A.2 w
  · cases hf
theorem ok_lor {t : is_M} {k : Nat} (A : is_At t k (.lor) 1) : is_Ok t k (ia_l2 fun x y => x ||| y) := by
  intro L st h k' L' st' h' hf
  unfold ia_l2 at hf
  split at hf
  · cases hf
    refine ⟨Nat.le_refl _, Nat.le_refl _, ?_⟩
    intro p l e R s m args below meth c D z b sc H0 nx0 sn0 Q C hn hs hcl hsl F H locs ls r S lh
    have w := F H locs ls r S lh
    rw [A.1] at w
    exact lv_lor C.1 C.2.1 A.2 w
  · cases hf
theorem ok_lshl {t : is_M} {k : Nat} (A : is_At t k (.lshl) 1) : is_Ok t k (ia_lsh fun x y => x <<< (y.toInt64 &&& 63)) := by
  intro L st h k' L' st' h' hf
  unfold ia_lsh at hf
  split at hf
  · cases hf
    refine ⟨Nat.le_refl _, Nat.le_refl _, ?_⟩
    intro p l e R s m args below meth c D z b sc H0 nx0 sn0 Q C hn hs hcl hsl F H locs ls r S lh
    have w := F H locs ls r S lh
    rw [A.1] at w
    exact lv_lshl C.1 C.2.1 A.2 rfl w
  · cases hf
theorem ok_lushr {t : is_M} {k : Nat} (A : is_At t k (.lushr) 1) : is_Ok t k (ia_lsh fun x y => (x.toUInt64 >>> (y.toInt64.toUInt64 &&& Int64.toUInt64 63)).toInt64) := by
  intro L st h k' L' st' h' hf
  unfold ia_lsh at hf
  split at hf
  · cases hf
    refine ⟨Nat.le_refl _, Nat.le_refl _, ?_⟩
    intro p l e R s m args below meth c D z b sc H0 nx0 sn0 Q C hn hs hcl hsl F H locs ls r S lh
    have w := F H locs ls r S lh
    rw [A.1] at w
    exact lv_lushr C.1 C.2.1 A.2 rfl w
  · cases hf
theorem ok_lcmp {t : is_M} {k : Nat} (A : is_At t k (.lcmp) 1) : is_Ok t k (ia_lcmp) := by
  intro L st h k' L' st' h' hf
  unfold ia_lcmp at hf
  split at hf
  · cases hf
    refine ⟨Nat.le_refl _, Nat.le_refl _, ?_⟩
    intro p l e R s m args below meth c D z b sc H0 nx0 sn0 Q C hn hs hcl hsl F H locs ls r S lh
    have w := F H locs ls r S lh
    rw [A.1] at w
    exact W.lcmp C.1 C.2.1 A.2 w
  · cases hf
theorem ok_i2l {t : is_M} {k : Nat} (A : is_At t k (.i2l) 1) : is_Ok t k (ia_i2l) := by
  intro L st h k' L' st' h' hf
  unfold ia_i2l at hf
  split at hf
  · cases hf
    refine ⟨Nat.le_refl _, Nat.le_refl _, ?_⟩
    intro p l e R s m args below meth c D z b sc H0 nx0 sn0 Q C hn hs hcl hsl F H locs ls r S lh
    have w := F H locs ls r S lh
    rw [A.1] at w
    exact lv_i2l C.1 C.2.1 A.2 rfl w
  · cases hf
theorem ok_l2i {t : is_M} {k : Nat} (A : is_At t k (.l2i) 1) : is_Ok t k (ia_l2i) := by
  intro L st h k' L' st' h' hf
  unfold ia_l2i at hf
  split at hf
  · cases hf
    refine ⟨Nat.le_refl _, Nat.le_refl _, ?_⟩
    intro p l e R s m args below meth c D z b sc H0 nx0 sn0 Q C hn hs hcl hsl F H locs ls r S lh
    have w := F H locs ls r S lh
    rw [A.1] at w
    exact lv_l2i C.1 C.2.1 A.2 rfl w
  · cases hf
theorem ok_i2b {t : is_M} {k : Nat} (A : is_At t k (.i2b) 1) : is_Ok t k (ia_i1 fun x => x.toInt8.toInt32) := by
  intro L st h k' L' st' h' hf
  unfold ia_i1 at hf
  split at hf
  · cases hf
    refine ⟨Nat.le_refl _, Nat.le_refl _, ?_⟩
    intro p l e R s m args below meth c D z b sc H0 nx0 sn0 Q C hn hs hcl hsl F H locs ls r S lh
    have w := F H locs ls r S lh
    rw [A.1] at w
    exact lv_i2b C.1 C.2.1 A.2 rfl w
  · cases hf
theorem ok_i2c {t : is_M} {k : Nat} (A : is_At t k (.i2c) 1) : is_Ok t k (ia_i1 fun x => (x.toUInt32 % 65536).toInt32) := by
  intro L st h k' L' st' h' hf
  unfold ia_i1 at hf
  split at hf
  · cases hf
    refine ⟨Nat.le_refl _, Nat.le_refl _, ?_⟩
    intro p l e R s m args below meth c D z b sc H0 nx0 sn0 Q C hn hs hcl hsl F H locs ls r S lh
    have w := F H locs ls r S lh
    rw [A.1] at w
    exact lv_i2c C.1 C.2.1 A.2 rfl w
  · cases hf
theorem ok_idiv {t : is_M} {k : Nat} (A : is_At t k .idiv 1) : is_Ok t k (ia_i2z fun x y => x / y) := by
  intro L st h k' L' st' h' hf
  unfold ia_i2z at hf
  split at hf
  · split at hf
    · cases hf
    · rename_i hne
      cases hf
      refine ⟨Nat.le_refl _, Nat.le_refl _, ?_⟩
      intro p l e R s m args below meth c D z b sc H0 nx0 sn0 Q C hn hs hcl hsl F H locs ls r S lh
      have w := F H locs ls r S lh
      rw [A.1] at w
      exact lv_idiv C.1 C.2.1 A.2 hne w
  · cases hf
theorem ok_irem {t : is_M} {k : Nat} (A : is_At t k .irem 1) : is_Ok t k (ia_i2z fun x y => x - x / y * y) := by
  intro L st h k' L' st' h' hf
  unfold ia_i2z at hf
  split at hf
  · split at hf
    · cases hf
    · rename_i hne
      cases hf
      refine ⟨Nat.le_refl _, Nat.le_refl _, ?_⟩
      intro p l e R s m args below meth c D z b sc H0 nx0 sn0 Q C hn hs hcl hsl F H locs ls r S lh
      have w := F H locs ls r S lh
      rw [A.1] at w
      exact lv_irem C.1 C.2.1 A.2 hne w
  · cases hf
theorem ok_iconst {t : is_M} {k : Nat} {n : Int} {v : Int32} (hv : Int32.ofInt n = v) (A : is_At t k (.iconst n) 1) : is_Ok t k (ia_const (.int v)) := by
  intro L st h k' L' st' h' hf
  unfold ia_const at hf
  cases hf
  refine ⟨Nat.le_refl _, Nat.le_refl _, ?_⟩
  intro p l e R s m args below meth c D z b sc H0 nx0 sn0 Q C hn hs hcl hsl F H locs ls r S lh
  have w := F H locs ls r S lh
  rw [A.1] at w
  exact lv_iconst C.1 C.2.1 A.2 hv w
theorem ok_bipush {t : is_M} {k : Nat} {n : Int} {v : Int32} (hv : (Int8.ofInt n).toInt32 = v) (A : is_At t k (.bipush n) 2) : is_Ok t k (ia_const (.int v)) := by
  intro L st h k' L' st' h' hf
  unfold ia_const at hf
  cases hf
  refine ⟨Nat.le_refl _, Nat.le_refl _, ?_⟩
  intro p l e R s m args below meth c D z b sc H0 nx0 sn0 Q C hn hs hcl hsl F H locs ls r S lh
  have w := F H locs ls r S lh
  rw [A.1] at w
  exact lv_bipush C.1 C.2.1 A.2 hv w
theorem ok_sipush {t : is_M} {k : Nat} {n : Int} {v : Int32} (hv : (Int16.ofInt n).toInt32 = v) (A : is_At t k (.sipush n) 3) : is_Ok t k (ia_const (.int v)) := by
  intro L st h k' L' st' h' hf
  unfold ia_const at hf
  cases hf
  refine ⟨Nat.le_refl _, Nat.le_refl _, ?_⟩
  intro p l e R s m args below meth c D z b sc H0 nx0 sn0 Q C hn hs hcl hsl F H locs ls r S lh
  have w := F H locs ls r S lh
  rw [A.1] at w
  exact lv_sipush C.1 C.2.1 A.2 hv w
theorem ok_lconst {t : is_M} {k : Nat} {n : Fin 2} {v : Int64} (hv : Int64.ofNat (n : Nat) = v) (A : is_At t k (.lconst n) 1) : is_Ok t k (ia_const (.long v)) := by
  intro L st h k' L' st' h' hf
  unfold ia_const at hf
  cases hf
  refine ⟨Nat.le_refl _, Nat.le_refl _, ?_⟩
  intro p l e R s m args below meth c D z b sc H0 nx0 sn0 Q C hn hs hcl hsl F H locs ls r S lh
  have w := F H locs ls r S lh
  rw [A.1] at w
  exact lv_lconst C.1 C.2.1 A.2 hv w
theorem ok_ldcw {t : is_M} {k : Nat} {index : Nat} {v : Int32} (hc : Cond.constant t.1.cls index v ∈ cb_gw) (A : is_At t k (.ldc_w index) 3) : is_Ok t k (ia_const (.int v)) := by
  intro L st h k' L' st' h' hf
  unfold ia_const at hf
  cases hf
  refine ⟨Nat.le_refl _, Nat.le_refl _, ?_⟩
  intro p l e R s m args below meth c D z b sc H0 nx0 sn0 Q C hn hs hcl hsl F H locs ls r S lh
  have w := F H locs ls r S lh
  rw [A.1] at w
  exact lv_ldcw C.1 C.2.1 C.2.2.2.1 (C.2.2.2.2.1 _ hc) A.2 w
theorem ok_ldc2 {t : is_M} {k : Nat} {index : Nat} {v : Int64} (hc : Cond.constantLong t.1.cls index v ∈ cb_gw) (A : is_At t k (.ldc2_w index) 3) : is_Ok t k (ia_const (.long v)) := by
  intro L st h k' L' st' h' hf
  unfold ia_const at hf
  cases hf
  refine ⟨Nat.le_refl _, Nat.le_refl _, ?_⟩
  intro p l e R s m args below meth c D z b sc H0 nx0 sn0 Q C hn hs hcl hsl F H locs ls r S lh
  have w := F H locs ls r S lh
  rw [A.1] at w
  exact lv_ldc2 C.1 C.2.1 C.2.2.2.1 (C.2.2.2.2.1 _ hc) A.2 w
theorem ok_iload_n {t : is_M} {k : Nat} {i : Fin 4} {j : Nat} (hj : (i : Nat) = j) (A : is_At t k (.iload_n i) 1) : is_Ok t k (ia_iload j) := by
  intro L st h k' L' st' h' hf
  unfold ia_iload at hf
  split at hf
  · rename_i x hv
    cases hf
    refine ⟨Nat.le_refl _, Nat.le_refl _, ?_⟩
    intro p l e R s m args below meth c D z b sc H0 nx0 sn0 Q C hn hs hcl hsl F H locs ls r S lh
    have w := F H locs ls r S lh
    rw [A.1] at w
    exact lv_iload_n C.1 C.2.1 A.2 hj (lh.2.2.2 _ _ hv (fun g => by cases g)) w
  · cases hf
theorem ok_iload {t : is_M} {k : Nat} {j : Nat} (A : is_At t k (.iload j) 2) : is_Ok t k (ia_iload j) := by
  intro L st h k' L' st' h' hf
  unfold ia_iload at hf
  split at hf
  · rename_i x hv
    cases hf
    refine ⟨Nat.le_refl _, Nat.le_refl _, ?_⟩
    intro p l e R s m args below meth c D z b sc H0 nx0 sn0 Q C hn hs hcl hsl F H locs ls r S lh
    have w := F H locs ls r S lh
    rw [A.1] at w
    exact lv_iload C.1 C.2.1 A.2 (lh.2.2.2 _ _ hv (fun g => by cases g)) w
  · cases hf
theorem ok_lload_n {t : is_M} {k : Nat} {i : Fin 4} {j : Nat} (hj : (i : Nat) = j) (A : is_At t k (.lload_n i) 1) : is_Ok t k (ia_lload j) := by
  intro L st h k' L' st' h' hf
  unfold ia_lload at hf
  split at hf
  · rename_i x hv hv2
    cases hf
    refine ⟨Nat.le_refl _, Nat.le_refl _, ?_⟩
    intro p l e R s m args below meth c D z b sc H0 nx0 sn0 Q C hn hs hcl hsl F H locs ls r S lh
    have w := F H locs ls r S lh
    rw [A.1] at w
    exact lv_lload_n C.1 C.2.1 A.2 hj (lh.2.2.2 _ _ hv (fun _ => hv2)) w
  · cases hf
theorem ok_lload {t : is_M} {k : Nat} {j : Nat} (A : is_At t k (.lload j) 2) : is_Ok t k (ia_lload j) := by
  intro L st h k' L' st' h' hf
  unfold ia_lload at hf
  split at hf
  · rename_i x hv hv2
    cases hf
    refine ⟨Nat.le_refl _, Nat.le_refl _, ?_⟩
    intro p l e R s m args below meth c D z b sc H0 nx0 sn0 Q C hn hs hcl hsl F H locs ls r S lh
    have w := F H locs ls r S lh
    rw [A.1] at w
    exact lv_lload C.1 C.2.1 A.2 (lh.2.2.2 _ _ hv (fun _ => hv2)) w
  · cases hf
theorem ok_aload_n {t : is_M} {k : Nat} {i : Fin 4} {j : Nat} (hj : (i : Nat) = j) (A : is_At t k (.aload_n i) 1) : is_Ok t k (ia_aload j) := by
  intro L st h k' L' st' h' hf
  unfold ia_aload at hf
  split at hf
  · rename_i x hv
    cases hf
    refine ⟨Nat.le_refl _, Nat.le_refl _, ?_⟩
    intro p l e R s m args below meth c D z b sc H0 nx0 sn0 Q C hn hs hcl hsl F H locs ls r S lh
    have w := F H locs ls r S lh
    rw [A.1] at w
    exact lv_aload_n C.1 C.2.1 A.2 hj (lh.2.2.2 _ _ hv (fun g => by cases g)) w
  · rename_i hv
    cases hf
    refine ⟨Nat.le_refl _, Nat.le_refl _, ?_⟩
    intro p l e R s m args below meth c D z b sc H0 nx0 sn0 Q C hn hs hcl hsl F H locs ls r S lh
    have w := F H locs ls r S lh
    rw [A.1] at w
    exact lv_aload_nN C.1 C.2.1 A.2 hj (lh.2.2.2 _ _ hv (fun g => by cases g)) w
  · rename_i x hv
    cases hf
    refine ⟨Nat.le_refl _, Nat.le_refl _, ?_⟩
    intro p l e R s m args below meth c D z b sc H0 nx0 sn0 Q C hn hs hcl hsl F H locs ls r S lh
    have w := F H locs ls r S lh
    rw [A.1] at w
    exact lv_aload_n C.1 C.2.1 A.2 hj (lh.2.2.2 _ _ hv (fun g => by cases g)) w
  · cases hf
theorem ok_aload {t : is_M} {k : Nat} {j : Nat} (A : is_At t k (.aload j) 2) : is_Ok t k (ia_aload j) := by
  intro L st h k' L' st' h' hf
  unfold ia_aload at hf
  split at hf
  · rename_i x hv
    cases hf
    refine ⟨Nat.le_refl _, Nat.le_refl _, ?_⟩
    intro p l e R s m args below meth c D z b sc H0 nx0 sn0 Q C hn hs hcl hsl F H locs ls r S lh
    have w := F H locs ls r S lh
    rw [A.1] at w
    exact lv_aload C.1 C.2.1 A.2 (lh.2.2.2 _ _ hv (fun g => by cases g)) w
  · rename_i hv
    cases hf
    refine ⟨Nat.le_refl _, Nat.le_refl _, ?_⟩
    intro p l e R s m args below meth c D z b sc H0 nx0 sn0 Q C hn hs hcl hsl F H locs ls r S lh
    have w := F H locs ls r S lh
    rw [A.1] at w
    exact lv_aloadN C.1 C.2.1 A.2 (lh.2.2.2 _ _ hv (fun g => by cases g)) w
  · rename_i x hv
    cases hf
    refine ⟨Nat.le_refl _, Nat.le_refl _, ?_⟩
    intro p l e R s m args below meth c D z b sc H0 nx0 sn0 Q C hn hs hcl hsl F H locs ls r S lh
    have w := F H locs ls r S lh
    rw [A.1] at w
    exact lv_aload C.1 C.2.1 A.2 (lh.2.2.2 _ _ hv (fun g => by cases g)) w
  · cases hf
theorem ok_istore_n {t : is_M} {k : Nat} {i : Fin 4} {j : Nat} (hj : (i : Nat) = j) (A : is_At t k (.istore_n i) 1) : is_Ok t k (ia_istore j) := by
  intro L st h k' L' st' h' hf
  unfold ia_istore at hf
  split at hf
  · split at hf
    · rename_i hi
      cases hf
      refine ⟨Nat.le_refl _, Nat.le_refl _, ?_⟩
      intro p l e R s m args below meth c D z b sc H0 nx0 sn0 Q C hn hs hcl hsl F H locs ls r S lh
      refine lv_istore_n C.1 C.2.1 A.2 hj lh.has (by rw [← lh.2.1]; exact hi) rfl (fun ls' h' => ?_)
      have w := F H locs ls' r S (lh.set1 rfl h')
      rw [A.1] at w
      exact w
    · cases hf
  · cases hf
theorem ok_istore {t : is_M} {k : Nat} {j : Nat} (A : is_At t k (.istore j) 2) : is_Ok t k (ia_istore j) := by
  intro L st h k' L' st' h' hf
  unfold ia_istore at hf
  split at hf
  · split at hf
    · rename_i hi
      cases hf
      refine ⟨Nat.le_refl _, Nat.le_refl _, ?_⟩
      intro p l e R s m args below meth c D z b sc H0 nx0 sn0 Q C hn hs hcl hsl F H locs ls r S lh
      refine lv_istore C.1 C.2.1 A.2 lh.has (by rw [← lh.2.1]; exact hi) rfl (fun ls' h' => ?_)
      have w := F H locs ls' r S (lh.set1 rfl h')
      rw [A.1] at w
      exact w
    · cases hf
  · cases hf
theorem ok_lstore_n {t : is_M} {k : Nat} {i : Fin 4} {j : Nat} (hj : (i : Nat) = j) (A : is_At t k (.lstore_n i) 1) : is_Ok t k (ia_lstore j) := by
  intro L st h k' L' st' h' hf
  unfold ia_lstore at hf
  split at hf
  · split at hf
    · rename_i hi
      cases hf
      refine ⟨Nat.le_refl _, Nat.le_refl _, ?_⟩
      intro p l e R s m args below meth c D z b sc H0 nx0 sn0 Q C hn hs hcl hsl F H locs ls r S lh
      refine lv_lstore_n C.1 C.2.1 A.2 hj lh.has (by rw [← lh.2.1]; exact hi) rfl (fun ls' h' => ?_)
      have w := F H locs ls' r S (lh.set2 h')
      rw [A.1] at w
      exact w
    · cases hf
  · cases hf
theorem ok_lstore {t : is_M} {k : Nat} {j : Nat} (A : is_At t k (.lstore j) 2) : is_Ok t k (ia_lstore j) := by
  intro L st h k' L' st' h' hf
  unfold ia_lstore at hf
  split at hf
  · split at hf
    · rename_i hi
      cases hf
      refine ⟨Nat.le_refl _, Nat.le_refl _, ?_⟩
      intro p l e R s m args below meth c D z b sc H0 nx0 sn0 Q C hn hs hcl hsl F H locs ls r S lh
      refine lv_lstore C.1 C.2.1 A.2 lh.has (by rw [← lh.2.1]; exact hi) rfl (fun ls' h' => ?_)
      have w := F H locs ls' r S (lh.set2 h')
      rw [A.1] at w
      exact w
    · cases hf
  · cases hf
theorem ok_astore_n {t : is_M} {k : Nat} {i : Fin 4} {j : Nat} (hj : (i : Nat) = j) (A : is_At t k (.astore_n i) 1) : is_Ok t k (ia_astore j) := by
  intro L st h k' L' st' h' hf
  unfold ia_astore at hf
  split at hf
  · split at hf
    · rename_i hi
      cases hf
      refine ⟨Nat.le_refl _, Nat.le_refl _, ?_⟩
      intro p l e R s m args below meth c D z b sc H0 nx0 sn0 Q C hn hs hcl hsl F H locs ls r S lh
      refine lv_astore_n C.1 C.2.1 A.2 hj lh.has (by rw [← lh.2.1]; exact hi) rfl (fun ls' h' => ?_)
      have w := F H locs ls' r S (lh.set1 rfl h')
      rw [A.1] at w
      exact w
    · cases hf
  · split at hf
    · rename_i hi
      cases hf
      refine ⟨Nat.le_refl _, Nat.le_refl _, ?_⟩
      intro p l e R s m args below meth c D z b sc H0 nx0 sn0 Q C hn hs hcl hsl F H locs ls r S lh
      refine lv_astore_nN C.1 C.2.1 A.2 hj lh.has (by rw [← lh.2.1]; exact hi) rfl (fun ls' h' => ?_)
      have w := F H locs ls' r S (lh.set1 rfl h')
      rw [A.1] at w
      exact w
    · cases hf
  · cases hf
theorem ok_astore {t : is_M} {k : Nat} {j : Nat} (A : is_At t k (.astore j) 2) : is_Ok t k (ia_astore j) := by
  intro L st h k' L' st' h' hf
  unfold ia_astore at hf
  split at hf
  · split at hf
    · rename_i hi
      cases hf
      refine ⟨Nat.le_refl _, Nat.le_refl _, ?_⟩
      intro p l e R s m args below meth c D z b sc H0 nx0 sn0 Q C hn hs hcl hsl F H locs ls r S lh
      refine lv_astore C.1 C.2.1 A.2 lh.has (by rw [← lh.2.1]; exact hi) rfl (fun ls' h' => ?_)
      have w := F H locs ls' r S (lh.set1 rfl h')
      rw [A.1] at w
      exact w
    · cases hf
  · split at hf
    · rename_i hi
      cases hf
      refine ⟨Nat.le_refl _, Nat.le_refl _, ?_⟩
      intro p l e R s m args below meth c D z b sc H0 nx0 sn0 Q C hn hs hcl hsl F H locs ls r S lh
      refine lv_astoreN C.1 C.2.1 A.2 lh.has (by rw [← lh.2.1]; exact hi) rfl (fun ls' h' => ?_)
      have w := F H locs ls' r S (lh.set1 rfl h')
      rw [A.1] at w
      exact w
    · cases hf
  · cases hf
theorem ok_iinc {t : is_M} {k : Nat} {j : Nat} {n : Int} (A : is_At t k (.iinc j n) 3) : is_Ok t k (ia_iinc j n) := by
  intro L st h k' L' st' h' hf
  unfold ia_iinc at hf
  split at hf
  · rename_i x hv
    cases hf
    refine ⟨Nat.le_refl _, Nat.le_refl _, ?_⟩
    intro p l e R s m args below meth c D z b sc H0 nx0 sn0 Q C hn hs hcl hsl F H locs ls r S lh
    obtain ⟨i, hi⟩ := List.getElem?_of_mem (is_lv_of (z := z) (b := b) hv (fun g => by cases g))
    refine lv_iinc C.1 C.2.1 A.2 lh.has hi rfl (by rw [← lh.2.1]; exact (List.getElem?_eq_some_iff.mp hv).1) rfl (fun ls' h' => ?_)
    have w := F H locs ls' r S (lh.set1 (v := .int (x + Int32.ofInt n)) rfl h')
    rw [A.1] at w
    exact w
  · cases hf
theorem ok_dup {t : is_M} {k : Nat} (A : is_At t k .dup 1) : is_Ok t k ia_dup := by
  intro L st h k' L' st' h' hf
  unfold ia_dup at hf
  split at hf
  · split at hf
    · rename_i hc
      cases hf
      refine ⟨Nat.le_refl _, Nat.le_refl _, ?_⟩
      intro p l e R s m args below meth c D z b sc H0 nx0 sn0 Q C hn hs hcl hsl F H locs ls r S lh
      have w := F H locs ls r S lh
      rw [A.1] at w
      exact lv_dup C.1 C.2.1 A.2 ((is_cat z b _).trans hc) w
    · cases hf
  · cases hf
theorem ok_pop {t : is_M} {k : Nat} (A : is_At t k .pop 1) : is_Ok t k ia_pop := by
  intro L st h k' L' st' h' hf
  unfold ia_pop at hf
  split at hf
  · split at hf
    · rename_i hc
      cases hf
      refine ⟨Nat.le_refl _, Nat.le_refl _, ?_⟩
      intro p l e R s m args below meth c D z b sc H0 nx0 sn0 Q C hn hs hcl hsl F H locs ls r S lh
      have w := F H locs ls r S lh
      rw [A.1] at w
      exact lv_pop C.1 C.2.1 A.2 ((is_cat z b _).trans hc) w
    · cases hf
  · cases hf
theorem ok_dupx1 {t : is_M} {k : Nat} (A : is_At t k .dup_x1 1) : is_Ok t k ia_dupx1 := by
  intro L st h k' L' st' h' hf
  unfold ia_dupx1 at hf
  split at hf
  · split at hf
    · rename_i hc
      cases hf
      refine ⟨Nat.le_refl _, Nat.le_refl _, ?_⟩
      intro p l e R s m args below meth c D z b sc H0 nx0 sn0 Q C hn hs hcl hsl F H locs ls r S lh
      have w := F H locs ls r S lh
      rw [A.1] at w
      exact lv_dup_x1 C.1 C.2.1 A.2 ((is_cat z b _).trans hc.1) ((is_cat z b _).trans hc.2) w
    · cases hf
  · cases hf
theorem ok_dup2 {t : is_M} {k : Nat} (A : is_At t k .dup2 1) : is_Ok t k ia_dup2 := by
  intro L st h k' L' st' h' hf
  unfold ia_dup2 at hf
  split at hf
  · split at hf
    · rename_i hc
      cases hf
      refine ⟨Nat.le_refl _, Nat.le_refl _, ?_⟩
      intro p l e R s m args below meth c D z b sc H0 nx0 sn0 Q C hn hs hcl hsl F H locs ls r S lh
      have w := F H locs ls r S lh
      rw [A.1] at w
      exact lv_dup2_11 C.1 C.2.1 A.2 ((is_cat z b _).trans hc.1) ((is_cat z b _).trans hc.2) w
    · cases hf
  · cases hf
theorem ok_goto {t : is_M} {k tgt : Nat} {off : Int} (A : decode (is_cc t) (is_pc t k) = .ok (.goto off, 3)) (J : is_To t k off tgt) : is_Ok t k (ia_goto tgt) := by
  intro L st h k' L' st' h' hf
  unfold ia_goto at hf
  cases hf
  refine ⟨Nat.le_refl _, Nat.le_refl _, ?_⟩
  intro p l e R s m args below meth c D z b sc H0 nx0 sn0 Q C hn hs hcl hsl F H locs ls r S lh
  exact lv_goto C.1 C.2.1 A J (F H locs ls r S lh)
theorem ok_ifeq {t : is_M} {k tgt : Nat} {off : Int} (A : is_At t k (.ifCond .eq off) 3) (J : is_To t k off tgt) : is_Ok t k (ia_ifeq tgt) := by
  intro L st h k' L' st' h' hf
  unfold ia_ifeq at hf
  split at hf
  · cases hf
    refine ⟨Nat.le_refl _, Nat.le_refl _, ?_⟩
    intro p l e R s m args below meth c D z b sc H0 nx0 sn0 Q C hn hs hcl hsl F H locs ls r S lh
    have w := F H locs ls r S lh
    refine lv_if_eq C.1 C.2.1 A.2 J (fun q => ?_) (fun q => ?_)
    · rw [if_pos q] at w
      exact w
    · rw [if_neg q, A.1] at w
      exact w
  · cases hf
theorem ok_ifne {t : is_M} {k tgt : Nat} {off : Int} (A : is_At t k (.ifCond .ne off) 3) (J : is_To t k off tgt) : is_Ok t k (ia_ifne tgt) := by
  intro L st h k' L' st' h' hf
  unfold ia_ifne at hf
  split at hf
  · cases hf
    refine ⟨Nat.le_refl _, Nat.le_refl _, ?_⟩
    intro p l e R s m args below meth c D z b sc H0 nx0 sn0 Q C hn hs hcl hsl F H locs ls r S lh
    have w := F H locs ls r S lh
    refine lv_if_ne C.1 C.2.1 A.2 J (fun q => ?_) (fun q => ?_)
    · rw [if_neg q] at w
      exact w
    · rw [if_pos q, A.1] at w
      exact w
  · cases hf
theorem ok_iflt {t : is_M} {k tgt : Nat} {off : Int} (A : is_At t k (.ifCond .lt off) 3) (J : is_To t k off tgt) : is_Ok t k (ia_iflt tgt) := by
  intro L st h k' L' st' h' hf
  unfold ia_iflt at hf
  split at hf
  · cases hf
    refine ⟨Nat.le_refl _, Nat.le_refl _, ?_⟩
    intro p l e R s m args below meth c D z b sc H0 nx0 sn0 Q C hn hs hcl hsl F H locs ls r S lh
    have w := F H locs ls r S lh
    refine lv_if_lt C.1 C.2.1 A.2 J (fun q => ?_) (fun q => ?_)
    · rw [if_pos q] at w
      exact w
    · rw [if_neg q, A.1] at w
      exact w
  · cases hf
theorem ok_ifge {t : is_M} {k tgt : Nat} {off : Int} (A : is_At t k (.ifCond .ge off) 3) (J : is_To t k off tgt) : is_Ok t k (ia_ifge tgt) := by
  intro L st h k' L' st' h' hf
  unfold ia_ifge at hf
  split at hf
  · cases hf
    refine ⟨Nat.le_refl _, Nat.le_refl _, ?_⟩
    intro p l e R s m args below meth c D z b sc H0 nx0 sn0 Q C hn hs hcl hsl F H locs ls r S lh
    have w := F H locs ls r S lh
    refine lv_if_ge C.1 C.2.1 A.2 J (fun q => ?_) (fun q => ?_)
    · rw [if_pos q] at w
      exact w
    · rw [if_neg q, A.1] at w
      exact w
  · cases hf
theorem ok_ifgt {t : is_M} {k tgt : Nat} {off : Int} (A : is_At t k (.ifCond .gt off) 3) (J : is_To t k off tgt) : is_Ok t k (ia_ifgt tgt) := by
  intro L st h k' L' st' h' hf
  unfold ia_ifgt at hf
  split at hf
  · cases hf
    refine ⟨Nat.le_refl _, Nat.le_refl _, ?_⟩
    intro p l e R s m args below meth c D z b sc H0 nx0 sn0 Q C hn hs hcl hsl F H locs ls r S lh
    have w := F H locs ls r S lh
    refine lv_if_gt C.1 C.2.1 A.2 J (fun q => ?_) (fun q => ?_)
    · rw [if_pos q] at w
      exact w
    · rw [if_neg q, A.1] at w
      exact w
  · cases hf
theorem ok_ifle {t : is_M} {k tgt : Nat} {off : Int} (A : is_At t k (.ifCond .le off) 3) (J : is_To t k off tgt) : is_Ok t k (ia_ifle tgt) := by
  intro L st h k' L' st' h' hf
  unfold ia_ifle at hf
  split at hf
  · cases hf
    refine ⟨Nat.le_refl _, Nat.le_refl _, ?_⟩
    intro p l e R s m args below meth c D z b sc H0 nx0 sn0 Q C hn hs hcl hsl F H locs ls r S lh
    have w := F H locs ls r S lh
    refine lv_if_le C.1 C.2.1 A.2 J (fun q => ?_) (fun q => ?_)
    · rw [if_pos q] at w
      exact w
    · rw [if_neg q, A.1] at w
      exact w
  · cases hf
theorem ok_ieq {t : is_M} {k tgt : Nat} {off : Int} (A : is_At t k (.if_icmp .eq off) 3) (J : is_To t k off tgt) : is_Ok t k (ia_ieq tgt) := by
  intro L st h k' L' st' h' hf
  unfold ia_ieq at hf
  split at hf
  · cases hf
    refine ⟨Nat.le_refl _, Nat.le_refl _, ?_⟩
    intro p l e R s m args below meth c D z b sc H0 nx0 sn0 Q C hn hs hcl hsl F H locs ls r S lh
    have w := F H locs ls r S lh
    refine lv_icmp_eq C.1 C.2.1 A.2 J (fun q => ?_) (fun q => ?_)
    · rw [if_pos q] at w
      exact w
    · rw [if_neg q, A.1] at w
      exact w
  · cases hf
theorem ok_ine {t : is_M} {k tgt : Nat} {off : Int} (A : is_At t k (.if_icmp .ne off) 3) (J : is_To t k off tgt) : is_Ok t k (ia_ine tgt) := by
  intro L st h k' L' st' h' hf
  unfold ia_ine at hf
  split at hf
  · cases hf
    refine ⟨Nat.le_refl _, Nat.le_refl _, ?_⟩
    intro p l e R s m args below meth c D z b sc H0 nx0 sn0 Q C hn hs hcl hsl F H locs ls r S lh
    have w := F H locs ls r S lh
    refine lv_icmp_ne C.1 C.2.1 A.2 J (fun q => ?_) (fun q => ?_)
    · rw [if_neg q] at w
      exact w
    · rw [if_pos q, A.1] at w
      exact w
  · cases hf
theorem ok_ilt {t : is_M} {k tgt : Nat} {off : Int} (A : is_At t k (.if_icmp .lt off) 3) (J : is_To t k off tgt) : is_Ok t k (ia_ilt tgt) := by
  intro L st h k' L' st' h' hf
  unfold ia_ilt at hf
  split at hf
  · cases hf
    refine ⟨Nat.le_refl _, Nat.le_refl _, ?_⟩
    intro p l e R s m args below meth c D z b sc H0 nx0 sn0 Q C hn hs hcl hsl F H locs ls r S lh
    have w := F H locs ls r S lh
    refine lv_icmp_lt C.1 C.2.1 A.2 J (fun q => ?_) (fun q => ?_)
    · rw [if_pos q] at w
      exact w
    · rw [if_neg q, A.1] at w
      exact w
  · cases hf
theorem ok_ige {t : is_M} {k tgt : Nat} {off : Int} (A : is_At t k (.if_icmp .ge off) 3) (J : is_To t k off tgt) : is_Ok t k (ia_ige tgt) := by
  intro L st h k' L' st' h' hf
  unfold ia_ige at hf
  split at hf
  · cases hf
    refine ⟨Nat.le_refl _, Nat.le_refl _, ?_⟩
    intro p l e R s m args below meth c D z b sc H0 nx0 sn0 Q C hn hs hcl hsl F H locs ls r S lh
    have w := F H locs ls r S lh
    refine lv_icmp_ge C.1 C.2.1 A.2 J (fun q => ?_) (fun q => ?_)
    · rw [if_pos q] at w
      exact w
    · rw [if_neg q, A.1] at w
      exact w
  · cases hf
theorem ok_igt {t : is_M} {k tgt : Nat} {off : Int} (A : is_At t k (.if_icmp .gt off) 3) (J : is_To t k off tgt) : is_Ok t k (ia_igt tgt) := by
  intro L st h k' L' st' h' hf
  unfold ia_igt at hf
  split at hf
  · cases hf
    refine ⟨Nat.le_refl _, Nat.le_refl _, ?_⟩
    intro p l e R s m args below meth c D z b sc H0 nx0 sn0 Q C hn hs hcl hsl F H locs ls r S lh
    have w := F H locs ls r S lh
    refine lv_icmp_gt C.1 C.2.1 A.2 J (fun q => ?_) (fun q => ?_)
    · rw [if_pos q] at w
      exact w
    · rw [if_neg q, A.1] at w
      exact w
  · cases hf
theorem ok_ile {t : is_M} {k tgt : Nat} {off : Int} (A : is_At t k (.if_icmp .le off) 3) (J : is_To t k off tgt) : is_Ok t k (ia_ile tgt) := by
  intro L st h k' L' st' h' hf
  unfold ia_ile at hf
  split at hf
  · cases hf
    refine ⟨Nat.le_refl _, Nat.le_refl _, ?_⟩
    intro p l e R s m args below meth c D z b sc H0 nx0 sn0 Q C hn hs hcl hsl F H locs ls r S lh
    have w := F H locs ls r S lh
    refine lv_icmp_le C.1 C.2.1 A.2 J (fun q => ?_) (fun q => ?_)
    · rw [if_pos q] at w
      exact w
    · rw [if_neg q, A.1] at w
      exact w
  · cases hf
theorem ok_nonnull {t : is_M} {k tgt : Nat} {off : Int} (A : is_At t k (.ifnonnull off) 3) (J : is_To t k off tgt) : is_Ok t k (ia_nonnull tgt) := by
  intro L st h k' L' st' h' hf
  unfold ia_nonnull at hf
  split at hf
  · cases hf
    refine ⟨Nat.le_refl _, Nat.le_refl _, ?_⟩
    intro p l e R s m args below meth c D z b sc H0 nx0 sn0 Q C hn hs hcl hsl F H locs ls r S lh
    exact lv_ifnonnull C.1 C.2.1 A.2 J (F H locs ls r S lh)
  · cases hf
    refine ⟨Nat.le_refl _, Nat.le_refl _, ?_⟩
    intro p l e R s m args below meth c D z b sc H0 nx0 sn0 Q C hn hs hcl hsl F H locs ls r S lh
    have w := F H locs ls r S lh
    rw [A.1] at w
    exact lv_ifnonnullN C.1 C.2.1 A.2 w
  · cases hf
theorem ok_sw {t : is_M} {k d n : Nat} {ts : List Nat} {dflt hi : Int} {offs : Array Int} (A : decode (is_cc t) (is_pc t k) = .ok (.tableswitch dflt 0 hi offs, n)) (hh : hi + 1 = ts.length) (Jd : is_To t k dflt d) (J : ∀ j, j < ts.length → ∃ off, offs[j]? = some off ∧ is_To t k off (ts.getD j d)) : is_Ok t k (ia_sw ts d) := by
  intro L st h k' L' st' h' hf
  unfold ia_sw at hf
  split at hf
  · rename_i x st1
    cases hf
    refine ⟨Nat.le_refl _, Nat.le_refl _, ?_⟩
    intro p l e R s m args below meth c D z b sc H0 nx0 sn0 Q C hn hs hcl hsl F H locs ls r S lh
    have w := F H locs ls r S lh
    by_cases hx : x.toInt < 0 ∨ (ts.length : Int) ≤ x.toInt
    · rw [if_pos hx] at w
      exact lv_tableOut C.1 C.2.1 A (by omega) Jd w
    · rw [if_neg hx] at w
      obtain ⟨off, h1, h2⟩ := J x.toInt.toNat (by omega)
      exact lv_tableIn C.1 C.2.1 A (by omega) (by omega) (by rw [Int.sub_zero]; exact h1) h2 w
  · cases hf
end
section
/-! the heap: what the reading and writing words say -/
theorem is_gI {h : ia_H} {ci a k : Nat} {x : Int32} (hg : ia_gI h ci a k = some x) : ∃ fs : List Value, ia_c h a = .inr (ci, fs) ∧ fs[k]? = some (.int x) := by
  unfold ia_gI at hg
  split at hg
  · rename_i c fs hc
    split at hg
    · rename_i he
      subst he
      split at hg
      · rename_i y hy
        cases hg
        exact ⟨fs, hc, hy⟩
      · cases hg
    · cases hg
  · cases hg
theorem is_gR {h : ia_H} {ci a k : Nat} {x : Nat} (hg : ia_gR h ci a k = some x) : ∃ fs : List Value, ia_c h a = .inr (ci, fs) ∧ fs[k]? = some (.ref x) := by
  unfold ia_gR at hg
  split at hg
  · rename_i c fs hc
    split at hg
    · rename_i he
      subst he
      split at hg
      · rename_i y hy
        cases hg
        exact ⟨fs, hc, hy⟩
      · cases hg
    · cases hg
  · cases hg
theorem is_pF {h h' : ia_H} {ci a k : Nat} {v : Value} (hg : ia_pF h ci a k v = some h') : ∃ fs : List Value, ia_c h a = .inr (ci, fs) ∧ k < fs.length ∧ h' = ia_up h a (.inr (ci, fs.set k v)) := by
  unfold ia_pF at hg
  split at hg
  · rename_i c fs hc
    split at hg
    · rename_i he
      obtain ⟨he, hk⟩ := he
      subst he
      cases hg
      exact ⟨fs, hc, hk, rfl⟩
    · cases hg
  · cases hg
theorem is_ld {h : ia_H} {t a : Nat} {i x : Int32} (hg : ia_ld h t a i = some x) : ∃ (n : Nat) (f : Nat → Int32), ia_c h a = .inl (t, n, .inl f) ∧ vp_in i n ∧ x = f i.toNatClampNeg := by
  unfold ia_ld at hg
  split at hg
  · rename_i t' n f hc
    split at hg
    · rename_i he
      obtain ⟨he, hk⟩ := he
      subst he
      cases hg
      exact ⟨n, f, hc, hk, rfl⟩
    · cases hg
  · cases hg
theorem is_st {h h' : ia_H} {t a : Nat} {i x : Int32} (hg : ia_st h t a i x = some h') : ∃ (n : Nat) (f : Nat → Int32), ia_c h a = .inl (t, n, .inl f) ∧ vp_in i n ∧ h' = ia_up h a (.inl (t, n, .inl (upd f i.toNatClampNeg x))) := by
  unfold ia_st at hg
  split at hg
  · rename_i t' n f hc
    split at hg
    · rename_i he
      obtain ⟨he, hk⟩ := he
      subst he
      cases hg
      exact ⟨n, f, hc, hk, rfl⟩
    · cases hg
  · cases hg
theorem is_ldL {h : ia_H} {a : Nat} {i : Int32} {x : Int64} (hg : ia_ldL h a i = some x) : ∃ (n : Nat) (f : Nat → Int64), ia_c h a = .inl (1, n, .inr (.inl f)) ∧ vp_in i n ∧ x = f i.toNatClampNeg := by
  unfold ia_ldL at hg
  split at hg
  · rename_i t' n f hc
    split at hg
    · rename_i he
      obtain ⟨he, hk⟩ := he
      subst he
      cases hg
      exact ⟨n, f, hc, hk, rfl⟩
    · cases hg
  · cases hg
theorem is_stL {h h' : ia_H} {a : Nat} {i : Int32} {x : Int64} (hg : ia_stL h a i x = some h') : ∃ (n : Nat) (f : Nat → Int64), ia_c h a = .inl (1, n, .inr (.inl f)) ∧ vp_in i n ∧ h' = ia_up h a (.inl (1, n, .inr (.inl (vp_updL f i.toNatClampNeg x)))) := by
  unfold ia_stL at hg
  split at hg
  · rename_i t' n f hc
    split at hg
    · rename_i he
      obtain ⟨he, hk⟩ := he
      subst he
      cases hg
      exact ⟨n, f, hc, hk, rfl⟩
    · cases hg
  · cases hg
theorem is_ldR {h : ia_H} {a : Nat} {i : Int32} {x : Option Nat} (hg : ia_ldR h a i = some x) : ∃ (n : Nat) (f : Nat → Option Nat), ia_c h a = .inl (4, n, .inr (.inr (.inr (.inr f)))) ∧ vp_in i n ∧ x = f i.toNatClampNeg := by
  unfold ia_ldR at hg
  split at hg
  · rename_i t' n f hc
    split at hg
    · rename_i he
      obtain ⟨he, hk⟩ := he
      subst he
      cases hg
      exact ⟨n, f, hc, hk, rfl⟩
    · cases hg
  · cases hg
theorem is_stR {h h' : ia_H} {a v : Nat} {i : Int32} (hg : ia_stR h a i v = some h') : ∃ (n : Nat) (f : Nat → Option Nat) (w : Value) (fs : List Value), ia_c h a = .inl (4, n, .inr (.inr (.inr (.inr f)))) ∧ ia_c h v = .inr (5, w :: fs) ∧ vp_in i n ∧ h' = ia_up h a (.inl (4, n, .inr (.inr (.inr (.inr (va_up f i.toNatClampNeg (some v))))))) := by
  unfold ia_stR at hg
  split at hg
  · rename_i t' n f c w fs hc hv
    split at hg
    · rename_i he
      obtain ⟨he, he2, hk⟩ := he
      subst he
      subst he2
      cases hg
      exact ⟨n, f, w, fs, hc, hv, hk, rfl⟩
    · cases hg
  · cases hg
theorem is_len {h : ia_H} {a : Nat} {x : Int32} (hg : ia_len h a = some x) : ∃ (t : Nat) (q : vp_A), ia_c h a = .inl (t, q) ∧ t < 5 ∧ Int32.ofNat q.1 = x := by
  unfold ia_len at hg
  split at hg
  · rename_i t' n q hc
    split at hg
    · rename_i he
      cases hg
      exact ⟨t', (n, q), hc, he, rfl⟩
    · cases hg
  · cases hg
theorem is_cp {h h' : ia_H} {a a1 : Nat} {sp dp n : Int32} (hg : ia_cp h a a1 sp dp n = some h') : ∃ (n0 n1 : Nat) (f g : Nat → Int32), ia_c h a = .inl (0, n0, .inl f) ∧ ia_c h a1 = .inl (0, n1, .inl g) ∧ ¬ sp < 0 ∧ ¬ dp < 0 ∧ ¬ n < 0 ∧ sp.toNatClampNeg + n.toNatClampNeg ≤ n0 ∧ dp.toNatClampNeg + n.toNatClampNeg ≤ n1 ∧ h' = ia_up h a1 (.inl (0, n1, .inl (va_cpy f g sp.toNatClampNeg dp.toNatClampNeg n.toNatClampNeg))) := by
  unfold ia_cp at hg
  split at hg
  · rename_i t0 n0 f t1 n1 g hc hc1
    split at hg
    · rename_i he
      obtain ⟨e0, e1, q1, q2, q3, q4, q5⟩ := he
      subst e0
      subst e1
      cases hg
      exact ⟨n0, n1, f, g, hc, hc1, q1, q2, q3, q4, q5, rfl⟩
    · cases hg
  · cases hg
/-! the relation -/
theorem is_Rl.lt {D : is_D} {z b : Nat} {sc : Nat × (Nat → Int32)} {h : ia_H} {H : Heap} (r : is_Rl D z b sc h H) {a : Nat} (hd : ia_c h a ≠ ia_dead) : a < h.1 := by
  rcases Nat.lt_or_ge a h.1 with q | q
  · exact q
  · exact absurd (r.2.2.1 a q) hd
theorem is_Rl.at {D : is_D} {z b : Nat} {sc : Nat × (Nat → Int32)} {h : ia_H} {H : Heap} (r : is_Rl D z b sc h H) {a : Nat} {e : ia_E} (he : ia_c h a = e) (hd : e ≠ ia_dead) : va_at D.1 cb_cl (z + a, is_E D z b e) H := by
  subst he
  exact r.2.1 a (r.lt hd)
theorem is_nd1 {q : Nat × vp_A} : (.inl q : ia_E) ≠ ia_dead := fun h => by cases h
theorem is_nd2 {c k : Nat} {fs : List Value} {v : Value} (h : fs[k]? = some v) : (.inr (c, fs) : ia_E) ≠ ia_dead := by
  intro e
  cases e
  cases h
theorem is_nd3 {c k : Nat} {fs : List Value} (h : k < fs.length) : (.inr (c, fs) : ia_E) ≠ ia_dead := by
  intro e
  cases e
  cases h
theorem is_Rl.up {D : is_D} {z b : Nat} {sc : Nat × (Nat → Int32)} {h : ia_H} {H H1 : Heap} (r : is_Rl D z b sc h H) {a : Nat} {e' : ia_E} (ha : a < h.1) (hv : va_at D.1 cb_cl (z + a, is_E D z b e') H1) (hz : H1.size = H.size) (oq : ∀ q : Nat, q ≠ z + a → H1[q]? = H[q]?) : is_Rl D z b sc (ia_up h a e') H1 := by
  refine ⟨hz.trans r.1, fun k hk => ?_, fun k hk => ?_, r.2.2.2⟩
  · by_cases e : k = a
    · subst e
      simp only [ia_c, ia_up, if_true]
      exact hv
    · simp only [ia_c, ia_up, if_neg e]
      exact va_at.kept (r.2.1 k hk) (oq (z + k) (by omega))
  · have : ¬ k = a := by have : h.1 ≤ k := hk; omega
    simp only [ia_c, ia_up, if_neg this]
    exact r.2.2.1 k hk
theorem is_Rl.new {D : is_D} {z b : Nat} {sc : Nat × (Nat → Int32)} {h : ia_H} {H H1 : Heap} (r : is_Rl D z b sc h H) {n : Nat} {e' : ia_E} (hv : va_at D.1 cb_cl (z + h.1, is_E D z b e') H1) (hz : H1.size = H.size + 1) (oq : ∀ q : Nat, q < H.size → H1[q]? = H[q]?) : is_Rl D z b sc (ia_new h n e') H1 := by
  refine ⟨by rw [hz, r.1]; rfl, fun k hk => ?_, fun k hk => ?_, r.2.2.2⟩
  · by_cases e : k = h.1
    · subst e
      simp only [ia_c, ia_new, if_true]
      exact hv
    · have hk' : k < h.1 := by have : k < h.1 + 1 := hk; omega
      simp only [ia_c, ia_new, if_neg e]
      exact va_at.kept (r.2.1 k hk') (oq (z + k) (by rw [r.1]; omega))
  · have hk' : h.1 + 1 ≤ k := hk
    have : ¬ k = h.1 := by omega
    simp only [ia_c, ia_new, if_neg this]
    exact r.2.2.1 k (by omega)
theorem is_S.put {z : Nat} {H0 H H1 : Heap} {locs : List Loc} {a k : Nat} (h : va_S (fun q => z ≤ q) H0 H locs) (hz : H1.size = H.size) (oq : ∀ q : Nat, q ≠ z + a → H1[q]? = H[q]?) : va_S (fun q => z ≤ q) H0 H1 (locs ++ [⟨z + a, k⟩]) := h.put hz oq (Nat.le_add_right z a)
theorem is_S.new {z : Nat} {H0 H H1 : Heap} {locs : List Loc} (h : va_S (fun q => z ≤ q) H0 H locs) (hz : H1.size = H.size + 1) (oq : ∀ q : Nat, q < H.size → H1[q]? = H[q]?) : va_S (fun q => z ≤ q) H0 H1 locs :=
  ⟨Nat.le_trans h.1 (by omega), fun q h1 h2 => (oq q (Nat.lt_of_lt_of_le h1 h.1)).trans (h.2.1 q h1 h2), h.2.2⟩
/-! fields -/
/-- the link of a field: among the good words, or a nest mate's -/
def is_fl (t : is_M) (index : Nat) (q : String × String × String × Bool) : Prop := Cond.fieldLink t.1.cls index q.1 q.2.1 q.2.2.1 ∈ cb_gw ∨ ∃ host, Cond.fieldLinkNest t.1.cls index q.1 q.2.1 q.2.2.1 host ∈ cb_nw
section ISH
variable {t : is_M} {p : Program} {l : Launch} {e : Env} {R : Room} {s : State} {m : MethodId} {args : Array Value} {below : List Frame} {meth : Method} {c : Code} {D : is_D} {z b : Nat} {sc : Nat × (Nat → Int32)} {H0 H : Heap} {locs : List Loc} {cells slots : Nat} {Q : State → Prop} {pc : Nat} {ls : Array Slot} {rest : List Value}
theorem is_get (C : is_Cx t p l R s m args meth c D z b sc H0) {h : ia_H} (r : is_Rl D z b sc h H) {ci a k : Nat} {fs : List Value} {v : Value} (he : ia_c h a = .inr (ci, fs)) (hv : fs[k]? = some v) {Cn : String} {T : u_T} {N index : Nat} (hc : cb_cl[ci]? = some (Cn, T, N)) (hin : ∀ w ∈ u_ws Cn T N, w ∈ cb_gw) (hk : k < N) (hl : is_fl t index (T k)) (hdg : decode (is_cc t) pc = .ok (.getfield index, 3))
    (kk : W p l e R s m args below meth c H locs cells slots Q (F0 m (pc + 3) ls (is_tr z b v :: rest))) : W p l e R s m args below meth c H locs cells slots Q (F0 m pc ls (.ref (z + a) :: rest)) := by
  obtain ⟨hx, hb, hml, hown, hts, hnw, hao, hK, hnm, hX, hbz, hzH, hRf, hRl, hLw⟩ := C
  have hat : va_P D.1 cb_cl [(z + a, .inr (ci, fs.map (is_tr z b)))] H := by
    intro k q hq
    have hz : k < 1 := (List.getElem?_eq_some_iff.mp hq).1
    rw [show k = 0 by omega] at hq
    cases hq
    exact r.at he (is_nd2 hv)
  have hv' : (fs.map (is_tr z b))[k]? = some (is_tr z b v) := by rw [List.getElem?_map, hv]; rfl
  rcases hl with hl | ⟨host, hl⟩
  · exact va_get hx hb hts hin hown hK hat 0 rfl hc k hk (hts _ hl) (fun _ h => h) hv' hdg kk
  · exact va_getN hx hb hts hin hown hK hat 0 rfl hc k hk (va_Nw.use rfl (hnw _ hl)) (fun _ h => h) hv' hdg kk
theorem is_put (C : is_Cx t p l R s m args meth c D z b sc H0) {h : ia_H} (r : is_Rl D z b sc h H) (S : va_S (fun q => z ≤ q) H0 H locs) {ci a k : Nat} {fs : List Value} {v : Value} (he : ia_c h a = .inr (ci, fs)) (hlen : k < fs.length) {Cn : String} {T : u_T} {N index : Nat} (hc : cb_cl[ci]? = some (Cn, T, N)) (hin : ∀ w ∈ u_ws Cn T N, w ∈ cb_gw) (ty0 : Nat → FieldType) (hty : ∀ k, k < N → parseFieldDescriptor (T k).2.2.1 = some (ty0 k)) (hnm : ∀ a, a < N → ∀ b, b < N → a ≠ b → (T a).2.1 ≠ (T b).2.1) (hk : k < N)
    (hl : (is_fl t index (T k) ∧ (T k).2.2.2 = false) ∨ (Cond.fieldLink t.1.cls index (T k).1 (T k).2.1 (T k).2.2.1 ∈ cb_gw ∧ (T k).2.2.2 = true ∧ t.1.name = "<init>" ∧ (T k).1 = t.1.cls)) (hn : narrow (ty0 k) (is_tr z b v) = is_tr z b v) (hfit : fits (ty0 k) (is_tr z b v) = true) (hdg : decode (is_cc t) pc = .ok (.putfield index, 3))
    (kk : ∀ (H1 : Heap) (locs1 : List Loc), is_Rl D z b sc (ia_up h a (.inr (ci, fs.set k v))) H1 → va_S (fun q => z ≤ q) H0 H1 locs1 → W p l e R s m args below meth c H1 locs1 cells slots Q (F0 m (pc + 3) ls rest)) : W p l e R s m args below meth c H locs cells slots Q (F0 m pc ls (is_tr z b v :: .ref (z + a) :: rest)) := by
  obtain ⟨hx, hb, hml, hown, hts, hnw, hao, hK, hname, hX, hbz, hzH, hRf, hRl, hLw⟩ := C
  have hap := va_apart (own := t.1.cls) hts hin ty0 hty hnm hK hc
  have hlt : a < h.1 := r.lt (by rw [he]; exact is_nd3 hlen)
  obtain ⟨r0, h1, cell, q1, q2, q3, q4⟩ := r.at he (is_nd3 hlen)
  have hr : r0 = (Cn, T, N) := Option.some.inj (h1.symm.trans hc)
  subst hr
  obtain ⟨hSl, hfc, kC, hkC, hkind⟩ := hK.1 ci _ hc
  obtain ⟨cf, kf, fi, f, hi, hsl⟩ := hSl k hk
  have hst := (u_facts hfc hkC (u_lays hts hin hk) hi).1
  have hd := hty k hk
  have fin : ∀ H' : Heap, H'[z + a]? = some (cell.setSlot f.slot (is_tr z b v)) → H'.size = H.size → (∀ q, q ≠ z + a → H'[q]? = H[q]?) → W p l e R s m args below meth c H' (locs ++ [⟨z + a, f.slot⟩]) cells slots Q (F0 m (pc + 3) ls rest) := by
    intro H' e1 e2 e3
    refine kk H' _ (r.up hlt ?_ e2 e3) (is_S.put S e2 e3)
    rw [hsl] at e1
    refine ⟨_, hc, t_OB.to (V := updV (vp_V (fs.map (is_tr z b))) k (is_tr z b v)) ⟨_, e1, q2, q3, t_set q4 hap hk _⟩ (fun j _ => ?_)⟩
    rw [vp_updV_set (by rw [List.length_map]; exact hlen), ← List.map_set]
  rcases hl with ⟨hl, hfin⟩ | ⟨hl, hfin, hin2, hdecl⟩
  · have hlay := hts _ (hin _ (u_in_lay hk))
    unfold u_lay at hlay
    rw [if_neg (by rw [hfin]; decide)] at hlay
    have h6 := u_store hfc hkC hkind hlay hi hd hn hfit
    rcases hl with hl | ⟨host, hl⟩
    · exact W.putK hx hb (f := f) ⟨hown, hts _ hl, ⟨_, _, _, hi⟩, hst⟩ (by rw [q2]; exact h6) q1 q3 (by rw [hsl]; exact k2_hasslot (q4 k hk)) rfl rfl hdg fin
    · exact va_WputK hx hb (f := f) hown (va_Nw.use rfl (hnw _ hl)) hi hst (by rw [q2]; exact h6) q1 q3 (by rw [hsl]; exact k2_hasslot (q4 k hk)) rfl rfl hdg fin
  · have hlay := hts _ (hin _ (u_in_lay hk))
    unfold u_lay at hlay
    rw [if_pos hfin] at hlay
    have hcf : m.cls = cf := by
      obtain ⟨_, _, c', _, _, _, -, -, hf', -, -, -, hown2, -⟩ := Cond.laysFinal_spec hlay
      have e1 : c' = cf := by have := hi.symm.trans hf'; simp at this; exact this.1.symm
      rw [hdecl] at hown2
      rw [← e1]; exact Option.some.inj (hown.symm.trans hown2)
    have h6 := u_fits hfc hkC hkind (Or.inr hlay) hi hd hn hfit
    exact W.putFinK hx hb hown (hts _ hl) hi hst hcf (hname.trans hin2) (by rw [q2]; exact h6) q1 q3 (by rw [hsl]; exact k2_hasslot (q4 k hk)) rfl rfl hdg fin
end ISH
theorem ok_getI {t : is_M} {k ci f : Nat} {Cn : String} {T : u_T} {N index : Nat} (hc : cb_cl[ci]? = some (Cn, T, N)) (hin : ∀ w ∈ u_ws Cn T N, w ∈ cb_gw) (hk : f < N) (hl : is_fl t index (T f)) (A : is_At t k (.getfield index) 3) : is_Ok t k (ia_getI ci f) := by
  intro L st h k' L' st' h' hf
  unfold ia_getI at hf
  split at hf
  · obtain ⟨x, hg, hf⟩ := Option.map_eq_some_iff.mp hf
    cases hf
    obtain ⟨fs, h1, h2⟩ := is_gI hg
    refine ⟨Nat.le_refl _, Nat.le_refl _, ?_⟩
    intro p l e R s m args below meth c D z b sc H0 nx0 sn0 Q C hn hs hcl hsl F H locs ls r S lh
    have w := F H locs ls r S lh
    rw [A.1] at w
    exact is_get C r h1 h2 hc hin hk hl A.2 w
  · cases hf
theorem ok_getR {t : is_M} {k ci f : Nat} {Cn : String} {T : u_T} {N index : Nat} (hc : cb_cl[ci]? = some (Cn, T, N)) (hin : ∀ w ∈ u_ws Cn T N, w ∈ cb_gw) (hk : f < N) (hl : is_fl t index (T f)) (A : is_At t k (.getfield index) 3) : is_Ok t k (ia_getR ci f) := by
  intro L st h k' L' st' h' hf
  unfold ia_getR at hf
  split at hf
  · obtain ⟨x, hg, hf⟩ := Option.map_eq_some_iff.mp hf
    cases hf
    obtain ⟨fs, h1, h2⟩ := is_gR hg
    refine ⟨Nat.le_refl _, Nat.le_refl _, ?_⟩
    intro p l e R s m args below meth c D z b sc H0 nx0 sn0 Q C hn hs hcl hsl F H locs ls r S lh
    have w := F H locs ls r S lh
    rw [A.1] at w
    exact is_get C r h1 h2 hc hin hk hl A.2 w
  · cases hf
/-- the link of a field that is written -/
def is_pl (t : is_M) (index : Nat) (q : String × String × String × Bool) : Prop := (is_fl t index q ∧ q.2.2.2 = false) ∨ (Cond.fieldLink t.1.cls index q.1 q.2.1 q.2.2.1 ∈ cb_gw ∧ q.2.2.2 = true ∧ t.1.name = "<init>" ∧ q.1 = t.1.cls)

theorem is_P1 {D : va_G} {cl : List vw_C} {q : Nat × va_E} {H : Heap} (h : va_at D cl q H) : va_P D cl [q] H := by
  intro k q' hq
  have hz : k < 1 := (List.getElem?_eq_some_iff.mp hq).1
  rw [show k = 0 by omega] at hq
  cases hq
  exact h
/-- the words of a stack -/
theorem is_w_sum (z b : Nat) (st : List Value) : ((st.map (is_tr z b)).map fun v => v.category).sum = ia_w st := by
  induction st with
  | nil => rfl
  | cons v st ih =>
    simp only [List.map_cons, List.sum_cons, ia_w, ih, is_cat]
section ISC
variable {p : Program} {l : Launch} {e : Env} {R : Room} {s : State} {m : MethodId} {args : Array Value} {below : List Frame} {meth : Method} {c : Code} {H : Heap} {locs : List Loc} {cells slots : Nat} {Q : State → Prop} {cc : ByteArray} {pc : Nat} {ls : Array Slot} {rest : List Value}
theorem is_copyi (hexec : p.tables.exec = Jvm.exec) (hb : c.code = cc) (hml : c.maxLocals = ls.size) {own : String} {index : Nat} (hown : s.vm.findClass own = some m.cls) (hlink : (Cond.methodLink own index arraycopyName).before args s = true) (hnat : (Cond.native arraycopyName).before args s = true) (hstat : (Cond.static arraycopyName).before args s = true) (hini : (Cond.initialized "java/lang/System").before args s = true)
    {a0 a : Nat} {cI : ClassId} {n0 n1 : Nat} {f g : Nat → Int32} (harr : ArrOfT s cI .int) (hc0 : H[a0]? = some (vp_cell cI (n0, .inl f))) (hc1 : H[a]? = some (vp_cell cI (n1, .inl g)))
    {sp dp n : Int32} (h1 : ¬ sp < 0) (h2 : ¬ dp < 0) (h3 : ¬ n < 0) (h4 : sp.toNatClampNeg + n.toNatClampNeg ≤ n0) (h5 : dp.toNatClampNeg + n.toNatClampNeg ≤ n1)
    (hframes : 1 ≤ R.frames) (hlocals : (rest.map fun v => v.category).sum + (nativeFrameWords "java/lang/System" "arraycopy" 5 + 11) ≤ R.locals) (hdg : decode cc pc = .ok (.invokestatic index, 3))
    (kk : ∀ (H1 : Heap) (L1 : List Loc), H1[a]? = some (vp_cell cI (n1, .inl (va_cpy f g sp.toNatClampNeg dp.toNatClampNeg n.toNatClampNeg))) → H1.size = H.size → (∀ q : Nat, q ≠ a → H1[q]? = H[q]?) → (∀ q ∈ L1, q.base = a) → W p l e R s m args below meth c H1 (locs ++ L1) cells slots Q (F0 m (pc + 3) ls rest)) : W p l e R s m args below meth c H locs cells slots Q (F0 m pc ls (.int n :: .int dp :: .ref a :: .int sp :: .ref a0 :: rest)) := by
  have nn : ∀ z : Int32, ¬ z < 0 → z.toInt = (z.toNatClampNeg : Int) := by
    intro z hz
    have hz0 : (0 : Int) ≤ z.toInt := by
      have := Int32.not_lt.mp hz
      simpa using Int32.le_iff_toInt_le.mp this
    show z.toInt = ((z.toInt.toNat : Nat) : Int)
    omega
  intro T hT X
  obtain ⟨-, k0, hk0, cm0, hkk0⟩ := harr n0 (fun j => .int (f j))
  obtain ⟨-, k1, hk1, cm1, hkk1⟩ := harr n1 (fun j => .int (g j))
  obtain ⟨vm', X', step⟩ := X.arraycopy hexec hown hlink hnat hstat hini (src := a0) (dst := a) (cs := vp_cell cI (n0, .inl f)) (cd := vp_cell cI (n1, .inl g)) (srcPos := sp) (destPos := dp) (n := n) (by rw [hT]; exact hc0) (by rw [hT]; exact hc1)
    (fun _ h => by cases h) (fun _ h => by cases h) (fun h => by cases h) (fun h => by cases h) hk0 hk1 hkk0 hkk1 (by simp [refKind]) h1 h2 h3
    (by rw [nn sp h1, nn n h3]; show ¬ _ > ((arrV cI n0 (fun j => .int (f j))).slots.size : Int); rw [arrV_size]; omega)
    (by rw [nn dp h2, nn n h3]; show ¬ _ > ((arrV cI n1 (fun j => .int (g j))).slots.size : Int); rw [arrV_size]; omega)
    (fun vm₁ _ i hi => by
      have e : (vp_cell cI (n0, .inl f)).slots.getD (sp.toNatClampNeg + i) .null = .int (f (sp.toNatClampNeg + i)) := by
        show (arrV cI n0 (fun j => .int (f j))).slots.getD _ _ = _
        rw [Array.getD_eq_getD_getElem?, arrV_read _ _ (by omega)]
        rfl
      refine ⟨?_, ?_⟩
      · rw [e]
        rfl
      · rw [e]
        exact trivial)
    (g := F0 m pc ls (.int n :: .int dp :: .ref a :: .int sp :: .ref a0 :: rest)) rfl (by rw [hml]) (rest := rest) rfl (by rw [hb]; exact hdg) hframes (by show 2 * 0 + _ + _ ≤ _; omega)
  have e1 : copied (vp_cell cI (n0, .inl f)) (vp_cell cI (n1, .inl g)) sp dp n = vp_cell cI (n1, .inl (va_cpy f g sp.toNatClampNeg dp.toNatClampNeg n.toNatClampNeg)) := va_copied (fun z => .int z) cI cI f g h4
  rw [e1] at X' step
  have hl : a < H.size := (Array.getElem?_eq_some_iff.mp hc1).1
  have hheap : ((T.setVm vm').setCell a (vp_cell cI (n1, .inl (va_cpy f g sp.toNatClampNeg dp.toNatClampNeg n.toNatClampNeg)))).heap = H.setIfInBounds a (vp_cell cI (n1, .inl (va_cpy f g sp.toNatClampNeg dp.toNatClampNeg n.toNatClampNeg))) := by rw [← hT]; rfl
  obtain ⟨t, a1, b1⟩ := kk _ _ (show (H.setIfInBounds a _)[a]? = some _ by simp [Array.getElem?_setIfInBounds, hl]) (by simp) (fun q hq => by simp [Array.getElem?_setIfInBounds, Ne.symm hq]) (fun q hq => by
      obtain ⟨z, -, hz⟩ := List.mem_map.mp hq
      rw [← hz]) _ hheap X'
  exact ⟨t, step t a1, b1⟩
end ISC

theorem ok_putI {t : is_M} {k ci f : Nat} {Cn : String} {T : u_T} {N index : Nat} (hc : cb_cl[ci]? = some (Cn, T, N)) (hin : ∀ w ∈ u_ws Cn T N, w ∈ cb_gw) (ty0 : Nat → FieldType) (hty : ∀ k, k < N → parseFieldDescriptor (T k).2.2.1 = some (ty0 k)) (hnm : ∀ a, a < N → ∀ b, b < N → a ≠ b → (T a).2.1 ≠ (T b).2.1) (hk : f < N) (hl : is_pl t index (T f)) (hy : ty0 f = .int) (A : is_At t k (.putfield index) 3) : is_Ok t k (ia_putI ci f) := by
  intro L st h k' L' st' h' hf
  unfold ia_putI at hf
  split at hf
  · obtain ⟨x, hg, hf⟩ := Option.map_eq_some_iff.mp hf
    cases hf
    obtain ⟨fs, h1, h2, rfl⟩ := is_pF hg
    refine ⟨Nat.le_refl _, Nat.le_refl _, ?_⟩
    intro p l e R s m args below meth c D z b sc H0 nx0 sn0 Q C hn hs hcl hsl F H locs ls r S lh
    refine is_put C r S h1 h2 hc hin ty0 hty hnm hk hl (by rw [hy]; rfl) (by rw [hy]; rfl) A.2 (fun H1 locs1 r1 S1 => ?_)
    have w := F H1 locs1 ls r1 S1 lh
    rw [A.1] at w
    exact w
  · cases hf
theorem ok_putR {t : is_M} {k ci f : Nat} {Cn : String} {T : u_T} {N index : Nat} (hc : cb_cl[ci]? = some (Cn, T, N)) (hin : ∀ w ∈ u_ws Cn T N, w ∈ cb_gw) (ty0 : Nat → FieldType) (hty : ∀ k, k < N → parseFieldDescriptor (T k).2.2.1 = some (ty0 k)) (hnm : ∀ a, a < N → ∀ b, b < N → a ≠ b → (T a).2.1 ≠ (T b).2.1) (hk : f < N) (hl : is_pl t index (T f)) (hy : (∃ C, ty0 f = .object C) ∨ ∃ u, ty0 f = .array u) (A : is_At t k (.putfield index) 3) : is_Ok t k (ia_putR ci f) := by
  intro L st h k' L' st' h' hf
  unfold ia_putR at hf
  split at hf
  · obtain ⟨x, hg, hf⟩ := Option.map_eq_some_iff.mp hf
    cases hf
    obtain ⟨fs, h1, h2, rfl⟩ := is_pF hg
    refine ⟨Nat.le_refl _, Nat.le_refl _, ?_⟩
    intro p l e R s m args below meth c D z b sc H0 nx0 sn0 Q C hn hs hcl hsl F H locs ls r S lh
    refine is_put C r S h1 h2 hc hin ty0 hty hnm hk hl (by rcases hy with ⟨_, hy⟩ | ⟨_, hy⟩ <;> (rw [hy]; rfl)) (by rcases hy with ⟨_, hy⟩ | ⟨_, hy⟩ <;> (rw [hy]; rfl)) A.2 (fun H1 locs1 r1 S1 => ?_)
    have w := F H1 locs1 ls r1 S1 lh
    rw [A.1] at w
    exact w
  · cases hf
theorem ok_putZ {t : is_M} {k ci f : Nat} {Cn : String} {T : u_T} {N index : Nat} (hc : cb_cl[ci]? = some (Cn, T, N)) (hin : ∀ w ∈ u_ws Cn T N, w ∈ cb_gw) (ty0 : Nat → FieldType) (hty : ∀ k, k < N → parseFieldDescriptor (T k).2.2.1 = some (ty0 k)) (hnm : ∀ a, a < N → ∀ b, b < N → a ≠ b → (T a).2.1 ≠ (T b).2.1) (hk : f < N) (hl : is_pl t index (T f)) (hy : ty0 f = .boolean) (A : is_At t k (.putfield index) 3) : is_Ok t k (ia_putZ ci f) := by
  intro L st h k' L' st' h' hf
  unfold ia_putZ at hf
  split at hf
  · split at hf
    · rename_i hz
      obtain ⟨x, hg, hf⟩ := Option.map_eq_some_iff.mp hf
      cases hf
      obtain ⟨fs, h1, h2, rfl⟩ := is_pF hg
      refine ⟨Nat.le_refl _, Nat.le_refl _, ?_⟩
      intro p l e R s m args below meth c D z b sc H0 nx0 sn0 Q C hn hs hcl hsl F H locs ls r S lh
      refine is_put C r S h1 h2 hc hin ty0 hty hnm hk hl (by rw [hy]; rcases hz with rfl | rfl <;> first | exact (show narrow .boolean (Value.int 0) = .int 0 by decide) | exact (show narrow .boolean (Value.int 1) = .int 1 by decide)) (by rw [hy]; rcases hz with rfl | rfl <;> rfl) A.2 (fun H1 locs1 r1 S1 => ?_)
      have w := F H1 locs1 ls r1 S1 lh
      rw [A.1] at w
      exact w
    · cases hf
  · cases hf
theorem ok_iald {t : is_M} {k : Nat} (A : is_At t k .iaload 1) : is_Ok t k ia_iald := by
  intro L st h k' L' st' h' hf
  unfold ia_iald at hf
  split at hf
  · obtain ⟨x, hg, hf⟩ := Option.map_eq_some_iff.mp hf
    cases hf
    obtain ⟨n, f, h1, h2, rfl⟩ := is_ld hg
    refine ⟨Nat.le_refl _, Nat.le_refl _, ?_⟩
    intro p l e R s m args below meth c D z b sc H0 nx0 sn0 Q C hn hs hcl hsl F H locs ls r S lh
    have w := F H locs ls r S lh
    rw [A.1] at w
    obtain ⟨hx, hb, hml, hown, hts, hnw, hao, hK, hnm, hX, hbz, hzH, hRf, hRl, hLw⟩ := C
    have hat := is_P1 (r.at h1 is_nd1)
    exact va_iald hx hb hK hat 0 0 rfl rfl h2 A.2 w
  · split at hf
    · cases hf
    · rename_i hi
      cases hf
      refine ⟨Nat.le_refl _, Nat.le_refl _, ?_⟩
      intro p l e R s m args below meth c D z b sc H0 nx0 sn0 Q C hn hs hcl hsl F H locs ls r S lh
      have w := F H locs ls r S lh
      rw [A.1] at w
      obtain ⟨hx, hb, hml, hown, hts, hnw, hao, hK, hnm, hX, hbz, hzH, hRf, hRl, hLw⟩ := C
      have hsc : h.2.2.1 = sc := r.2.2.2
      rw [hsc] at hi w
      exact va_sld hx hb hX (Nat.lt_of_lt_of_le hbz hzH) (by show ¬ z ≤ b; omega) S hi A.2 w
  · cases hf
theorem ok_bald {t : is_M} {k : Nat} (A : is_At t k .baload 1) : is_Ok t k (ia_ald 3) := by
  intro L st h k' L' st' h' hf
  unfold ia_ald at hf
  split at hf
  · obtain ⟨x, hg, hf⟩ := Option.map_eq_some_iff.mp hf
    cases hf
    obtain ⟨n, f, h1, h2, rfl⟩ := is_ld hg
    refine ⟨Nat.le_refl _, Nat.le_refl _, ?_⟩
    intro p l e R s m args below meth c D z b sc H0 nx0 sn0 Q C hn hs hcl hsl F H locs ls r S lh
    have w := F H locs ls r S lh
    rw [A.1] at w
    obtain ⟨hx, hb, hml, hown, hts, hnw, hao, hK, hnm, hX, hbz, hzH, hRf, hRl, hLw⟩ := C
    have hat := is_P1 (r.at h1 is_nd1)
    exact va_bald hx hb hK hat 0 3 rfl rfl h2 A.2 w
  · cases hf
theorem ok_cald {t : is_M} {k : Nat} (A : is_At t k .caload 1) : is_Ok t k (ia_ald 2) := by
  intro L st h k' L' st' h' hf
  unfold ia_ald at hf
  split at hf
  · obtain ⟨x, hg, hf⟩ := Option.map_eq_some_iff.mp hf
    cases hf
    obtain ⟨n, f, h1, h2, rfl⟩ := is_ld hg
    refine ⟨Nat.le_refl _, Nat.le_refl _, ?_⟩
    intro p l e R s m args below meth c D z b sc H0 nx0 sn0 Q C hn hs hcl hsl F H locs ls r S lh
    have w := F H locs ls r S lh
    rw [A.1] at w
    obtain ⟨hx, hb, hml, hown, hts, hnw, hao, hK, hnm, hX, hbz, hzH, hRf, hRl, hLw⟩ := C
    have hat := is_P1 (r.at h1 is_nd1)
    exact va_cald hx hb hK hat 0 2 rfl rfl h2 A.2 w
  · cases hf
theorem ok_lald {t : is_M} {k : Nat} (A : is_At t k .laload 1) : is_Ok t k ia_lald := by
  intro L st h k' L' st' h' hf
  unfold ia_lald at hf
  split at hf
  · obtain ⟨x, hg, hf⟩ := Option.map_eq_some_iff.mp hf
    cases hf
    obtain ⟨n, f, h1, h2, rfl⟩ := is_ldL hg
    refine ⟨Nat.le_refl _, Nat.le_refl _, ?_⟩
    intro p l e R s m args below meth c D z b sc H0 nx0 sn0 Q C hn hs hcl hsl F H locs ls r S lh
    have w := F H locs ls r S lh
    rw [A.1] at w
    obtain ⟨hx, hb, hml, hown, hts, hnw, hao, hK, hnm, hX, hbz, hzH, hRf, hRl, hLw⟩ := C
    have hat := is_P1 (r.at h1 is_nd1)
    exact va_lald hx hb hK hat 0 1 rfl rfl h2 A.2 w
  · cases hf
theorem ok_rald {t : is_M} {k : Nat} (A : is_At t k .aaload 1) : is_Ok t k ia_rald := by
  intro L st h k' L' st' h' hf
  unfold ia_rald at hf
  split at hf
  · obtain ⟨x, hg, hf⟩ := Option.map_eq_some_iff.mp hf
    cases hf
    obtain ⟨n, f, h1, h2, rfl⟩ := is_ldR hg
    refine ⟨Nat.le_refl _, Nat.le_refl _, ?_⟩
    intro p l e R s m args below meth c D z b sc H0 nx0 sn0 Q C hn hs hcl hsl F H locs ls r S lh
    have w := F H locs ls r S lh
    rw [A.1] at w
    obtain ⟨hx, hb, hml, hown, hts, hnw, hao, hK, hnm, hX, hbz, hzH, hRf, hRl, hLw⟩ := C
    have hat := is_P1 (r.at h1 is_nd1)
    exact va_aldq hx hb hK hat 0 4 rfl rfl h2 A.2 (by
      have e : ∀ q : Option Nat, is_tr z b (va_rf q) = va_rf (q.map (z + ·)) := fun q => by cases q <;> rfl
      rw [List.map_cons, e] at w
      exact w)
  · cases hf
theorem ok_iast {t : is_M} {k : Nat} (A : is_At t k .iastore 1) : is_Ok t k ia_iast := by
  intro L st h k' L' st' h' hf
  unfold ia_iast at hf
  split at hf
  · rename_i x i a st1
    obtain ⟨h2, hg, hf⟩ := Option.map_eq_some_iff.mp hf
    cases hf
    obtain ⟨n, f, h1, hin, rfl⟩ := is_st hg
    refine ⟨Nat.le_refl _, Nat.le_refl _, ?_⟩
    intro p l e R s m args below meth c D z b sc H0 nx0 sn0 Q C hn hs hcl hsl F H locs ls r S lh
    obtain ⟨hx, hb, hml, hown, hts, hnw, hao, hK, hnm, hX, hbz, hzH, hRf, hRl, hLw⟩ := C
    have hat := r.at h1 is_nd1
    refine W.iast hx hb hat ((hK.2 0 _ rfl).1 n (fun j => .int (f j))) (fun q => by cases q) (by show ¬ (i < 0 ∨ (arrV _ _ _).slots.size ≤ _); rw [arrV_size]; exact hin) rfl rfl A.2 fun H1 e1 z1 oq => ?_
    have w := F H1 _ ls (r.up (r.lt (by rw [h1]; exact is_nd1)) ?_ z1 oq) (is_S.put (k := i.toNatClampNeg) S z1 oq) lh
    · rw [A.1] at w
      exact w
    · show H1[z + a]? = some (vp_cell _ _)
      rw [e1]
      show some ((vp_cell (D.2 0) (n, .inl f)).setSlot _ _) = some (vp_cell (D.2 0) (n, .inl _))
      rw [vp_cell_i, vp_cell_i, arrV_store]
      congr 2
      funext q
      by_cases hq : q = i.toNatClampNeg
      · subst hq
        simp [updV, upd, narrow]
      · simp [updV, upd, hq]
  · cases hf
theorem ok_bast {t : is_M} {k : Nat} (A : is_At t k .bastore 1) : is_Ok t k ia_bast := by
  intro L st h k' L' st' h' hf
  unfold ia_bast at hf
  split at hf
  · rename_i x i a st1
    obtain ⟨h2, hg, hf⟩ := Option.map_eq_some_iff.mp hf
    cases hf
    obtain ⟨n, f, h1, hin, rfl⟩ := is_st hg
    refine ⟨Nat.le_refl _, Nat.le_refl _, ?_⟩
    intro p l e R s m args below meth c D z b sc H0 nx0 sn0 Q C hn hs hcl hsl F H locs ls r S lh
    obtain ⟨hx, hb, hml, hown, hts, hnw, hao, hK, hnm, hX, hbz, hzH, hRf, hRl, hLw⟩ := C
    have hat := r.at h1 is_nd1
    refine W.bast hx hb hat ((hK.2 3 _ rfl).1 n (fun j => .int (f j))) (fun q => by cases q) (by show ¬ (i < 0 ∨ (arrV _ _ _).slots.size ≤ _); rw [arrV_size]; exact hin) rfl rfl A.2 fun H1 e1 z1 oq => ?_
    have w := F H1 _ ls (r.up (r.lt (by rw [h1]; exact is_nd1)) ?_ z1 oq) (is_S.put (k := i.toNatClampNeg) S z1 oq) lh
    · rw [A.1] at w
      exact w
    · show H1[z + a]? = some (vp_cell _ _)
      rw [e1]
      show some ((vp_cell (D.2 3) (n, .inl f)).setSlot _ _) = some (vp_cell (D.2 3) (n, .inl _))
      rw [vp_cell_i, vp_cell_i, arrV_store]
      congr 2
      funext q
      by_cases hq : q = i.toNatClampNeg
      · subst hq
        simp [updV, upd, narrow]
      · simp [updV, upd, hq]
  · cases hf
theorem ok_cast {t : is_M} {k : Nat} (A : is_At t k .castore 1) : is_Ok t k ia_cast := by
  intro L st h k' L' st' h' hf
  unfold ia_cast at hf
  split at hf
  · rename_i x i a st1
    obtain ⟨h2, hg, hf⟩ := Option.map_eq_some_iff.mp hf
    cases hf
    obtain ⟨n, f, h1, hin, rfl⟩ := is_st hg
    refine ⟨Nat.le_refl _, Nat.le_refl _, ?_⟩
    intro p l e R s m args below meth c D z b sc H0 nx0 sn0 Q C hn hs hcl hsl F H locs ls r S lh
    obtain ⟨hx, hb, hml, hown, hts, hnw, hao, hK, hnm, hX, hbz, hzH, hRf, hRl, hLw⟩ := C
    have hat := r.at h1 is_nd1
    refine W.cast hx hb hat ((hK.2 2 _ rfl).1 n (fun j => .int (f j))) (fun q => by cases q) (by show ¬ (i < 0 ∨ (arrV _ _ _).slots.size ≤ _); rw [arrV_size]; exact hin) rfl rfl A.2 fun H1 e1 z1 oq => ?_
    have w := F H1 _ ls (r.up (r.lt (by rw [h1]; exact is_nd1)) ?_ z1 oq) (is_S.put (k := i.toNatClampNeg) S z1 oq) lh
    · rw [A.1] at w
      exact w
    · show H1[z + a]? = some (vp_cell _ _)
      rw [e1]
      show some ((vp_cell (D.2 2) (n, .inl f)).setSlot _ _) = some (vp_cell (D.2 2) (n, .inl _))
      rw [vp_cell_i, vp_cell_i, arrV_store]
      congr 2
      funext q
      by_cases hq : q = i.toNatClampNeg
      · subst hq
        simp [updV, upd, narrow]
      · simp [updV, upd, hq]
  · cases hf
theorem ok_last {t : is_M} {k : Nat} (A : is_At t k .lastore 1) : is_Ok t k ia_last := by
  intro L st h k' L' st' h' hf
  unfold ia_last at hf
  split at hf
  · rename_i x i a st1
    obtain ⟨h2, hg, hf⟩ := Option.map_eq_some_iff.mp hf
    cases hf
    obtain ⟨n, f, h1, hin, rfl⟩ := is_stL hg
    refine ⟨Nat.le_refl _, Nat.le_refl _, ?_⟩
    intro p l e R s m args below meth c D z b sc H0 nx0 sn0 Q C hn hs hcl hsl F H locs ls r S lh
    obtain ⟨hx, hb, hml, hown, hts, hnw, hao, hK, hnm, hX, hbz, hzH, hRf, hRl, hLw⟩ := C
    have hat := r.at h1 is_nd1
    refine W.last hx hb hat ((hK.2 1 _ rfl).1 n (fun j => .long (f j))) (fun q => by cases q) (by show ¬ (i < 0 ∨ (arrV _ _ _).slots.size ≤ _); rw [arrV_size]; exact hin) rfl rfl A.2 fun H1 e1 z1 oq => ?_
    have w := F H1 _ ls (r.up (r.lt (by rw [h1]; exact is_nd1)) ?_ z1 oq) (is_S.put (k := i.toNatClampNeg) S z1 oq) lh
    · rw [A.1] at w
      exact w
    · show H1[z + a]? = some (vp_cell _ _)
      rw [e1]
      show some ((vp_cell (D.2 1) (n, .inr (.inl f))).setSlot _ _) = some (vp_cell (D.2 1) (n, .inr (.inl _)))
      rw [vp_cell_l, vp_cell_l, arrV_store]
      congr 2
      funext q
      by_cases hq : q = i.toNatClampNeg
      · subst hq
        simp [updV, vp_updL]
      · simp [updV, vp_updL, hq]
  · cases hf
theorem ok_rast {t : is_M} {k : Nat} (A : is_At t k .aastore 1) : is_Ok t k ia_rast := by
  intro L st h k' L' st' h' hf
  unfold ia_rast at hf
  split at hf
  · rename_i v i a st1
    obtain ⟨h2, hg, hf⟩ := Option.map_eq_some_iff.mp hf
    cases hf
    obtain ⟨n, f, v0, fs, h1, hv, hin, rfl⟩ := is_stR hg
    refine ⟨Nat.le_refl _, Nat.le_refl _, ?_⟩
    intro p l e R s m args below meth c D z b sc H0 nx0 sn0 Q C hn hs hcl hsl F H locs ls r S lh
    obtain ⟨hx, hb, hml, hown, hts, hnw, hao, hK, hnm, hX, hbz, hzH, hRf, hRl, hLw⟩ := C
    have hat := r.at h1 is_nd1
    obtain ⟨r', hr', cellV, g1, g2, g3, -⟩ := r.at hv (is_nd2 (k := 0) rfl)
    have hcls := (hK.1 5 _ rfl).2
    obtain ⟨kA, comp, k1, k2, k3, -⟩ := (hK.2 4 _ rfl).2
    have hcomp : comp = D.1.1 5 := Option.some.inj (k3.symm.trans hcls.1)
    subst hcomp
    obtain ⟨kC, hkC, -⟩ := id hcls.2
    have hlt : i.toNatClampNeg < n := Nat.not_le.mp fun q => hin (Or.inr q)
    refine W.aast hx hb hat (fun q h => by cases h) (fun h => by cases h) k1 k2 rfl hkC ⟨fun q => hin (Or.inl q), by show _ < (arrV _ _ _).slots.size; rw [arrV_size]; exact hlt⟩ g1 (fun q h => by rw [g3] at h; cases h) (by rw [g2]; exact hkC) (by rw [g2]; exact va_assign hcls) rfl rfl A.2 fun H1 e1 z1 oq => ?_
    have w := F H1 _ ls (r.up (r.lt (by rw [h1]; exact is_nd1)) ?_ z1 oq) (is_S.put (k := i.toNatClampNeg) S z1 oq) lh
    · rw [A.1] at w
      exact w
    · show H1[z + a]? = some (vp_cell _ _)
      rw [e1]
      show some ((vp_cell (D.2 4) (n, .inr (.inr (.inr (.inr _))))).setSlot _ _) = some (vp_cell (D.2 4) (n, .inr (.inr (.inr (.inr _)))))
      rw [vp_cell_q, vp_cell_q, arrV_store]
      congr 2
      funext q
      by_cases hq : q = i.toNatClampNeg
      · subst hq
        simp [updV, va_up, va_rf]
      · simp [updV, va_up, hq]
  · cases hf
theorem ok_alen {t : is_M} {k : Nat} (A : is_At t k .arraylength 1) : is_Ok t k ia_alen := by
  intro L st h k' L' st' h' hf
  unfold ia_alen at hf
  split at hf
  · obtain ⟨x, hg, hf⟩ := Option.map_eq_some_iff.mp hf
    cases hf
    obtain ⟨ty, q, h1, h2, h3⟩ := is_len hg
    refine ⟨Nat.le_refl _, Nat.le_refl _, ?_⟩
    intro p l e R s m args below meth c D z b sc H0 nx0 sn0 Q C hn hs hcl hsl F H locs ls r S lh
    have w := F H locs ls r S lh
    rw [A.1] at w
    obtain ⟨hx, hb, hml, hown, hts, hnw, hao, hK, hnm, hX, hbz, hzH, hRf, hRl, hLw⟩ := C
    have hat := is_P1 (r.at h1 is_nd1)
    rcases (show ty = 0 ∨ ty = 1 ∨ ty = 2 ∨ ty = 3 ∨ ty = 4 by omega) with rfl | rfl | rfl | rfl | rfl
    · exact va_alen hx hb hK hat 0 0 rfl rfl h3 A.2 w
    · exact va_alen hx hb hK hat 0 1 rfl rfl h3 A.2 w
    · exact va_alen hx hb hK hat 0 2 rfl rfl h3 A.2 w
    · exact va_alen hx hb hK hat 0 3 rfl rfl h3 A.2 w
    · exact va_alen hx hb hK hat 0 4 rfl rfl h3 A.2 w
  · cases hf
    refine ⟨Nat.le_refl _, Nat.le_refl _, ?_⟩
    intro p l e R s m args below meth c D z b sc H0 nx0 sn0 Q C hn hs hcl hsl F H locs ls r S lh
    have w := F H locs ls r S lh
    rw [A.1] at w
    obtain ⟨hx, hb, hml, hown, hts, hnw, hao, hK, hnm, hX, hbz, hzH, hRf, hRl, hLw⟩ := C
    have hsc : h.2.2.1 = sc := r.2.2.2
    rw [hsc] at w
    exact va_slen hx hb hX (Nat.lt_of_lt_of_le hbz hzH) (by show ¬ z ≤ b; omega) S A.2 w
  · cases hf
theorem ok_newa_int {t : is_M} {k : Nat} (harr : Cond.arrayClass .int ∈ cb_gw) (A : is_At t k (.newarray .int) 2) : is_Ok t k (ia_newa 0) := by
  intro L st h k' L' st' h' hf
  unfold ia_newa at hf
  split at hf
  · rename_i n st1
    split at hf
    · rename_i hc
      obtain ⟨hn0, hn1⟩ := hc
      cases hf
      refine ⟨Nat.le_succ _, Nat.le_add_right _ _, ?_⟩
      intro p l e R s m args below meth c D z b sc H0 nx0 sn0 Q C hn hs hcl hsl F H locs ls r S lh
      have hcl' : h.1 + 1 - nx0 ≤ R.cells := hcl
      have hsl' : h.2.1 + n.toNatClampNeg - sn0 ≤ R.slots := hsl
      obtain ⟨hx, hb, hml, hown, hts, hnw, hao, hK, hnm, hX, hbz, hzH, hRf, hRl, hLw⟩ := C
      refine va_newaK hx hb (atype := .int) (hts _ harr) rfl A.2 rfl hn0 rfl (by show _ * componentBytes .int ≤ _; simp only [componentBytes]; omega) (by omega) (by omega) r.1 fun H1 cA e1 z1 o1 hAr hNm => ?_
      have hcA : cA = D.2 0 := by
        have h2 : s.vm.findClass ("[" ++ (.int : FieldType).toString) = some (D.2 0) := (hK.2 0 _ rfl).2
        exact Option.some.inj (hNm.symm.trans h2)
      subst hcA
      have oq : ∀ q : Nat, q < H.size → H1[q]? = H[q]? := fun q hq => o1 q (by rw [← r.1]; exact hq)
      have w := F H1 locs ls (r.new (n := n.toNatClampNeg) (e' := .inl (0, n.toNatClampNeg, ia_zero 0)) e1 (by rw [z1, r.1]) oq) (is_S.new S (by rw [z1, r.1]) oq) lh
      rw [A.1] at w
      have g1 : (ia_new h n.toNatClampNeg (.inl (0, n.toNatClampNeg, ia_zero 0))).1 - nx0 = h.1 - nx0 + 1 := by show h.1 + 1 - nx0 = _; omega
      have g2 : (ia_new h n.toNatClampNeg (.inl (0, n.toNatClampNeg, ia_zero 0))).2.1 - sn0 = h.2.1 - sn0 + n.toNatClampNeg := by show h.2.1 + n.toNatClampNeg - sn0 = _; omega
      rw [g1, g2] at w
      exact w
    · cases hf
  · cases hf
theorem ok_newa_long {t : is_M} {k : Nat} (harr : Cond.arrayClass .long ∈ cb_gw) (A : is_At t k (.newarray .long) 2) : is_Ok t k (ia_newa 1) := by
  intro L st h k' L' st' h' hf
  unfold ia_newa at hf
  split at hf
  · rename_i n st1
    split at hf
    · rename_i hc
      obtain ⟨hn0, hn1⟩ := hc
      cases hf
      refine ⟨Nat.le_succ _, Nat.le_add_right _ _, ?_⟩
      intro p l e R s m args below meth c D z b sc H0 nx0 sn0 Q C hn hs hcl hsl F H locs ls r S lh
      have hcl' : h.1 + 1 - nx0 ≤ R.cells := hcl
      have hsl' : h.2.1 + n.toNatClampNeg - sn0 ≤ R.slots := hsl
      obtain ⟨hx, hb, hml, hown, hts, hnw, hao, hK, hnm, hX, hbz, hzH, hRf, hRl, hLw⟩ := C
      refine va_newaK hx hb (atype := .long) (hts _ harr) rfl A.2 rfl hn0 rfl (by show _ * componentBytes .long ≤ _; simp only [componentBytes]; omega) (by omega) (by omega) r.1 fun H1 cA e1 z1 o1 hAr hNm => ?_
      have hcA : cA = D.2 1 := by
        have h2 : s.vm.findClass ("[" ++ (.long : FieldType).toString) = some (D.2 1) := (hK.2 1 _ rfl).2
        exact Option.some.inj (hNm.symm.trans h2)
      subst hcA
      have oq : ∀ q : Nat, q < H.size → H1[q]? = H[q]? := fun q hq => o1 q (by rw [← r.1]; exact hq)
      have w := F H1 locs ls (r.new (n := n.toNatClampNeg) (e' := .inl (1, n.toNatClampNeg, ia_zero 1)) e1 (by rw [z1, r.1]) oq) (is_S.new S (by rw [z1, r.1]) oq) lh
      rw [A.1] at w
      have g1 : (ia_new h n.toNatClampNeg (.inl (1, n.toNatClampNeg, ia_zero 1))).1 - nx0 = h.1 - nx0 + 1 := by show h.1 + 1 - nx0 = _; omega
      have g2 : (ia_new h n.toNatClampNeg (.inl (1, n.toNatClampNeg, ia_zero 1))).2.1 - sn0 = h.2.1 - sn0 + n.toNatClampNeg := by show h.2.1 + n.toNatClampNeg - sn0 = _; omega
      rw [g1, g2] at w
      exact w
    · cases hf
  · cases hf
theorem ok_newa_char {t : is_M} {k : Nat} (harr : Cond.arrayClass .char ∈ cb_gw) (A : is_At t k (.newarray .char) 2) : is_Ok t k (ia_newa 2) := by
  intro L st h k' L' st' h' hf
  unfold ia_newa at hf
  split at hf
  · rename_i n st1
    split at hf
    · rename_i hc
      obtain ⟨hn0, hn1⟩ := hc
      cases hf
      refine ⟨Nat.le_succ _, Nat.le_add_right _ _, ?_⟩
      intro p l e R s m args below meth c D z b sc H0 nx0 sn0 Q C hn hs hcl hsl F H locs ls r S lh
      have hcl' : h.1 + 1 - nx0 ≤ R.cells := hcl
      have hsl' : h.2.1 + n.toNatClampNeg - sn0 ≤ R.slots := hsl
      obtain ⟨hx, hb, hml, hown, hts, hnw, hao, hK, hnm, hX, hbz, hzH, hRf, hRl, hLw⟩ := C
      refine va_newaK hx hb (atype := .char) (hts _ harr) rfl A.2 rfl hn0 rfl (by show _ * componentBytes .char ≤ _; simp only [componentBytes]; omega) (by omega) (by omega) r.1 fun H1 cA e1 z1 o1 hAr hNm => ?_
      have hcA : cA = D.2 2 := by
        have h2 : s.vm.findClass ("[" ++ (.char : FieldType).toString) = some (D.2 2) := (hK.2 2 _ rfl).2
        exact Option.some.inj (hNm.symm.trans h2)
      subst hcA
      have oq : ∀ q : Nat, q < H.size → H1[q]? = H[q]? := fun q hq => o1 q (by rw [← r.1]; exact hq)
      have w := F H1 locs ls (r.new (n := n.toNatClampNeg) (e' := .inl (2, n.toNatClampNeg, ia_zero 2)) e1 (by rw [z1, r.1]) oq) (is_S.new S (by rw [z1, r.1]) oq) lh
      rw [A.1] at w
      have g1 : (ia_new h n.toNatClampNeg (.inl (2, n.toNatClampNeg, ia_zero 2))).1 - nx0 = h.1 - nx0 + 1 := by show h.1 + 1 - nx0 = _; omega
      have g2 : (ia_new h n.toNatClampNeg (.inl (2, n.toNatClampNeg, ia_zero 2))).2.1 - sn0 = h.2.1 - sn0 + n.toNatClampNeg := by show h.2.1 + n.toNatClampNeg - sn0 = _; omega
      rw [g1, g2] at w
      exact w
    · cases hf
  · cases hf
theorem ok_newa_byte {t : is_M} {k : Nat} (harr : Cond.arrayClass .byte ∈ cb_gw) (A : is_At t k (.newarray .byte) 2) : is_Ok t k (ia_newa 3) := by
  intro L st h k' L' st' h' hf
  unfold ia_newa at hf
  split at hf
  · rename_i n st1
    split at hf
    · rename_i hc
      obtain ⟨hn0, hn1⟩ := hc
      cases hf
      refine ⟨Nat.le_succ _, Nat.le_add_right _ _, ?_⟩
      intro p l e R s m args below meth c D z b sc H0 nx0 sn0 Q C hn hs hcl hsl F H locs ls r S lh
      have hcl' : h.1 + 1 - nx0 ≤ R.cells := hcl
      have hsl' : h.2.1 + n.toNatClampNeg - sn0 ≤ R.slots := hsl
      obtain ⟨hx, hb, hml, hown, hts, hnw, hao, hK, hnm, hX, hbz, hzH, hRf, hRl, hLw⟩ := C
      refine va_newaK hx hb (atype := .byte) (hts _ harr) rfl A.2 rfl hn0 rfl (by show _ * componentBytes .byte ≤ _; simp only [componentBytes]; omega) (by omega) (by omega) r.1 fun H1 cA e1 z1 o1 hAr hNm => ?_
      have hcA : cA = D.2 3 := by
        have h2 : s.vm.findClass ("[" ++ (.byte : FieldType).toString) = some (D.2 3) := (hK.2 3 _ rfl).2
        exact Option.some.inj (hNm.symm.trans h2)
      subst hcA
      have oq : ∀ q : Nat, q < H.size → H1[q]? = H[q]? := fun q hq => o1 q (by rw [← r.1]; exact hq)
      have w := F H1 locs ls (r.new (n := n.toNatClampNeg) (e' := .inl (3, n.toNatClampNeg, ia_zero 3)) e1 (by rw [z1, r.1]) oq) (is_S.new S (by rw [z1, r.1]) oq) lh
      rw [A.1] at w
      have g1 : (ia_new h n.toNatClampNeg (.inl (3, n.toNatClampNeg, ia_zero 3))).1 - nx0 = h.1 - nx0 + 1 := by show h.1 + 1 - nx0 = _; omega
      have g2 : (ia_new h n.toNatClampNeg (.inl (3, n.toNatClampNeg, ia_zero 3))).2.1 - sn0 = h.2.1 - sn0 + n.toNatClampNeg := by show h.2.1 + n.toNatClampNeg - sn0 = _; omega
      rw [g1, g2] at w
      exact w
    · cases hf
  · cases hf
theorem ok_newr {t : is_M} {k : Nat} {index : Nat} (hlink : Cond.classLink t.1.cls index "CardsAndBans$State" ∈ cb_gw) (A : is_At t k (.anewarray index) 3) : is_Ok t k (ia_newa 4) := by
  intro L st h k' L' st' h' hf
  unfold ia_newa at hf
  split at hf
  · rename_i n st1
    split at hf
    · rename_i hc
      obtain ⟨hn0, hn1⟩ := hc
      cases hf
      refine ⟨Nat.le_succ _, Nat.le_add_right _ _, ?_⟩
      intro p l e R s m args below meth c D z b sc H0 nx0 sn0 Q C hn hs hcl hsl F H locs ls r S lh
      have hcl' : h.1 + 1 - nx0 ≤ R.cells := hcl
      have hsl' : h.2.1 + n.toNatClampNeg - sn0 ≤ R.slots := hsl
      obtain ⟨hx, hb, hml, hown, hts, hnw, hao, hK, hnm, hX, hbz, hzH, hRf, hRl, hLw⟩ := C
      refine W.anew hx hb hown (hts _ hlink) (va_AO.use hao) rfl A.2 rfl hn0 (by omega) (by omega) (by omega) fun cA kA comp e1 e2 e3 e4 => ?_
      have hcA : cA = D.2 4 := by
        obtain ⟨_, _, _, _, _, h2⟩ := (hK.2 4 _ rfl).2
        exact Option.some.inj (e1.symm.trans h2)
      subst hcA
      generalize hH1 : H.push _ = H1
      have z1 : H1.size = H.size + 1 := by rw [← hH1]; simp
      have oq : ∀ q : Nat, q < H.size → H1[q]? = H[q]? := fun q hq => by rw [← hH1, Array.getElem?_push, if_neg (Nat.ne_of_lt hq)]
      have e5 : H1[z + h.1]? = some (vp_cell (D.2 4) (n.toNatClampNeg, .inr (.inr (.inr (.inr fun _ => none))))) := by
        rw [← hH1, ← r.1, vp_cell_q]
        show _ = some (arrV (D.2 4) n.toNatClampNeg (fun _ => .null))
        rw [← arrV_new]
        simp
      have w := F H1 locs ls (r.new (n := n.toNatClampNeg) (e' := .inl (4, n.toNatClampNeg, ia_zero 4)) e5 z1 oq) (is_S.new S z1 oq) lh
      rw [A.1] at w
      have g1 : (ia_new h n.toNatClampNeg (.inl (4, n.toNatClampNeg, ia_zero 4))).1 - nx0 = h.1 - nx0 + 1 := by show h.1 + 1 - nx0 = _; omega
      have g2 : (ia_new h n.toNatClampNeg (.inl (4, n.toNatClampNeg, ia_zero 4))).2.1 - sn0 = h.2.1 - sn0 + n.toNatClampNeg := by show h.2.1 + n.toNatClampNeg - sn0 = _; omega
      rw [g1, g2] at w
      rw [r.1]
      exact w
    · cases hf
  · cases hf
theorem ok_newo {t : is_M} {k ci : Nat} {Cn : String} {T : u_T} {N index : Nat} {fs : List Value} (hc : cb_cl[ci]? = some (Cn, T, N)) (hin : ∀ w ∈ u_ws Cn T N, w ∈ cb_gw) (ty0 : Nat → FieldType) (hty : ∀ k, k < N → parseFieldDescriptor (T k).2.2.1 = some (ty0 k)) (hcl : Cond.classLink t.1.cls index Cn ∈ cb_gw) (hinst : Cond.instantiable Cn N ∈ cb_gw) (hini : Cond.initialized Cn ∈ cb_gw) (hfs : ∀ j, j < N → defaultValue (ty0 j) = vp_V fs j) (hrf : ∀ z b, fs.map (is_tr z b) = fs) (A : is_At t k (.new index) 3) : is_Ok t k (ia_newo ci N fs) := by
  intro L st h k' L' st' h' hf
  unfold ia_newo at hf
  cases hf
  refine ⟨Nat.le_succ _, Nat.le_add_right _ _, ?_⟩
  intro p l e R s m args below meth c D z b sc H0 nx0 sn0 Q C hn hs hcl1 hsl F H locs ls r S lh
  have hcl' : h.1 + 1 - nx0 ≤ R.cells := hcl1
  have hsl' : h.2.1 + N - sn0 ≤ R.slots := hsl
  obtain ⟨hx, hb, hml, hown, hts, hnw, hao, hK, hnm, hX, hbz, hzH, hRf, hRl, hLw⟩ := C
  have hKn := hK.1 ci _ hc
  refine W.newcK hx hb hown (hts _ hcl) (hts _ hinst) (hts _ hini) rfl A.2 (by omega) (by omega) hKn.2.1 r.1 fun H1 kC hkC e1 z1 o1 => ?_
  have oq : ∀ q : Nat, q < H.size → H1[q]? = H[q]? := fun q hq => o1 q (by rw [← r.1]; exact hq)
  have e5 : va_at D.1 cb_cl (z + h.1, is_E D z b (.inr (ci, fs))) H1 := by
    show ∃ r : vw_C, _
    refine ⟨_, hc, ?_⟩
    have := (u_born ty0 hts hin hKn hkC e1 hty).to hfs
    dsimp only [is_E]
    rw [hrf z b]
    exact this
  have w := F H1 locs ls (r.new (n := N) e5 (by rw [z1, r.1]) oq) (is_S.new S (by rw [z1, r.1]) oq) lh
  rw [A.1] at w
  have g1 : (ia_new h N (.inr (ci, fs))).1 - nx0 = h.1 - nx0 + 1 := by show h.1 + 1 - nx0 = _; omega
  have g2 : (ia_new h N (.inr (ci, fs))).2.1 - sn0 = h.2.1 - sn0 + N := by show h.2.1 + N - sn0 = _; omega
  rw [g1, g2] at w
  exact w
theorem ok_oinit {t : is_M} {k index : Nat} (hlink : Cond.methodLink t.1.cls index Lib.objectInit ∈ cb_gw) (hinst : Cond.instanceMethod Lib.objectInit ∈ cb_gw) (hcode : Cond.code Lib.objectInit ⟨#[0xb1]⟩ 1 none ∈ cb_gw) (hF : 1 ≤ is_rF t) (hL : 20 ≤ is_rL t) (A : is_At t k (.invokespecial index) 3) : is_Ok t k ia_oinit := by
  intro L st h k' L' st' h' hf
  unfold ia_oinit at hf
  split at hf
  · rename_i a st1
    split at hf
    · rename_i hw
      cases hf
      refine ⟨Nat.le_refl _, Nat.le_refl _, ?_⟩
      intro p l e R s m args below meth c D z b sc H0 nx0 sn0 Q C hn hs hcl hsl F H locs ls r S lh
      have w := F H locs ls r S lh
      rw [A.1] at w
      obtain ⟨hx, hb, hml, hown, hts, hnw, hao, hK, hnm, hX, hbz, hzH, hRf, hRl, hLw⟩ := C
      refine W.objInit hx hb hown (hts _ hlink) (hts _ hinst) (hts _ hcode) rfl (by rw [hml]; exact lh.1) rfl A.2 (Nat.le_trans hF hRf) ?_ w
      show 2 * 0 + _ + 12 ≤ _
      have := is_w_sum z b st'
      omega
    · cases hf
  · cases hf
theorem ok_min {t : is_M} {k index : Nat} (hlink : Cond.methodLink t.1.cls index Lib.Math.min.name ∈ cb_gw) (hst : Cond.static Lib.Math.min.name ∈ cb_gw) (hini : Cond.initialized "java/lang/Math" ∈ cb_gw) (hcode : Cond.code Lib.Math.min.name Lib.Math.min.code 2 (some .int) ∈ cb_gw) (hF : 1 ≤ is_rF t) (hL : 21 ≤ is_rL t) (A : is_At t k (.invokestatic index) 3) : is_Ok t k ia_min := by
  intro L st h k' L' st' h' hf
  unfold ia_min at hf
  split at hf
  · rename_i y x st1
    split at hf
    · rename_i hw
      cases hf
      refine ⟨Nat.le_refl _, Nat.le_refl _, ?_⟩
      intro p l e R s m args below meth c D z b sc H0 nx0 sn0 Q C hn hs hcl hsl F H locs ls r S lh
      have w := F H locs ls r S lh
      rw [A.1] at w
      obtain ⟨hx, hb, hml, hown, hts, hnw, hao, hK, hnm, hX, hbz, hzH, hRf, hRl, hLw⟩ := C
      have := is_w_sum z b st1
      exact va_mmin hx hb (by rw [hml]; exact lh.1.symm) hown (hts _ hlink) (hts _ hst) (hts _ hini) (hts _ hcode) (Nat.le_trans hF hRf) (by omega) (by omega) (by omega) A.2 w
    · cases hf
  · cases hf
theorem ok_copy {t : is_M} {k index : Nat} (hlink : Cond.methodLink t.1.cls index arraycopyName ∈ cb_gw) (hnat : Cond.native arraycopyName ∈ cb_gw) (hst : Cond.static arraycopyName ∈ cb_gw) (hini : Cond.initialized "java/lang/System" ∈ cb_gw) (hF : 1 ≤ is_rF t) (hL : 8 + (nativeFrameWords "java/lang/System" "arraycopy" 5 + 11) ≤ is_rL t) (A : is_At t k (.invokestatic index) 3) : is_Ok t k ia_copy := by
  intro L st h k' L' st' h' hf
  unfold ia_copy at hf
  split at hf
  · rename_i n dp a1 sp a0 st1
    split at hf
    · rename_i hw
      obtain ⟨h2, hg, hf⟩ := Option.map_eq_some_iff.mp hf
      cases hf
      obtain ⟨n0, n1, f, g, h0, h1, q1, q2, q3, q4, q5, rfl⟩ := is_cp hg
      refine ⟨Nat.le_refl _, Nat.le_refl _, ?_⟩
      intro p l e R s m args below meth c D z b sc H0 nx0 sn0 Q C hn hs hcl hsl F H locs ls r S lh
      obtain ⟨hx, hb, hml, hown, hts, hnw, hao, hK, hnm, hX, hbz, hzH, hRf, hRl, hLw⟩ := C
      have := is_w_sum z b st'
      refine is_copyi hx hb (by rw [hml]; exact lh.1.symm) hown (hts _ hlink) (hts _ hnat) (hts _ hst) (hts _ hini) ((hK.2 0 _ rfl).1) (r.at h0 is_nd1) (r.at h1 is_nd1) q1 q2 q3 q4 q5 (Nat.le_trans hF hRf) (by omega) A.2 fun H1 L1 e1 z1 oq hL1 => ?_
      have w := F H1 (locs ++ L1) ls (r.up (r.lt (by rw [h1]; exact is_nd1)) e1 z1 oq) ⟨by rw [z1]; exact S.1, fun q g1 g2 => (oq q (fun e => g2 (by rw [e]; exact Nat.le_add_right _ _))).trans (S.2.1 q g1 g2), fun q hq => by
        rcases List.mem_append.mp hq with h | h
        · exact S.2.2 q h
        · show z ≤ q.base
          rw [hL1 q h]
          exact Nat.le_add_right _ _⟩ lh
      rw [A.1] at w
      exact w
    · cases hf
  · cases hf
end
section
/-! RUNS OF THE ABSTRACT MACHINE ARE RUNS OF THE MACHINE: one theorem for all methods, by the fuel. -/
/-- the link of a method that is called -/
def is_ml (t : is_M) (index : Nat) (y : MethodName) : Prop := Cond.methodLink t.1.cls index y ∈ cb_gw ∨ ∃ host, Cond.methodLinkNest t.1.cls index y host ∈ cb_nw
abbrev is_np (y : MethodName) (n : Nat) : Prop := (parseMethodDescriptor y.desc).map (fun d => d.parameters.length) = some n
def is_OkC (t u : is_M) (k na rc : Nat) : Prop :=
  is_rF u + 1 ≤ is_rF t ∧ 8 + (is_mL u + 11) + is_rL u ≤ is_rL t ∧ (u.1.cls ≠ "java/lang/invoke/MethodHandle" ∧ u.1.cls ≠ "java/lang/invoke/VarHandle") ∧ Cond.initialized u.1.cls ∈ cb_gw ∧ is_pc t (k + 1) = is_pc t k + 3 ∧
  ∃ index, is_ml t index u.1 ∧
    ((rc = 100 ∧ decode (is_cc t) (is_pc t k) = .ok (.invokestatic index, 3) ∧ Cond.static u.1 ∈ cb_gw ∧ is_np u.1 na) ∨
     (rc = 101 ∧ decode (is_cc t) (is_pc t k) = .ok (.invokespecial index, 3) ∧ u.1.name = "<init>" ∧ is_rt u = none ∧ Cond.instanceMethod u.1 ∈ cb_gw ∧ is_np u.1 (na - 1) ∧ 1 ≤ na) ∨
     (rc < 100 ∧ (∃ T N, cb_cl[rc]? = some (u.1.cls, T, N)) ∧ decode (is_cc t) (is_pc t k) = .ok (.invokevirtual index, 3) ∧ Cond.instanceMethod u.1 ∈ cb_gw ∧ Cond.selects u.1.cls u.1 u.1 ∈ cb_gw ∧ is_np u.1 (na - 1) ∧ 1 ≤ na))
def is_OkR (t : is_M) (k r : Nat) : Prop :=
  (r = 0 ∧ decode (is_cc t) (is_pc t k) = .ok (.return_, 1) ∧ is_rt t = none) ∨ (r = 1 ∧ decode (is_cc t) (is_pc t k) = .ok (.ireturn, 1) ∧ is_rt t = some .int) ∨
  (r = 2 ∧ decode (is_cc t) (is_pc t k) = .ok (.ireturn, 1) ∧ is_rt t = some .boolean) ∨ (r = 3 ∧ decode (is_cc t) (is_pc t k) = .ok (.lreturn, 1) ∧ is_rt t = some .long) ∨
  (r = 4 ∧ decode (is_cc t) (is_pc t k) = .ok (.areturn, 1) ∧ ∃ C, is_rt t = some (.object C))
/-- a row of a method, in a table MT whose first NM are called -/
def is_OkW (MT : Nat → is_M) (NM : Nat) (t : is_M) (k : Nat) : ia_R → Prop
  | .inl f => is_Ok t k f
  | .inr (.inl q) => q.1 < NM ∧ is_OkC t (MT q.1) k q.2.1 q.2.2
  | .inr (.inr r) => is_OkR t k r
def is_Gr (MT : Nat → is_M) (NM : Nat) (t : is_M) : Prop := ∀ k w, is_row t k = some w → is_OkW MT NM t k w
def is_Gc (t : is_M) : Prop := plainName t.1.cls = true ∧ Cond.code t.1 (is_cc t) (is_mL t) (is_rt t) ∈ cb_gw ∧ is_pc t 0 = 0 ∧ t.1.cls ≠ "CardsAndBansLaw"
def is_ws (t : is_M) : List Cond := Cond.code t.1 (is_cc t) (is_mL t) (is_rt t) :: cb_gw
def is_rm (t : is_M) (mc ms : Nat) : Room := { frames := is_rF t, cells := mc, slots := ms, locals := is_rL t }
def is_Pc (D : is_D) (z b : Nat) (sc : Nat × (Nat → Int32)) (as : List Value) (h : ia_H) : Array Value → State → Prop := fun v U =>
  v = (as.map (is_tr z b)).toArray ∧ is_Rl D z b sc h U.heap ∧ va_K D.1 cb_cl (is_tys D.2) U ∧ (∀ w ∈ cb_nw, va_Nw w U) ∧ va_AO "CardsAndBans$State" U ∧ va_X b sc.1 sc.2 U U.heap ∧ b < z
def is_Qc (D : is_D) (z b : Nat) (sc : Nat × (Nat → Int32)) (r : Option Value) (h : ia_H) : Array Value → State → Outcome → State → Prop := fun _ st oc t =>
  oc = .returned (r.map (is_tr z b)) ∧ is_Rl D z b sc h t.heap ∧ va_F (fun q => z ≤ q) st t
def is_Mt (l : Launch) (D : is_D) (z b : Nat) (sc : Nat × (Nat → Int32)) (t : is_M) (as : List Value) (h : ia_H) (r : Option Value) (h' : ia_H) : Prop :=
  Met l t.1 (is_ws t) (is_rm t (h'.1 - h.1) (h'.2.1 - h.2.1)) (is_Pc D z b sc as h) (is_Qc D z b sc r h') (h'.1 - h.1) (h'.2.1 - h.2.1) (fun q => z ≤ q)
/-! the entry -/
theorem is_ent_len (n : Nat) (as : List Value) (h : ia_w as ≤ n) : (ia_ent n as).length = n := by
  induction as generalizing n with
  | nil => simp [ia_ent]
  | cons v as ih =>
    simp only [ia_w] at h
    rw [ia_ent]
    by_cases hc : v.category = 2
    · rw [if_pos hc]
      simp only [List.length_cons]
      rw [ih (n - 2) (by omega)]
      omega
    · have h1 : v.category = 1 := (lv_cat v).resolve_right hc
      rw [if_neg hc]
      simp only [List.length_cons]
      rw [ih (n - 1) (by omega)]
      omega
theorem is_sl_len (z b : Nat) (as : List Value) : (lg_sl (as.map (is_tr z b))).length = ia_w as := by
  induction as with
  | nil => rfl
  | cons v as ih =>
    have e : lg_sl ((v :: as).map (is_tr z b)) = (if (is_tr z b v).category = 2 then [.val (is_tr z b v), .second] else [.val (is_tr z b v)]) ++ lg_sl (as.map (is_tr z b)) := by
      simp [lg_sl]
    rw [e, List.length_append, ih, is_cat, ia_w]
    rcases lv_cat v with hc | hc <;> simp [hc]
theorem is_ent_at (z b : Nat) (as : List Value) : ∀ (n i : Nat) (v : Value) (tl : List Slot), (ia_ent n as)[i]? = some (some v) → (lg_sl (as.map (is_tr z b)) ++ tl)[i]? = some (.val (is_tr z b v)) := by
  induction as with
  | nil =>
    intro n i v tl h
    simp [ia_ent, List.getElem?_replicate] at h
  | cons w as ih =>
    intro n i v tl h
    have e : lg_sl ((w :: as).map (is_tr z b)) = (if (is_tr z b w).category = 2 then [.val (is_tr z b w), .second] else [.val (is_tr z b w)]) ++ lg_sl (as.map (is_tr z b)) := by
      simp [lg_sl]
    rw [e, is_cat]
    rw [ia_ent] at h
    by_cases hc : w.category = 2
    · rw [if_pos hc] at h ⊢
      match i, h with
      | 0, h => simp at h; subst h; rfl
      | 1, h => simp at h
      | i + 2, h =>
        simp only [List.getElem?_cons_succ] at h
        simpa using ih (n - 2) i v tl h
    · rw [if_neg hc] at h ⊢
      match i, h with
      | 0, h => simp at h; subst h; rfl
      | i + 1, h =>
        simp only [List.getElem?_cons_succ] at h
        simpa using ih (n - 1) i v tl h
theorem is_ent_LH (z b n : Nat) (as : List Value) (h : ia_w as ≤ n) : is_LH z b n ((lg_sl (as.map (is_tr z b)) ++ List.replicate (n - (lg_sl (as.map (is_tr z b))).length) Slot.unset).toArray) (ia_ent n as) := by
  have hl := lv_entry (as.map (is_tr z b)) (n := n) (by rw [is_sl_len]; exact h)
  refine ⟨hl.1, is_ent_len n as h, hl.2.1, fun i v hi _ => ?_⟩
  rw [List.getElem?_toArray]
  exact is_ent_at z b as n i v _ hi
/-! calls -/
theorem is_good (t : is_M) (hc : is_Gc t) : GoodIn cb_gw (is_ws t) := by
  intro w hw
  rcases List.mem_cons.mp hw with rfl | hw
  · exact ⟨hc.2.1, (cb_gg _ hc.2.1).2⟩
  · exact ⟨hw, (cb_gg _ hw).2⟩
theorem is_blind {D : is_D} {z b : Nat} {sc : Nat × (Nat → Int32)} {as : List Value} {h : ia_H} : FrameBlind (is_Pc D z b sc as h) := by
  intro a U g mk q
  obtain ⟨q1, q2, q3, q4, q5, q6, q7⟩ := q
  exact ⟨q1, q2, va_K.moved (u := U) (U := U.calling g mk a) (Vm.Alike.refl U.vm) q3, fun w hw => va_Nw.same (u := U) (U := U.calling g mk a) (by
    have key : ∀ w ∈ cb_nw, w.onTables = true := by decide +kernel
    exact key w hw) rfl (q4 w hw), va_AO.moved (u := U) (U := U.calling g mk a) (Vm.Alike.refl U.vm) q5, va_X.moved (u := U) (U := U.calling g mk a) (Vm.Alike.refl U.vm) q6, q7⟩
section ISL
variable {t u : is_M} {p : Program} {l : Launch} {e : Env} {R : Room} {s : State} {m : MethodId} {args : Array Value} {below : List Frame} {meth : Method} {c : Code} {D : is_D} {z b : Nat} {sc : Nat × (Nat → Int32)} {H0 H : Heap} {locs : List Loc} {cells slots : Nat} {Q : State → Prop} {ls : Array Slot}
theorem is_callW (C : is_Cx t p l R s m args meth c D z b sc H0) {h h' : ia_H} {r : Option Value} {st : List Value} {k na rc : Nat} (K : is_OkC t u k na rc) (hu : is_Gc u) (rl : is_Rl D z b sc h H) (S : va_S (fun q => z ≤ q) H0 H locs) (hls : ls.size = is_mL t)
    (hlen : na ≤ st.length) (hw8 : ia_w (st.drop na) ≤ 8) (hok : ia_ok h rc (st.take na).reverse = true) (hM : is_Mt l D z b sc u (st.take na).reverse h r h') (hf : cells + (h'.1 - h.1) ≤ R.cells ∧ slots + (h'.2.1 - h.2.1) ≤ R.slots)
    (kk : ∀ (H1 : Heap) (locs1 : List Loc), is_Rl D z b sc h' H1 → va_S (fun q => z ≤ q) H0 H1 locs1 → W p l e R s m args below meth c H1 locs1 (cells + (h'.1 - h.1)) (slots + (h'.2.1 - h.2.1)) Q (F0 m (is_pc t (k + 1)) ls ((r.toList ++ st.drop na).map (is_tr z b)))) :
    W p l e R s m args below meth c H locs cells slots Q (F0 m (is_pc t k) ls (st.map (is_tr z b))) := by
  obtain ⟨hx, hb, hml, hown, hts, hnw, hao, hK, hname, hX, hbz, hzH, hRf, hRl, hLw⟩ := C
  obtain ⟨kF, kL, kD, kI, kP, index, km, kk3⟩ := K
  have hXH : va_X b sc.1 sc.2 s H := hX.kept (S.2.1 b (Nat.lt_of_lt_of_le hbz hzH) (by show ¬ z ≤ b; omega))
  have hpre : ∀ U : State, U.heap = H → s.WarmedH U.vm → is_Pc D z b sc (st.take na).reverse h ((st.take na).reverse.map (is_tr z b)).toArray U := by
    intro U hU hW
    refine ⟨rfl, by rw [hU]; exact rl, va_K.moved hW.alike hK, cb_nwarm hW hnw, va_AO.moved hW.alike hao, ?_, hbz⟩
    rw [hU]
    exact va_X.moved hW.alike hXH
  have hroom : (is_rm u (h'.1 - h.1) (h'.2.1 - h.2.1)).frames + 1 ≤ R.frames ∧ 8 + (is_mL u + 11) + (is_rm u (h'.1 - h.1) (h'.2.1 - h.2.1)).locals ≤ R.locals := ⟨Nat.le_trans kF hRf, Nat.le_trans kL hRl⟩
  have hrest : 2 * (F0 m (is_pc t k) ls (st.map (is_tr z b))).monitorRoom + (((st.drop na).map (is_tr z b)).map fun v => v.category).sum ≤ 8 := lv_room (by rw [is_w_sum]; exact hw8)
  have hsplit : st.map (is_tr z b) = ((st.take na).reverse.map (is_tr z b)).reverse ++ (st.drop na).map (is_tr z b) := by
    rw [← List.map_reverse, List.reverse_reverse, ← List.map_append, List.take_append_drop]
  have hS : CallFix p m c (is_cc t) (is_mL t) s args cb_gw t.1.cls := ⟨hx, hb, hml, hown, hts⟩
  have fin : va_Run p l e R s m args below meth c H locs cells slots (h'.1 - h.1) (h'.2.1 - h.2.1) (F0 m (is_pc t k) ls (st.map (is_tr z b))) ((st.drop na).map (is_tr z b)) (is_Qc D z b sc r h' ((st.take na).reverse.map (is_tr z b)).toArray) (fun q => z ≤ q) → W p l e R s m args below meth c H locs cells slots Q (F0 m (is_pc t k) ls (st.map (is_tr z b))) := by
    intro hr T hT X
    obtain ⟨v, st₀, t1, T', L, h0, X', hL, e1, e2, ⟨hv, hrl, hz, hk⟩, stp⟩ := hr T hT X
    cases hv
    rw [h0] at hz hk
    obtain ⟨t2, a1, b1⟩ := kk T'.heap (locs ++ L) (by rw [e1]; exact hrl) ⟨Nat.le_trans S.1 (by rw [e1]; exact hz), fun q h1 h2 => by rw [e1, hk q (Nat.lt_of_lt_of_le h1 S.1) h2]; exact S.2.1 q h1 h2, fun q hq => by
        rcases List.mem_append.mp hq with h | h
        · exact S.2.2 q h
        · exact hL q h⟩ T' rfl X'
    refine ⟨t2, stp t2 ?_, b1⟩
    have hfr : F0 m (is_pc t (k + 1)) ls ((r.toList ++ st.drop na).map (is_tr z b)) = { F0 m (is_pc t k) ls (st.map (is_tr z b)) with pc := (F0 m (is_pc t k) ls (st.map (is_tr z b))).pc + 3, stack := (r.map (is_tr z b)).toList ++ (st.drop na).map (is_tr z b) } := by
      rw [kP, List.map_append]
      cases r <;> rfl
    rw [← hfr]
    exact a1
  rcases kk3 with ⟨hrc, kd, ks, kn⟩ | ⟨hrc, kd, ki1, ki2, ki3, kn, kna⟩ | ⟨hrc, ⟨T0, N0, kc⟩, kd, ki, kse, kn, kna⟩
  · -- static
    refine fin ?_
    have hn : ((st.take na).reverse.map (is_tr z b)).length = na := by simp; omega
    rcases km with km | ⟨host, km⟩
    · exact va_runS (As := (st.take na).reverse.map (is_tr z b)) (rest := (st.drop na).map (is_tr z b)) hS hM ⟨callB_of na hts (is_good u hu) rfl rfl rfl (hts _ kI) (hts _ km) ⟨kD.1, kD.2, kn⟩ hroom, hts _ ks⟩ ⟨is_blind, hpre⟩ rfl hn hls hsplit hrest kd hf
    · exact va_runSN (As := (st.take na).reverse.map (is_tr z b)) (rest := (st.drop na).map (is_tr z b)) hS hM ⟨va_cnB na hts (is_good u hu) rfl rfl rfl (hnw _ km) (hts _ kI) ⟨kD.1, kD.2, kn⟩ hroom, hts _ ks, trivial⟩ ⟨is_blind, hpre⟩ rfl hn hls hsplit hrest kd hf
  · -- a constructor
    subst hrc
    cases has : (st.take na).reverse with
    | nil => rw [has] at hok; simp [ia_ok] at hok
    | cons a as =>
      rw [has] at hok hpre hM hsplit fin
      cases a with
      | ref a =>
        have hn : (as.map (is_tr z b)).length = na - 1 := by
          have := congrArg List.length has
          simp at this
          simp
          omega
        have hsp : st.map (is_tr z b) = (as.map (is_tr z b)).reverse ++ .ref (z + a) :: (st.drop na).map (is_tr z b) := by
          rw [hsplit]
          simp [is_tr]
        obtain ⟨yu, cu, mu, ru, fu, lu, pu, wu⟩ := u
        have hru : ru = none := ki2
        subst hru
        refine fin ?_
        rcases km with km | ⟨host, km⟩
        · exact va_runI (As := as.map (is_tr z b)) (rest := (st.drop na).map (is_tr z b)) hS hM ⟨callB_of (na - 1) hts (is_good _ hu) rfl rfl rfl (hts _ kI) (hts _ km) ⟨kD.1, kD.2, kn⟩ hroom, ki1, hts _ ki3⟩ ⟨is_blind, hpre⟩ rfl hn hls hsp hrest kd hf
        · exact va_runIN (As := as.map (is_tr z b)) (rest := (st.drop na).map (is_tr z b)) hS hM ⟨va_cnB (na - 1) hts (is_good _ hu) rfl rfl rfl (hnw _ km) (hts _ kI) ⟨kD.1, kD.2, kn⟩ hroom, ki1, hts _ ki3⟩ ⟨is_blind, hpre⟩ rfl hn hls hsp hrest kd hf
      | _ => simp [ia_ok] at hok
  · -- a method of an object
    have h100 : ¬ rc = 100 := by omega
    have h101 : ¬ rc = 101 := by omega
    cases has : (st.take na).reverse with
    | nil => rw [has] at hok; simp [ia_ok, h100] at hok
    | cons a as =>
      rw [has] at hok hpre hM hsplit fin
      cases a with
      | ref a =>
        have hn : (as.map (is_tr z b)).length = na - 1 := by
          have := congrArg List.length has
          simp at this
          simp
          omega
        have hsp : st.map (is_tr z b) = (as.map (is_tr z b)).reverse ++ .ref (z + a) :: (st.drop na).map (is_tr z b) := by
          rw [hsplit]
          simp [is_tr]
        have hrecv : ∃ cell : Cell, H[z + a]? = some cell ∧ cell.vm.isStatics = false ∧ s.vm.findClass u.1.cls = some cell.cls := by
          simp only [ia_ok, h100, h101, if_false] at hok
          split at hok
          · rename_i cc v fs he
            have hcc : cc = rc := by simpa using hok
            subst hcc
            have hat := is_P1 (rl.at he (is_nd2 (k := 0) rfl))
            exact va_recv hK hat (ci := cc) (q0 := 0) kc rfl
          · cases hok
        refine fin ?_
        rcases km with km | ⟨host, km⟩
        · exact va_runV (C := u.1.cls) (As := as.map (is_tr z b)) (rest := (st.drop na).map (is_tr z b)) hS hM ⟨callB_of (na - 1) hts (is_good u hu) rfl rfl rfl (hts _ kI) (hts _ km) ⟨kD.1, kD.2, kn⟩ hroom, hts _ ki, hts _ kse⟩ ⟨is_blind, hrecv, hpre⟩ rfl hn hls hsp hrest kd hf
        · exact va_runVN (C := u.1.cls) (As := as.map (is_tr z b)) (rest := (st.drop na).map (is_tr z b)) hS hM ⟨va_cnB (na - 1) hts (is_good u hu) rfl rfl rfl (hnw _ km) (hts _ kI) ⟨kD.1, kD.2, kn⟩ hroom, hts _ ki, hts _ kse⟩ ⟨is_blind, hrecv, hpre⟩ rfl hn hls hsp hrest kd hf
      | _ => simp [ia_ok, h100] at hok
end ISL
/-! the theorem -/
def is_St (MT : Nat → is_M) (NM n : Nat) : Prop :=
  ∀ (y k : Nat) (L : ia_L) (st : List Value) (h : ia_H) (r : Option Value) (hF : ia_H), ia_run (fun y k => is_row (MT y) k) (fun y => is_mL (MT y)) n y k L st h = some (r, hF) → is_Gr MT NM (MT y) → h.1 ≤ hF.1 ∧ h.2.1 ≤ hF.2.1 ∧
    ∀ (p : Program) (l : Launch) (e : Env) (R : Room) (s : State) (m : MethodId) (args : Array Value) (below : List Frame) (meth : Method) (c : Code) (D : is_D) (z b : Nat) (sc : Nat × (Nat → Int32)) (H0 : Heap) (nx0 sn0 : Nat) (Q : State → Prop),
      is_Cx (MT y) p l R s m args meth c D z b sc H0 → nx0 ≤ h.1 → sn0 ≤ h.2.1 → hF.1 - nx0 ≤ R.cells → hF.2.1 - sn0 ≤ R.slots →
      (∀ (k' : Nat) (L' : ia_L) (st' : List Value) (q : Nat), is_row (MT y) k' = some (.inr (.inr q)) → ia_ret q st' = some r → is_FW (MT y) p l e R s m args below meth c D z b sc H0 nx0 sn0 Q k' L' st' hF) →
      is_FW (MT y) p l e R s m args below meth c D z b sc H0 nx0 sn0 Q k L st h
theorem is_metOf {MT : Nat → is_M} {NM n : Nat} (IH : is_St MT NM n) (l : Launch) (D : is_D) (z b : Nat) (sc : Nat × (Nat → Int32)) {y : Nat} (hg : is_Gr MT NM (MT y)) (hc : is_Gc (MT y)) {as : List Value} {h hF : ia_H} {r : Option Value} (hw : ia_w as ≤ is_mL (MT y))
    (hr : ia_run (fun y k => is_row (MT y) k) (fun y => is_mL (MT y)) n y 0 (ia_ent (is_mL (MT y)) as) [] h = some (r, hF)) : is_Mt l D z b sc (MT y) as h r hF := by
  refine Met.ofW (cc := is_cc (MT y)) (maxL := is_mL (MT y)) (ret := is_rt (MT y)) hc.1 rfl ?_
  intro p e s m args below meth c s₁ B hml hv
  obtain ⟨rfl, rl, hK, hnw, hao, hX, hbz⟩ := hv
  have hts := atoms_spec (ws := is_ws (MT y)) B.pre
  have hlocks := B.notSynchronized
  have C : is_Cx (MT y) p l (headSpec (is_ws (MT y)) (is_rm (MT y) (hF.1 - h.1) (hF.2.1 - h.2.1))).room s m ((as.map (is_tr z b)).toArray) meth c D z b sc s.heap :=
    ⟨B.exec, B.bytes, hml, findClass_of_methodNamed B.named, fun w hw => hts w (List.mem_cons_of_mem _ hw), hnw, hao, hK, (name_of_methodNamed B.named B.method).1, hX, hbz, by rw [rl.1]; exact Nat.le_add_right _ _, Nat.le_refl _, Nat.le_refl _, fun h => absurd h hc.2.2.2⟩
  obtain ⟨-, -, key⟩ := IH y 0 _ [] h r hF hr hg
  have hfw := key p l e _ s m _ below meth c D z b sc s.heap h.1 h.2.1 (MQ below (is_Qc D z b sc r hF) ((as.map (is_tr z b)).toArray) s (hF.1 - h.1) (hF.2.1 - h.2.1) (fun q => z ≤ q)) C (Nat.le_refl _) (Nat.le_refl _) (Nat.le_refl _) (Nat.le_refl _) ?_
  · have w := hfw s.heap [] _ rl va_S.rf (is_ent_LH z b _ as hw)
    rw [Nat.sub_self, Nat.sub_self] at w
    rw [lg_entry_eq]
    have h0 : is_pc (MT y) 0 = 0 := hc.2.2.1
    rw [h0] at w
    exact w
  · intro k' L' st' q hrow hret H locs ls rl' S lh
    have hR := hg k' _ hrow
    have hq : ∀ v, r.map (is_tr z b) = v → ∀ t : State, t.heap = H → s.WarmedH t.vm → is_Qc D z b sc r hF ((as.map (is_tr z b)).toArray) s (.returned v) t := by
      rintro v rfl t ht hW
      exact ⟨rfl, by rw [ht]; exact rl', S.F ht⟩
    rcases hR with ⟨rfl, kd, krt⟩ | ⟨rfl, kd, krt⟩ | ⟨rfl, kd, krt⟩ | ⟨rfl, kd, krt⟩ | ⟨rfl, kd, C0, krt⟩
    · match st', hret with
      | [], hret =>
        cases hret
        exact W.vret C.1 C.2.1 (B.returns.trans krt) (hq _ rfl) S.2.2 kd
    · match st', hret with
      | [.int x], hret =>
        cases hret
        exact W.iret C.1 C.2.1 (B.returns.trans krt) (hq _ rfl) S.2.2 kd
    · match st', hret with
      | [.int x], hret =>
        simp only [ia_ret] at hret
        split at hret
        · rename_i hx
          cases hret
          exact W.zret (ty := .boolean) C.1 C.2.1 (B.returns.trans krt) (by rcases hx with rfl | rfl <;> decide) (hq _ rfl) S.2.2 kd
        · cases hret
    · match st', hret with
      | [.long x], hret =>
        cases hret
        exact W.lret C.1 C.2.1 (B.returns.trans krt) (hq _ rfl) S.2.2 kd
    · match st', hret with
      | [.ref x], hret =>
        cases hret
        exact W.aret C.1 C.2.1 (B.returns.trans krt) (Or.inl ⟨_, rfl⟩) (Or.inr ⟨_, rfl⟩) (hq _ rfl) S.2.2 kd
theorem is_sound {MT : Nat → is_M} {NM : Nat} (hG : ∀ y, y < NM → is_Gr MT NM (MT y) ∧ is_Gc (MT y)) : ∀ n, is_St MT NM n := by
  intro n
  induction n with
  | zero => intro y k L st h r hF hr; cases hr
  | succ n IH =>
    intro y k L st h r hF hr hg
    rw [ia_run] at hr
    split at hr
    · cases hr
    · rename_i f hf
      obtain ⟨⟨k1, L1, st1, h1⟩, hr1, hr2⟩ := Option.bind_eq_some_iff.mp hr
      obtain ⟨a1, a2, a3⟩ := (hg k _ hf : is_Ok (MT y) k f) L st h k1 L1 st1 h1 hr1
      obtain ⟨b1, b2, b3⟩ := IH y k1 L1 st1 h1 r hF hr2 hg
      refine ⟨Nat.le_trans a1 b1, Nat.le_trans a2 b2, ?_⟩
      intro p l e R s m args below meth c D z b sc H0 nx0 sn0 Q C hn hs hcl hsl HR
      exact a3 p l e R s m args below meth c D z b sc H0 nx0 sn0 Q C hn hs (by omega) (by omega) (b3 p l e R s m args below meth c D z b sc H0 nx0 sn0 Q C (Nat.le_trans hn a1) (Nat.le_trans hs a2) hcl hsl HR)
    · rename_i u na rc hf
      split at hr
      · cases hr
      · rename_i hnl
        obtain ⟨⟨v, h1⟩, hr1, hr2⟩ := Option.bind_eq_some_iff.mp hr
        obtain ⟨hu, K⟩ := (hg k _ hf : u < NM ∧ is_OkC (MT y) (MT u) k na rc)
        obtain ⟨a1, a2, -⟩ := IH u 0 _ [] h v h1 hr1 (hG u hu).1
        obtain ⟨b1, b2, b3⟩ := IH y (k + 1) L _ h1 r hF hr2 hg
        refine ⟨Nat.le_trans a1 b1, Nat.le_trans a2 b2, ?_⟩
        intro p l e R s m args below meth c D z b sc H0 nx0 sn0 Q C hn hs hcl hsl HR H locs ls rl S lh
        have q1 : na ≤ st.length := by omega
        have q2 : ia_w (st.take na) ≤ is_mL (MT u) := by omega
        have q3 : ia_w (st.drop na) ≤ 8 := by omega
        have q4 : ia_ok h rc (st.take na).reverse = true := by
          cases hx : ia_ok h rc (st.take na).reverse with
          | true => rfl
          | false => exact absurd (Or.inr (Or.inr (Or.inr hx))) hnl
        have hwr : ia_w (st.take na).reverse = ia_w (st.take na) := by
          have hs : ∀ l : List Value, ia_w l = (l.map fun v => v.category).sum := by
            intro l
            induction l with
            | nil => rfl
            | cons v l ih => simp [ia_w, ih]
          rw [hs, hs, List.map_reverse, List.sum_reverse]
        have hM := is_metOf IH l D z b sc (hG u hu).1 (hG u hu).2 (by rw [hwr]; exact q2) hr1
        have hfw := b3 p l e R s m args below meth c D z b sc H0 nx0 sn0 Q C (Nat.le_trans hn a1) (Nat.le_trans hs a2) hcl hsl HR
        refine is_callW C K (hG u hu).2 rl S lh.1 q1 q3 q4 hM ⟨by omega, by omega⟩ fun H1 locs1 rl1 S1 => ?_
        have w := hfw H1 locs1 ls rl1 S1 lh
        have e1 : h.1 - nx0 + (h1.1 - h.1) = h1.1 - nx0 := by omega
        have e2 : h.2.1 - sn0 + (h1.2.1 - h.2.1) = h1.2.1 - sn0 := by omega
        rw [e1, e2]
        exact w
    · rename_i q hf
      obtain ⟨v, hr1, hr2⟩ := Option.map_eq_some_iff.mp hr
      cases hr2
      refine ⟨Nat.le_refl _, Nat.le_refl _, ?_⟩
      intro p l e R s m args below meth c D z b sc H0 nx0 sn0 Q C hn hs hcl hsl HR
      exact HR k L st q hf hr1
end
section
/-! THE METHODS, as rows of the abstract machine (by program, wip/whole/gen6.py) -/
/-- the law's own call of row, with what is thrown there -/
def ia_lrow : ia_F := fun k L st h => match st with
  | .ref out :: .int i :: .ref x :: st => if ia_w st ≤ 8 then ((ia_gR h 0 x 3).bind fun ro => (ia_gI h 3 ro 1).bind fun n =>
      if i < 0 ∨ n ≤ i then some (k + 1, L, .int 1 :: st, ia_new h 6 (.inr (9, []))) else (ia_gR h 3 ro 0).bind fun a => (ia_ld h 0 a i).bind fun v => (ia_stL h out 0 v.toInt64).map fun h => (k + 1, L, .int 0 :: st, h)) else none
  | _ => none
/-- C public CardsAndBans(); -/
def mt_0 : is_M := (⟨"CardsAndBans", "<init>", "()V"⟩, prog_1_method_1_code, 1, none, 3, 64, [0, 1, 4, 5, 8, 9, 12, 15, 16, 19, 20, 23, 26, 27, 30, 31, 34, 37, 38, 41, 42, 45, 48, 49, 52, 53, 56, 59, 60, 63, 64, 67, 70, 71, 74, 75, 78, 81, 82, 85, 86, 89, 92, 93, 96, 97, 100, 103, 104, 107, 108, 111, 114, 115, 116, 119], [.inl (ia_aload 0), .inl ia_oinit, .inl (ia_aload 0), .inl (ia_newo 1 4 [.null, .int 0, .int 0, .int 0]), .inl ia_dup, .inr (.inl (238, 1, 101)), .inl (ia_putR 0 0), .inl (ia_aload 0), .inl (ia_newo 1 4 [.null, .int 0, .int 0, .int 0]), .inl ia_dup, .inr (.inl (238, 1, 101)), .inl (ia_putR 0 1), .inl (ia_aload 0), .inl (ia_newo 2 2 [.null, .int 0]), .inl ia_dup, .inr (.inl (176, 1, 101)), .inl (ia_putR 0 2), .inl (ia_aload 0), .inl (ia_newo 3 2 [.null, .int 0]), .inl ia_dup, .inr (.inl (188, 1, 101)), .inl (ia_putR 0 3), .inl (ia_aload 0), .inl (ia_newo 4 1 [.null]), .inl ia_dup, .inr (.inl (192, 1, 101)), .inl (ia_putR 0 4), .inl (ia_aload 0), .inl (ia_newo 4 1 [.null]), .inl ia_dup, .inr (.inl (192, 1, 101)), .inl (ia_putR 0 5), .inl (ia_aload 0), .inl (ia_newo 5 11 [.int 0, .int 0, .int 0, .int 0, .null, .null, .null, .null, .null, .null, .null]), .inl ia_dup, .inr (.inl (204, 1, 101)), .inl (ia_putR 0 6), .inl (ia_aload 0), .inl (ia_newo 5 11 [.int 0, .int 0, .int 0, .int 0, .null, .null, .null, .null, .null, .null, .null]), .inl ia_dup, .inr (.inl (204, 1, 101)), .inl (ia_putR 0 7), .inl (ia_aload 0), .inl (ia_newo 5 11 [.int 0, .int 0, .int 0, .int 0, .null, .null, .null, .null, .null, .null, .null]), .inl ia_dup, .inr (.inl (204, 1, 101)), .inl (ia_putR 0 8), .inl (ia_aload 0), .inl (ia_newo 6 3 [.null, .int 0, .int 0]), .inl ia_dup, .inr (.inl (172, 1, 101)), .inl (ia_putR 0 9), .inl (ia_aload 0), .inl (ia_const (.int 0)), .inl (ia_putZ 0 10), .inr (.inr 0)])
/-- C public int sign(int); -/
def mt_1 : is_M := (⟨"CardsAndBans", "sign", "(I)I"⟩, prog_1_method_2_code, 2, some (.int), 2, 43, [0, 1, 4, 5, 8, 11, 12, 15, 18, 21, 22], [.inl (ia_aload 0), .inl (ia_getR 0 0), .inl (ia_iload 1), .inr (.inl (239, 2, 1)), .inl (ia_ifeq 9), .inl (ia_aload 0), .inl (ia_getR 0 0), .inl (ia_getI 1 1), .inl (ia_goto 10), .inl (ia_const (.int (-1))), .inr (.inr 1)])
/-- C public boolean end(int); -/
def mt_2 : is_M := (⟨"CardsAndBans", "end", "(I)Z"⟩, prog_1_method_3_code, 2, some (.boolean), 1, 21, [0, 1, 4, 5, 8], [.inl (ia_aload 0), .inl (ia_getR 0 0), .inl (ia_iload 1), .inr (.inl (242, 2, 1)), .inr (.inr 2)])
/-- C public int rules(); -/
def mt_3 : is_M := (⟨"CardsAndBans", "rules", "()I"⟩, prog_1_method_4_code, 2, some (.int), 6, 141, [0, 1, 4, 5, 6, 9, 12, 13, 16, 19, 22, 23, 26, 27, 28, 31, 32, 35, 38, 39], [.inl (ia_aload 0), .inr (.inl (59, 1, 0)), .inl (ia_istore 1), .inl (ia_aload 0), .inl (ia_getR 0 0), .inr (.inl (243, 1, 1)), .inl (ia_aload 0), .inl (ia_getR 0 0), .inr (.inl (246, 1, 1)), .inl (ia_ifne 13), .inl (ia_aload 0), .inr (.inl (58, 1, 0)), .inr (.inr 1), .inl (ia_aload 0), .inl (ia_getR 0 4), .inl (ia_aload 0), .inl (ia_getR 0 5), .inr (.inl (194, 2, 4)), .inl (ia_iload 1), .inr (.inr 1)])
/-- C public int squads(); -/
def mt_4 : is_M := (⟨"CardsAndBans", "squads", "()I"⟩, prog_1_method_5_code, 1, some (.int), 3, 66, [0, 1, 4, 5, 8, 11, 12, 15, 18, 21, 22, 25, 26, 27, 30, 31, 34, 37, 38, 41, 44, 45, 46, 49, 50, 53, 56], [.inl (ia_aload 0), .inr (.inl (62, 1, 0)), .inl (ia_aload 0), .inl (ia_getR 0 0), .inr (.inl (243, 1, 1)), .inl (ia_aload 0), .inl (ia_getR 0 0), .inr (.inl (246, 1, 1)), .inl (ia_ifne 12), .inl (ia_aload 0), .inr (.inl (58, 1, 0)), .inr (.inr 1), .inl (ia_aload 0), .inl (ia_getR 0 6), .inl (ia_aload 0), .inl (ia_getR 0 2), .inr (.inl (206, 2, 5)), .inl (ia_aload 0), .inl (ia_getR 0 9), .inr (.inl (173, 1, 6)), .inl (ia_aload 0), .inl (ia_const (.int 0)), .inl (ia_putZ 0 10), .inl (ia_aload 0), .inl (ia_getR 0 6), .inl (ia_getI 5 0), .inr (.inr 1)])
/-- C public int rule(int, int); -/
def mt_5 : is_M := (⟨"CardsAndBans", "rule", "(II)I"⟩, prog_1_method_6_code, 3, some (.int), 2, 43, [0, 1, 4, 7, 8, 11, 12, 13, 14, 15, 18, 19, 22, 23, 24, 27, 28, 29, 30, 33, 34, 35, 38], [.inl (ia_iload 1), .inr (.inl (49, 1, 100)), .inl (ia_ifeq 15), .inl (ia_iload 2), .inl (ia_iflt 15), .inl (ia_iload 2), .inl (ia_const (.int 4)), .inl (ia_const (.int 2)), .inl (ia_aload 0), .inl (ia_getR 0 4), .inl (ia_iload 1), .inr (.inl (197, 2, 4)), .inl (ia_i2 fun x y => x * y), .inl (ia_i2 fun x y => x + y), .inl (ia_ilt 17), .inl (ia_const (.int (-1))), .inr (.inr 1), .inl (ia_aload 0), .inl (ia_getR 0 4), .inl (ia_iload 1), .inl (ia_iload 2), .inr (.inl (195, 3, 4)), .inr (.inr 1)])
/-- C public int written(int); -/
def mt_6 : is_M := (⟨"CardsAndBans", "written", "(I)I"⟩, prog_1_method_7_code, 2, some (.int), 3, 66, [0, 1, 4, 5, 6, 9, 10, 13, 16, 17, 18, 21, 22, 25], [.inl (ia_aload 0), .inr (.inl (66, 1, 0)), .inl (ia_iload 1), .inl (ia_const (.int (-1))), .inl (ia_ine 9), .inl (ia_aload 0), .inl (ia_getR 0 1), .inl (ia_getI 1 1), .inr (.inr 1), .inl (ia_aload 0), .inl (ia_getR 0 1), .inl (ia_iload 1), .inr (.inl (244, 2, 1)), .inr (.inr 1)])
/-- C public int team(int); -/
def mt_7 : is_M := (⟨"CardsAndBans", "team", "(I)I"⟩, prog_1_method_8_code, 5, some (.int), 2, 43, [0, 1, 2, 5, 8, 9, 10, 11, 12, 13, 14, 15, 17, 19, 20, 23, 26, 29, 30, 33, 35, 36, 39, 40, 43, 46, 47, 48, 51, 53, 56, 59, 60, 63, 64, 65, 66, 69, 72, 73, 76, 79, 80, 83, 84, 87, 88, 89, 92, 95, 96, 97], [.inl (ia_aload 0), .inl (ia_iload 1), .inr (.inl (52, 2, 0)), .inl (ia_ifne 6), .inl (ia_const (.int (-1))), .inr (.inr 1), .inl (ia_const (.int 0)), .inl (ia_istore 2), .inl (ia_const (.int 0)), .inl (ia_istore 3), .inl (ia_const (.int 0)), .inl (ia_istore 4), .inl (ia_iload 4), .inl (ia_aload 0), .inl (ia_getR 0 6), .inl (ia_getI 5 2), .inl (ia_ige 38), .inl (ia_aload 0), .inl (ia_getR 0 6), .inl (ia_iload 4), .inl (ia_const (.int 0)), .inr (.inl (216, 3, 5)), .inl (ia_iload 1), .inl (ia_ine 36), .inl (ia_iinc 2 1), .inl (ia_iload 3), .inl (ia_aload 0), .inl (ia_getR 0 6), .inl (ia_iload 4), .inr (.inl (218, 2, 5)), .inl (ia_ifeq 33), .inl (ia_const (.int 1)), .inl (ia_goto 34), .inl (ia_const (.int 0)), .inl (ia_i2 fun x y => x + y), .inl (ia_istore 3), .inl (ia_iinc 4 1), .inl (ia_goto 12), .inl (ia_aload 0), .inl (ia_getR 0 3), .inr (.inl (189, 1, 3)), .inl (ia_iload 3), .inr (.inl (190, 2, 3)), .inl (ia_iload 2), .inr (.inl (190, 2, 3)), .inl ia_pop, .inl (ia_aload 0), .inl (ia_getR 0 6), .inl (ia_getR 5 4), .inl (ia_iload 1), .inl ia_iald, .inr (.inr 1)])
/-- C public int squad(int); -/
def mt_8 : is_M := (⟨"CardsAndBans", "squad", "(I)I"⟩, prog_1_method_9_code, 3, some (.int), 2, 43, [0, 1, 4, 7, 8, 9, 10, 13, 14, 17, 18, 19, 22, 25, 26, 29, 32, 33, 34], [.inl (ia_iload 1), .inr (.inl (50, 1, 100)), .inl (ia_ifne 5), .inl (ia_const (.int (-1))), .inr (.inr 1), .inl (ia_aload 0), .inl (ia_getR 0 6), .inl (ia_iload 1), .inr (.inl (207, 2, 5)), .inl (ia_istore 2), .inl (ia_aload 0), .inl (ia_getR 0 3), .inr (.inl (189, 1, 3)), .inl (ia_iload 2), .inr (.inl (257, 1, 100)), .inr (.inl (190, 2, 3)), .inl ia_pop, .inl (ia_iload 2), .inr (.inr 1)])
/-- C public int play(int, int, int); -/
def mt_9 : is_M := (⟨"CardsAndBans", "play", "(III)I"⟩, prog_1_method_10_code, 8, some (.int), 6, 136, [0, 1, 4, 5, 8, 11, 12, 15, 18, 21, 22, 25, 26, 27, 30, 33, 34, 35, 38, 41, 42, 43, 44, 47, 48, 51, 54, 57, 58, 59, 62, 63, 66, 67, 68, 69, 72, 74, 76, 79, 81, 82, 84, 86, 87, 90, 93, 96, 98, 99, 102, 104, 107, 108, 111, 113, 116, 119, 121, 123, 126, 128, 129, 132, 135, 137, 140, 141, 144, 145, 148, 151, 152, 155, 158, 159, 162, 165, 166, 168, 169, 172, 173, 176, 179, 180, 183, 186, 187, 190, 193, 196, 198, 201, 203, 206, 209, 210, 212], [.inl (ia_aload 0), .inr (.inl (63, 1, 0)), .inl (ia_aload 0), .inl (ia_getR 0 0), .inr (.inl (243, 1, 1)), .inl (ia_aload 0), .inl (ia_getR 0 0), .inr (.inl (246, 1, 1)), .inl (ia_ifne 12), .inl (ia_aload 0), .inr (.inl (58, 1, 0)), .inr (.inr 1), .inl (ia_iload 1), .inr (.inl (49, 1, 100)), .inl (ia_ifeq 19), .inl (ia_iload 2), .inl (ia_iload 3), .inr (.inl (51, 2, 100)), .inl (ia_ifne 21), .inl (ia_const (.int (-1))), .inr (.inr 1), .inl (ia_aload 0), .inl (ia_getR 0 7), .inl (ia_aload 0), .inl (ia_getR 0 6), .inr (.inl (205, 2, 5)), .inl (ia_newo 7 8 [.null, .null, .int 0, .int 0, .int 0, .int 0, .int 0, .int 0]), .inl ia_dup, .inl (ia_aload 0), .inl (ia_getR 0 7), .inl (ia_aload 0), .inl (ia_getR 0 4), .inl (ia_iload 1), .inl (ia_iload 2), .inl (ia_iload 3), .inr (.inl (182, 6, 101)), .inl (ia_astore 4), .inl (ia_aload 4), .inr (.inl (183, 1, 7)), .inl (ia_istore 5), .inl (ia_const (.int 0)), .inl (ia_istore 6), .inl (ia_iload 6), .inl (ia_aload 0), .inl (ia_getR 0 2), .inl (ia_getI 2 1), .inl (ia_ige 64), .inl (ia_aload 4), .inl (ia_aload 0), .inl (ia_getR 0 2), .inl (ia_iload 6), .inr (.inl (179, 2, 2)), .inl (ia_aload 0), .inl (ia_getR 0 2), .inl (ia_iload 6), .inr (.inl (180, 2, 2)), .inr (.inl (184, 3, 7)), .inl (ia_istore 7), .inl (ia_iload 7), .inl (ia_ifge 62), .inl (ia_iload 7), .inr (.inr 1), .inl (ia_iinc 6 1), .inl (ia_goto 42), .inl (ia_aload 4), .inr (.inl (186, 1, 7)), .inl (ia_aload 0), .inl (ia_getR 0 9), .inl (ia_aload 0), .inl (ia_getR 0 6), .inr (.inl (174, 2, 6)), .inl (ia_aload 0), .inl (ia_getR 0 7), .inl (ia_getI 5 2), .inl (ia_aload 0), .inl (ia_getR 0 6), .inl (ia_getI 5 2), .inl (ia_i2 fun x y => x - y), .inl (ia_istore 6), .inl (ia_aload 0), .inl (ia_getR 0 6), .inl (ia_aload 0), .inl (ia_getR 0 7), .inr (.inl (205, 2, 5)), .inl (ia_aload 0), .inl (ia_getR 0 3), .inr (.inl (189, 1, 3)), .inl (ia_aload 0), .inl (ia_getR 0 6), .inl (ia_getI 5 1), .inr (.inl (190, 2, 3)), .inl (ia_iload 5), .inr (.inl (190, 2, 3)), .inl (ia_aload 4), .inl (ia_getI 7 5), .inr (.inl (190, 2, 3)), .inl ia_pop, .inl (ia_iload 6), .inr (.inr 1)])
/-- C public int move(int, int); -/
def mt_10 : is_M := (⟨"CardsAndBans", "move", "(II)I"⟩, prog_1_method_11_code, 4, some (.int), 3, 69, [0, 1, 2, 5, 8, 9, 12, 15, 16, 17, 18, 21, 24, 25, 26, 27, 28, 29, 32, 34, 35, 36, 39, 40, 43, 46, 47, 50, 53, 54, 55, 56, 57], [.inl (ia_aload 0), .inl (ia_iload 1), .inr (.inl (52, 2, 0)), .inl (ia_ifeq 7), .inl (ia_iload 2), .inr (.inl (50, 1, 100)), .inl (ia_ifne 9), .inl (ia_const (.int (-1))), .inr (.inr 1), .inl (ia_aload 0), .inl (ia_getR 0 6), .inl (ia_getR 5 4), .inl (ia_iload 1), .inl ia_iald, .inl (ia_istore 3), .inl (ia_iload 3), .inl (ia_iload 2), .inl (ia_ine 20), .inl (ia_const (.int (-2))), .inr (.inr 1), .inl (ia_aload 0), .inl (ia_getR 0 9), .inl (ia_aload 0), .inl (ia_getR 0 6), .inr (.inl (174, 2, 6)), .inl (ia_aload 0), .inl (ia_getR 0 6), .inl (ia_getR 5 4), .inl (ia_iload 1), .inl (ia_iload 2), .inl ia_iast, .inl (ia_iload 3), .inr (.inr 1)])
/-- C public int swaps(int, int); -/
def mt_11 : is_M := (⟨"CardsAndBans", "swaps", "(II)I"⟩, prog_1_method_12_code, 5, some (.int), 3, 69, [0, 1, 2, 5, 8, 9, 10, 13, 16, 17, 18, 19, 22, 25, 26, 27, 28, 29, 32, 35, 36, 37, 39, 40, 42, 45, 47, 48, 49, 52, 53, 56, 59, 60, 63, 66, 67, 69, 70, 71, 74, 77, 78, 79, 80, 82], [.inl (ia_aload 0), .inl (ia_iload 1), .inr (.inl (52, 2, 0)), .inl (ia_ifeq 8), .inl (ia_aload 0), .inl (ia_iload 2), .inr (.inl (52, 2, 0)), .inl (ia_ifne 10), .inl (ia_const (.int (-1))), .inr (.inr 1), .inl (ia_aload 0), .inl (ia_getR 0 6), .inl (ia_getR 5 4), .inl (ia_iload 1), .inl ia_iald, .inl (ia_istore 3), .inl (ia_aload 0), .inl (ia_getR 0 6), .inl (ia_getR 5 4), .inl (ia_iload 2), .inl ia_iald, .inl (ia_istore 4), .inl (ia_iload 3), .inl (ia_iload 4), .inl (ia_ine 27), .inl (ia_const (.int (-2))), .inr (.inr 1), .inl (ia_aload 0), .inl (ia_getR 0 9), .inl (ia_aload 0), .inl (ia_getR 0 6), .inr (.inl (174, 2, 6)), .inl (ia_aload 0), .inl (ia_getR 0 6), .inl (ia_getR 5 4), .inl (ia_iload 1), .inl (ia_iload 4), .inl ia_iast, .inl (ia_aload 0), .inl (ia_getR 0 6), .inl (ia_getR 5 4), .inl (ia_iload 2), .inl (ia_iload 3), .inl ia_iast, .inl (ia_iload 4), .inr (.inr 1)])
/-- C public int bans(int, int, int); -/
def mt_12 : is_M := (⟨"CardsAndBans", "bans", "(III)I"⟩, prog_1_method_13_code, 4, some (.int), 3, 69, [0, 1, 2, 5, 8, 9, 12, 15, 16, 17, 20, 21, 23, 26, 27, 28, 29, 32, 35, 37, 40, 42, 43, 44, 47, 48, 51, 54, 55, 58, 59, 60, 61, 62, 65, 66, 67, 70, 73], [.inl (ia_aload 0), .inl (ia_iload 1), .inr (.inl (52, 2, 0)), .inl (ia_ifeq 13), .inl (ia_iload 2), .inr (.inl (49, 1, 100)), .inl (ia_ifeq 13), .inl (ia_iload 3), .inl (ia_const (.int 1)), .inl (ia_ilt 13), .inl (ia_iload 3), .inl (ia_const (.int 9)), .inl (ia_ile 15), .inl (ia_const (.int (-1))), .inr (.inr 1), .inl (ia_aload 0), .inl (ia_getR 0 6), .inl (ia_getI 5 2), .inl (ia_const (.int 100)), .inl (ia_ilt 22), .inl (ia_const (.int (-4))), .inr (.inr 1), .inl (ia_aload 0), .inl (ia_getR 0 9), .inl (ia_aload 0), .inl (ia_getR 0 6), .inr (.inl (174, 2, 6)), .inl (ia_aload 0), .inl (ia_getR 0 6), .inl (ia_iload 1), .inl (ia_iload 2), .inl (ia_iload 3), .inl (ia_aload 0), .inl (ia_getR 0 4), .inl (ia_iload 2), .inl (ia_const (.int 0)), .inr (.inl (195, 3, 4)), .inr (.inl (230, 5, 5)), .inr (.inr 1)])
/-- C public int given(); -/
def mt_13 : is_M := (⟨"CardsAndBans", "given", "()I"⟩, prog_1_method_14_code, 3, some (.int), 5, 110, [0, 1, 4, 5, 8, 11, 12, 15, 18, 21, 22, 25, 26, 27, 30, 33, 34, 37, 40, 41, 43, 46, 48, 49, 50, 53, 54, 57, 60, 61, 62, 63, 64, 67, 70, 73, 74, 77, 78, 81, 82, 83, 86, 87, 90, 91, 94, 95, 96, 99, 100, 103, 104, 107, 108, 109, 112, 115, 116, 119, 122, 123, 126, 129], [.inl (ia_aload 0), .inr (.inl (64, 1, 0)), .inl (ia_aload 0), .inl (ia_getR 0 0), .inr (.inl (243, 1, 1)), .inl (ia_aload 0), .inl (ia_getR 0 0), .inr (.inl (246, 1, 1)), .inl (ia_ifne 12), .inl (ia_aload 0), .inr (.inl (58, 1, 0)), .inr (.inr 1), .inl (ia_aload 0), .inl (ia_getR 0 6), .inl (ia_getI 5 2), .inl (ia_aload 0), .inl (ia_getR 0 2), .inl (ia_getI 2 1), .inl (ia_i2 fun x y => x + y), .inl (ia_const (.int 100)), .inl (ia_ile 23), .inl (ia_const (.int (-4))), .inr (.inr 1), .inl (ia_aload 0), .inl (ia_getR 0 9), .inl (ia_aload 0), .inl (ia_getR 0 6), .inr (.inl (174, 2, 6)), .inl (ia_const (.int 0)), .inl (ia_istore 1), .inl (ia_iload 1), .inl (ia_aload 0), .inl (ia_getR 0 2), .inl (ia_getI 2 1), .inl (ia_ige 60), .inl (ia_aload 0), .inl (ia_getR 0 2), .inl (ia_iload 1), .inr (.inl (180, 2, 2)), .inl (ia_istore 2), .inl (ia_aload 0), .inl (ia_getR 0 6), .inl (ia_aload 0), .inl (ia_getR 0 2), .inl (ia_iload 1), .inr (.inl (179, 2, 2)), .inl (ia_iload 2), .inl (ia_aload 0), .inl (ia_getR 0 2), .inl (ia_iload 1), .inr (.inl (181, 2, 2)), .inl (ia_aload 0), .inl (ia_getR 0 4), .inl (ia_iload 2), .inl (ia_const (.int 0)), .inr (.inl (195, 3, 4)), .inr (.inl (230, 5, 5)), .inl ia_pop, .inl (ia_iinc 1 1), .inl (ia_goto 30), .inl (ia_aload 0), .inl (ia_getR 0 2), .inl (ia_getI 2 1), .inr (.inr 1)])
/-- C public int appeal(int); -/
def mt_14 : is_M := (⟨"CardsAndBans", "appeal", "(I)I"⟩, prog_1_method_15_code, 2, some (.int), 3, 69, [0, 1, 2, 5, 8, 9, 10, 11, 14, 15, 18, 21, 23, 24, 25, 28, 29, 30, 33, 36, 38, 39, 40, 43, 44, 47, 50, 51, 54, 55, 56, 57, 60, 61, 64, 65, 66, 69, 70, 73, 74, 75, 78], [.inl (ia_aload 0), .inl (ia_iload 1), .inr (.inl (53, 2, 0)), .inl (ia_ifne 6), .inl (ia_const (.int (-1))), .inr (.inr 1), .inl (ia_aload 0), .inl (ia_getR 0 6), .inl (ia_iload 1), .inr (.inl (218, 2, 5)), .inl (ia_ifne 13), .inl (ia_const (.int (-2))), .inr (.inr 1), .inl (ia_aload 0), .inl (ia_getR 0 6), .inl (ia_iload 1), .inl (ia_const (.int 4)), .inr (.inl (216, 3, 5)), .inl (ia_ifeq 21), .inl (ia_const (.int (-3))), .inr (.inr 1), .inl (ia_aload 0), .inl (ia_getR 0 9), .inl (ia_aload 0), .inl (ia_getR 0 6), .inr (.inl (174, 2, 6)), .inl (ia_aload 0), .inl (ia_getR 0 6), .inl (ia_iload 1), .inl (ia_const (.int 4)), .inl (ia_const (.int 1)), .inr (.inl (217, 4, 5)), .inl (ia_aload 0), .inl (ia_getR 0 6), .inl (ia_const (.int 4)), .inl (ia_iload 1), .inr (.inl (234, 3, 5)), .inl (ia_aload 0), .inl (ia_getR 0 6), .inl (ia_iload 1), .inl (ia_const (.int 2)), .inr (.inl (216, 3, 5)), .inr (.inr 1)])
/-- C public int decide(int, boolean, int); -/
def mt_15 : is_M := (⟨"CardsAndBans", "decide", "(IZI)I"⟩, prog_1_method_16_code, 5, some (.int), 3, 69, [0, 1, 4, 5, 8, 9, 11, 12, 13, 16, 19, 20, 23, 24, 26, 29, 30, 31, 32, 35, 36, 39, 42, 44, 45, 46, 49, 50, 53, 56, 57, 60, 61, 62, 63, 66, 67, 70, 71, 72, 75], [.inl (ia_iload 2), .inl (ia_ifeq 4), .inl (ia_const (.int 0)), .inl (ia_goto 5), .inl (ia_const (.int 3)), .inl (ia_istore 4), .inl (ia_aload 0), .inl (ia_iload 1), .inr (.inl (53, 2, 0)), .inl (ia_ifeq 15), .inl (ia_iload 3), .inl (ia_iflt 15), .inl (ia_iload 3), .inl (ia_iload 4), .inl (ia_ile 17), .inl (ia_const (.int (-1))), .inr (.inr 1), .inl (ia_aload 0), .inl (ia_getR 0 6), .inl (ia_iload 1), .inr (.inl (219, 2, 5)), .inl (ia_ifne 24), .inl (ia_const (.int (-2))), .inr (.inr 1), .inl (ia_aload 0), .inl (ia_getR 0 9), .inl (ia_aload 0), .inl (ia_getR 0 6), .inr (.inl (174, 2, 6)), .inl (ia_aload 0), .inl (ia_getR 0 6), .inl (ia_iload 1), .inl (ia_iload 2), .inl (ia_iload 3), .inr (.inl (232, 4, 5)), .inl (ia_aload 0), .inl (ia_getR 0 6), .inl (ia_iload 1), .inl (ia_const (.int 2)), .inr (.inl (216, 3, 5)), .inr (.inr 1)])
/-- C public int decides(boolean); -/
def mt_16 : is_M := (⟨"CardsAndBans", "decides", "(Z)I"⟩, prog_1_method_17_code, 4, some (.int), 3, 69, [0, 1, 4, 7, 8, 9, 12, 14, 15, 16, 19, 20, 23, 26, 27, 28, 29, 30, 33, 36, 39, 40, 43, 44, 47, 50, 51, 54, 55, 56, 57, 60, 63, 66, 67], [.inl (ia_aload 0), .inl (ia_getR 0 6), .inr (.inl (229, 1, 5)), .inl (ia_istore 2), .inl (ia_iload 2), .inl (ia_ifne 8), .inl (ia_const (.int (-2))), .inr (.inr 1), .inl (ia_aload 0), .inl (ia_getR 0 9), .inl (ia_aload 0), .inl (ia_getR 0 6), .inr (.inl (174, 2, 6)), .inl (ia_const (.int 0)), .inl (ia_istore 3), .inl (ia_iload 3), .inl (ia_aload 0), .inl (ia_getR 0 6), .inl (ia_getI 5 2), .inl (ia_ige 33), .inl (ia_aload 0), .inl (ia_getR 0 6), .inl (ia_iload 3), .inr (.inl (219, 2, 5)), .inl (ia_ifeq 31), .inl (ia_aload 0), .inl (ia_getR 0 6), .inl (ia_iload 3), .inl (ia_iload 1), .inl (ia_const (.int 0)), .inr (.inl (232, 4, 5)), .inl (ia_iinc 3 1), .inl (ia_goto 15), .inl (ia_iload 2), .inr (.inr 1)])
/-- C public int pardon(int, int); -/
def mt_17 : is_M := (⟨"CardsAndBans", "pardon", "(II)I"⟩, prog_1_method_18_code, 3, some (.int), 3, 69, [0, 1, 2, 5, 8, 9, 10, 13, 14, 15, 16, 19, 20, 23, 26, 28, 29, 30, 31, 34, 35, 36, 39, 42, 43, 44, 45, 48, 49, 52, 55, 56, 59, 60, 61, 64, 65, 68, 69, 70, 73], [.inl (ia_aload 0), .inl (ia_iload 1), .inr (.inl (53, 2, 0)), .inl (ia_ifeq 7), .inl (ia_iload 2), .inl (ia_const (.int 1)), .inl (ia_ige 9), .inl (ia_const (.int (-1))), .inr (.inr 1), .inl (ia_aload 0), .inl (ia_getR 0 6), .inl (ia_iload 1), .inr (.inl (218, 2, 5)), .inl (ia_ifne 16), .inl (ia_const (.int (-2))), .inr (.inr 1), .inl (ia_iload 2), .inl (ia_aload 0), .inl (ia_getR 0 6), .inl (ia_iload 1), .inl (ia_const (.int 2)), .inr (.inl (216, 3, 5)), .inl (ia_ile 25), .inl (ia_const (.int (-1))), .inr (.inr 1), .inl (ia_aload 0), .inl (ia_getR 0 9), .inl (ia_aload 0), .inl (ia_getR 0 6), .inr (.inl (174, 2, 6)), .inl (ia_aload 0), .inl (ia_getR 0 6), .inl (ia_iload 1), .inl (ia_iload 2), .inr (.inl (233, 3, 5)), .inl (ia_aload 0), .inl (ia_getR 0 6), .inl (ia_iload 1), .inl (ia_const (.int 2)), .inr (.inl (216, 3, 5)), .inr (.inr 1)])
/-- C public int season(); -/
def mt_18 : is_M := (⟨"CardsAndBans", "season", "()I"⟩, prog_1_method_19_code, 2, some (.int), 3, 69, [0, 1, 4, 7, 8, 9, 12, 13, 16, 19, 20, 23, 26, 27, 30, 31, 34, 37, 38, 41, 42], [.inl (ia_aload 0), .inl (ia_getR 0 6), .inr (.inl (210, 1, 5)), .inl (ia_istore 1), .inl (ia_aload 0), .inl (ia_getR 0 9), .inl (ia_aload 0), .inl (ia_getR 0 6), .inr (.inl (174, 2, 6)), .inl (ia_aload 0), .inl (ia_getR 0 6), .inl (ia_getR 5 5), .inl (ia_const (.int 0)), .inr (.inl (256, 2, 100)), .inl (ia_aload 0), .inl (ia_getR 0 6), .inl (ia_getR 5 6), .inl (ia_const (.int 0)), .inr (.inl (256, 2, 100)), .inl (ia_iload 1), .inr (.inr 1)])
/-- C public int may(int, int); -/
def mt_19 : is_M := (⟨"CardsAndBans", "may", "(II)I"⟩, prog_1_method_20_code, 4, some (.int), 4, 91, [0, 1, 2, 5, 8, 9, 12, 15, 16, 17, 18, 21, 22, 23, 26, 27, 28, 31, 34, 35, 38, 39, 40, 41, 44, 45, 48, 49], [.inl (ia_aload 0), .inl (ia_iload 1), .inr (.inl (52, 2, 0)), .inl (ia_ifeq 7), .inl (ia_iload 2), .inr (.inl (49, 1, 100)), .inl (ia_ifne 9), .inl (ia_const (.int (-1))), .inr (.inr 1), .inl (ia_aload 0), .inl (ia_getR 0 6), .inl (ia_iload 1), .inl (ia_iload 2), .inr (.inl (222, 3, 5)), .inl (ia_istore 3), .inl (ia_aload 0), .inl (ia_getR 0 3), .inr (.inl (189, 1, 3)), .inl (ia_iload 3), .inr (.inl (190, 2, 3)), .inl ia_pop, .inl (ia_iload 3), .inl (ia_const (.int (-1))), .inl (ia_ine 26), .inl (ia_const (.int 1)), .inl (ia_goto 27), .inl (ia_const (.int 0)), .inr (.inr 1)])
/-- C public int out(int, int); -/
def mt_20 : is_M := (⟨"CardsAndBans", "out", "(II)I"⟩, prog_1_method_21_code, 5, some (.int), 5, 115, [0, 1, 4, 7, 8, 11, 14, 15, 16, 17, 20, 21, 22, 25, 26, 27, 30, 33, 34, 37, 40, 41, 42, 44, 46, 47, 50, 53, 56, 57, 59, 62, 65, 66, 69, 70, 73, 75, 76, 79, 82, 83, 86, 89, 90], [.inl (ia_iload 1), .inr (.inl (50, 1, 100)), .inl (ia_ifeq 6), .inl (ia_iload 2), .inr (.inl (49, 1, 100)), .inl (ia_ifne 8), .inl (ia_const (.int (-1))), .inr (.inr 1), .inl (ia_aload 0), .inl (ia_getR 0 6), .inl (ia_iload 1), .inl (ia_iload 2), .inr (.inl (226, 3, 5)), .inl (ia_istore 3), .inl (ia_aload 0), .inl (ia_getR 0 3), .inr (.inl (189, 1, 3)), .inl (ia_iload 3), .inr (.inl (257, 1, 100)), .inr (.inl (190, 2, 3)), .inl ia_pop, .inl (ia_const (.int 0)), .inl (ia_istore 4), .inl (ia_iload 4), .inl (ia_aload 0), .inl (ia_getR 0 6), .inl (ia_getI 5 0), .inl (ia_ige 43), .inl (ia_iload 3), .inl (ia_iload 4), .inr (.inl (55, 2, 100)), .inl (ia_ifeq 41), .inl (ia_aload 0), .inl (ia_getR 0 3), .inl (ia_aload 0), .inl (ia_getR 0 6), .inl (ia_iload 4), .inl (ia_iload 2), .inr (.inl (223, 3, 5)), .inr (.inl (190, 2, 3)), .inl ia_pop, .inl (ia_iinc 4 1), .inl (ia_goto 23), .inl (ia_iload 3), .inr (.inr 1)])
/-- C public int misses(int, int); -/
def mt_21 : is_M := (⟨"CardsAndBans", "misses", "(II)I"⟩, prog_1_method_22_code, 4, some (.int), 4, 92, [0, 1, 2, 5, 8, 9, 12, 15, 16, 17, 18, 21, 22, 23, 26, 27, 28, 31, 34, 35, 36, 39, 40, 41, 44, 45, 48, 49, 50], [.inl (ia_aload 0), .inl (ia_iload 1), .inr (.inl (52, 2, 0)), .inl (ia_ifeq 7), .inl (ia_iload 2), .inr (.inl (49, 1, 100)), .inl (ia_ifne 9), .inl (ia_const (.int (-1))), .inr (.inr 1), .inl (ia_aload 0), .inl (ia_getR 0 6), .inl (ia_iload 1), .inl (ia_iload 2), .inr (.inl (223, 3, 5)), .inl (ia_istore 3), .inl (ia_aload 0), .inl (ia_getR 0 3), .inr (.inl (189, 1, 3)), .inl (ia_iload 3), .inl (ia_aload 0), .inl (ia_getR 0 6), .inl (ia_iload 1), .inl (ia_iload 2), .inr (.inl (224, 3, 5)), .inl (ia_i2 fun x y => x + y), .inr (.inl (190, 2, 3)), .inl ia_pop, .inl (ia_iload 3), .inr (.inr 1)])
/-- C public int owed(int); -/
def mt_22 : is_M := (⟨"CardsAndBans", "owed", "(I)I"⟩, prog_1_method_23_code, 3, some (.int), 4, 92, [0, 1, 2, 5, 8, 9, 10, 11, 14, 17, 18, 19, 20, 21, 22, 25, 26, 29, 30, 33, 34, 35, 38, 41, 42, 45, 48, 49, 52, 53, 56], [.inl (ia_aload 0), .inl (ia_iload 1), .inr (.inl (52, 2, 0)), .inl (ia_ifne 6), .inl (ia_const (.int (-1))), .inr (.inr 1), .inl (ia_aload 0), .inl (ia_getR 0 3), .inr (.inl (189, 1, 3)), .inl ia_pop, .inl (ia_const (.int 0)), .inl (ia_istore 2), .inl (ia_iload 2), .inl (ia_const (.int 4)), .inl (ia_ige 26), .inl (ia_aload 0), .inl (ia_getR 0 3), .inl (ia_aload 0), .inl (ia_getR 0 6), .inl (ia_iload 1), .inl (ia_iload 2), .inr (.inl (223, 3, 5)), .inr (.inl (190, 2, 3)), .inl ia_pop, .inl (ia_iinc 2 1), .inl (ia_goto 12), .inl (ia_aload 0), .inl (ia_getR 0 6), .inl (ia_iload 1), .inr (.inl (225, 2, 5)), .inr (.inr 1)])
/-- C public int sides(int, int, int); -/
def mt_23 : is_M := (⟨"CardsAndBans", "sides", "(III)I"⟩, prog_1_method_24_code, 7, some (.int), 5, 115, [0, 1, 4, 7, 8, 9, 12, 15, 16, 17, 18, 21, 22, 23, 26, 27, 30, 31, 32, 35, 36, 38, 39, 42, 43, 46, 48, 49, 50, 51, 53, 54, 57, 58, 61, 63, 64, 65, 66, 68, 69, 72, 75, 77, 80, 83, 85, 88, 91, 93, 96, 97, 99, 101, 102], [.inl (ia_iload 1), .inr (.inl (49, 1, 100)), .inl (ia_ifeq 7), .inl (ia_iload 2), .inl (ia_iload 3), .inr (.inl (51, 2, 100)), .inl (ia_ifne 9), .inl (ia_const (.int (-1))), .inr (.inr 1), .inl (ia_aload 0), .inl (ia_getR 0 6), .inl (ia_iload 2), .inl (ia_iload 1), .inr (.inl (226, 3, 5)), .inl (ia_aload 0), .inl (ia_getR 0 6), .inl (ia_iload 3), .inl (ia_iload 1), .inr (.inl (226, 3, 5)), .inl (ia_i2 fun x y => x ||| y), .inl (ia_istore 4), .inl (ia_aload 0), .inl (ia_getR 0 6), .inl (ia_iload 2), .inr (.inl (207, 2, 5)), .inl (ia_iload 4), .inl (ia_const (.int (-1))), .inl (ia_i2 fun x y => x ^^^ y), .inl (ia_i2 fun x y => x &&& y), .inl (ia_istore 5), .inl (ia_aload 0), .inl (ia_getR 0 6), .inl (ia_iload 3), .inr (.inl (207, 2, 5)), .inl (ia_iload 4), .inl (ia_const (.int (-1))), .inl (ia_i2 fun x y => x ^^^ y), .inl (ia_i2 fun x y => x &&& y), .inl (ia_istore 6), .inl (ia_aload 0), .inl (ia_getR 0 3), .inr (.inl (189, 1, 3)), .inl (ia_iload 5), .inr (.inl (257, 1, 100)), .inr (.inl (190, 2, 3)), .inl (ia_iload 6), .inr (.inl (257, 1, 100)), .inr (.inl (190, 2, 3)), .inl (ia_iload 4), .inr (.inl (190, 2, 3)), .inl ia_pop, .inl (ia_iload 5), .inl (ia_iload 6), .inl (ia_i2 fun x y => x ||| y), .inr (.inr 1)])
/-- C public int until(int, int); -/
def mt_24 : is_M := (⟨"CardsAndBans", "until", "(II)I"⟩, prog_1_method_25_code, 7, some (.int), 4, 92, [0, 1, 4, 7, 8, 11, 14, 15, 16, 17, 18, 19, 21, 22, 24, 26, 27, 30, 33, 36, 37, 40, 43, 45, 46, 47, 50, 51, 54, 56, 57, 60, 63, 64, 66, 68, 69, 72, 74, 75, 76, 78, 80, 83, 85, 86, 89, 91, 93, 96, 97, 99, 102, 105, 106, 109, 112, 114, 117, 118, 119], [.inl (ia_iload 1), .inr (.inl (50, 1, 100)), .inl (ia_ifeq 6), .inl (ia_iload 2), .inr (.inl (49, 1, 100)), .inl (ia_ifne 8), .inl (ia_const (.int (-1))), .inr (.inr 1), .inl (ia_const (.int 0)), .inl (ia_istore 3), .inl (ia_const (.int 0)), .inl (ia_istore 4), .inl (ia_const (.int 0)), .inl (ia_istore 5), .inl (ia_iload 5), .inl (ia_aload 0), .inl (ia_getR 0 6), .inl (ia_getI 5 0), .inl (ia_ige 53), .inl (ia_aload 0), .inl (ia_getR 0 6), .inl (ia_getR 5 4), .inl (ia_iload 5), .inl ia_iald, .inl (ia_iload 1), .inl (ia_ine 32), .inl (ia_aload 0), .inl (ia_getR 0 6), .inl (ia_iload 5), .inl (ia_iload 2), .inr (.inl (223, 3, 5)), .inl (ia_goto 33), .inl (ia_const (.int 0)), .inl (ia_istore 6), .inl (ia_iload 6), .inl (ia_iload 3), .inl (ia_ile 41), .inl (ia_iload 6), .inl (ia_istore 3), .inl (ia_const (.int 0)), .inl (ia_istore 4), .inl (ia_iload 6), .inl (ia_ifle 51), .inl (ia_iload 6), .inl (ia_iload 3), .inl (ia_ine 51), .inl (ia_iload 4), .inl (ia_iload 5), .inr (.inl (54, 1, 100)), .inl (ia_i2 fun x y => x ||| y), .inl (ia_istore 4), .inl (ia_iinc 5 1), .inl (ia_goto 14), .inl (ia_aload 0), .inl (ia_getR 0 3), .inr (.inl (189, 1, 3)), .inl (ia_iload 4), .inr (.inl (190, 2, 3)), .inl ia_pop, .inl (ia_iload 3), .inr (.inr 1)])
/-- C public int cautions(int, int); -/
def mt_25 : is_M := (⟨"CardsAndBans", "cautions", "(II)I"⟩, prog_1_method_26_code, 5, some (.int), 3, 67, [0, 1, 2, 5, 8, 9, 12, 15, 16, 17, 18, 21, 22, 23, 26, 27, 28, 31, 32, 33, 36, 38, 39, 42, 45, 46, 48, 49, 52, 53, 56, 57, 60, 61, 64, 65, 68, 69, 72, 73, 76, 77, 79, 82, 83, 84, 87, 88, 91, 92, 94, 97, 100, 101, 102], [.inl (ia_aload 0), .inl (ia_iload 1), .inr (.inl (52, 2, 0)), .inl (ia_ifeq 7), .inl (ia_iload 2), .inr (.inl (49, 1, 100)), .inl (ia_ifne 9), .inl (ia_const (.int (-1))), .inr (.inr 1), .inl (ia_aload 0), .inl (ia_getR 0 6), .inl (ia_iload 1), .inl (ia_iload 2), .inr (.inl (208, 3, 5)), .inl (ia_istore 3), .inl (ia_aload 0), .inl (ia_getR 0 4), .inl (ia_iload 2), .inl (ia_iload 3), .inr (.inl (202, 3, 4)), .inl (ia_istore 4), .inl (ia_aload 0), .inl (ia_getR 0 3), .inr (.inl (189, 1, 3)), .inl ia_pop, .inl (ia_iload 4), .inl (ia_const (.int (-1))), .inl (ia_ine 36), .inl (ia_aload 0), .inl (ia_getR 0 3), .inl (ia_const (.int (-1))), .inr (.inl (190, 2, 3)), .inl (ia_const (.int (-1))), .inr (.inl (190, 2, 3)), .inl ia_pop, .inl (ia_goto 53), .inl (ia_aload 0), .inl (ia_getR 0 3), .inl (ia_aload 0), .inl (ia_getR 0 4), .inl (ia_iload 2), .inl (ia_iload 4), .inr (.inl (198, 3, 4)), .inl (ia_iload 3), .inl (ia_i2 fun x y => x - y), .inr (.inl (190, 2, 3)), .inl (ia_aload 0), .inl (ia_getR 0 4), .inl (ia_iload 2), .inl (ia_iload 4), .inr (.inl (199, 3, 4)), .inr (.inl (190, 2, 3)), .inl ia_pop, .inl (ia_iload 3), .inr (.inr 1)])
/-- C public int risks(int, int); -/
def mt_26 : is_M := (⟨"CardsAndBans", "risks", "(II)I"⟩, prog_1_method_27_code, 5, some (.int), 5, 115, [0, 1, 4, 7, 8, 11, 14, 15, 16, 17, 18, 19, 21, 23, 24, 27, 30, 33, 34, 37, 40, 42, 43, 44, 47, 48, 51, 52, 53, 56, 58, 59, 62, 63, 64, 67, 70, 71, 73, 76, 77, 78, 81, 84, 85, 88, 91, 92, 93, 96, 97, 98, 101, 102, 103, 104, 107, 110, 111, 112], [.inl (ia_iload 1), .inr (.inl (50, 1, 100)), .inl (ia_ifeq 6), .inl (ia_iload 2), .inr (.inl (49, 1, 100)), .inl (ia_ifne 8), .inl (ia_const (.int (-1))), .inr (.inr 1), .inl (ia_const (.int 0)), .inl (ia_istore 3), .inl (ia_const (.int 0)), .inl (ia_istore 4), .inl (ia_iload 4), .inl (ia_aload 0), .inl (ia_getR 0 6), .inl (ia_getI 5 0), .inl (ia_ige 43), .inl (ia_aload 0), .inl (ia_getR 0 6), .inl (ia_getR 5 4), .inl (ia_iload 4), .inl ia_iald, .inl (ia_iload 1), .inl (ia_ine 41), .inl (ia_aload 0), .inl (ia_getR 0 4), .inl (ia_iload 2), .inl (ia_aload 0), .inl (ia_getR 0 6), .inl (ia_iload 4), .inl (ia_iload 2), .inr (.inl (208, 3, 5)), .inl (ia_const (.int 1)), .inl (ia_i2 fun x y => x + y), .inr (.inl (201, 3, 4)), .inl (ia_ifle 41), .inl (ia_iload 3), .inl (ia_iload 4), .inr (.inl (54, 1, 100)), .inl (ia_i2 fun x y => x ||| y), .inl (ia_istore 3), .inl (ia_iinc 4 1), .inl (ia_goto 12), .inl (ia_aload 0), .inl (ia_getR 0 3), .inr (.inl (189, 1, 3)), .inl (ia_iload 3), .inl (ia_aload 0), .inl (ia_getR 0 6), .inl (ia_iload 1), .inl (ia_iload 2), .inr (.inl (226, 3, 5)), .inl (ia_const (.int (-1))), .inl (ia_i2 fun x y => x ^^^ y), .inl (ia_i2 fun x y => x &&& y), .inr (.inl (257, 1, 100)), .inr (.inl (190, 2, 3)), .inl ia_pop, .inl (ia_iload 3), .inr (.inr 1)])
/-- C public int tempts(int, int, int); -/
def mt_27 : is_M := (⟨"CardsAndBans", "tempts", "(III)I"⟩, prog_1_method_28_code, 11, some (.int), 4, 92, [0, 1, 2, 5, 8, 9, 12, 15, 16, 17, 20, 21, 23, 26, 27, 28, 29, 32, 33, 34, 37, 39, 40, 43, 44, 45, 48, 50, 51, 54, 55, 58, 61, 62, 63, 64, 67, 69, 70, 72, 73, 75, 76, 78, 80, 81, 84, 86, 89, 92, 95, 98, 101, 102, 105, 106, 108, 111, 113, 115, 117, 118, 120, 122, 124, 127, 128, 131, 132, 133, 135, 138, 139, 142, 143, 145, 148, 151, 152, 155, 157, 159, 162, 165, 166, 169, 172, 174, 175, 177, 180, 182, 183, 184, 187, 190, 192, 195, 197, 200, 201, 203], [.inl (ia_aload 0), .inl (ia_iload 1), .inr (.inl (52, 2, 0)), .inl (ia_ifeq 13), .inl (ia_iload 2), .inr (.inl (49, 1, 100)), .inl (ia_ifeq 13), .inl (ia_iload 3), .inl (ia_const (.int 1)), .inl (ia_ilt 13), .inl (ia_iload 3), .inl (ia_const (.int 40)), .inl (ia_ile 15), .inl (ia_const (.int (-1))), .inr (.inr 1), .inl (ia_aload 0), .inl (ia_getR 0 6), .inl (ia_iload 1), .inl (ia_iload 2), .inr (.inl (223, 3, 5)), .inl (ia_istore 4), .inl (ia_aload 0), .inl (ia_getR 0 6), .inl (ia_iload 1), .inl (ia_iload 2), .inr (.inl (208, 3, 5)), .inl (ia_istore 5), .inl (ia_aload 0), .inl (ia_getR 0 6), .inl (ia_aload 0), .inl (ia_getR 0 6), .inl (ia_getR 5 4), .inl (ia_iload 1), .inl ia_iald, .inl (ia_iload 2), .inr (.inl (211, 3, 5)), .inl (ia_istore 6), .inl (ia_const (.int 0)), .inl (ia_istore 7), .inl (ia_const (.int 0)), .inl (ia_istore 8), .inl (ia_const (.int 0)), .inl (ia_istore 9), .inl (ia_iload 9), .inl (ia_iload 3), .inl (ia_ige 83), .inl (ia_iload 4), .inl (ia_ifle 51), .inl (ia_iinc 4 (-1)), .inl (ia_iinc 7 1), .inl (ia_goto 70), .inl (ia_iinc 5 1), .inl (ia_aload 0), .inl (ia_getR 0 4), .inl (ia_iload 2), .inl (ia_iload 5), .inr (.inl (201, 3, 4)), .inl (ia_istore 10), .inl (ia_iload 4), .inl (ia_iload 10), .inl (ia_i2 fun x y => x + y), .inl (ia_istore 4), .inl (ia_iload 8), .inl (ia_iload 10), .inl (ia_ifle 67), .inl (ia_const (.int 1)), .inl (ia_goto 68), .inl (ia_const (.int 0)), .inl (ia_i2 fun x y => x + y), .inl (ia_istore 8), .inl (ia_iinc 6 1), .inl (ia_aload 0), .inl (ia_getR 0 4), .inl (ia_iload 2), .inl (ia_iload 6), .inr (.inl (203, 3, 4)), .inl (ia_ifeq 79), .inl (ia_const (.int 0)), .inl (ia_goto 80), .inl (ia_iload 5), .inl (ia_istore 5), .inl (ia_iinc 9 1), .inl (ia_goto 43), .inl (ia_aload 0), .inl (ia_getR 0 6), .inl (ia_getI 5 2), .inl (ia_iload 8), .inl (ia_i2 fun x y => x + y), .inl (ia_const (.int 100)), .inl (ia_ile 92), .inl (ia_const (.int (-4))), .inr (.inr 1), .inl (ia_aload 0), .inl (ia_getR 0 3), .inr (.inl (189, 1, 3)), .inl (ia_iload 8), .inr (.inl (190, 2, 3)), .inl (ia_iload 5), .inr (.inl (190, 2, 3)), .inl ia_pop, .inl (ia_iload 7), .inr (.inr 1)])
/-- C public int costs(int, int); -/
def mt_28 : is_M := (⟨"CardsAndBans", "costs", "(II)I"⟩, prog_1_method_29_code, 7, some (.int), 3, 67, [0, 1, 4, 7, 8, 11, 12, 14, 17, 18, 19, 20, 21, 22, 24, 25, 27, 29, 30, 33, 34, 37, 38, 40, 43, 45, 46, 48, 49, 50, 52, 54, 57, 58, 61, 62, 63, 65, 68, 71, 72, 75, 78, 80, 83, 84, 85], [.inl (ia_iload 1), .inr (.inl (49, 1, 100)), .inl (ia_ifeq 8), .inl (ia_iload 2), .inl (ia_iflt 8), .inl (ia_iload 2), .inl (ia_const (.int 40)), .inl (ia_ile 10), .inl (ia_const (.int (-1))), .inr (.inr 1), .inl (ia_const (.int 0)), .inl (ia_istore 3), .inl (ia_const (.int 0)), .inl (ia_istore 4), .inl (ia_const (.int 1)), .inl (ia_istore 5), .inl (ia_iload 5), .inl (ia_iload 2), .inl (ia_igt 39), .inl (ia_aload 0), .inl (ia_getR 0 4), .inl (ia_iload 1), .inl (ia_iload 5), .inr (.inl (201, 3, 4)), .inl (ia_istore 6), .inl (ia_iload 3), .inl (ia_iload 6), .inl (ia_i2 fun x y => x + y), .inl (ia_istore 3), .inl (ia_iload 4), .inl (ia_iload 6), .inl (ia_ifle 34), .inl (ia_const (.int 1)), .inl (ia_goto 35), .inl (ia_const (.int 0)), .inl (ia_i2 fun x y => x + y), .inl (ia_istore 4), .inl (ia_iinc 5 1), .inl (ia_goto 16), .inl (ia_aload 0), .inl (ia_getR 0 3), .inr (.inl (189, 1, 3)), .inl (ia_iload 4), .inr (.inl (190, 2, 3)), .inl ia_pop, .inl (ia_iload 3), .inr (.inr 1)])
/-- C public int played(int, int); -/
def mt_29 : is_M := (⟨"CardsAndBans", "played", "(II)I"⟩, prog_1_method_30_code, 5, some (.int), 1, 22, [0, 1, 4, 7, 8, 11, 14, 15, 16, 17, 20, 21, 22, 25, 26, 27, 30, 31, 32, 35, 36, 37, 39, 40, 43, 46, 48, 51, 53, 56, 57, 60, 61, 62], [.inl (ia_iload 1), .inr (.inl (50, 1, 100)), .inl (ia_ifeq 6), .inl (ia_iload 2), .inr (.inl (49, 1, 100)), .inl (ia_ifne 8), .inl (ia_const (.int (-1))), .inr (.inr 1), .inl (ia_aload 0), .inl (ia_getR 0 6), .inl (ia_iload 1), .inl (ia_iload 2), .inr (.inl (211, 3, 5)), .inl (ia_istore 3), .inl (ia_aload 0), .inl (ia_getR 0 4), .inl (ia_iload 2), .inl (ia_const (.int 2)), .inr (.inl (195, 3, 4)), .inl (ia_iload 3), .inl (ia_i2 fun x y => x - y), .inl (ia_istore 4), .inl (ia_aload 0), .inl (ia_getR 0 3), .inr (.inl (189, 1, 3)), .inl (ia_iload 4), .inl (ia_ifle 29), .inl (ia_iload 4), .inl (ia_goto 30), .inl (ia_const (.int (-1))), .inr (.inl (190, 2, 3)), .inl ia_pop, .inl (ia_iload 3), .inr (.inr 1)])
/-- C public long plan(int); -/
def mt_30 : is_M := (⟨"CardsAndBans", "plan", "(I)J"⟩, prog_1_method_31_code, 5, some (.long), 5, 114, [0, 1, 4, 5, 8, 11, 12, 15, 18, 21, 22, 25, 26, 27, 28, 29, 32, 35, 38, 39, 40, 43, 44, 47, 50, 51, 52, 53, 55, 57, 58, 61, 64, 67, 68, 70, 71, 74, 77, 78, 79, 82, 85, 86, 89, 90, 91, 94, 96, 99, 102, 105, 106, 107, 109, 110, 111, 112, 115, 118, 119, 122, 125, 126, 129, 132, 133, 136, 137, 140, 143, 144, 145], [.inl (ia_aload 0), .inr (.inl (65, 1, 0)), .inl (ia_aload 0), .inl (ia_getR 0 0), .inr (.inl (243, 1, 1)), .inl (ia_aload 0), .inl (ia_getR 0 0), .inr (.inl (246, 1, 1)), .inl (ia_ifne 13), .inl (ia_aload 0), .inr (.inl (58, 1, 0)), .inl ia_i2l, .inr (.inr 3), .inl (ia_aload 0), .inl (ia_iload 1), .inr (.inl (52, 2, 0)), .inl (ia_ifne 19), .inl (ia_const (.long (-1))), .inr (.inr 3), .inl (ia_aload 0), .inl (ia_getR 0 7), .inl (ia_aload 0), .inl (ia_getR 0 6), .inr (.inl (205, 2, 5)), .inl (ia_const (.long 0)), .inl (ia_lstore 2), .inl (ia_const (.int 0)), .inl (ia_istore 4), .inl (ia_iload 4), .inl (ia_aload 0), .inl (ia_getR 0 2), .inl (ia_getI 2 1), .inl (ia_ige 59), .inl (ia_aload 0), .inl (ia_iload 4), .inl (ia_aload 0), .inl (ia_getR 0 7), .inl (ia_getR 5 4), .inl (ia_iload 1), .inl ia_iald, .inr (.inl (56, 3, 0)), .inl (ia_ifeq 57), .inl (ia_aload 0), .inl (ia_getR 0 7), .inl (ia_iload 1), .inl (ia_aload 0), .inl (ia_getR 0 2), .inl (ia_iload 4), .inr (.inl (179, 2, 2)), .inr (.inl (231, 3, 5)), .inl (ia_ifeq 57), .inl (ia_lload 2), .inl (ia_const (.long 1)), .inl (ia_iload 4), .inl (ia_lsh fun x y => x <<< (y.toInt64 &&& 63)), .inl (ia_l2 fun x y => x ||| y), .inl (ia_lstore 2), .inl (ia_iinc 4 1), .inl (ia_goto 28), .inl (ia_aload 0), .inl (ia_getR 0 3), .inr (.inl (189, 1, 3)), .inl (ia_lload 2), .inr (.inl (258, 1, 100)), .inr (.inl (190, 2, 3)), .inl (ia_aload 0), .inl (ia_getR 0 7), .inl (ia_iload 1), .inr (.inl (225, 2, 5)), .inr (.inl (190, 2, 3)), .inl ia_pop, .inl (ia_lload 2), .inr (.inr 3)])
/-- C public int returns(int); -/
def mt_31 : is_M := (⟨"CardsAndBans", "returns", "(I)I"⟩, prog_1_method_32_code, 4, some (.int), 5, 114, [0, 1, 4, 5, 8, 11, 12, 15, 18, 21, 22, 25, 26, 27, 28, 31, 34, 35, 36, 37, 40, 41, 44, 47, 48, 49, 50, 51, 52, 53, 56, 59, 62, 63, 64, 65, 68, 71, 72, 73, 76, 79, 80, 83, 84, 85, 88, 89, 92, 95, 98, 99, 102, 105, 106, 109, 110, 111, 112, 115, 118, 121, 123], [.inl (ia_aload 0), .inr (.inl (65, 1, 0)), .inl (ia_aload 0), .inl (ia_getR 0 0), .inr (.inl (243, 1, 1)), .inl (ia_aload 0), .inl (ia_getR 0 0), .inr (.inl (246, 1, 1)), .inl (ia_ifne 12), .inl (ia_aload 0), .inr (.inl (58, 1, 0)), .inr (.inr 1), .inl (ia_aload 0), .inl (ia_iload 1), .inr (.inl (52, 2, 0)), .inl (ia_ifne 18), .inl (ia_const (.int (-1))), .inr (.inr 1), .inl (ia_aload 0), .inl (ia_getR 0 7), .inl (ia_aload 0), .inl (ia_getR 0 6), .inr (.inl (205, 2, 5)), .inl (ia_const (.int 0)), .inl (ia_istore 2), .inl (ia_const (.int 0)), .inl (ia_istore 3), .inl (ia_iload 3), .inl (ia_aload 0), .inl (ia_getR 0 2), .inl (ia_getI 2 1), .inl (ia_ige 61), .inl (ia_aload 0), .inl (ia_iload 3), .inl (ia_aload 0), .inl (ia_getR 0 7), .inl (ia_getR 5 4), .inl (ia_iload 1), .inl ia_iald, .inr (.inl (56, 3, 0)), .inl (ia_ifeq 59), .inl (ia_aload 0), .inl (ia_getR 0 7), .inl (ia_iload 1), .inl (ia_aload 0), .inl (ia_getR 0 2), .inl (ia_iload 3), .inr (.inl (179, 2, 2)), .inr (.inl (231, 3, 5)), .inl (ia_ifne 58), .inl (ia_aload 0), .inl (ia_getR 0 3), .inr (.inl (189, 1, 3)), .inl (ia_iload 2), .inr (.inl (190, 2, 3)), .inl ia_pop, .inl (ia_iload 3), .inr (.inr 1), .inl (ia_iinc 2 1), .inl (ia_iinc 3 1), .inl (ia_goto 27), .inl (ia_const (.int (-2))), .inr (.inr 1)])
/-- C public int behind(); -/
def mt_32 : is_M := (⟨"CardsAndBans", "behind", "()I"⟩, prog_1_method_33_code, 4, some (.int), 5, 114, [0, 1, 4, 5, 8, 11, 12, 15, 18, 21, 22, 25, 26, 27, 30, 31, 34, 37, 38, 39, 40, 41, 42, 43, 46, 49, 52, 53, 54, 55, 56, 59, 62, 65, 66, 67, 68, 71, 74, 75, 76, 79, 82, 83, 86, 87, 88, 91, 92, 95, 98, 101, 104, 107, 110, 113, 116, 117, 120, 123, 124, 127, 128, 131, 134, 137, 138, 139, 142, 145], [.inl (ia_aload 0), .inr (.inl (65, 1, 0)), .inl (ia_aload 0), .inl (ia_getR 0 0), .inr (.inl (243, 1, 1)), .inl (ia_aload 0), .inl (ia_getR 0 0), .inr (.inl (246, 1, 1)), .inl (ia_ifne 12), .inl (ia_aload 0), .inr (.inl (58, 1, 0)), .inr (.inr 1), .inl (ia_aload 0), .inl (ia_getR 0 7), .inl (ia_aload 0), .inl (ia_getR 0 6), .inr (.inl (205, 2, 5)), .inl (ia_const (.int 0)), .inl (ia_istore 1), .inl (ia_const (.int 0)), .inl (ia_istore 2), .inl (ia_iload 2), .inl (ia_aload 0), .inl (ia_getR 0 2), .inl (ia_getI 2 1), .inl (ia_ige 56), .inl (ia_const (.int 0)), .inl (ia_istore 3), .inl (ia_iload 3), .inl (ia_aload 0), .inl (ia_getR 0 7), .inl (ia_getI 5 0), .inl (ia_ige 54), .inl (ia_aload 0), .inl (ia_iload 2), .inl (ia_aload 0), .inl (ia_getR 0 7), .inl (ia_getR 5 4), .inl (ia_iload 3), .inl ia_iald, .inr (.inl (56, 3, 0)), .inl (ia_ifeq 52), .inl (ia_aload 0), .inl (ia_getR 0 7), .inl (ia_iload 3), .inl (ia_aload 0), .inl (ia_getR 0 2), .inl (ia_iload 2), .inr (.inl (179, 2, 2)), .inr (.inl (231, 3, 5)), .inl (ia_ifeq 52), .inl (ia_iinc 1 1), .inl (ia_iinc 3 1), .inl (ia_goto 28), .inl (ia_iinc 2 1), .inl (ia_goto 21), .inl (ia_aload 0), .inl (ia_getR 0 3), .inr (.inl (189, 1, 3)), .inl (ia_iload 1), .inr (.inl (190, 2, 3)), .inl (ia_aload 0), .inl (ia_getR 0 7), .inr (.inl (228, 1, 5)), .inr (.inl (190, 2, 3)), .inl ia_pop, .inl (ia_aload 0), .inl (ia_getR 0 7), .inr (.inl (227, 1, 5)), .inr (.inr 1)])
/-- C public int ban(int, int); -/
def mt_33 : is_M := (⟨"CardsAndBans", "ban", "(II)I"⟩, prog_1_method_34_code, 3, some (.int), 1, 22, [0, 1, 2, 5, 8, 9, 12, 13, 15, 18, 19, 20, 21, 24, 25, 26, 29], [.inl (ia_aload 0), .inl (ia_iload 1), .inr (.inl (53, 2, 0)), .inl (ia_ifeq 9), .inl (ia_iload 2), .inl (ia_iflt 9), .inl (ia_iload 2), .inl (ia_const (.int 8)), .inl (ia_ilt 11), .inl (ia_const (.int (-1))), .inr (.inr 1), .inl (ia_aload 0), .inl (ia_getR 0 6), .inl (ia_iload 1), .inl (ia_iload 2), .inr (.inl (216, 3, 5)), .inr (.inr 1)])
/-- C public int opn(int); -/
def mt_34 : is_M := (⟨"CardsAndBans", "open", "(I)I"⟩, prog_1_method_35_code, 3, some (.int), 2, 43, [0, 1, 2, 5, 8, 9, 10, 11, 14, 17, 18, 19, 20, 21, 22, 25, 28, 31, 32, 35, 36, 37, 40, 41, 44, 45, 48, 49, 52, 55, 56, 59, 60, 63, 64, 67, 70, 71, 74, 77], [.inl (ia_aload 0), .inl (ia_iload 1), .inr (.inl (52, 2, 0)), .inl (ia_ifne 6), .inl (ia_const (.int (-1))), .inr (.inr 1), .inl (ia_aload 0), .inl (ia_getR 0 3), .inr (.inl (189, 1, 3)), .inl ia_pop, .inl (ia_const (.int 0)), .inl (ia_istore 2), .inl (ia_iload 2), .inl (ia_aload 0), .inl (ia_getR 0 6), .inl (ia_getI 5 2), .inl (ia_ige 36), .inl (ia_aload 0), .inl (ia_getR 0 6), .inl (ia_iload 2), .inl (ia_const (.int 0)), .inr (.inl (216, 3, 5)), .inl (ia_iload 1), .inl (ia_ine 34), .inl (ia_aload 0), .inl (ia_getR 0 6), .inl (ia_iload 2), .inr (.inl (218, 2, 5)), .inl (ia_ifeq 34), .inl (ia_aload 0), .inl (ia_getR 0 3), .inl (ia_iload 2), .inr (.inl (190, 2, 3)), .inl ia_pop, .inl (ia_iinc 2 1), .inl (ia_goto 12), .inl (ia_aload 0), .inl (ia_getR 0 3), .inl (ia_getI 3 1), .inr (.inr 1)])
/-- C public int frees(int, int); -/
def mt_35 : is_M := (⟨"CardsAndBans", "frees", "(II)I"⟩, prog_1_method_36_code, 4, some (.int), 3, 68, [0, 1, 2, 5, 8, 9, 12, 15, 16, 17, 18, 19, 20, 21, 24, 27, 30, 31, 34, 35, 36, 37, 40, 43, 44, 47, 48, 49, 52, 55, 57, 58, 61, 64, 65, 68, 71, 72, 73, 74, 75, 76, 79, 82, 85, 86, 89, 90, 91, 92, 95, 98, 99, 102, 103, 106, 107, 110, 113, 114, 117, 120], [.inl (ia_aload 0), .inl (ia_iload 1), .inr (.inl (52, 2, 0)), .inl (ia_ifeq 7), .inl (ia_iload 2), .inr (.inl (49, 1, 100)), .inl (ia_ifne 9), .inl (ia_const (.int (-1))), .inr (.inr 1), .inl (ia_const (.int 0)), .inl (ia_istore 3), .inl (ia_iload 3), .inl (ia_aload 0), .inl (ia_getR 0 6), .inl (ia_getI 5 2), .inl (ia_ige 33), .inl (ia_aload 0), .inl (ia_getR 0 6), .inl (ia_iload 3), .inl (ia_iload 1), .inl (ia_iload 2), .inr (.inl (221, 4, 5)), .inl (ia_ifeq 31), .inl (ia_aload 0), .inl (ia_getR 0 6), .inl (ia_iload 3), .inl (ia_const (.int 4)), .inr (.inl (216, 3, 5)), .inl (ia_ifeq 31), .inl (ia_const (.int (-2))), .inr (.inr 1), .inl (ia_iinc 3 1), .inl (ia_goto 11), .inl (ia_aload 0), .inl (ia_getR 0 3), .inr (.inl (189, 1, 3)), .inl ia_pop, .inl (ia_const (.int 0)), .inl (ia_istore 3), .inl (ia_iload 3), .inl (ia_aload 0), .inl (ia_getR 0 6), .inl (ia_getI 5 2), .inl (ia_ige 58), .inl (ia_aload 0), .inl (ia_getR 0 6), .inl (ia_iload 3), .inl (ia_iload 1), .inl (ia_iload 2), .inr (.inl (221, 4, 5)), .inl (ia_ifeq 56), .inl (ia_aload 0), .inl (ia_getR 0 3), .inl (ia_iload 3), .inr (.inl (190, 2, 3)), .inl ia_pop, .inl (ia_iinc 3 1), .inl (ia_goto 39), .inl (ia_aload 0), .inl (ia_getR 0 3), .inl (ia_getI 3 1), .inr (.inr 1)])
/-- C public int sum(int); -/
def mt_36 : is_M := (⟨"CardsAndBans", "sum", "(I)I"⟩, prog_1_method_37_code, 7, some (.int), 2, 43, [0, 1, 4, 7, 8, 9, 10, 11, 12, 13, 14, 16, 17, 19, 20, 22, 24, 25, 28, 31, 34, 35, 38, 40, 41, 44, 45, 48, 51, 52, 53, 56, 58, 61, 64, 65, 68, 69, 70, 71, 73, 74, 77, 79, 80, 83, 84, 86, 88, 89, 92, 94, 96, 99, 100, 102, 105, 108, 109, 112, 115, 116, 119, 121, 124, 126, 129, 130, 131], [.inl (ia_iload 1), .inr (.inl (49, 1, 100)), .inl (ia_ifne 5), .inl (ia_const (.int (-1))), .inr (.inr 1), .inl (ia_const (.int 0)), .inl (ia_istore 2), .inl (ia_const (.int 0)), .inl (ia_istore 3), .inl (ia_const (.int 0)), .inl (ia_istore 4), .inl (ia_const (.int 0)), .inl (ia_istore 5), .inl (ia_const (.int 0)), .inl (ia_istore 6), .inl (ia_iload 6), .inl (ia_aload 0), .inl (ia_getR 0 6), .inl (ia_getI 5 2), .inl (ia_ige 57), .inl (ia_aload 0), .inl (ia_getR 0 6), .inl (ia_iload 6), .inl (ia_const (.int 1)), .inr (.inl (216, 3, 5)), .inl (ia_iload 1), .inl (ia_ine 55), .inl (ia_iinc 2 1), .inl (ia_iload 3), .inl (ia_aload 0), .inl (ia_getR 0 6), .inl (ia_iload 6), .inr (.inl (218, 2, 5)), .inl (ia_ifeq 36), .inl (ia_const (.int 1)), .inl (ia_goto 37), .inl (ia_const (.int 0)), .inl (ia_i2 fun x y => x + y), .inl (ia_istore 3), .inl (ia_iload 4), .inl (ia_aload 0), .inl (ia_getR 0 6), .inl (ia_iload 6), .inl (ia_const (.int 5)), .inr (.inl (216, 3, 5)), .inl (ia_i2 fun x y => x + y), .inl (ia_istore 4), .inl (ia_iload 5), .inl (ia_aload 0), .inl (ia_getR 0 6), .inl (ia_iload 6), .inl (ia_const (.int 7)), .inr (.inl (216, 3, 5)), .inl (ia_i2 fun x y => x + y), .inl (ia_istore 5), .inl (ia_iinc 6 1), .inl (ia_goto 15), .inl (ia_aload 0), .inl (ia_getR 0 3), .inr (.inl (189, 1, 3)), .inl (ia_iload 3), .inr (.inl (190, 2, 3)), .inl (ia_iload 4), .inr (.inl (190, 2, 3)), .inl (ia_iload 5), .inr (.inl (190, 2, 3)), .inl ia_pop, .inl (ia_iload 2), .inr (.inr 1)])
/-- C public int worst(); -/
def mt_37 : is_M := (⟨"CardsAndBans", "worst", "()I"⟩, prog_1_method_38_code, 5, some (.int), 2, 45, [0, 1, 2, 3, 4, 5, 6, 7, 8, 11, 14, 17, 18, 21, 22, 25, 27, 29, 30, 33, 35, 36, 37, 38, 41, 44, 45, 46, 49, 50, 53, 56, 57, 60, 61, 62], [.inl (ia_const (.int (-1))), .inl (ia_istore 1), .inl (ia_const (.int (-1))), .inl (ia_istore 2), .inl (ia_const (.int 0)), .inl (ia_istore 3), .inl (ia_iload 3), .inl (ia_aload 0), .inl (ia_getR 0 6), .inl (ia_getI 5 0), .inl (ia_ige 25), .inl (ia_aload 0), .inl (ia_getR 0 6), .inl (ia_iload 3), .inr (.inl (225, 2, 5)), .inl (ia_istore 4), .inl (ia_iload 4), .inl (ia_iload 2), .inl (ia_ile 23), .inl (ia_iload 4), .inl (ia_istore 2), .inl (ia_iload 3), .inl (ia_istore 1), .inl (ia_iinc 3 1), .inl (ia_goto 6), .inl (ia_iload 1), .inl (ia_const (.int (-1))), .inl (ia_ieq 34), .inl (ia_aload 0), .inl (ia_getR 0 3), .inr (.inl (189, 1, 3)), .inl (ia_iload 2), .inr (.inl (190, 2, 3)), .inl ia_pop, .inl (ia_iload 1), .inr (.inr 1)])
/-- C public int most(int); -/
def mt_38 : is_M := (⟨"CardsAndBans", "most", "(I)I"⟩, prog_1_method_39_code, 7, some (.int), 1, 22, [0, 1, 4, 7, 8, 9, 10, 11, 12, 13, 14, 16, 17, 19, 21, 22, 25, 28, 31, 32, 35, 37, 38, 41, 43, 45, 46, 49, 51, 52, 54, 55, 56, 58, 60, 62, 63, 66, 67, 70, 71, 72, 74, 77, 80, 81, 82, 85, 87, 88, 89, 92, 95, 96, 99, 101, 104, 105, 106], [.inl (ia_iload 1), .inr (.inl (49, 1, 100)), .inl (ia_ifne 5), .inl (ia_const (.int (-1))), .inr (.inr 1), .inl (ia_const (.int (-1))), .inl (ia_istore 2), .inl (ia_const (.int (-1))), .inl (ia_istore 3), .inl (ia_const (.int 0)), .inl (ia_istore 4), .inl (ia_const (.int 0)), .inl (ia_istore 5), .inl (ia_iload 5), .inl (ia_aload 0), .inl (ia_getR 0 6), .inl (ia_getI 5 0), .inl (ia_ige 44), .inl (ia_aload 0), .inl (ia_getR 0 6), .inl (ia_iload 5), .inl (ia_iload 1), .inr (.inl (208, 3, 5)), .inl (ia_istore 6), .inl (ia_iload 6), .inl (ia_iload 3), .inl (ia_ile 33), .inl (ia_iload 6), .inl (ia_istore 3), .inl (ia_iload 5), .inl (ia_istore 2), .inl (ia_const (.int 0)), .inl (ia_istore 4), .inl (ia_iload 4), .inl (ia_iload 6), .inl (ia_iload 3), .inl (ia_ine 39), .inl (ia_const (.int 1)), .inl (ia_goto 40), .inl (ia_const (.int 0)), .inl (ia_i2 fun x y => x + y), .inl (ia_istore 4), .inl (ia_iinc 5 1), .inl (ia_goto 13), .inl (ia_iload 2), .inl (ia_const (.int (-1))), .inl (ia_ine 49), .inl (ia_const (.int (-2))), .inr (.inr 1), .inl (ia_aload 0), .inl (ia_getR 0 3), .inr (.inl (189, 1, 3)), .inl (ia_iload 3), .inr (.inl (190, 2, 3)), .inl (ia_iload 4), .inr (.inl (190, 2, 3)), .inl ia_pop, .inl (ia_iload 2), .inr (.inr 1)])
/-- C public int longest(int); -/
def mt_39 : is_M := (⟨"CardsAndBans", "longest", "(I)I"⟩, prog_1_method_40_code, 5, some (.int), 1, 22, [0, 1, 4, 7, 8, 9, 10, 11, 12, 13, 14, 16, 18, 19, 22, 25, 28, 29, 32, 34, 35, 38, 39, 42, 43, 46, 48, 49, 52, 53, 56, 58, 59, 60, 63, 65, 66, 69, 70, 73, 76, 77, 78, 81, 82, 83, 86, 88, 89, 90, 93, 96, 97, 100, 101, 104, 105, 107, 110, 113, 114, 115, 116, 119, 120, 121], [.inl (ia_iload 1), .inr (.inl (49, 1, 100)), .inl (ia_ifne 5), .inl (ia_const (.int (-1))), .inr (.inr 1), .inl (ia_const (.int (-1))), .inl (ia_istore 2), .inl (ia_const (.int 0)), .inl (ia_istore 3), .inl (ia_const (.int 0)), .inl (ia_istore 4), .inl (ia_iload 4), .inl (ia_aload 0), .inl (ia_getR 0 6), .inl (ia_getI 5 2), .inl (ia_ige 40), .inl (ia_aload 0), .inl (ia_getR 0 6), .inl (ia_iload 4), .inl (ia_const (.int 1)), .inr (.inl (216, 3, 5)), .inl (ia_iload 1), .inl (ia_ine 38), .inl (ia_aload 0), .inl (ia_getR 0 6), .inl (ia_iload 4), .inl (ia_const (.int 5)), .inr (.inl (216, 3, 5)), .inl (ia_iload 3), .inl (ia_ile 38), .inl (ia_iload 4), .inl (ia_istore 2), .inl (ia_aload 0), .inl (ia_getR 0 6), .inl (ia_iload 4), .inl (ia_const (.int 5)), .inr (.inl (216, 3, 5)), .inl (ia_istore 3), .inl (ia_iinc 4 1), .inl (ia_goto 11), .inl (ia_iload 2), .inl (ia_const (.int (-1))), .inl (ia_ieq 46), .inl (ia_iload 3), .inl (ia_const (.int 1)), .inl (ia_ige 48), .inl (ia_const (.int (-2))), .inr (.inr 1), .inl (ia_aload 0), .inl (ia_getR 0 3), .inr (.inl (189, 1, 3)), .inl (ia_iload 3), .inr (.inl (190, 2, 3)), .inl (ia_aload 0), .inl (ia_getR 0 6), .inl (ia_iload 2), .inl (ia_const (.int 7)), .inr (.inl (216, 3, 5)), .inl (ia_const (.int 1000)), .inl (ia_i2 fun x y => x * y), .inl (ia_iload 3), .inl (ia_i2z fun x y => x / y), .inr (.inl (190, 2, 3)), .inl ia_pop, .inl (ia_iload 2), .inr (.inr 1)])
/-- C public int points(int); -/
def mt_40 : is_M := (⟨"CardsAndBans", "points", "(I)I"⟩, prog_1_method_41_code, 3, some (.int), 1, 22, [0, 1, 4, 7, 8, 9, 10, 13, 16, 17, 18, 19, 20, 21, 24, 25, 28, 29, 32, 35, 36, 37, 38, 39, 40, 41, 44, 45, 48, 51, 52, 55, 56, 59], [.inl (ia_iload 1), .inr (.inl (50, 1, 100)), .inl (ia_ifne 5), .inl (ia_const (.int (-1))), .inr (.inr 1), .inl (ia_aload 0), .inl (ia_getR 0 3), .inr (.inl (189, 1, 3)), .inl ia_pop, .inl (ia_const (.int 0)), .inl (ia_istore 2), .inl (ia_iload 2), .inl (ia_const (.int 3)), .inl (ia_ige 29), .inl (ia_aload 0), .inl (ia_getR 0 3), .inl (ia_aload 0), .inl (ia_getR 0 6), .inl (ia_getR 5 8), .inl (ia_iload 1), .inl (ia_const (.int 3)), .inl (ia_i2 fun x y => x * y), .inl (ia_iload 2), .inl (ia_i2 fun x y => x + y), .inl ia_iald, .inr (.inl (190, 2, 3)), .inl ia_pop, .inl (ia_iinc 2 1), .inl (ia_goto 11), .inl (ia_aload 0), .inl (ia_getR 0 6), .inl (ia_iload 1), .inr (.inl (215, 2, 5)), .inr (.inr 1)])
/-- C public int fair(); -/
def mt_41 : is_M := (⟨"CardsAndBans", "fair", "()I"⟩, prog_1_method_42_code, 4, some (.int), 3, 64, [0, 1, 4, 7, 8, 9, 10, 11, 12, 13, 14, 17, 18, 19, 22, 23, 24, 25, 28, 29, 30, 31, 34, 35, 38, 39, 42, 45, 46, 49, 50, 53], [.inl (ia_aload 0), .inl (ia_getR 0 3), .inr (.inl (189, 1, 3)), .inl ia_pop, .inl (ia_const (.int 0)), .inl (ia_istore 1), .inl (ia_const (.int 0)), .inl (ia_istore 2), .inl (ia_iload 2), .inl (ia_const (.int 4)), .inl (ia_ige 27), .inl (ia_aload 0), .inl (ia_iload 1), .inr (.inl (57, 2, 0)), .inl (ia_istore 3), .inl (ia_iload 1), .inl (ia_iload 3), .inr (.inl (54, 1, 100)), .inl (ia_i2 fun x y => x ||| y), .inl (ia_istore 1), .inl (ia_aload 0), .inl (ia_getR 0 3), .inl (ia_iload 3), .inr (.inl (190, 2, 3)), .inl ia_pop, .inl (ia_iinc 2 1), .inl (ia_goto 8), .inl (ia_aload 0), .inl (ia_getR 0 3), .inl (ia_const (.int 0)), .inr (.inl (191, 2, 3)), .inr (.inr 1)])
/-- C public int cards(int); -/
def mt_42 : is_M := (⟨"CardsAndBans", "cards", "(I)I"⟩, prog_1_method_43_code, 3, some (.int), 1, 21, [0, 1, 2, 5, 8, 9, 10, 11, 12, 13, 14, 15, 18, 21, 22, 25, 28, 29, 30, 31, 32, 35, 36, 39, 42, 43, 44, 45, 46, 49, 50, 51, 54, 57, 58, 59, 60, 61], [.inl (ia_aload 0), .inl (ia_iload 1), .inr (.inl (52, 2, 0)), .inl (ia_ifne 6), .inl (ia_const (.int (-1))), .inr (.inr 1), .inl (ia_iload 1), .inl (ia_const (.int 3)), .inl (ia_i2 fun x y => x * y), .inl (ia_istore 2), .inl (ia_aload 0), .inl (ia_getR 0 3), .inr (.inl (189, 1, 3)), .inl (ia_aload 0), .inl (ia_getR 0 6), .inl (ia_getR 5 7), .inl (ia_iload 2), .inl (ia_const (.int 1)), .inl (ia_i2 fun x y => x + y), .inl ia_iald, .inr (.inl (190, 2, 3)), .inl (ia_aload 0), .inl (ia_getR 0 6), .inl (ia_getR 5 7), .inl (ia_iload 2), .inl (ia_const (.int 2)), .inl (ia_i2 fun x y => x + y), .inl ia_iald, .inr (.inl (190, 2, 3)), .inl ia_pop, .inl (ia_aload 0), .inl (ia_getR 0 6), .inl (ia_getR 5 7), .inl (ia_iload 2), .inl (ia_const (.int 0)), .inl (ia_i2 fun x y => x + y), .inl ia_iald, .inr (.inr 1)])
/-- C public int keeps(); -/
def mt_43 : is_M := (⟨"CardsAndBans", "keeps", "()I"⟩, prog_1_method_44_code, 1, some (.int), 2, 47, [0, 1, 4, 5, 8, 11, 12, 13, 16, 17, 20, 23], [.inl (ia_aload 0), .inl (ia_getR 0 8), .inl (ia_aload 0), .inl (ia_getR 0 6), .inr (.inl (205, 2, 5)), .inl (ia_aload 0), .inl (ia_const (.int 1)), .inl (ia_putZ 0 10), .inl (ia_aload 0), .inl (ia_getR 0 8), .inl (ia_getI 5 1), .inr (.inr 1)])
/-- C public int back(); -/
def mt_44 : is_M := (⟨"CardsAndBans", "back", "()I"⟩, prog_1_method_45_code, 1, some (.int), 3, 69, [0, 1, 4, 7, 9, 10, 11, 14, 15, 18, 21, 22, 25, 26, 29, 32, 33, 36, 39], [.inl (ia_aload 0), .inl (ia_getI 0 10), .inl (ia_ifne 5), .inl (ia_const (.int (-2))), .inr (.inr 1), .inl (ia_aload 0), .inl (ia_getR 0 9), .inl (ia_aload 0), .inl (ia_getR 0 6), .inr (.inl (174, 2, 6)), .inl (ia_aload 0), .inl (ia_getR 0 6), .inl (ia_aload 0), .inl (ia_getR 0 8), .inr (.inl (205, 2, 5)), .inl (ia_aload 0), .inl (ia_getR 0 6), .inl (ia_getI 5 1), .inr (.inr 1)])
/-- C public int book(int, int); -/
def mt_45 : is_M := (⟨"CardsAndBans", "book", "(II)I"⟩, prog_1_method_46_code, 3, some (.int), 2, 41, [0, 1, 4, 5, 6, 9, 12, 15, 16, 19, 20, 21, 24, 25, 26, 27, 30, 31, 32, 35], [.inl (ia_iload 1), .inl (ia_iflt 12), .inl (ia_iload 1), .inl (ia_aload 0), .inl (ia_getR 0 6), .inr (.inl (235, 1, 5)), .inl (ia_ige 12), .inl (ia_iload 2), .inl (ia_iflt 12), .inl (ia_iload 2), .inl (ia_const (.int 3)), .inl (ia_ilt 14), .inl (ia_const (.int (-1))), .inr (.inr 1), .inl (ia_aload 0), .inl (ia_getR 0 6), .inl (ia_iload 1), .inl (ia_iload 2), .inr (.inl (236, 3, 5)), .inr (.inr 1)])
/-- C public int told(int); -/
def mt_46 : is_M := (⟨"CardsAndBans", "told", "(I)I"⟩, prog_1_method_47_code, 5, some (.int), 3, 65, [0, 1, 2, 5, 8, 9, 10, 11, 12, 13, 16, 19, 20, 21, 22, 23, 25, 28, 29, 32, 33, 34, 37, 39, 40, 43, 45, 48, 49, 50, 52, 53, 54, 57, 60, 61], [.inl (ia_aload 0), .inl (ia_iload 1), .inr (.inl (52, 2, 0)), .inl (ia_ifne 6), .inl (ia_const (.int (-1))), .inr (.inr 1), .inl (ia_const (.int 0)), .inl (ia_istore 2), .inl (ia_aload 0), .inl (ia_getR 0 3), .inr (.inl (189, 1, 3)), .inl ia_pop, .inl (ia_const (.int 0)), .inl (ia_istore 3), .inl (ia_iload 3), .inl (ia_const (.int 6)), .inl (ia_ige 34), .inl (ia_aload 0), .inl (ia_getR 0 6), .inl (ia_iload 1), .inl (ia_iload 3), .inr (.inl (237, 3, 5)), .inl (ia_istore 4), .inl (ia_aload 0), .inl (ia_getR 0 3), .inl (ia_iload 4), .inr (.inl (190, 2, 3)), .inl ia_pop, .inl (ia_iload 2), .inl (ia_iload 4), .inl (ia_i2 fun x y => x + y), .inl (ia_istore 2), .inl (ia_iinc 3 1), .inl (ia_goto 14), .inl (ia_iload 2), .inr (.inr 1)])
/-- C public int undo(); -/
def mt_47 : is_M := (⟨"CardsAndBans", "undo", "()I"⟩, prog_1_method_48_code, 1, some (.int), 3, 70, [0, 1, 4, 5, 8, 11, 14, 15, 18, 21, 24, 26], [.inl (ia_aload 0), .inl (ia_getR 0 9), .inl (ia_aload 0), .inl (ia_getR 0 6), .inr (.inl (175, 2, 6)), .inl (ia_ifeq 10), .inl (ia_aload 0), .inl (ia_getR 0 9), .inl (ia_getI 6 2), .inl (ia_goto 11), .inl (ia_const (.int (-2))), .inr (.inr 1)])
/-- C public int count(int); -/
def mt_48 : is_M := (⟨"CardsAndBans", "count", "(I)I"⟩, prog_1_method_49_code, 2, some (.int), 5, 114, [0, 1, 60, 61, 64, 67, 68, 69, 72, 75, 76, 77, 80, 83, 84, 85, 88, 91, 92, 93, 96, 99, 100, 101, 104, 107, 108, 109, 112, 115, 116, 117, 120, 123, 124, 125, 128, 131, 132, 133, 136, 139, 140, 141, 144, 147, 148, 149], [.inl (ia_iload 1), .inl (ia_sw [2, 6, 10, 14, 18, 22, 26, 30, 34, 38, 42] 46), .inl (ia_aload 0), .inl (ia_getR 0 6), .inl (ia_getI 5 0), .inr (.inr 1), .inl (ia_aload 0), .inl (ia_getR 0 6), .inl (ia_getI 5 2), .inr (.inr 1), .inl (ia_aload 0), .inl (ia_getR 0 6), .inr (.inl (228, 1, 5)), .inr (.inr 1), .inl (ia_aload 0), .inl (ia_getR 0 6), .inr (.inl (229, 1, 5)), .inr (.inr 1), .inl (ia_aload 0), .inl (ia_getR 0 6), .inl (ia_getI 5 1), .inr (.inr 1), .inl (ia_aload 0), .inl (ia_getR 0 9), .inl (ia_getI 6 2), .inr (.inr 1), .inl (ia_aload 0), .inl (ia_getR 0 6), .inr (.inl (235, 1, 5)), .inr (.inr 1), .inl (ia_aload 0), .inl (ia_getR 0 6), .inr (.inl (210, 1, 5)), .inr (.inr 1), .inl (ia_aload 0), .inl (ia_getR 0 6), .inr (.inl (227, 1, 5)), .inr (.inr 1), .inl (ia_aload 0), .inl (ia_getR 0 3), .inl (ia_getI 3 1), .inr (.inr 1), .inl (ia_aload 0), .inl (ia_getR 0 0), .inl (ia_getI 1 1), .inr (.inr 1), .inl (ia_const (.int (-1))), .inr (.inr 1)])
/-- C  static boolean isCup(int); -/
def mt_49 : is_M := (⟨"CardsAndBans", "isCup", "(I)Z"⟩, prog_1_method_51_code, 1, some (.boolean), 0, 0, [0, 1, 4, 5, 6, 9, 10, 13, 14], [.inl (ia_iload 0), .inl (ia_iflt 7), .inl (ia_iload 0), .inl (ia_const (.int 4)), .inl (ia_ige 7), .inl (ia_const (.int 1)), .inl (ia_goto 8), .inl (ia_const (.int 0)), .inr (.inr 2)])
/-- C  static boolean isTeam(int); -/
def mt_50 : is_M := (⟨"CardsAndBans", "isTeam", "(I)Z"⟩, prog_1_method_52_code, 1, some (.boolean), 0, 0, [0, 1, 4, 5, 6, 9, 10, 13, 14], [.inl (ia_iload 0), .inl (ia_iflt 7), .inl (ia_iload 0), .inl (ia_const (.int 4)), .inl (ia_ige 7), .inl (ia_const (.int 1)), .inl (ia_goto 8), .inl (ia_const (.int 0)), .inr (.inr 2)])
/-- C  static boolean areRivals(int, int); -/
def mt_51 : is_M := (⟨"CardsAndBans", "areRivals", "(II)Z"⟩, prog_1_method_53_code, 2, some (.boolean), 1, 20, [0, 1, 4, 7, 8, 11, 14, 15, 16, 19, 20, 23, 24], [.inl (ia_iload 0), .inr (.inl (50, 1, 100)), .inl (ia_ifeq 11), .inl (ia_iload 1), .inr (.inl (50, 1, 100)), .inl (ia_ifeq 11), .inl (ia_iload 0), .inl (ia_iload 1), .inl (ia_ieq 11), .inl (ia_const (.int 1)), .inl (ia_goto 12), .inl (ia_const (.int 0)), .inr (.inr 2)])
/-- C  boolean isPlayer(int); -/
def mt_52 : is_M := (⟨"CardsAndBans", "isPlayer", "(I)Z"⟩, prog_1_method_54_code, 2, some (.boolean), 0, 0, [0, 1, 4, 5, 6, 9, 12, 15, 16, 19, 20], [.inl (ia_iload 1), .inl (ia_iflt 9), .inl (ia_iload 1), .inl (ia_aload 0), .inl (ia_getR 0 6), .inl (ia_getI 5 0), .inl (ia_ige 9), .inl (ia_const (.int 1)), .inl (ia_goto 10), .inl (ia_const (.int 0)), .inr (.inr 2)])
/-- C  boolean isBan(int); -/
def mt_53 : is_M := (⟨"CardsAndBans", "isBan", "(I)Z"⟩, prog_1_method_55_code, 2, some (.boolean), 0, 0, [0, 1, 4, 5, 6, 9, 12, 15, 16, 19, 20], [.inl (ia_iload 1), .inl (ia_iflt 9), .inl (ia_iload 1), .inl (ia_aload 0), .inl (ia_getR 0 6), .inl (ia_getI 5 2), .inl (ia_ige 9), .inl (ia_const (.int 1)), .inl (ia_goto 10), .inl (ia_const (.int 0)), .inr (.inr 2)])
/-- C  static int bit(int); -/
def mt_54 : is_M := (⟨"CardsAndBans", "bit", "(I)I"⟩, prog_1_method_56_code, 1, some (.int), 0, 0, [0, 1, 2, 3], [.inl (ia_const (.int 1)), .inl (ia_iload 0), .inl (ia_i2 fun x y => x <<< (y &&& 31)), .inr (.inr 1)])
/-- C  static boolean hasBit(int, int); -/
def mt_55 : is_M := (⟨"CardsAndBans", "hasBit", "(II)Z"⟩, prog_1_method_57_code, 2, some (.boolean), 1, 20, [0, 1, 2, 5, 6, 9, 10, 13, 14], [.inl (ia_iload 0), .inl (ia_iload 1), .inr (.inl (54, 1, 100)), .inl (ia_i2 fun x y => x &&& y), .inl (ia_ifeq 7), .inl (ia_const (.int 1)), .inl (ia_goto 8), .inl (ia_const (.int 0)), .inr (.inr 2)])
/-- C  boolean isMatchOf(int, int); -/
def mt_56 : is_M := (⟨"CardsAndBans", "isMatchOf", "(II)Z"⟩, prog_1_method_58_code, 3, some (.boolean), 1, 21, [0, 1, 4, 5, 8, 9, 12, 13, 16, 17, 20, 21, 24, 25, 28, 29], [.inl (ia_aload 0), .inl (ia_getR 0 2), .inl (ia_iload 1), .inr (.inl (180, 2, 2)), .inl (ia_iload 2), .inl (ia_ieq 12), .inl (ia_aload 0), .inl (ia_getR 0 2), .inl (ia_iload 1), .inr (.inl (181, 2, 2)), .inl (ia_iload 2), .inl (ia_ine 14), .inl (ia_const (.int 1)), .inl (ia_goto 15), .inl (ia_const (.int 0)), .inr (.inr 2)])
/-- C  int fairestBeside(int); -/
def mt_57 : is_M := (⟨"CardsAndBans", "fairestBeside", "(I)I"⟩, prog_1_method_59_code, 4, some (.int), 2, 41, [0, 1, 2, 3, 4, 5, 6, 9, 10, 11, 14, 17, 18, 19, 22, 23, 26, 27, 30, 31, 34, 35, 38, 41, 42, 43, 46, 49, 50], [.inl (ia_const (.int (-1))), .inl (ia_istore 2), .inl (ia_const (.int 0)), .inl (ia_istore 3), .inl (ia_iload 3), .inl (ia_const (.int 4)), .inl (ia_ige 27), .inl (ia_iload 1), .inl (ia_iload 3), .inr (.inl (55, 2, 100)), .inl (ia_ifne 25), .inl (ia_iload 2), .inl (ia_const (.int (-1))), .inl (ia_ieq 23), .inl (ia_aload 0), .inl (ia_getR 0 6), .inl (ia_iload 3), .inr (.inl (215, 2, 5)), .inl (ia_aload 0), .inl (ia_getR 0 6), .inl (ia_iload 2), .inr (.inl (215, 2, 5)), .inl (ia_ige 25), .inl (ia_iload 3), .inl (ia_istore 2), .inl (ia_iinc 3 1), .inl (ia_goto 4), .inl (ia_iload 2), .inr (.inr 1)])
/-- C  int wrongSign(); -/
def mt_58 : is_M := (⟨"CardsAndBans", "wrongSign", "()I"⟩, prog_1_method_60_code, 1, some (.int), 0, 0, [0, 2, 3, 6, 9, 10], [.inl (ia_const (.int (-21))), .inl (ia_aload 0), .inl (ia_getR 0 0), .inl (ia_getI 1 3), .inl (ia_i2 fun x y => x - y), .inr (.inr 1)])
/-- C  int readRules(); -/
def mt_59 : is_M := (⟨"CardsAndBans", "readRules", "()I"⟩, prog_1_method_61_code, 5, some (.int), 5, 117, [0, 1, 4, 7, 8, 11, 14, 15, 16, 17, 18, 19, 20, 23, 26, 27, 30, 31, 34, 35, 36, 39, 41, 43, 44, 47, 48, 50, 53, 56, 57, 60, 61, 64, 67, 68, 69, 72, 73, 75, 78, 79, 82, 85, 88, 89, 91, 94, 95, 96, 97, 100, 102, 105, 106, 109, 112, 113, 116], [.inl (ia_aload 0), .inl (ia_getR 0 5), .inr (.inl (193, 1, 4)), .inl (ia_aload 0), .inl (ia_getR 0 0), .inr (.inl (245, 1, 1)), .inl (ia_istore 1), .inl (ia_const (.int 0)), .inl (ia_istore 2), .inl (ia_const (.int 0)), .inl (ia_istore 3), .inl (ia_iload 3), .inl (ia_const (.int 200)), .inl (ia_ige 56), .inl (ia_iload 1), .inl (ia_ifeq 56), .inl (ia_aload 0), .inl (ia_getR 0 0), .inl (ia_const (.int 0)), .inl (ia_const (.int 3)), .inr (.inl (253, 3, 1)), .inl (ia_istore 4), .inl (ia_iload 4), .inl (ia_const (.int (-1))), .inl (ia_ieq 37), .inl (ia_iload 2), .inl (ia_iload 4), .inr (.inl (55, 2, 100)), .inl (ia_ifeq 37), .inl (ia_aload 0), .inl (ia_getR 0 0), .inl (ia_aload 0), .inl (ia_getR 0 0), .inl (ia_getI 1 2), .inl (ia_const (.int 1)), .inl (ia_i2 fun x y => x - y), .inr (.inl (249, 2, 1)), .inl (ia_aload 0), .inl (ia_iload 4), .inr (.inl (60, 2, 0)), .inl (ia_aload 0), .inl (ia_getR 0 0), .inr (.inl (246, 1, 1)), .inl (ia_ifeq 49), .inl (ia_iload 2), .inl (ia_iload 4), .inr (.inl (54, 1, 100)), .inl (ia_i2 fun x y => x ||| y), .inl (ia_istore 2), .inl (ia_aload 0), .inl (ia_getR 0 0), .inl (ia_const (.int 59)), .inr (.inl (255, 2, 1)), .inl (ia_istore 1), .inl (ia_iinc 3 1), .inl (ia_goto 11), .inl (ia_iload 2), .inr (.inl (257, 1, 100)), .inr (.inr 1)])
/-- C  void readRulesOf(int); -/
def mt_60 : is_M := (⟨"CardsAndBans", "readRulesOf", "(I)V"⟩, prog_1_method_62_code, 5, none, 4, 93, [0, 1, 4, 6, 8, 11, 13, 16, 17, 20, 21, 22, 23, 26, 27, 29, 32, 33, 34, 37, 39, 42, 43, 46, 47, 49, 52, 54, 55, 58, 61, 64, 65, 68, 69, 70, 71, 74, 75, 78, 79, 82, 83, 86, 87, 88, 89, 92, 93, 96, 97, 98, 100, 103, 104, 107, 110, 113, 114, 117, 120, 122, 125, 126, 127, 130], [.inl (ia_aload 0), .inl (ia_getR 0 0), .inl (ia_const (.int 111)), .inl (ia_const (.int 97)), .inr (.inl (251, 3, 1)), .inl (ia_const (.int 97)), .inl (ia_ine 9), .inl (ia_const (.int 1)), .inl (ia_goto 10), .inl (ia_const (.int 0)), .inl (ia_istore 2), .inl (ia_aload 0), .inl (ia_getR 0 0), .inl (ia_const (.int 1)), .inl (ia_const (.int 9)), .inr (.inl (253, 3, 1)), .inl (ia_istore 3), .inl (ia_aload 0), .inl (ia_getR 0 0), .inl (ia_const (.int 120)), .inr (.inl (250, 2, 1)), .inl (ia_aload 0), .inl (ia_getR 0 0), .inl (ia_const (.int 0)), .inl (ia_const (.int 20)), .inr (.inl (254, 3, 1)), .inl (ia_istore 4), .inl (ia_aload 0), .inl (ia_getR 0 0), .inr (.inl (246, 1, 1)), .inl (ia_ifeq 53), .inl (ia_aload 0), .inl (ia_getR 0 5), .inl (ia_iload 1), .inl (ia_const (.int 0)), .inl (ia_iload 2), .inl (ia_ifeq 39), .inl (ia_const (.int 1)), .inl (ia_goto 40), .inl (ia_const (.int 0)), .inr (.inl (196, 4, 4)), .inl (ia_aload 0), .inl (ia_getR 0 5), .inl (ia_iload 1), .inl (ia_const (.int 1)), .inl (ia_iload 3), .inr (.inl (196, 4, 4)), .inl (ia_aload 0), .inl (ia_getR 0 5), .inl (ia_iload 1), .inl (ia_const (.int 2)), .inl (ia_iload 4), .inr (.inl (196, 4, 4)), .inl (ia_aload 0), .inl (ia_getR 0 0), .inr (.inl (246, 1, 1)), .inl (ia_ifeq 65), .inl (ia_aload 0), .inl (ia_getR 0 0), .inr (.inl (248, 1, 1)), .inl (ia_const (.int 58)), .inl (ia_ine 65), .inl (ia_aload 0), .inl (ia_iload 1), .inr (.inl (61, 2, 0)), .inr (.inr 0)])
/-- C  void readStepsOf(int); -/
def mt_61 : is_M := (⟨"CardsAndBans", "readStepsOf", "(I)V"⟩, prog_1_method_63_code, 7, none, 3, 67, [0, 2, 3, 4, 5, 6, 8, 10, 11, 14, 15, 18, 19, 22, 23, 26, 27, 28, 29, 31, 34, 36, 37, 40, 42, 45, 46, 49, 50, 52, 55, 57, 58, 61, 64, 67, 68, 69, 72, 73, 75, 77, 80, 82, 83, 85, 86, 87, 90, 93, 95, 98, 99, 102, 105], [.inl (ia_const (.int 58)), .inl (ia_istore 2), .inl (ia_const (.int 0)), .inl (ia_istore 3), .inl (ia_const (.int 0)), .inl (ia_istore 4), .inl (ia_iload 4), .inl (ia_const (.int 4)), .inl (ia_ige 54), .inl (ia_aload 0), .inl (ia_getR 0 0), .inl (ia_iload 2), .inr (.inl (250, 2, 1)), .inl (ia_aload 0), .inl (ia_getR 0 0), .inl (ia_iload 3), .inl (ia_const (.int 1)), .inl (ia_i2 fun x y => x + y), .inl (ia_const (.int 20)), .inr (.inl (254, 3, 1)), .inl (ia_istore 5), .inl (ia_aload 0), .inl (ia_getR 0 0), .inl (ia_const (.int 47)), .inr (.inl (250, 2, 1)), .inl (ia_aload 0), .inl (ia_getR 0 0), .inl (ia_const (.int 1)), .inl (ia_const (.int 9)), .inr (.inl (253, 3, 1)), .inl (ia_istore 6), .inl (ia_aload 0), .inl (ia_getR 0 0), .inr (.inl (246, 1, 1)), .inl (ia_ifne 36), .inr (.inr 0), .inl (ia_aload 0), .inl (ia_getR 0 5), .inl (ia_iload 1), .inl (ia_iload 5), .inl (ia_iload 6), .inr (.inl (200, 4, 4)), .inl (ia_iload 5), .inl (ia_istore 3), .inl (ia_const (.int 44)), .inl (ia_istore 2), .inl (ia_aload 0), .inl (ia_getR 0 0), .inr (.inl (248, 1, 1)), .inl (ia_const (.int 44)), .inl (ia_ieq 52), .inr (.inr 0), .inl (ia_iinc 4 1), .inl (ia_goto 6), .inr (.inr 0)])
/-- C  void readTeams(); -/
def mt_62 : is_M := (⟨"CardsAndBans", "readTeams", "()V"⟩, prog_1_method_64_code, 3, none, 2, 44, [0, 1, 4, 7, 8, 9, 12, 15, 16, 17, 18, 20, 23, 24, 27, 28, 31, 32, 35, 36, 37, 40, 41, 42, 45, 46, 49, 52, 55, 56, 59, 62, 65, 66, 69, 70, 71, 74, 77, 78, 81, 82, 85, 87, 90], [.inl (ia_aload 0), .inl (ia_getR 0 0), .inr (.inl (245, 1, 1)), .inl (ia_istore 1), .inl (ia_aload 0), .inl (ia_getR 0 2), .inr (.inl (177, 1, 2)), .inl (ia_const (.int 0)), .inl (ia_istore 2), .inl (ia_iload 2), .inl (ia_const (.int 12)), .inl (ia_ige 38), .inl (ia_iload 1), .inl (ia_ifeq 38), .inl (ia_aload 0), .inl (ia_getR 0 2), .inl (ia_aload 0), .inl (ia_getR 0 0), .inl (ia_const (.int 0)), .inl (ia_const (.int 3)), .inr (.inl (253, 3, 1)), .inl (ia_const (.int 0)), .inl (ia_const (.int 0)), .inr (.inl (178, 4, 2)), .inl (ia_aload 0), .inl (ia_getR 0 0), .inr (.inl (246, 1, 1)), .inl (ia_ifeq 34), .inl (ia_aload 0), .inl (ia_getR 0 0), .inr (.inl (247, 1, 1)), .inl (ia_ifne 34), .inl (ia_const (.int 1)), .inl (ia_goto 35), .inl (ia_const (.int 0)), .inl (ia_istore 1), .inl (ia_iinc 2 1), .inl (ia_goto 9), .inl (ia_iload 1), .inl (ia_ifeq 44), .inl (ia_aload 0), .inl (ia_getR 0 0), .inl (ia_const (.int 12)), .inr (.inl (249, 2, 1)), .inr (.inr 0)])
/-- C  void readCards(); -/
def mt_63 : is_M := (⟨"CardsAndBans", "readCards", "()V"⟩, prog_1_method_65_code, 4, none, 4, 86, [0, 1, 4, 7, 8, 9, 12, 15, 16, 17, 18, 21, 24, 25, 28, 29, 32, 34, 36, 39, 41, 44, 45, 48, 49, 50, 51, 54, 55, 56, 59, 60, 61, 64, 67, 68, 69, 72, 73, 76, 77, 80, 82, 85, 86, 89, 92], [.inl (ia_aload 0), .inl (ia_getR 0 0), .inr (.inl (245, 1, 1)), .inl (ia_istore 1), .inl (ia_aload 0), .inl (ia_getR 0 2), .inr (.inl (177, 1, 2)), .inl (ia_const (.int 0)), .inl (ia_istore 2), .inl (ia_iload 2), .inl (ia_const (.int 200)), .inl (ia_ige 46), .inl (ia_iload 1), .inl (ia_ifeq 46), .inl (ia_aload 0), .inl (ia_getR 0 0), .inl (ia_const (.int 121)), .inl (ia_const (.int 114)), .inr (.inl (251, 3, 1)), .inl (ia_const (.int 114)), .inl (ia_ine 23), .inl (ia_const (.int 1)), .inl (ia_goto 24), .inl (ia_const (.int 0)), .inl (ia_istore 3), .inl (ia_aload 0), .inl (ia_getR 0 2), .inl (ia_iload 3), .inl (ia_aload 0), .inl (ia_getR 0 0), .inl (ia_const (.int 0)), .inl (ia_aload 0), .inl (ia_getR 0 6), .inl (ia_getI 5 0), .inl (ia_const (.int 1)), .inl (ia_i2 fun x y => x - y), .inr (.inl (254, 3, 1)), .inl (ia_const (.int 0)), .inr (.inl (178, 4, 2)), .inl (ia_aload 0), .inl (ia_getR 0 0), .inl (ia_const (.int 44)), .inr (.inl (255, 2, 1)), .inl (ia_istore 1), .inl (ia_iinc 2 1), .inl (ia_goto 9), .inr (.inr 0)])
/-- C  void readGiven(); -/
def mt_64 : is_M := (⟨"CardsAndBans", "readGiven", "()V"⟩, prog_1_method_66_code, 5, none, 4, 86, [0, 1, 4, 7, 8, 9, 12, 15, 16, 17, 18, 21, 24, 25, 28, 29, 32, 33, 34, 37, 40, 41, 42, 45, 46, 47, 50, 52, 55, 56, 59, 60, 61, 64, 66, 67, 70, 72, 75, 76, 79, 80, 82, 83, 86, 87, 89, 92, 95, 96, 99, 101, 104, 105, 108, 111], [.inl (ia_aload 0), .inl (ia_getR 0 0), .inr (.inl (245, 1, 1)), .inl (ia_istore 1), .inl (ia_aload 0), .inl (ia_getR 0 2), .inr (.inl (177, 1, 2)), .inl (ia_const (.int 0)), .inl (ia_istore 2), .inl (ia_iload 2), .inl (ia_const (.int 200)), .inl (ia_ige 55), .inl (ia_iload 1), .inl (ia_ifeq 55), .inl (ia_aload 0), .inl (ia_getR 0 0), .inl (ia_const (.int 0)), .inl (ia_aload 0), .inl (ia_getR 0 6), .inl (ia_getI 5 0), .inl (ia_const (.int 1)), .inl (ia_i2 fun x y => x - y), .inr (.inl (254, 3, 1)), .inl (ia_istore 3), .inl (ia_aload 0), .inl (ia_getR 0 0), .inl (ia_const (.int 99)), .inr (.inl (250, 2, 1)), .inl (ia_aload 0), .inl (ia_getR 0 0), .inl (ia_const (.int 0)), .inl (ia_const (.int 3)), .inr (.inl (253, 3, 1)), .inl (ia_istore 4), .inl (ia_aload 0), .inl (ia_getR 0 0), .inl (ia_const (.int 110)), .inr (.inl (250, 2, 1)), .inl (ia_aload 0), .inl (ia_getR 0 2), .inl (ia_iload 3), .inl (ia_iload 4), .inl (ia_aload 0), .inl (ia_getR 0 0), .inl (ia_const (.int 1)), .inl (ia_const (.int 9)), .inr (.inl (253, 3, 1)), .inr (.inl (178, 4, 2)), .inl (ia_aload 0), .inl (ia_getR 0 0), .inl (ia_const (.int 44)), .inr (.inl (255, 2, 1)), .inl (ia_istore 1), .inl (ia_iinc 2 1), .inl (ia_goto 9), .inr (.inr 0)])
/-- C  void readMatches(); -/
def mt_65 : is_M := (⟨"CardsAndBans", "readMatches", "()V"⟩, prog_1_method_67_code, 6, none, 4, 86, [0, 1, 4, 7, 8, 9, 12, 15, 16, 17, 18, 21, 24, 25, 28, 29, 32, 33, 34, 37, 38, 39, 42, 43, 44, 47, 49, 50, 53, 54, 55, 58, 60, 62, 63, 66, 68, 70, 73, 74, 77, 78, 81, 84, 85, 86, 89, 90, 93, 94, 96, 98, 101, 102, 105, 107, 110, 111, 114, 117], [.inl (ia_aload 0), .inl (ia_getR 0 0), .inr (.inl (245, 1, 1)), .inl (ia_istore 1), .inl (ia_aload 0), .inl (ia_getR 0 2), .inr (.inl (177, 1, 2)), .inl (ia_const (.int 0)), .inl (ia_istore 2), .inl (ia_iload 2), .inl (ia_const (.int 200)), .inl (ia_ige 59), .inl (ia_iload 1), .inl (ia_ifeq 59), .inl (ia_aload 0), .inl (ia_getR 0 0), .inl (ia_const (.int 0)), .inl (ia_const (.int 3)), .inr (.inl (253, 3, 1)), .inl (ia_istore 3), .inl (ia_aload 0), .inl (ia_getR 0 0), .inl (ia_const (.int 0)), .inl (ia_const (.int 3)), .inr (.inl (253, 3, 1)), .inl (ia_istore 4), .inl (ia_aload 0), .inl (ia_getR 0 0), .inl (ia_const (.int 0)), .inl (ia_const (.int 3)), .inr (.inl (253, 3, 1)), .inl (ia_istore 5), .inl (ia_iload 5), .inl (ia_const (.int (-1))), .inl (ia_ieq 46), .inl (ia_iload 5), .inl (ia_iload 4), .inl (ia_ine 46), .inl (ia_aload 0), .inl (ia_getR 0 0), .inl (ia_aload 0), .inl (ia_getR 0 0), .inl (ia_getI 1 2), .inl (ia_const (.int 1)), .inl (ia_i2 fun x y => x - y), .inr (.inl (249, 2, 1)), .inl (ia_aload 0), .inl (ia_getR 0 2), .inl (ia_iload 3), .inl (ia_iload 4), .inl (ia_iload 5), .inr (.inl (178, 4, 2)), .inl (ia_aload 0), .inl (ia_getR 0 0), .inl (ia_const (.int 44)), .inr (.inl (255, 2, 1)), .inl (ia_istore 1), .inl (ia_iinc 2 1), .inl (ia_goto 9), .inr (.inr 0)])
/-- C  void writeRules(); -/
def mt_66 : is_M := (⟨"CardsAndBans", "writeRules", "()V"⟩, prog_1_method_68_code, 3, none, 2, 44, [0, 1, 4, 7, 8, 9, 10, 11, 14, 15, 18, 19, 22, 24, 27, 28, 31, 32, 35, 36, 39, 40, 43, 44, 45, 48, 49, 52, 54, 57, 59, 62, 63, 66, 67, 70, 71, 72, 75, 78, 79, 82, 84, 87, 88, 91, 92, 95, 96, 97, 100, 103, 104, 105, 106, 107, 110, 111, 114, 117, 118, 121, 122, 125, 127, 130, 132, 135, 136, 139, 140, 143, 144, 145, 148, 151, 152, 155, 157, 160, 161, 164, 165, 168, 169, 170, 173, 176, 179, 182, 185, 188], [.inl (ia_aload 0), .inl (ia_getR 0 1), .inr (.inl (243, 1, 1)), .inl (ia_const (.int 0)), .inl (ia_istore 1), .inl (ia_iload 1), .inl (ia_const (.int 4)), .inl (ia_ige 91), .inl (ia_iload 1), .inl (ia_ifle 14), .inl (ia_aload 0), .inl (ia_getR 0 1), .inl (ia_const (.int 59)), .inr (.inl (240, 2, 1)), .inl (ia_aload 0), .inl (ia_getR 0 1), .inl (ia_iload 1), .inr (.inl (241, 2, 1)), .inl (ia_aload 0), .inl (ia_getR 0 1), .inl (ia_aload 0), .inl (ia_getR 0 4), .inl (ia_iload 1), .inl (ia_const (.int 0)), .inr (.inl (195, 3, 4)), .inl (ia_const (.int 1)), .inl (ia_ine 29), .inl (ia_const (.int 97)), .inl (ia_goto 30), .inl (ia_const (.int 111)), .inr (.inl (240, 2, 1)), .inl (ia_aload 0), .inl (ia_getR 0 1), .inl (ia_aload 0), .inl (ia_getR 0 4), .inl (ia_iload 1), .inl (ia_const (.int 1)), .inr (.inl (195, 3, 4)), .inr (.inl (241, 2, 1)), .inl (ia_aload 0), .inl (ia_getR 0 1), .inl (ia_const (.int 120)), .inr (.inl (240, 2, 1)), .inl (ia_aload 0), .inl (ia_getR 0 1), .inl (ia_aload 0), .inl (ia_getR 0 4), .inl (ia_iload 1), .inl (ia_const (.int 2)), .inr (.inl (195, 3, 4)), .inr (.inl (241, 2, 1)), .inl (ia_const (.int 0)), .inl (ia_istore 2), .inl (ia_iload 2), .inl (ia_aload 0), .inl (ia_getR 0 4), .inl (ia_iload 1), .inr (.inl (197, 2, 4)), .inl (ia_ige 89), .inl (ia_aload 0), .inl (ia_getR 0 1), .inl (ia_iload 2), .inl (ia_ifne 65), .inl (ia_const (.int 58)), .inl (ia_goto 66), .inl (ia_const (.int 44)), .inr (.inl (240, 2, 1)), .inl (ia_aload 0), .inl (ia_getR 0 1), .inl (ia_aload 0), .inl (ia_getR 0 4), .inl (ia_iload 1), .inl (ia_iload 2), .inr (.inl (198, 3, 4)), .inr (.inl (241, 2, 1)), .inl (ia_aload 0), .inl (ia_getR 0 1), .inl (ia_const (.int 47)), .inr (.inl (240, 2, 1)), .inl (ia_aload 0), .inl (ia_getR 0 1), .inl (ia_aload 0), .inl (ia_getR 0 4), .inl (ia_iload 1), .inl (ia_iload 2), .inr (.inl (199, 3, 4)), .inr (.inl (241, 2, 1)), .inl (ia_iinc 2 1), .inl (ia_goto 53), .inl (ia_iinc 1 1), .inl (ia_goto 5), .inr (.inr 0)])
/-- CModel public CardsAndBansModel(); -/
def mt_67 : is_M := (⟨"CardsAndBansModel", "<init>", "()V"⟩, prog_10_method_1_code, 2, none, 1, 20, [0, 1, 4, 5, 8, 10, 13, 14, 17, 19, 22, 23, 26, 28, 31, 32, 35, 37, 40, 41, 43, 45, 48, 49, 51, 53, 56, 57, 59, 61, 64, 65, 68, 70, 73, 74, 77, 79, 82, 83, 86, 88, 91, 92, 95, 97, 100, 101, 103, 105, 108, 109, 111, 113, 116, 117, 119, 121, 124, 125, 128, 130, 133, 134, 137, 139, 142, 143, 146, 148, 151, 152, 155, 157, 160, 161, 163, 165, 168, 169, 171, 173, 176, 177, 179, 181, 184, 185, 186, 187, 188, 191, 192, 195, 196, 197, 198, 199, 200, 201, 202, 205, 208], [.inl (ia_aload 0), .inl ia_oinit, .inl (ia_aload 0), .inl (ia_const (.int 1108)), .inl (ia_newa 0), .inl (ia_putR 8 0), .inl (ia_aload 0), .inl (ia_const (.int 1108)), .inl (ia_newa 0), .inl (ia_putR 8 1), .inl (ia_aload 0), .inl (ia_const (.int 1108)), .inl (ia_newa 0), .inl (ia_putR 8 2), .inl (ia_aload 0), .inl (ia_const (.int 8864)), .inl (ia_newa 0), .inl (ia_putR 8 4), .inl (ia_aload 0), .inl (ia_const (.int 16)), .inl (ia_newa 0), .inl (ia_putR 8 6), .inl (ia_aload 0), .inl (ia_const (.int 16)), .inl (ia_newa 0), .inl (ia_putR 8 7), .inl (ia_aload 0), .inl (ia_const (.int 16)), .inl (ia_newa 0), .inl (ia_putR 8 8), .inl (ia_aload 0), .inl (ia_const (.int 200)), .inl (ia_newa 3), .inl (ia_putR 8 9), .inl (ia_aload 0), .inl (ia_const (.int 128)), .inl (ia_newa 1), .inl (ia_putR 8 11), .inl (ia_aload 0), .inl (ia_const (.int 200)), .inl (ia_newa 0), .inl (ia_putR 8 16), .inl (ia_aload 0), .inl (ia_const (.int 200)), .inl (ia_newa 0), .inl (ia_putR 8 17), .inl (ia_aload 0), .inl (ia_const (.int 16)), .inl (ia_newa 0), .inl (ia_putR 8 24), .inl (ia_aload 0), .inl (ia_const (.int 16)), .inl (ia_newa 0), .inl (ia_putR 8 25), .inl (ia_aload 0), .inl (ia_const (.int 16)), .inl (ia_newa 0), .inl (ia_putR 8 26), .inl (ia_aload 0), .inl (ia_const (.int 200)), .inl (ia_newa 0), .inl (ia_putR 8 27), .inl (ia_aload 0), .inl (ia_const (.int 200)), .inl (ia_newa 0), .inl (ia_putR 8 28), .inl (ia_aload 0), .inl (ia_const (.int 200)), .inl (ia_newa 0), .inl (ia_putR 8 29), .inl (ia_aload 0), .inl (ia_const (.int 160)), .inl (ia_newa 3), .inl (ia_putR 8 30), .inl (ia_aload 0), .inl (ia_const (.int 64)), .inl (ia_newa 0), .inl (ia_putR 8 32), .inl (ia_aload 0), .inl (ia_const (.int 64)), .inl (ia_newa 0), .inl (ia_putR 8 33), .inl (ia_aload 0), .inl (ia_const (.int 64)), .inl (ia_newa 0), .inl (ia_putR 8 34), .inl (ia_const (.int 0)), .inl (ia_istore 1), .inl (ia_iload 1), .inl (ia_const (.int 4)), .inl (ia_ige 102), .inl (ia_aload 0), .inl (ia_getR 8 6), .inl (ia_const (.int 4)), .inl (ia_iload 1), .inl (ia_i2 fun x y => x * y), .inl (ia_const (.int 1)), .inl (ia_i2 fun x y => x + y), .inl (ia_const (.int 1)), .inl ia_iast, .inl (ia_iinc 1 1), .inl (ia_goto 88), .inr (.inr 0)])
/-- CModel public int thrown(); -/
def mt_68 : is_M := (⟨"CardsAndBansModel", "thrown", "()I"⟩, prog_10_method_2_code, 1, some (.int), 0, 0, [0, 1, 4], [.inl (ia_aload 0), .inl (ia_getI 8 13), .inr (.inr 1)])
/-- CModel  static boolean in(long, long, long); -/
def mt_69 : is_M := (⟨"CardsAndBansModel", "in", "(JJJ)Z"⟩, prog_10_method_3_code, 6, some (.boolean), 0, 0, [0, 1, 2, 3, 6, 7, 9, 10, 13, 14, 17, 18], [.inl (ia_lload 0), .inl (ia_lload 2), .inl ia_lcmp, .inl (ia_iflt 10), .inl (ia_lload 0), .inl (ia_lload 4), .inl ia_lcmp, .inl (ia_ifgt 10), .inl (ia_const (.int 1)), .inl (ia_goto 11), .inl (ia_const (.int 0)), .inr (.inr 2)])
/-- CModel  int lost(); -/
def mt_70 : is_M := (⟨"CardsAndBansModel", "lost", "()I"⟩, prog_10_method_4_code, 1, some (.int), 0, 0, [0, 1, 2, 5, 6], [.inl (ia_aload 0), .inl (ia_const (.int 1)), .inl (ia_putI 8 13), .inl (ia_const (.int 0)), .inr (.inr 1)])
/-- CModel  void tell(long); -/
def mt_71 : is_M := (⟨"CardsAndBansModel", "tell", "(J)V"⟩, prog_10_method_5_code, 3, none, 0, 0, [0, 1, 4, 5, 8, 9, 10, 11, 12, 15, 16, 17, 20], [.inl (ia_aload 0), .inl (ia_getR 8 11), .inl (ia_aload 0), .inl (ia_getI 8 12), .inl (ia_lload 1), .inl ia_last, .inl (ia_aload 0), .inl ia_dup, .inl (ia_getI 8 12), .inl (ia_const (.int 1)), .inl (ia_i2 fun x y => x + y), .inl (ia_putI 8 12), .inr (.inr 0)])
/-- CModel  static int ones(int); -/
def mt_72 : is_M := (⟨"CardsAndBansModel", "ones", "(I)I"⟩, prog_10_method_6_code, 3, some (.int), 0, 0, [0, 1, 2, 3, 4, 5, 8, 11, 12, 13, 14, 15, 16, 17, 20, 21], [.inl (ia_const (.int 0)), .inl (ia_istore 1), .inl (ia_iload 0), .inl (ia_istore 2), .inl (ia_iload 2), .inl (ia_ifeq 14), .inl (ia_iinc 1 1), .inl (ia_iload 2), .inl (ia_iload 2), .inl (ia_const (.int 1)), .inl (ia_i2 fun x y => x - y), .inl (ia_i2 fun x y => x &&& y), .inl (ia_istore 2), .inl (ia_goto 4), .inl (ia_iload 1), .inr (.inr 1)])
/-- CModel public int sign(int); -/
def mt_73 : is_M := (⟨"CardsAndBansModel", "sign", "(I)I"⟩, prog_10_method_7_code, 3, some (.int), 0, 0, [0, 1, 2, 5, 6, 9, 10, 11, 14, 17, 18, 19, 20, 21, 22, 25, 26, 29, 30, 31, 34, 35, 36, 37, 40, 41, 43, 44, 45, 46, 47, 48, 51, 54, 55, 58], [.inl (ia_aload 0), .inl (ia_const (.int 0)), .inl (ia_putI 8 13), .inl (ia_aload 0), .inl (ia_getI 8 10), .inl (ia_const (.int 4)), .inl (ia_i2 fun x y => x + y), .inl (ia_const (.int 200)), .inl (ia_ile 11), .inl (ia_const (.int (-1))), .inr (.inr 1), .inl (ia_const (.int 3)), .inl (ia_istore 2), .inl (ia_iload 2), .inl (ia_iflt 33), .inl (ia_aload 0), .inl (ia_getR 8 9), .inl (ia_aload 0), .inl ia_dup, .inl (ia_getI 8 10), .inl ia_dupx1, .inl (ia_const (.int 1)), .inl (ia_i2 fun x y => x + y), .inl (ia_putI 8 10), .inl (ia_iload 1), .inl (ia_const (.int 8)), .inl (ia_iload 2), .inl (ia_i2 fun x y => x * y), .inl (ia_i2 fun x y => x >>> (y &&& 31)), .inl (ia_i1 fun x => x.toInt8.toInt32), .inl ia_bast, .inl (ia_iinc 2 (-1)), .inl (ia_goto 13), .inl (ia_aload 0), .inl (ia_getI 8 10), .inr (.inr 1)])
/-- CModel public boolean end(int); -/
def mt_74 : is_M := (⟨"CardsAndBansModel", "end", "(I)Z"⟩, prog_10_method_8_code, 2, some (.boolean), 1, 25, [0, 1, 2, 5, 6, 7, 8, 9, 12, 13, 16, 19, 20, 21, 22, 23, 26, 27], [.inl (ia_aload 0), .inl (ia_const (.int 0)), .inl (ia_putI 8 13), .inl (ia_iload 1), .inl ia_i2l, .inl (ia_const (.long 0)), .inl (ia_aload 0), .inl (ia_getI 8 10), .inl ia_i2l, .inr (.inl (69, 3, 100)), .inl (ia_ifne 13), .inl (ia_const (.int 0)), .inr (.inr 2), .inl (ia_aload 0), .inl (ia_iload 1), .inl (ia_putI 8 10), .inl (ia_const (.int 1)), .inr (.inr 2)])
/-- CModel  static boolean isCup(int); -/
def mt_75 : is_M := (⟨"CardsAndBansModel", "isCup", "(I)Z"⟩, prog_10_method_9_code, 1, some (.boolean), 1, 25, [0, 1, 2, 3, 6, 9], [.inl (ia_iload 0), .inl ia_i2l, .inl (ia_const (.long 0)), .inl (ia_const (.long 3)), .inr (.inl (69, 3, 100)), .inr (.inr 2)])
/-- CModel  static boolean isTeam(int); -/
def mt_76 : is_M := (⟨"CardsAndBansModel", "isTeam", "(I)Z"⟩, prog_10_method_10_code, 1, some (.boolean), 1, 25, [0, 1, 2, 3, 6, 9], [.inl (ia_iload 0), .inl ia_i2l, .inl (ia_const (.long 0)), .inl (ia_const (.long 3)), .inr (.inl (69, 3, 100)), .inr (.inr 2)])
/-- CModel  boolean isPlayer(int); -/
def mt_77 : is_M := (⟨"CardsAndBansModel", "isPlayer", "(I)Z"⟩, prog_10_method_11_code, 2, some (.boolean), 1, 25, [0, 1, 2, 3, 4, 7, 10, 11, 12, 13, 14, 17], [.inl (ia_iload 1), .inl ia_i2l, .inl (ia_const (.long 0)), .inl (ia_aload 0), .inl (ia_getR 8 0), .inl (ia_const (.int 1104)), .inl ia_iald, .inl (ia_const (.int 1)), .inl (ia_i2 fun x y => x - y), .inl ia_i2l, .inr (.inl (69, 3, 100)), .inr (.inr 2)])
/-- CModel  boolean isBan(int); -/
def mt_78 : is_M := (⟨"CardsAndBansModel", "isBan", "(I)Z"⟩, prog_10_method_12_code, 2, some (.boolean), 1, 25, [0, 1, 2, 3, 4, 7, 10, 11, 12, 13, 14, 17], [.inl (ia_iload 1), .inl ia_i2l, .inl (ia_const (.long 0)), .inl (ia_aload 0), .inl (ia_getR 8 0), .inl (ia_const (.int 1105)), .inl ia_iald, .inl (ia_const (.int 1)), .inl (ia_i2 fun x y => x - y), .inl ia_i2l, .inr (.inl (69, 3, 100)), .inr (.inr 2)])
/-- CModel  int banOf(int, int); -/
def mt_79 : is_M := (⟨"CardsAndBansModel", "banOf", "(II)I"⟩, prog_10_method_13_code, 3, some (.int), 0, 0, [0, 1, 4, 7, 9, 10, 11, 12, 13, 14, 15], [.inl (ia_aload 0), .inl (ia_getR 8 0), .inl (ia_const (.int 304)), .inl (ia_const (.int 8)), .inl (ia_iload 1), .inl (ia_i2 fun x y => x * y), .inl (ia_i2 fun x y => x + y), .inl (ia_iload 2), .inl (ia_i2 fun x y => x + y), .inl ia_iald, .inr (.inr 1)])
/-- CModel  void sets(int, int, int); -/
def mt_80 : is_M := (⟨"CardsAndBansModel", "sets", "(III)V"⟩, prog_10_method_14_code, 4, none, 0, 0, [0, 1, 4, 7, 9, 10, 11, 12, 13, 14, 15, 16], [.inl (ia_aload 0), .inl (ia_getR 8 0), .inl (ia_const (.int 304)), .inl (ia_const (.int 8)), .inl (ia_iload 1), .inl (ia_i2 fun x y => x * y), .inl (ia_i2 fun x y => x + y), .inl (ia_iload 2), .inl (ia_i2 fun x y => x + y), .inl (ia_iload 3), .inl ia_iast, .inr (.inr 0)])
/-- CModel  void lays(); -/
def mt_81 : is_M := (⟨"CardsAndBansModel", "lays", "()V"⟩, prog_10_method_15_code, 2, none, 0, 0, [0, 1, 2, 3, 6, 9, 10, 13, 14, 15, 18, 19, 20, 21, 24, 27], [.inl (ia_const (.int 0)), .inl (ia_istore 1), .inl (ia_iload 1), .inl (ia_const (.int 1108)), .inl (ia_ige 15), .inl (ia_aload 0), .inl (ia_getR 8 1), .inl (ia_iload 1), .inl (ia_aload 0), .inl (ia_getR 8 0), .inl (ia_iload 1), .inl ia_iald, .inl ia_iast, .inl (ia_iinc 1 1), .inl (ia_goto 2), .inr (.inr 0)])
/-- CModel  void puts(); -/
def mt_82 : is_M := (⟨"CardsAndBansModel", "puts", "()V"⟩, prog_10_method_16_code, 2, none, 0, 0, [0, 1, 2, 3, 6, 9, 10, 13, 14, 15, 18, 19, 20, 21, 24, 27], [.inl (ia_const (.int 0)), .inl (ia_istore 1), .inl (ia_iload 1), .inl (ia_const (.int 1108)), .inl (ia_ige 15), .inl (ia_aload 0), .inl (ia_getR 8 0), .inl (ia_iload 1), .inl (ia_aload 0), .inl (ia_getR 8 1), .inl (ia_iload 1), .inl ia_iald, .inl ia_iast, .inl (ia_iinc 1 1), .inl (ia_goto 2), .inr (.inr 0)])
/-- CModel  void did(); -/
def mt_83 : is_M := (⟨"CardsAndBansModel", "did", "()V"⟩, prog_10_method_17_code, 2, none, 0, 0, [0, 1, 4, 6, 9, 12, 13, 14, 17, 20, 21, 24, 25, 28, 29, 30, 33, 34, 35, 36, 39, 42, 43, 44, 47, 48, 49, 52, 53, 54, 55, 58, 61, 62, 65, 68, 69, 72, 73, 74, 75, 76, 79, 80, 81, 82, 85, 88, 89, 90, 93, 94, 95, 98], [.inl (ia_aload 0), .inl (ia_getI 8 5), .inl (ia_const (.int 8)), .inl (ia_ine 27), .inl (ia_const (.int 1108)), .inl (ia_istore 1), .inl (ia_iload 1), .inl (ia_const (.int 8864)), .inl (ia_ige 21), .inl (ia_aload 0), .inl (ia_getR 8 4), .inl (ia_iload 1), .inl (ia_const (.int 1108)), .inl (ia_i2 fun x y => x - y), .inl (ia_aload 0), .inl (ia_getR 8 4), .inl (ia_iload 1), .inl ia_iald, .inl ia_iast, .inl (ia_iinc 1 1), .inl (ia_goto 6), .inl (ia_aload 0), .inl ia_dup, .inl (ia_getI 8 5), .inl (ia_const (.int 1)), .inl (ia_i2 fun x y => x - y), .inl (ia_putI 8 5), .inl (ia_const (.int 0)), .inl (ia_istore 1), .inl (ia_iload 1), .inl (ia_const (.int 1108)), .inl (ia_ige 47), .inl (ia_aload 0), .inl (ia_getR 8 4), .inl (ia_const (.int 1108)), .inl (ia_aload 0), .inl (ia_getI 8 5), .inl (ia_i2 fun x y => x * y), .inl (ia_iload 1), .inl (ia_i2 fun x y => x + y), .inl (ia_aload 0), .inl (ia_getR 8 1), .inl (ia_iload 1), .inl ia_iald, .inl ia_iast, .inl (ia_iinc 1 1), .inl (ia_goto 29), .inl (ia_aload 0), .inl ia_dup, .inl (ia_getI 8 5), .inl (ia_const (.int 1)), .inl (ia_i2 fun x y => x + y), .inl (ia_putI 8 5), .inr (.inr 0)])
/-- CModel  void does(); -/
def mt_84 : is_M := (⟨"CardsAndBansModel", "does", "()V"⟩, prog_10_method_18_code, 1, none, 1, 21, [0, 1, 4, 5, 8], [.inl (ia_aload 0), .inr (.inl (81, 1, 8)), .inl (ia_aload 0), .inr (.inl (83, 1, 8)), .inr (.inr 0)])
/-- CModel  void writes(int, int); -/
def mt_85 : is_M := (⟨"CardsAndBansModel", "writes", "(II)V"⟩, prog_10_method_19_code, 4, none, 0, 0, [0, 2, 3, 4, 7, 10, 11, 13, 14, 15, 16, 17, 18, 21, 22, 23, 24, 25, 28, 29, 30, 31, 32, 33, 34, 37, 38, 39, 40, 41, 44, 47, 48, 49, 50, 53, 56, 57, 58, 59, 60, 61], [.inl (ia_const (.int 124)), .inl (ia_const (.int 3)), .inl (ia_aload 0), .inl (ia_getR 8 0), .inl (ia_const (.int 1107)), .inl ia_iald, .inl (ia_const (.int 60)), .inl (ia_i2z fun x y => x - x / y * y), .inl (ia_i2 fun x y => x * y), .inl (ia_i2 fun x y => x + y), .inl (ia_istore 3), .inl (ia_aload 0), .inl (ia_getR 8 0), .inl (ia_iload 3), .inl (ia_iload 1), .inl ia_iast, .inl (ia_aload 0), .inl (ia_getR 8 0), .inl (ia_iload 3), .inl (ia_const (.int 1)), .inl (ia_i2 fun x y => x + y), .inl (ia_iload 2), .inl ia_iast, .inl (ia_aload 0), .inl (ia_getR 8 0), .inl (ia_iload 3), .inl (ia_const (.int 2)), .inl (ia_i2 fun x y => x + y), .inl (ia_aload 0), .inl (ia_getR 8 0), .inl (ia_const (.int 1106)), .inl ia_iald, .inl ia_iast, .inl (ia_aload 0), .inl (ia_getR 8 0), .inl (ia_const (.int 1107)), .inl ia_dup2, .inl ia_iald, .inl (ia_const (.int 1)), .inl (ia_i2 fun x y => x + y), .inl ia_iast, .inr (.inr 0)])
/-- CModel  boolean comes(int, int, int); -/
def mt_86 : is_M := (⟨"CardsAndBansModel", "comes", "(III)Z"⟩, prog_10_method_20_code, 5, some (.boolean), 1, 23, [0, 1, 4, 7, 8, 10, 12, 14, 17, 18, 19, 20, 23, 26, 27, 28, 29, 30, 31, 32, 34, 35, 36, 39, 40, 42, 43, 44, 47, 48, 50, 51, 52, 55, 56, 58, 59, 60, 63, 64, 65, 66, 67, 70, 71, 73, 74, 75, 78, 79, 81, 82, 83, 86, 87, 89, 91, 92, 95, 98, 99, 102, 103, 105, 107, 108, 111, 112, 113, 115, 118, 119], [.inl (ia_aload 0), .inl (ia_getR 8 0), .inl (ia_const (.int 1105)), .inl ia_iald, .inl (ia_istore 4), .inl (ia_iload 4), .inl (ia_const (.int 100)), .inl (ia_ine 10), .inl (ia_const (.int 0)), .inr (.inr 2), .inl (ia_aload 0), .inl (ia_getR 8 0), .inl (ia_const (.int 1105)), .inl ia_dup2, .inl ia_iald, .inl (ia_const (.int 1)), .inl (ia_i2 fun x y => x + y), .inl ia_iast, .inl (ia_aload 0), .inl (ia_iload 4), .inl (ia_const (.int 0)), .inl (ia_iload 1), .inr (.inl (80, 4, 8)), .inl (ia_aload 0), .inl (ia_iload 4), .inl (ia_const (.int 1)), .inl (ia_iload 2), .inr (.inl (80, 4, 8)), .inl (ia_aload 0), .inl (ia_iload 4), .inl (ia_const (.int 2)), .inl (ia_iload 3), .inr (.inl (80, 4, 8)), .inl (ia_aload 0), .inl (ia_iload 4), .inl (ia_const (.int 3)), .inl (ia_aload 0), .inl (ia_getR 8 6), .inl (ia_const (.int 4)), .inl (ia_iload 2), .inl (ia_i2 fun x y => x * y), .inl ia_iald, .inr (.inl (80, 4, 8)), .inl (ia_aload 0), .inl (ia_iload 4), .inl (ia_const (.int 4)), .inl (ia_const (.int 0)), .inr (.inl (80, 4, 8)), .inl (ia_aload 0), .inl (ia_iload 4), .inl (ia_const (.int 5)), .inl (ia_iload 3), .inr (.inl (80, 4, 8)), .inl (ia_aload 0), .inl (ia_iload 4), .inl (ia_const (.int 6)), .inl (ia_aload 0), .inl (ia_getR 8 0), .inl (ia_const (.int 1106)), .inl ia_iald, .inr (.inl (80, 4, 8)), .inl (ia_aload 0), .inl (ia_iload 4), .inl (ia_const (.int 7)), .inl (ia_const (.int 0)), .inr (.inl (80, 4, 8)), .inl (ia_aload 0), .inl (ia_const (.int 0)), .inl (ia_iload 4), .inr (.inl (85, 3, 8)), .inl (ia_const (.int 1)), .inr (.inr 2)])
/-- CModel  boolean isOpen(int); -/
def mt_87 : is_M := (⟨"CardsAndBansModel", "isOpen", "(I)Z"⟩, prog_10_method_21_code, 2, some (.boolean), 1, 22, [0, 1, 2, 3, 6, 9, 10, 13, 14], [.inl (ia_aload 0), .inl (ia_iload 1), .inl (ia_const (.int 2)), .inr (.inl (79, 3, 8)), .inl (ia_ifle 7), .inl (ia_const (.int 1)), .inl (ia_goto 8), .inl (ia_const (.int 0)), .inr (.inr 2)])
/-- CModel  boolean isOf(int, int); -/
def mt_88 : is_M := (⟨"CardsAndBansModel", "isOf", "(II)Z"⟩, prog_10_method_22_code, 3, some (.boolean), 1, 22, [0, 1, 2, 3, 6, 7, 10, 11, 12, 13, 16, 17, 20, 21, 24, 25], [.inl (ia_aload 0), .inl (ia_iload 1), .inl (ia_const (.int 3)), .inr (.inl (79, 3, 8)), .inl (ia_const (.int 1)), .inl (ia_ieq 12), .inl (ia_aload 0), .inl (ia_iload 1), .inl (ia_const (.int 1)), .inr (.inl (79, 3, 8)), .inl (ia_iload 2), .inl (ia_ine 14), .inl (ia_const (.int 1)), .inl (ia_goto 15), .inl (ia_const (.int 0)), .inr (.inr 2)])
/-- CModel  boolean bars(int, int); -/
def mt_89 : is_M := (⟨"CardsAndBansModel", "bars", "(II)Z"⟩, prog_10_method_23_code, 3, some (.boolean), 2, 44, [0, 1, 2, 5, 8, 9, 10, 11, 14, 15, 18, 19, 20, 21, 24, 27, 28, 31, 32], [.inl (ia_aload 0), .inl (ia_iload 1), .inr (.inl (87, 2, 8)), .inl (ia_ifeq 17), .inl (ia_aload 0), .inl (ia_iload 1), .inl (ia_const (.int 4)), .inr (.inl (79, 3, 8)), .inl (ia_const (.int 1)), .inl (ia_ieq 17), .inl (ia_aload 0), .inl (ia_iload 1), .inl (ia_iload 2), .inr (.inl (88, 3, 8)), .inl (ia_ifeq 17), .inl (ia_const (.int 1)), .inl (ia_goto 18), .inl (ia_const (.int 0)), .inr (.inr 2)])
/-- CModel  int barring(int, int); -/
def mt_90 : is_M := (⟨"CardsAndBansModel", "barring", "(II)I"⟩, prog_10_method_24_code, 4, some (.int), 3, 66, [0, 1, 2, 3, 4, 7, 10, 11, 14, 15, 16, 17, 20, 21, 24, 25, 26, 27, 30, 33, 34, 35, 38, 41, 42], [.inl (ia_const (.int 0)), .inl (ia_istore 3), .inl (ia_iload 3), .inl (ia_aload 0), .inl (ia_getR 8 0), .inl (ia_const (.int 1105)), .inl ia_iald, .inl (ia_ige 23), .inl (ia_aload 0), .inl (ia_iload 3), .inl (ia_const (.int 0)), .inr (.inl (79, 3, 8)), .inl (ia_iload 1), .inl (ia_ine 21), .inl (ia_aload 0), .inl (ia_iload 3), .inl (ia_iload 2), .inr (.inl (89, 3, 8)), .inl (ia_ifeq 21), .inl (ia_iload 3), .inr (.inr 1), .inl (ia_iinc 3 1), .inl (ia_goto 2), .inl (ia_const (.int (-1))), .inr (.inr 1)])
/-- CModel  boolean isOut(int, int); -/
def mt_91 : is_M := (⟨"CardsAndBansModel", "isOut", "(II)Z"⟩, prog_10_method_25_code, 3, some (.boolean), 4, 89, [0, 1, 2, 3, 6, 7, 10, 11, 14, 15], [.inl (ia_aload 0), .inl (ia_iload 1), .inl (ia_iload 2), .inr (.inl (90, 3, 8)), .inl (ia_const (.int (-1))), .inl (ia_ieq 8), .inl (ia_const (.int 1)), .inl (ia_goto 9), .inl (ia_const (.int 0)), .inr (.inr 2)])
/-- CModel  boolean isIn(int, int, int); -/
def mt_92 : is_M := (⟨"CardsAndBansModel", "isIn", "(III)Z"⟩, prog_10_method_26_code, 4, some (.boolean), 0, 0, [0, 1, 4, 5, 6, 7, 8, 9, 12, 13, 16, 17, 18, 19, 20, 21, 24, 25, 28, 29], [.inl (ia_aload 0), .inl (ia_getR 8 0), .inl (ia_const (.int 0)), .inl (ia_iload 1), .inl (ia_i2 fun x y => x + y), .inl ia_iald, .inl (ia_iload 2), .inl (ia_ieq 16), .inl (ia_aload 0), .inl (ia_getR 8 0), .inl (ia_const (.int 0)), .inl (ia_iload 1), .inl (ia_i2 fun x y => x + y), .inl ia_iald, .inl (ia_iload 3), .inl (ia_ine 18), .inl (ia_const (.int 1)), .inl (ia_goto 19), .inl (ia_const (.int 0)), .inr (.inr 2)])
/-- CModel  void serves(int, int, int); -/
def mt_93 : is_M := (⟨"CardsAndBansModel", "serves", "(III)V"⟩, prog_10_method_27_code, 6, none, 4, 89, [0, 1, 2, 5, 6, 7, 10, 11, 13, 15, 16, 19, 22, 23, 26, 27, 29, 30, 33, 35, 36, 38, 39, 40, 43, 46, 48, 49, 52, 55, 56, 57, 60, 61, 63, 64, 65, 68, 69, 70, 73, 74, 75, 78, 79, 81, 82, 83, 85, 86, 89, 90, 91, 94, 95, 97, 99, 100, 102, 104, 107, 108, 109, 112, 113, 114, 116, 119, 120, 122, 125, 128, 129, 130, 132, 135, 138, 141], [.inl (ia_aload 0), .inl (ia_const (.int 0)), .inl (ia_putI 8 14), .inl (ia_aload 0), .inl (ia_const (.int 0)), .inl (ia_putI 8 15), .inl (ia_const (.int 0)), .inl (ia_istore 4), .inl (ia_iload 4), .inl (ia_aload 0), .inl (ia_getR 8 0), .inl (ia_const (.int 1104)), .inl ia_iald, .inl (ia_ige 77), .inl (ia_aload 0), .inl (ia_iload 4), .inl (ia_iload 1), .inr (.inl (90, 3, 8)), .inl (ia_istore 5), .inl (ia_aload 0), .inl (ia_iload 4), .inl (ia_iload 2), .inl (ia_iload 3), .inr (.inl (92, 4, 8)), .inl (ia_ifeq 75), .inl (ia_iload 5), .inl (ia_const (.int (-1))), .inl (ia_ine 29), .inl (ia_goto 75), .inl (ia_aload 0), .inl ia_dup, .inl (ia_getI 8 15), .inl (ia_const (.int 1)), .inl (ia_iload 4), .inl (ia_i2 fun x y => x <<< (y &&& 31)), .inl (ia_i2 fun x y => x ||| y), .inl (ia_putI 8 15), .inl (ia_aload 0), .inl ia_dup, .inl (ia_getI 8 14), .inl (ia_const (.int 1)), .inl (ia_i2 fun x y => x + y), .inl (ia_putI 8 14), .inl (ia_aload 0), .inl (ia_iload 5), .inl (ia_const (.int 2)), .inl (ia_aload 0), .inl (ia_iload 5), .inl (ia_const (.int 2)), .inr (.inl (79, 3, 8)), .inl (ia_const (.int 1)), .inl (ia_i2 fun x y => x - y), .inr (.inl (80, 4, 8)), .inl (ia_aload 0), .inl (ia_iload 5), .inl (ia_const (.int 7)), .inl (ia_aload 0), .inl (ia_iload 5), .inl (ia_const (.int 7)), .inr (.inl (79, 3, 8)), .inl (ia_const (.int 1)), .inl (ia_i2 fun x y => x + y), .inr (.inl (80, 4, 8)), .inl (ia_aload 0), .inl (ia_const (.int 1)), .inl (ia_iload 5), .inr (.inl (85, 3, 8)), .inl (ia_aload 0), .inl (ia_iload 5), .inr (.inl (87, 2, 8)), .inl (ia_ifne 75), .inl (ia_aload 0), .inl (ia_const (.int 2)), .inl (ia_iload 5), .inr (.inl (85, 3, 8)), .inl (ia_iinc 4 1), .inl (ia_goto 8), .inr (.inr 0)])
/-- CModel  void hasPlayed(int, int); -/
def mt_94 : is_M := (⟨"CardsAndBansModel", "hasPlayed", "(II)V"⟩, prog_10_method_28_code, 4, none, 0, 0, [0, 1, 4, 6, 7, 8, 9, 10, 11, 12, 13, 14, 15, 16, 17, 18, 21, 23, 24, 25, 26, 27, 28, 29, 30, 31, 34, 35, 36, 37, 38, 39, 40, 43, 44, 45, 46, 47, 48, 51, 54, 55, 58, 59, 62, 63, 64, 65, 66, 67, 70, 71, 74, 76, 77, 78, 79, 80, 81, 82, 83, 84, 87, 90], [.inl (ia_aload 0), .inl (ia_getR 8 0), .inl (ia_const (.int 108)), .inl (ia_const (.int 4)), .inl (ia_iload 1), .inl (ia_i2 fun x y => x * y), .inl (ia_i2 fun x y => x + y), .inl (ia_iload 2), .inl (ia_i2 fun x y => x + y), .inl ia_dup2, .inl ia_iald, .inl (ia_const (.int 1)), .inl (ia_i2 fun x y => x + y), .inl ia_iast, .inl (ia_aload 0), .inl (ia_getR 8 0), .inl (ia_const (.int 108)), .inl (ia_const (.int 4)), .inl (ia_iload 1), .inl (ia_i2 fun x y => x * y), .inl (ia_i2 fun x y => x + y), .inl (ia_iload 2), .inl (ia_i2 fun x y => x + y), .inl ia_iald, .inl (ia_aload 0), .inl (ia_getR 8 6), .inl (ia_const (.int 4)), .inl (ia_iload 2), .inl (ia_i2 fun x y => x * y), .inl (ia_const (.int 2)), .inl (ia_i2 fun x y => x + y), .inl ia_iald, .inl (ia_ieq 34), .inr (.inr 0), .inl (ia_const (.int 0)), .inl (ia_istore 3), .inl (ia_iload 3), .inl (ia_aload 0), .inl (ia_getR 8 0), .inl (ia_const (.int 1104)), .inl ia_iald, .inl (ia_ige 63), .inl (ia_aload 0), .inl (ia_getR 8 0), .inl (ia_const (.int 0)), .inl (ia_iload 3), .inl (ia_i2 fun x y => x + y), .inl ia_iald, .inl (ia_iload 1), .inl (ia_ine 61), .inl (ia_aload 0), .inl (ia_getR 8 0), .inl (ia_const (.int 12)), .inl (ia_const (.int 4)), .inl (ia_iload 3), .inl (ia_i2 fun x y => x * y), .inl (ia_i2 fun x y => x + y), .inl (ia_iload 2), .inl (ia_i2 fun x y => x + y), .inl (ia_const (.int 0)), .inl ia_iast, .inl (ia_iinc 3 1), .inl (ia_goto 36), .inr (.inr 0)])
/-- CModel  void goesBy(int, int, int); -/
def mt_95 : is_M := (⟨"CardsAndBansModel", "goesBy", "(III)V"⟩, prog_10_method_29_code, 4, none, 5, 114, [0, 1, 4, 7, 8, 9, 10, 11, 12, 13, 14, 15, 16, 19, 20, 21, 22, 25, 26, 27, 28, 31], [.inl (ia_aload 0), .inl (ia_getR 8 0), .inl (ia_const (.int 1106)), .inl ia_dup2, .inl ia_iald, .inl (ia_const (.int 1)), .inl (ia_i2 fun x y => x + y), .inl ia_iast, .inl (ia_aload 0), .inl (ia_iload 1), .inl (ia_iload 2), .inl (ia_iload 3), .inr (.inl (93, 4, 8)), .inl (ia_aload 0), .inl (ia_iload 2), .inl (ia_iload 1), .inr (.inl (94, 3, 8)), .inl (ia_aload 0), .inl (ia_iload 3), .inl (ia_iload 1), .inr (.inl (94, 3, 8)), .inr (.inr 0)])
/-- CModel  int stepFor(int, int); -/
def mt_96 : is_M := (⟨"CardsAndBansModel", "stepFor", "(II)I"⟩, prog_10_method_30_code, 4, some (.int), 0, 0, [0, 1, 2, 3, 4, 7, 8, 9, 10, 11, 12, 13, 16, 17, 20, 21, 22, 23, 24, 25, 26, 27, 30, 31, 34, 35, 36, 37, 38, 39, 40, 41, 44, 47, 48], [.inl (ia_const (.int 0)), .inl (ia_istore 3), .inl (ia_iload 3), .inl (ia_aload 0), .inl (ia_getR 8 6), .inl (ia_const (.int 4)), .inl (ia_iload 1), .inl (ia_i2 fun x y => x * y), .inl (ia_const (.int 3)), .inl (ia_i2 fun x y => x + y), .inl ia_iald, .inl (ia_ige 33), .inl (ia_aload 0), .inl (ia_getR 8 7), .inl (ia_const (.int 4)), .inl (ia_iload 1), .inl (ia_i2 fun x y => x * y), .inl (ia_iload 3), .inl (ia_i2 fun x y => x + y), .inl ia_iald, .inl (ia_iload 2), .inl (ia_ine 31), .inl (ia_aload 0), .inl (ia_getR 8 8), .inl (ia_const (.int 4)), .inl (ia_iload 1), .inl (ia_i2 fun x y => x * y), .inl (ia_iload 3), .inl (ia_i2 fun x y => x + y), .inl ia_iald, .inr (.inr 1), .inl (ia_iinc 3 1), .inl (ia_goto 2), .inl (ia_const (.int 0)), .inr (.inr 1)])
/-- CModel  void sends(int); -/
def mt_97 : is_M := (⟨"CardsAndBansModel", "sends", "(I)V"⟩, prog_10_method_31_code, 2, none, 0, 0, [0, 1, 2, 5, 6, 7, 8, 9, 12, 13, 16, 18, 19, 20, 21, 22, 23, 24, 25, 26, 27, 28, 29, 30, 33, 35, 36, 37, 40, 41, 42, 43, 44, 45, 46, 47, 48, 49, 50, 51, 52, 53], [.inl (ia_aload 0), .inl ia_dup, .inl (ia_getI 8 20), .inl (ia_const (.int 1)), .inl (ia_iload 1), .inl (ia_i2 fun x y => x <<< (y &&& 31)), .inl (ia_i2 fun x y => x ||| y), .inl (ia_putI 8 20), .inl (ia_aload 0), .inl (ia_getR 8 0), .inl (ia_const (.int 72)), .inl (ia_const (.int 3)), .inl (ia_iload 1), .inl (ia_i2 fun x y => x * y), .inl (ia_i2 fun x y => x + y), .inl (ia_const (.int 2)), .inl (ia_i2 fun x y => x + y), .inl ia_dup2, .inl ia_iald, .inl (ia_const (.int 1)), .inl (ia_i2 fun x y => x + y), .inl ia_iast, .inl (ia_aload 0), .inl (ia_getR 8 0), .inl (ia_const (.int 60)), .inl (ia_const (.int 3)), .inl (ia_aload 0), .inl (ia_getR 8 0), .inl (ia_const (.int 0)), .inl (ia_iload 1), .inl (ia_i2 fun x y => x + y), .inl ia_iald, .inl (ia_i2 fun x y => x * y), .inl (ia_i2 fun x y => x + y), .inl (ia_const (.int 2)), .inl (ia_i2 fun x y => x + y), .inl ia_dup2, .inl ia_iald, .inl (ia_const (.int 1)), .inl (ia_i2 fun x y => x + y), .inl ia_iast, .inr (.inr 0)])
/-- CModel  int shows(int, int, int, int); -/
def mt_98 : is_M := (⟨"CardsAndBansModel", "shows", "(IIII)I"⟩, prog_10_method_32_code, 9, some (.int), 2, 47, [0, 1, 4, 5, 6, 8, 9, 11, 12, 14, 17, 20, 22, 23, 24, 27, 28, 31, 32, 34, 35, 36, 37, 38, 41, 43, 44, 45, 48, 49, 50, 52, 53, 56, 58, 59, 61, 62, 63, 65, 66, 67, 68, 69, 70, 71, 72, 75, 77, 78, 79, 82, 83, 85, 86, 87, 88, 89, 91, 92, 93, 94, 95, 96, 97, 99, 100, 102, 103, 104, 105, 106, 108, 109, 112, 113, 114, 115, 116, 117, 118, 120, 122, 123, 126, 127, 129, 132, 135, 136, 139, 141, 142, 143, 144, 145, 148, 149, 151, 154, 155, 158, 160, 161, 162, 163, 164, 165, 166, 168, 171, 172, 173, 176, 177, 179, 180, 181, 184, 185, 188, 190, 191, 192, 193, 194, 195, 196, 197, 198, 201, 203, 204, 207, 209, 211, 214, 215, 217, 218, 220, 223, 226, 227, 230, 232], [.inl (ia_aload 0), .inl (ia_getR 8 17), .inl (ia_iload 1), .inl ia_iald, .inl (ia_istore 5), .inl (ia_aload 0), .inl (ia_iload 5), .inl (ia_iload 3), .inl (ia_iload 4), .inr (.inl (92, 4, 8)), .inl (ia_ifne 13), .inl (ia_const (.int (-2))), .inr (.inr 1), .inl (ia_aload 0), .inl (ia_getI 8 15), .inl (ia_aload 0), .inl (ia_getI 8 20), .inl (ia_i2 fun x y => x ||| y), .inl (ia_iload 5), .inl (ia_i2 fun x y => x >>> (y &&& 31)), .inl (ia_const (.int 1)), .inl (ia_i2 fun x y => x &&& y), .inl (ia_const (.int 1)), .inl (ia_ine 26), .inl (ia_const (.int (-3))), .inr (.inr 1), .inl (ia_aload 0), .inl (ia_getR 8 16), .inl (ia_iload 1), .inl ia_iald, .inl (ia_istore 6), .inl (ia_aload 0), .inl (ia_getR 8 0), .inl (ia_const (.int 72)), .inl (ia_const (.int 3)), .inl (ia_iload 5), .inl (ia_i2 fun x y => x * y), .inl (ia_i2 fun x y => x + y), .inl (ia_iload 6), .inl (ia_i2 fun x y => x + y), .inl ia_dup2, .inl ia_iald, .inl (ia_const (.int 1)), .inl (ia_i2 fun x y => x + y), .inl ia_iast, .inl (ia_aload 0), .inl (ia_getR 8 0), .inl (ia_const (.int 60)), .inl (ia_const (.int 3)), .inl (ia_aload 0), .inl (ia_getR 8 0), .inl (ia_const (.int 0)), .inl (ia_iload 5), .inl (ia_i2 fun x y => x + y), .inl ia_iald, .inl (ia_i2 fun x y => x * y), .inl (ia_i2 fun x y => x + y), .inl (ia_iload 6), .inl (ia_i2 fun x y => x + y), .inl ia_dup2, .inl ia_iald, .inl (ia_const (.int 1)), .inl (ia_i2 fun x y => x + y), .inl ia_iast, .inl (ia_const (.int 12)), .inl (ia_const (.int 4)), .inl (ia_iload 5), .inl (ia_i2 fun x y => x * y), .inl (ia_i2 fun x y => x + y), .inl (ia_iload 2), .inl (ia_i2 fun x y => x + y), .inl (ia_istore 7), .inl (ia_aload 0), .inl (ia_getR 8 6), .inl (ia_const (.int 4)), .inl (ia_iload 2), .inl (ia_i2 fun x y => x * y), .inl (ia_const (.int 1)), .inl (ia_i2 fun x y => x + y), .inl ia_iald, .inl (ia_istore 8), .inl (ia_iload 6), .inl (ia_const (.int 1)), .inl (ia_ine 88), .inl (ia_aload 0), .inl (ia_iload 5), .inr (.inl (97, 2, 8)), .inl (ia_goto 134), .inl (ia_aload 0), .inl (ia_getI 8 19), .inl (ia_iload 5), .inl (ia_i2 fun x y => x >>> (y &&& 31)), .inl (ia_const (.int 1)), .inl (ia_i2 fun x y => x &&& y), .inl (ia_const (.int 1)), .inl (ia_ine 110), .inl (ia_aload 0), .inl (ia_iload 5), .inr (.inl (97, 2, 8)), .inl (ia_aload 0), .inl (ia_getR 8 0), .inl (ia_iload 7), .inl ia_dup2, .inl ia_iald, .inl (ia_const (.int 1)), .inl (ia_i2 fun x y => x - y), .inl ia_iast, .inl (ia_const (.int 1)), .inl (ia_istore 8), .inl (ia_goto 134), .inl (ia_aload 0), .inl ia_dup, .inl (ia_getI 8 19), .inl (ia_const (.int 1)), .inl (ia_iload 5), .inl (ia_i2 fun x y => x <<< (y &&& 31)), .inl (ia_i2 fun x y => x ||| y), .inl (ia_putI 8 19), .inl (ia_aload 0), .inl (ia_getR 8 0), .inl (ia_iload 7), .inl ia_dup2, .inl ia_iald, .inl (ia_const (.int 1)), .inl (ia_i2 fun x y => x + y), .inl ia_iast, .inl (ia_aload 0), .inl (ia_iload 2), .inl (ia_aload 0), .inl (ia_getR 8 0), .inl (ia_iload 7), .inl ia_iald, .inr (.inl (96, 3, 8)), .inl (ia_istore 8), .inl (ia_iload 8), .inl (ia_ifeq 142), .inl (ia_aload 0), .inl (ia_iload 5), .inl (ia_iload 2), .inl (ia_iload 8), .inr (.inl (86, 4, 8)), .inl (ia_ifeq 144), .inl (ia_const (.int 0)), .inl (ia_goto 145), .inl (ia_const (.int (-4))), .inr (.inr 1)])
/-- CModel  void begin(); -/
def mt_99 : is_M := (⟨"CardsAndBansModel", "begin", "()V"⟩, prog_10_method_33_code, 1, none, 0, 0, [0, 1, 2, 5, 8, 9, 10, 13, 14, 15, 18, 19, 20, 23], [.inl (ia_aload 0), .inl (ia_aload 0), .inl (ia_getI 8 10), .inl (ia_putI 8 21), .inl (ia_aload 0), .inl (ia_const (.int 0)), .inl (ia_putI 8 10), .inl (ia_aload 0), .inl (ia_const (.int 0)), .inl (ia_putI 8 22), .inl (ia_aload 0), .inl (ia_const (.int (-1))), .inl (ia_putI 8 23), .inr (.inr 0)])
/-- CModel  int sees(); -/
def mt_100 : is_M := (⟨"CardsAndBansModel", "sees", "()I"⟩, prog_10_method_34_code, 1, some (.int), 0, 0, [0, 1, 4, 5, 8, 11, 12, 15, 16, 19, 20, 23, 24, 27, 28], [.inl (ia_aload 0), .inl (ia_getI 8 22), .inl (ia_aload 0), .inl (ia_getI 8 21), .inl (ia_ige 13), .inl (ia_aload 0), .inl (ia_getR 8 9), .inl (ia_aload 0), .inl (ia_getI 8 22), .inl (ia_ald 3), .inl (ia_const (.int 255)), .inl (ia_i2 fun x y => x &&& y), .inl (ia_goto 14), .inl (ia_const (.int (-1))), .inr (.inr 1)])
/-- CModel  void fault(int); -/
def mt_101 : is_M := (⟨"CardsAndBansModel", "fault", "(I)V"⟩, prog_10_method_35_code, 2, none, 0, 0, [0, 1, 4, 5, 8, 9, 10, 13], [.inl (ia_aload 0), .inl (ia_getI 8 23), .inl (ia_const (.int (-1))), .inl (ia_ine 7), .inl (ia_aload 0), .inl (ia_iload 1), .inl (ia_putI 8 23), .inr (.inr 0)])
/-- CModel  void expect(char); -/
def mt_102 : is_M := (⟨"CardsAndBansModel", "expect", "(C)V"⟩, prog_10_method_36_code, 2, none, 1, 21, [0, 1, 4, 5, 8, 9, 10, 13, 14, 17, 18, 19, 22, 23, 24, 27, 30, 31, 32, 35, 38], [.inl (ia_aload 0), .inl (ia_getI 8 23), .inl (ia_const (.int (-1))), .inl (ia_ieq 5), .inr (.inr 0), .inl (ia_aload 0), .inr (.inl (100, 1, 8)), .inl (ia_iload 1), .inl (ia_ine 16), .inl (ia_aload 0), .inl ia_dup, .inl (ia_getI 8 22), .inl (ia_const (.int 1)), .inl (ia_i2 fun x y => x + y), .inl (ia_putI 8 22), .inl (ia_goto 20), .inl (ia_aload 0), .inl (ia_aload 0), .inl (ia_getI 8 22), .inr (.inl (101, 2, 8)), .inr (.inr 0)])
/-- CModel  int digit(int, int); -/
def mt_103 : is_M := (⟨"CardsAndBansModel", "digit", "(II)I"⟩, prog_10_method_37_code, 3, some (.int), 1, 25, [0, 1, 4, 5, 8, 9, 10, 11, 14, 15, 17, 18, 19, 20, 22, 23, 24, 25, 28, 31, 32, 33, 36, 39, 40, 41, 42, 43, 46, 47, 48, 51, 52, 55, 56, 59, 60, 61, 62, 64, 65], [.inl (ia_aload 0), .inl (ia_getI 8 23), .inl (ia_const (.int (-1))), .inl (ia_ieq 6), .inl (ia_iload 1), .inr (.inr 1), .inl (ia_aload 0), .inr (.inl (100, 1, 8)), .inl ia_i2l, .inl (ia_const (.int 48)), .inl (ia_iload 1), .inl (ia_i2 fun x y => x + y), .inl ia_i2l, .inl (ia_const (.int 48)), .inl (ia_iload 2), .inl (ia_i2 fun x y => x + y), .inl ia_i2l, .inr (.inl (69, 3, 100)), .inl (ia_ifne 25), .inl (ia_aload 0), .inl (ia_aload 0), .inl (ia_getI 8 22), .inr (.inl (101, 2, 8)), .inl (ia_iload 1), .inr (.inr 1), .inl (ia_aload 0), .inl ia_dup, .inl (ia_getI 8 22), .inl (ia_const (.int 1)), .inl (ia_i2 fun x y => x + y), .inl (ia_putI 8 22), .inl (ia_aload 0), .inl (ia_getR 8 9), .inl (ia_aload 0), .inl (ia_getI 8 22), .inl (ia_const (.int 1)), .inl (ia_i2 fun x y => x - y), .inl (ia_ald 3), .inl (ia_const (.int 48)), .inl (ia_i2 fun x y => x - y), .inr (.inr 1)])
/-- CModel  int number(int, int); -/
def mt_104 : is_M := (⟨"CardsAndBansModel", "number", "(II)I"⟩, prog_10_method_38_code, 4, some (.int), 2, 47, [0, 1, 2, 4, 7, 8, 9, 12, 13, 16, 17, 18, 19, 22, 23, 26, 27, 30, 33, 36, 39, 41, 42, 43, 44, 47, 48, 50, 51, 52, 53, 54, 57, 58, 59, 62, 63, 64, 65, 66, 67, 68, 71, 74, 75, 76, 77, 78, 81, 82, 83, 86, 87], [.inl (ia_aload 0), .inl (ia_const (.int 0)), .inl (ia_const (.int 9)), .inr (.inl (103, 3, 8)), .inl (ia_istore 3), .inl (ia_aload 0), .inl (ia_getI 8 23), .inl (ia_const (.int (-1))), .inl (ia_ieq 11), .inl (ia_iload 1), .inr (.inr 1), .inl (ia_iload 3), .inl (ia_ifle 35), .inl (ia_aload 0), .inr (.inl (100, 1, 8)), .inl ia_i2l, .inl (ia_const (.long 48)), .inl (ia_const (.long 57)), .inr (.inl (69, 3, 100)), .inl (ia_ifeq 35), .inl (ia_const (.int 10)), .inl (ia_iload 3), .inl (ia_i2 fun x y => x * y), .inl (ia_aload 0), .inr (.inl (100, 1, 8)), .inl (ia_i2 fun x y => x + y), .inl (ia_const (.int 48)), .inl (ia_i2 fun x y => x - y), .inl (ia_istore 3), .inl (ia_aload 0), .inl ia_dup, .inl (ia_getI 8 22), .inl (ia_const (.int 1)), .inl (ia_i2 fun x y => x + y), .inl (ia_putI 8 22), .inl (ia_iload 3), .inl ia_i2l, .inl (ia_iload 1), .inl ia_i2l, .inl (ia_iload 2), .inl ia_i2l, .inr (.inl (69, 3, 100)), .inl (ia_ifeq 45), .inl (ia_iload 3), .inr (.inr 1), .inl (ia_aload 0), .inl (ia_aload 0), .inl (ia_getI 8 22), .inl (ia_const (.int 1)), .inl (ia_i2 fun x y => x - y), .inr (.inl (101, 2, 8)), .inl (ia_iload 1), .inr (.inr 1)])
/-- CModel  void endsText(); -/
def mt_105 : is_M := (⟨"CardsAndBansModel", "endsText", "()V"⟩, prog_10_method_39_code, 1, none, 1, 21, [0, 1, 4, 5, 8, 9, 12, 13, 16, 19, 20, 21, 24, 27], [.inl (ia_aload 0), .inl (ia_getI 8 23), .inl (ia_const (.int (-1))), .inl (ia_ine 13), .inl (ia_aload 0), .inl (ia_getI 8 22), .inl (ia_aload 0), .inl (ia_getI 8 21), .inl (ia_ige 13), .inl (ia_aload 0), .inl (ia_aload 0), .inl (ia_getI 8 22), .inr (.inl (101, 2, 8)), .inr (.inr 0)])
/-- CModel  void readsSteps(int); -/
def mt_106 : is_M := (⟨"CardsAndBansModel", "readsSteps", "(I)V"⟩, prog_10_method_40_code, 6, none, 3, 70, [0, 1, 2, 3, 4, 7, 8, 9, 12, 13, 14, 15, 16, 18, 21, 22, 23, 25, 28, 29, 30, 32, 35, 37, 38, 41, 42, 45, 46, 47, 48, 49, 50, 53, 54, 55, 56, 57, 58, 59, 60, 62, 63, 66, 68, 69, 70, 71, 74, 76, 78, 79, 80, 83, 84, 85, 86, 87, 88, 89, 90, 91, 92, 93, 94, 95, 96, 99, 101, 104, 105, 108, 109, 110, 111, 112, 113, 114, 115, 118, 119, 120, 123, 126, 127, 130, 131, 134, 135, 138, 140, 143], [.inl (ia_const (.int 0)), .inl (ia_istore 2), .inl (ia_aload 0), .inl ia_dup, .inl (ia_getI 8 22), .inl (ia_const (.int 1)), .inl (ia_i2 fun x y => x + y), .inl (ia_putI 8 22), .inl (ia_aload 0), .inl (ia_iload 2), .inl (ia_const (.int 1)), .inl (ia_i2 fun x y => x + y), .inl (ia_const (.int 20)), .inr (.inl (104, 3, 8)), .inl (ia_istore 3), .inl (ia_aload 0), .inl (ia_const (.int 47)), .inr (.inl (102, 2, 8)), .inl (ia_aload 0), .inl (ia_const (.int 1)), .inl (ia_const (.int 9)), .inr (.inl (103, 3, 8)), .inl (ia_istore 4), .inl (ia_aload 0), .inl (ia_getI 8 23), .inl (ia_const (.int (-1))), .inl (ia_ieq 28), .inr (.inr 0), .inl (ia_const (.int 4)), .inl (ia_iload 1), .inl (ia_i2 fun x y => x * y), .inl (ia_aload 0), .inl (ia_getR 8 24), .inl (ia_const (.int 4)), .inl (ia_iload 1), .inl (ia_i2 fun x y => x * y), .inl (ia_const (.int 3)), .inl (ia_i2 fun x y => x + y), .inl ia_iald, .inl (ia_i2 fun x y => x + y), .inl (ia_istore 5), .inl (ia_aload 0), .inl (ia_getR 8 25), .inl (ia_iload 5), .inl (ia_iload 3), .inl ia_iast, .inl (ia_aload 0), .inl (ia_getR 8 26), .inl (ia_iload 5), .inl (ia_iload 4), .inl ia_iast, .inl (ia_aload 0), .inl (ia_getR 8 24), .inl (ia_const (.int 4)), .inl (ia_iload 1), .inl (ia_i2 fun x y => x * y), .inl (ia_const (.int 3)), .inl (ia_i2 fun x y => x + y), .inl ia_dup2, .inl ia_iald, .inl (ia_const (.int 1)), .inl (ia_i2 fun x y => x + y), .inl ia_iast, .inl (ia_iload 3), .inl (ia_istore 2), .inl (ia_aload 0), .inr (.inl (100, 1, 8)), .inl (ia_const (.int 44)), .inl (ia_ine 83), .inl (ia_aload 0), .inl (ia_getR 8 24), .inl (ia_const (.int 4)), .inl (ia_iload 1), .inl (ia_i2 fun x y => x * y), .inl (ia_const (.int 3)), .inl (ia_i2 fun x y => x + y), .inl ia_iald, .inl (ia_const (.int 4)), .inl (ia_ine 83), .inl (ia_aload 0), .inl (ia_aload 0), .inl (ia_getI 8 22), .inr (.inl (101, 2, 8)), .inl (ia_aload 0), .inl (ia_getI 8 23), .inl (ia_const (.int (-1))), .inl (ia_ine 91), .inl (ia_aload 0), .inr (.inl (100, 1, 8)), .inl (ia_const (.int 44)), .inl (ia_ieq 2), .inr (.inr 0)])
/-- CModel  int readsRule(int); -/
def mt_107 : is_M := (⟨"CardsAndBansModel", "readsRule", "(I)I"⟩, prog_10_method_41_code, 3, some (.int), 4, 95, [0, 1, 2, 3, 6, 7, 8, 11, 12, 15, 16, 17, 18, 19, 20, 21, 24, 25, 26, 29, 30, 31, 34, 35, 38, 39, 42, 43, 46, 48, 51, 52, 55, 57, 60, 61, 62, 65, 68, 69, 72, 73, 76, 77, 78, 79, 82, 83, 84, 85, 86, 89, 91, 94, 95, 98, 99, 100, 101, 102, 105, 106, 107, 110, 111, 114, 115, 116, 117, 118, 119, 120, 121, 123, 126, 127, 128, 130, 133, 134, 137, 138, 139, 140, 141, 142, 143, 144, 146, 149, 150, 151, 154, 155, 156, 157, 158, 159, 160, 161, 162, 165, 166, 169, 170, 173, 175, 178, 179, 180, 183, 184, 185, 186, 187, 188], [.inl (ia_aload 0), .inl (ia_const (.int 0)), .inl (ia_const (.int 3)), .inr (.inl (103, 3, 8)), .inl (ia_istore 2), .inl (ia_aload 0), .inl (ia_getI 8 23), .inl (ia_const (.int (-1))), .inl (ia_ine 22), .inl (ia_iload 1), .inl (ia_iload 2), .inl (ia_i2 fun x y => x >>> (y &&& 31)), .inl (ia_const (.int 1)), .inl (ia_i2 fun x y => x &&& y), .inl (ia_const (.int 1)), .inl (ia_ine 22), .inl (ia_aload 0), .inl (ia_aload 0), .inl (ia_getI 8 22), .inl (ia_const (.int 1)), .inl (ia_i2 fun x y => x - y), .inr (.inl (101, 2, 8)), .inl (ia_aload 0), .inl (ia_getI 8 23), .inl (ia_const (.int (-1))), .inl (ia_ine 38), .inl (ia_aload 0), .inr (.inl (100, 1, 8)), .inl (ia_const (.int 111)), .inl (ia_ieq 38), .inl (ia_aload 0), .inr (.inl (100, 1, 8)), .inl (ia_const (.int 97)), .inl (ia_ieq 38), .inl (ia_aload 0), .inl (ia_aload 0), .inl (ia_getI 8 22), .inr (.inl (101, 2, 8)), .inl (ia_aload 0), .inl (ia_getI 8 23), .inl (ia_const (.int (-1))), .inl (ia_ieq 44), .inl (ia_iload 1), .inr (.inr 1), .inl (ia_aload 0), .inl (ia_getR 8 24), .inl (ia_const (.int 4)), .inl (ia_iload 2), .inl (ia_i2 fun x y => x * y), .inl (ia_aload 0), .inr (.inl (100, 1, 8)), .inl (ia_const (.int 97)), .inl (ia_ine 55), .inl (ia_const (.int 1)), .inl (ia_goto 56), .inl (ia_const (.int 0)), .inl ia_iast, .inl (ia_aload 0), .inl ia_dup, .inl (ia_getI 8 22), .inl (ia_const (.int 1)), .inl (ia_i2 fun x y => x + y), .inl (ia_putI 8 22), .inl (ia_aload 0), .inl (ia_getR 8 24), .inl (ia_const (.int 4)), .inl (ia_iload 2), .inl (ia_i2 fun x y => x * y), .inl (ia_const (.int 1)), .inl (ia_i2 fun x y => x + y), .inl (ia_aload 0), .inl (ia_const (.int 1)), .inl (ia_const (.int 9)), .inr (.inl (103, 3, 8)), .inl ia_iast, .inl (ia_aload 0), .inl (ia_const (.int 120)), .inr (.inl (102, 2, 8)), .inl (ia_aload 0), .inl (ia_getR 8 24), .inl (ia_const (.int 4)), .inl (ia_iload 2), .inl (ia_i2 fun x y => x * y), .inl (ia_const (.int 2)), .inl (ia_i2 fun x y => x + y), .inl (ia_aload 0), .inl (ia_const (.int 0)), .inl (ia_const (.int 20)), .inr (.inl (104, 3, 8)), .inl ia_iast, .inl (ia_aload 0), .inl (ia_getR 8 24), .inl (ia_const (.int 4)), .inl (ia_iload 2), .inl (ia_i2 fun x y => x * y), .inl (ia_const (.int 3)), .inl (ia_i2 fun x y => x + y), .inl (ia_const (.int 0)), .inl ia_iast, .inl (ia_aload 0), .inl (ia_getI 8 23), .inl (ia_const (.int (-1))), .inl (ia_ine 110), .inl (ia_aload 0), .inr (.inl (100, 1, 8)), .inl (ia_const (.int 58)), .inl (ia_ine 110), .inl (ia_aload 0), .inl (ia_iload 2), .inr (.inl (106, 2, 8)), .inl (ia_iload 1), .inl (ia_const (.int 1)), .inl (ia_iload 2), .inl (ia_i2 fun x y => x <<< (y &&& 31)), .inl (ia_i2 fun x y => x ||| y), .inr (.inr 1)])
/-- CModel public int rules(); -/
def mt_108 : is_M := (⟨"CardsAndBansModel", "rules", "()I"⟩, prog_10_method_42_code, 3, some (.int), 5, 117, [0, 1, 2, 5, 6, 9, 10, 11, 12, 13, 16, 17, 20, 21, 22, 23, 24, 25, 26, 29, 30, 31, 32, 33, 34, 35, 36, 37, 40, 41, 42, 43, 44, 45, 46, 47, 48, 51, 52, 53, 54, 55, 56, 57, 58, 61, 64, 65, 66, 67, 70, 73, 74, 75, 78, 79, 80, 83, 84, 87, 88, 91, 93, 96, 97, 98, 101, 102, 103, 106, 107, 108, 111, 112, 115, 116, 119, 120, 123, 124, 127, 129, 130, 133, 134, 135, 136, 137, 138, 140, 143, 144, 147, 148, 149, 152, 153, 154, 155, 156, 159, 160, 161, 164, 165, 166, 167, 168, 171, 172, 173, 176, 177, 178, 179, 182, 185, 186, 189], [.inl (ia_aload 0), .inl (ia_const (.int 0)), .inl (ia_putI 8 13), .inl (ia_aload 0), .inr (.inl (99, 1, 8)), .inl (ia_const (.int 0)), .inl (ia_istore 1), .inl (ia_iload 1), .inl (ia_const (.int 4)), .inl (ia_ige 46), .inl (ia_aload 0), .inl (ia_getR 8 24), .inl (ia_const (.int 4)), .inl (ia_iload 1), .inl (ia_i2 fun x y => x * y), .inl (ia_const (.int 0)), .inl ia_iast, .inl (ia_aload 0), .inl (ia_getR 8 24), .inl (ia_const (.int 4)), .inl (ia_iload 1), .inl (ia_i2 fun x y => x * y), .inl (ia_const (.int 1)), .inl (ia_i2 fun x y => x + y), .inl (ia_const (.int 1)), .inl ia_iast, .inl (ia_aload 0), .inl (ia_getR 8 24), .inl (ia_const (.int 4)), .inl (ia_iload 1), .inl (ia_i2 fun x y => x * y), .inl (ia_const (.int 2)), .inl (ia_i2 fun x y => x + y), .inl (ia_const (.int 0)), .inl ia_iast, .inl (ia_aload 0), .inl (ia_getR 8 24), .inl (ia_const (.int 4)), .inl (ia_iload 1), .inl (ia_i2 fun x y => x * y), .inl (ia_const (.int 3)), .inl (ia_i2 fun x y => x + y), .inl (ia_const (.int 0)), .inl ia_iast, .inl (ia_iinc 1 1), .inl (ia_goto 7), .inl (ia_const (.int 0)), .inl (ia_istore 1), .inl (ia_aload 0), .inl (ia_getI 8 21), .inl (ia_ifle 55), .inl (ia_aload 0), .inl (ia_iload 1), .inr (.inl (107, 2, 8)), .inl (ia_istore 1), .inl (ia_aload 0), .inl (ia_getI 8 23), .inl (ia_const (.int (-1))), .inl (ia_ine 74), .inl (ia_aload 0), .inr (.inl (100, 1, 8)), .inl (ia_const (.int 59)), .inl (ia_ine 74), .inl (ia_aload 0), .inl ia_dup, .inl (ia_getI 8 22), .inl (ia_const (.int 1)), .inl (ia_i2 fun x y => x + y), .inl (ia_putI 8 22), .inl (ia_aload 0), .inl (ia_iload 1), .inr (.inl (107, 2, 8)), .inl (ia_istore 1), .inl (ia_goto 55), .inl (ia_aload 0), .inr (.inl (105, 1, 8)), .inl (ia_aload 0), .inl (ia_getI 8 23), .inl (ia_const (.int (-1))), .inl (ia_ieq 85), .inl (ia_const (.int (-21))), .inl (ia_aload 0), .inl (ia_getI 8 23), .inl (ia_i2 fun x y => x - y), .inr (.inr 1), .inl (ia_const (.int 0)), .inl (ia_istore 2), .inl (ia_iload 2), .inl (ia_const (.int 16)), .inl (ia_ige 116), .inl (ia_aload 0), .inl (ia_getR 8 6), .inl (ia_iload 2), .inl (ia_aload 0), .inl (ia_getR 8 24), .inl (ia_iload 2), .inl ia_iald, .inl ia_iast, .inl (ia_aload 0), .inl (ia_getR 8 7), .inl (ia_iload 2), .inl (ia_aload 0), .inl (ia_getR 8 25), .inl (ia_iload 2), .inl ia_iald, .inl ia_iast, .inl (ia_aload 0), .inl (ia_getR 8 8), .inl (ia_iload 2), .inl (ia_aload 0), .inl (ia_getR 8 26), .inl (ia_iload 2), .inl ia_iald, .inl ia_iast, .inl (ia_iinc 2 1), .inl (ia_goto 87), .inl (ia_iload 1), .inr (.inl (72, 1, 100)), .inr (.inr 1)])
/-- CModel public int squads(); -/
def mt_109 : is_M := (⟨"CardsAndBansModel", "squads", "()I"⟩, prog_10_method_43_code, 2, some (.int), 2, 47, [0, 1, 2, 5, 6, 9, 10, 13, 14, 17, 18, 21, 22, 25, 28, 29, 32, 34, 37, 38, 39, 40, 43, 46, 47, 48, 49, 50, 53, 54, 55, 58, 61, 64, 65, 68, 69, 72, 74, 75, 78, 79, 80, 81, 82, 83, 86, 89, 90, 93, 94, 95, 96, 99, 102, 103, 104, 105, 106, 109, 112, 113, 116, 117, 118, 119, 120, 123, 124, 125, 127, 128, 129, 132, 135, 136, 139, 142, 143, 146, 147, 148, 149, 152, 153, 154, 157, 158, 161], [.inl (ia_aload 0), .inl (ia_const (.int 0)), .inl (ia_putI 8 13), .inl (ia_aload 0), .inr (.inl (99, 1, 8)), .inl (ia_aload 0), .inl (ia_getI 8 23), .inl (ia_const (.int (-1))), .inl (ia_ine 33), .inl (ia_aload 0), .inl (ia_getI 8 22), .inl (ia_aload 0), .inl (ia_getI 8 21), .inl (ia_ige 33), .inl (ia_aload 0), .inl (ia_getI 8 22), .inl (ia_const (.int 12)), .inl (ia_ige 23), .inl (ia_aload 0), .inl (ia_const (.int 0)), .inl (ia_const (.int 3)), .inr (.inl (103, 3, 8)), .inl (ia_goto 24), .inl (ia_const (.int (-1))), .inl (ia_istore 1), .inl (ia_iload 1), .inl (ia_const (.int (-1))), .inl (ia_ine 32), .inl (ia_aload 0), .inl (ia_aload 0), .inl (ia_getI 8 22), .inr (.inl (101, 2, 8)), .inl (ia_goto 5), .inl (ia_aload 0), .inl (ia_getI 8 23), .inl (ia_const (.int (-1))), .inl (ia_ieq 42), .inl (ia_const (.int (-21))), .inl (ia_aload 0), .inl (ia_getI 8 23), .inl (ia_i2 fun x y => x - y), .inr (.inr 1), .inl (ia_const (.int 0)), .inl (ia_istore 1), .inl (ia_iload 1), .inl (ia_const (.int 1108)), .inl (ia_ige 54), .inl (ia_aload 0), .inl (ia_getR 8 0), .inl (ia_iload 1), .inl (ia_const (.int 0)), .inl ia_iast, .inl (ia_iinc 1 1), .inl (ia_goto 44), .inl (ia_const (.int 0)), .inl (ia_istore 1), .inl (ia_iload 1), .inl (ia_aload 0), .inl (ia_getI 8 21), .inl (ia_ige 74), .inl (ia_aload 0), .inl (ia_getR 8 0), .inl (ia_const (.int 0)), .inl (ia_iload 1), .inl (ia_i2 fun x y => x + y), .inl (ia_aload 0), .inl (ia_getR 8 9), .inl (ia_iload 1), .inl (ia_ald 3), .inl (ia_const (.int 48)), .inl (ia_i2 fun x y => x - y), .inl ia_iast, .inl (ia_iinc 1 1), .inl (ia_goto 56), .inl (ia_aload 0), .inl (ia_getR 8 0), .inl (ia_const (.int 1104)), .inl (ia_aload 0), .inl (ia_getI 8 21), .inl ia_iast, .inl (ia_aload 0), .inl (ia_const (.int 0)), .inl (ia_putI 8 5), .inl (ia_aload 0), .inl (ia_const (.int 0)), .inl (ia_putZ 8 3), .inl (ia_aload 0), .inl (ia_getI 8 21), .inr (.inr 1)])
/-- CModel public int rule(int, int); -/
def mt_110 : is_M := (⟨"CardsAndBansModel", "rule", "(II)I"⟩, prog_10_method_44_code, 4, some (.int), 2, 45, [0, 1, 2, 5, 6, 9, 12, 13, 14, 15, 18, 21, 24, 25, 26, 29, 30, 31, 32, 33, 34, 35, 38, 39, 40, 41, 42, 43, 44, 47, 48, 49, 50, 51, 54, 55, 58, 59, 60, 61, 62, 63, 64, 65, 66, 67, 68, 69, 70, 71, 72, 73, 74, 75, 76, 77, 78, 81, 82, 85, 86, 87, 90, 91, 94, 95, 96], [.inl (ia_aload 0), .inl (ia_const (.int 0)), .inl (ia_putI 8 13), .inl (ia_iload 1), .inr (.inl (75, 1, 100)), .inl (ia_ifeq 29), .inl (ia_iload 2), .inl ia_i2l, .inl (ia_const (.long 0)), .inl (ia_const (.long 11)), .inr (.inl (69, 3, 100)), .inl (ia_ifeq 29), .inl (ia_iload 2), .inl (ia_const (.int 3)), .inl (ia_ile 31), .inl (ia_iload 2), .inl (ia_const (.int 4)), .inl (ia_i2 fun x y => x - y), .inl (ia_const (.int 2)), .inl (ia_i2z fun x y => x / y), .inl (ia_aload 0), .inl (ia_getR 8 6), .inl (ia_const (.int 4)), .inl (ia_iload 1), .inl (ia_i2 fun x y => x * y), .inl (ia_const (.int 3)), .inl (ia_i2 fun x y => x + y), .inl ia_iald, .inl (ia_ilt 31), .inl (ia_const (.int (-1))), .inr (.inr 1), .inl (ia_iload 2), .inl (ia_const (.int 4)), .inl (ia_ige 43), .inl (ia_aload 0), .inl (ia_getR 8 6), .inl (ia_const (.int 4)), .inl (ia_iload 1), .inl (ia_i2 fun x y => x * y), .inl (ia_iload 2), .inl (ia_i2 fun x y => x + y), .inl ia_iald, .inr (.inr 1), .inl (ia_const (.int 4)), .inl (ia_iload 1), .inl (ia_i2 fun x y => x * y), .inl (ia_iload 2), .inl (ia_const (.int 4)), .inl (ia_i2 fun x y => x - y), .inl (ia_const (.int 2)), .inl (ia_i2z fun x y => x / y), .inl (ia_i2 fun x y => x + y), .inl (ia_istore 3), .inl (ia_iload 2), .inl (ia_const (.int 2)), .inl (ia_i2z fun x y => x - x / y * y), .inl (ia_ifne 62), .inl (ia_aload 0), .inl (ia_getR 8 7), .inl (ia_iload 3), .inl ia_iald, .inl (ia_goto 66), .inl (ia_aload 0), .inl (ia_getR 8 8), .inl (ia_iload 3), .inl ia_iald, .inr (.inr 1)])
/-- CModel public int team(int); -/
def mt_111 : is_M := (⟨"CardsAndBansModel", "team", "(I)I"⟩, prog_10_method_45_code, 5, some (.int), 2, 46, [0, 1, 2, 5, 6, 7, 10, 13, 14, 15, 16, 17, 18, 19, 20, 22, 24, 25, 28, 31, 32, 35, 36, 38, 39, 42, 43, 46, 49, 52, 53, 54, 56, 59, 62, 63, 66, 67, 68, 69, 72, 75, 76, 77, 80, 81, 82, 83, 86, 87, 88, 89, 92, 93, 96, 97, 98, 99, 100], [.inl (ia_aload 0), .inl (ia_const (.int 0)), .inl (ia_putI 8 13), .inl (ia_aload 0), .inl (ia_iload 1), .inr (.inl (77, 2, 8)), .inl (ia_ifne 9), .inl (ia_const (.int (-1))), .inr (.inr 1), .inl (ia_const (.int 0)), .inl (ia_istore 2), .inl (ia_const (.int 0)), .inl (ia_istore 3), .inl (ia_const (.int 0)), .inl (ia_istore 4), .inl (ia_iload 4), .inl (ia_aload 0), .inl (ia_getR 8 0), .inl (ia_const (.int 1105)), .inl ia_iald, .inl (ia_ige 41), .inl (ia_aload 0), .inl (ia_iload 4), .inl (ia_const (.int 0)), .inr (.inl (79, 3, 8)), .inl (ia_iload 1), .inl (ia_ieq 28), .inl (ia_goto 39), .inl (ia_iinc 3 1), .inl (ia_iload 2), .inl (ia_aload 0), .inl (ia_iload 4), .inr (.inl (87, 2, 8)), .inl (ia_ifeq 36), .inl (ia_const (.int 1)), .inl (ia_goto 37), .inl (ia_const (.int 0)), .inl (ia_i2 fun x y => x + y), .inl (ia_istore 2), .inl (ia_iinc 4 1), .inl (ia_goto 15), .inl (ia_aload 0), .inl (ia_const (.int 0)), .inl (ia_putI 8 12), .inl (ia_aload 0), .inl (ia_iload 2), .inl ia_i2l, .inr (.inl (71, 2, 8)), .inl (ia_aload 0), .inl (ia_iload 3), .inl ia_i2l, .inr (.inl (71, 2, 8)), .inl (ia_aload 0), .inl (ia_getR 8 0), .inl (ia_const (.int 0)), .inl (ia_iload 1), .inl (ia_i2 fun x y => x + y), .inl ia_iald, .inr (.inr 1)])
/-- CModel public int squad(int); -/
def mt_112 : is_M := (⟨"CardsAndBansModel", "squad", "(I)I"⟩, prog_10_method_46_code, 4, some (.int), 2, 45, [0, 1, 2, 5, 6, 9, 12, 13, 14, 15, 16, 17, 18, 19, 20, 23, 26, 27, 30, 31, 32, 35, 36, 37, 38, 39, 40, 43, 44, 45, 46, 49, 50, 51, 52, 55, 58, 59, 60, 63, 64, 65, 68, 69, 72, 73], [.inl (ia_aload 0), .inl (ia_const (.int 0)), .inl (ia_putI 8 13), .inl (ia_iload 1), .inr (.inl (76, 1, 100)), .inl (ia_ifne 8), .inl (ia_const (.int (-1))), .inr (.inr 1), .inl (ia_const (.int 0)), .inl (ia_istore 2), .inl (ia_const (.int 0)), .inl (ia_istore 3), .inl (ia_iload 3), .inl (ia_aload 0), .inl (ia_getR 8 0), .inl (ia_const (.int 1104)), .inl ia_iald, .inl (ia_ige 36), .inl (ia_iload 2), .inl (ia_aload 0), .inl (ia_getR 8 0), .inl (ia_const (.int 0)), .inl (ia_iload 3), .inl (ia_i2 fun x y => x + y), .inl ia_iald, .inl (ia_iload 1), .inl (ia_ine 31), .inl (ia_const (.int 1)), .inl (ia_iload 3), .inl (ia_i2 fun x y => x <<< (y &&& 31)), .inl (ia_goto 32), .inl (ia_const (.int 0)), .inl (ia_i2 fun x y => x ||| y), .inl (ia_istore 2), .inl (ia_iinc 3 1), .inl (ia_goto 12), .inl (ia_aload 0), .inl (ia_const (.int 0)), .inl (ia_putI 8 12), .inl (ia_aload 0), .inl (ia_iload 2), .inr (.inl (72, 1, 100)), .inl ia_i2l, .inr (.inl (71, 2, 8)), .inl (ia_iload 2), .inr (.inr 1)])
/-- CModel  void readsCards(); -/
def mt_113 : is_M := (⟨"CardsAndBansModel", "readsCards", "()V"⟩, prog_10_method_47_code, 2, none, 3, 70, [0, 1, 2, 5, 6, 9, 12, 13, 14, 15, 16, 19, 20, 23, 24, 27, 28, 31, 33, 36, 37, 40, 42, 45, 46, 47, 50, 53, 54, 55, 58, 59, 62, 63, 66, 68, 71, 72, 75, 76, 77, 78, 79, 82, 83, 84, 87, 88, 91, 92, 95, 96, 97, 98, 101, 104, 105, 106, 107, 110, 111, 112, 113, 116, 117, 118, 121, 122, 125, 126, 129, 130, 133, 135, 138, 139, 142, 143, 144, 145, 148, 149, 150, 153, 154, 155, 158, 161, 162, 165], [.inl (ia_aload 0), .inl (ia_const (.int 0)), .inl (ia_putI 8 18), .inl (ia_aload 0), .inl (ia_getI 8 21), .inl (ia_ifne 7), .inr (.inr 0), .inl (ia_const (.int 1)), .inl (ia_istore 1), .inl (ia_iload 1), .inl (ia_ifeq 87), .inl (ia_aload 0), .inl (ia_getI 8 23), .inl (ia_const (.int (-1))), .inl (ia_ine 87), .inl (ia_aload 0), .inr (.inl (100, 1, 8)), .inl (ia_const (.int 121)), .inl (ia_ieq 28), .inl (ia_aload 0), .inr (.inl (100, 1, 8)), .inl (ia_const (.int 114)), .inl (ia_ieq 28), .inl (ia_aload 0), .inl (ia_aload 0), .inl (ia_getI 8 22), .inr (.inl (101, 2, 8)), .inr (.inr 0), .inl (ia_aload 0), .inl (ia_getR 8 16), .inl (ia_aload 0), .inl (ia_getI 8 18), .inl (ia_aload 0), .inr (.inl (100, 1, 8)), .inl (ia_const (.int 114)), .inl (ia_ine 38), .inl (ia_const (.int 1)), .inl (ia_goto 39), .inl (ia_const (.int 0)), .inl ia_iast, .inl (ia_aload 0), .inl ia_dup, .inl (ia_getI 8 22), .inl (ia_const (.int 1)), .inl (ia_i2 fun x y => x + y), .inl (ia_putI 8 22), .inl (ia_aload 0), .inl (ia_getR 8 17), .inl (ia_aload 0), .inl (ia_getI 8 18), .inl (ia_aload 0), .inl (ia_const (.int 0)), .inl (ia_aload 0), .inl (ia_getR 8 0), .inl (ia_const (.int 1104)), .inl ia_iald, .inl (ia_const (.int 1)), .inl (ia_i2 fun x y => x - y), .inr (.inl (104, 3, 8)), .inl ia_iast, .inl (ia_aload 0), .inl ia_dup, .inl (ia_getI 8 18), .inl (ia_const (.int 1)), .inl (ia_i2 fun x y => x + y), .inl (ia_putI 8 18), .inl (ia_aload 0), .inl (ia_getI 8 23), .inl (ia_const (.int (-1))), .inl (ia_ine 76), .inl (ia_aload 0), .inr (.inl (100, 1, 8)), .inl (ia_const (.int 44)), .inl (ia_ine 76), .inl (ia_const (.int 1)), .inl (ia_goto 77), .inl (ia_const (.int 0)), .inl (ia_istore 1), .inl (ia_iload 1), .inl (ia_ifeq 9), .inl (ia_aload 0), .inl ia_dup, .inl (ia_getI 8 22), .inl (ia_const (.int 1)), .inl (ia_i2 fun x y => x + y), .inl (ia_putI 8 22), .inl (ia_goto 9), .inl (ia_aload 0), .inr (.inl (105, 1, 8)), .inr (.inr 0)])
/-- CModel public int play(int, int, int); -/
def mt_114 : is_M := (⟨"CardsAndBansModel", "play", "(III)I"⟩, prog_10_method_48_code, 7, some (.int), 5, 114, [0, 1, 2, 5, 6, 9, 10, 13, 14, 17, 18, 21, 23, 24, 27, 28, 29, 30, 33, 36, 37, 40, 43, 44, 47, 50, 51, 52, 55, 56, 57, 58, 61, 62, 65, 68, 69, 70, 71, 72, 73, 74, 77, 80, 81, 83, 84, 85, 86, 87, 90, 91, 92, 95, 96, 97, 100, 101, 103, 104, 106, 108, 109, 112, 115, 117, 120, 121, 123, 124, 125, 126, 129, 131, 134, 137, 139, 142, 143, 146, 148, 149, 150, 151, 152, 155, 156, 157, 158, 161, 162, 165, 166, 167, 170, 171, 172, 175, 178, 179, 180, 183, 184, 185, 188, 189, 192, 193, 194, 197, 198, 201, 202, 205, 208, 209, 211, 212], [.inl (ia_aload 0), .inl (ia_const (.int 0)), .inl (ia_putI 8 13), .inl (ia_aload 0), .inr (.inl (99, 1, 8)), .inl (ia_aload 0), .inr (.inl (113, 1, 8)), .inl (ia_aload 0), .inl (ia_getI 8 23), .inl (ia_const (.int (-1))), .inl (ia_ieq 16), .inl (ia_const (.int (-21))), .inl (ia_aload 0), .inl (ia_getI 8 23), .inl (ia_i2 fun x y => x - y), .inr (.inr 1), .inl (ia_iload 1), .inr (.inl (75, 1, 100)), .inl (ia_ifeq 28), .inl (ia_iload 2), .inr (.inl (76, 1, 100)), .inl (ia_ifeq 28), .inl (ia_iload 3), .inr (.inl (76, 1, 100)), .inl (ia_ifeq 28), .inl (ia_iload 2), .inl (ia_iload 3), .inl (ia_ine 30), .inl (ia_const (.int (-1))), .inr (.inr 1), .inl (ia_aload 0), .inr (.inl (81, 1, 8)), .inl (ia_aload 0), .inl (ia_getR 8 0), .inl (ia_const (.int 1106)), .inl ia_dup2, .inl ia_iald, .inl (ia_const (.int 1)), .inl (ia_i2 fun x y => x + y), .inl ia_iast, .inl (ia_aload 0), .inl (ia_getR 8 0), .inl (ia_const (.int 1105)), .inl ia_iald, .inl (ia_istore 4), .inl (ia_aload 0), .inl (ia_iload 1), .inl (ia_iload 2), .inl (ia_iload 3), .inr (.inl (93, 4, 8)), .inl (ia_aload 0), .inl (ia_const (.int 0)), .inl (ia_putI 8 19), .inl (ia_aload 0), .inl (ia_const (.int 0)), .inl (ia_putI 8 20), .inl (ia_const (.int 0)), .inl (ia_istore 5), .inl (ia_const (.int 0)), .inl (ia_istore 6), .inl (ia_iload 6), .inl (ia_aload 0), .inl (ia_getI 8 18), .inl (ia_ige 75), .inl (ia_iload 5), .inl (ia_ifne 75), .inl (ia_aload 0), .inl (ia_iload 6), .inl (ia_iload 1), .inl (ia_iload 2), .inl (ia_iload 3), .inr (.inl (98, 5, 8)), .inl (ia_istore 5), .inl (ia_iinc 6 1), .inl (ia_goto 60), .inl (ia_iload 5), .inl (ia_ifge 81), .inl (ia_aload 0), .inr (.inl (82, 1, 8)), .inl (ia_iload 5), .inr (.inr 1), .inl (ia_aload 0), .inl (ia_iload 2), .inl (ia_iload 1), .inr (.inl (94, 3, 8)), .inl (ia_aload 0), .inl (ia_iload 3), .inl (ia_iload 1), .inr (.inl (94, 3, 8)), .inl (ia_aload 0), .inr (.inl (83, 1, 8)), .inl (ia_aload 0), .inl (ia_const (.int 0)), .inl (ia_putI 8 12), .inl (ia_aload 0), .inl (ia_aload 0), .inl (ia_getR 8 0), .inl (ia_const (.int 1106)), .inl ia_iald, .inl ia_i2l, .inr (.inl (71, 2, 8)), .inl (ia_aload 0), .inl (ia_aload 0), .inl (ia_getI 8 14), .inl ia_i2l, .inr (.inl (71, 2, 8)), .inl (ia_aload 0), .inl (ia_aload 0), .inl (ia_getI 8 15), .inl ia_i2l, .inr (.inl (71, 2, 8)), .inl (ia_aload 0), .inl (ia_getR 8 0), .inl (ia_const (.int 1105)), .inl ia_iald, .inl (ia_iload 4), .inl (ia_i2 fun x y => x - y), .inr (.inr 1)])
/-- CModel public int move(int, int); -/
def mt_115 : is_M := (⟨"CardsAndBansModel", "move", "(II)I"⟩, prog_10_method_49_code, 4, some (.int), 2, 46, [0, 1, 2, 5, 6, 7, 10, 13, 14, 17, 20, 21, 22, 23, 26, 27, 28, 29, 30, 31, 32, 33, 36, 38, 39, 40, 43, 44, 47, 48, 49, 50, 51, 52, 53], [.inl (ia_aload 0), .inl (ia_const (.int 0)), .inl (ia_putI 8 13), .inl (ia_aload 0), .inl (ia_iload 1), .inr (.inl (77, 2, 8)), .inl (ia_ifeq 10), .inl (ia_iload 2), .inr (.inl (76, 1, 100)), .inl (ia_ifne 12), .inl (ia_const (.int (-1))), .inr (.inr 1), .inl (ia_aload 0), .inl (ia_getR 8 0), .inl (ia_const (.int 0)), .inl (ia_iload 1), .inl (ia_i2 fun x y => x + y), .inl ia_iald, .inl (ia_istore 3), .inl (ia_iload 3), .inl (ia_iload 2), .inl (ia_ine 24), .inl (ia_const (.int (-2))), .inr (.inr 1), .inl (ia_aload 0), .inr (.inl (84, 1, 8)), .inl (ia_aload 0), .inl (ia_getR 8 0), .inl (ia_const (.int 0)), .inl (ia_iload 1), .inl (ia_i2 fun x y => x + y), .inl (ia_iload 2), .inl ia_iast, .inl (ia_iload 3), .inr (.inr 1)])
/-- CModel public int swaps(int, int); -/
def mt_116 : is_M := (⟨"CardsAndBansModel", "swaps", "(II)I"⟩, prog_10_method_50_code, 5, some (.int), 2, 46, [0, 1, 2, 5, 6, 7, 10, 13, 14, 15, 18, 21, 22, 23, 24, 27, 28, 29, 30, 31, 32, 33, 36, 37, 38, 39, 40, 42, 43, 45, 48, 50, 51, 52, 55, 56, 59, 60, 61, 62, 64, 65, 66, 69, 70, 71, 72, 73, 74, 76], [.inl (ia_aload 0), .inl (ia_const (.int 0)), .inl (ia_putI 8 13), .inl (ia_aload 0), .inl (ia_iload 1), .inr (.inl (77, 2, 8)), .inl (ia_ifeq 11), .inl (ia_aload 0), .inl (ia_iload 2), .inr (.inl (77, 2, 8)), .inl (ia_ifne 13), .inl (ia_const (.int (-1))), .inr (.inr 1), .inl (ia_aload 0), .inl (ia_getR 8 0), .inl (ia_const (.int 0)), .inl (ia_iload 1), .inl (ia_i2 fun x y => x + y), .inl ia_iald, .inl (ia_istore 3), .inl (ia_aload 0), .inl (ia_getR 8 0), .inl (ia_const (.int 0)), .inl (ia_iload 2), .inl (ia_i2 fun x y => x + y), .inl ia_iald, .inl (ia_istore 4), .inl (ia_iload 3), .inl (ia_iload 4), .inl (ia_ine 32), .inl (ia_const (.int (-2))), .inr (.inr 1), .inl (ia_aload 0), .inr (.inl (84, 1, 8)), .inl (ia_aload 0), .inl (ia_getR 8 0), .inl (ia_const (.int 0)), .inl (ia_iload 1), .inl (ia_i2 fun x y => x + y), .inl (ia_iload 4), .inl ia_iast, .inl (ia_aload 0), .inl (ia_getR 8 0), .inl (ia_const (.int 0)), .inl (ia_iload 2), .inl (ia_i2 fun x y => x + y), .inl (ia_iload 3), .inl ia_iast, .inl (ia_iload 4), .inr (.inr 1)])
/-- CModel public int bans(int, int, int); -/
def mt_117 : is_M := (⟨"CardsAndBansModel", "bans", "(III)I"⟩, prog_10_method_51_code, 4, some (.int), 2, 47, [0, 1, 2, 5, 6, 7, 10, 13, 14, 17, 20, 21, 22, 23, 26, 29, 32, 33, 34, 35, 38, 41, 42, 44, 47, 49, 50, 51, 54, 55, 56, 57, 58, 61, 64, 65, 68, 71, 72, 73, 74, 77, 79], [.inl (ia_aload 0), .inl (ia_const (.int 0)), .inl (ia_putI 8 13), .inl (ia_aload 0), .inl (ia_iload 1), .inr (.inl (77, 2, 8)), .inl (ia_ifeq 16), .inl (ia_iload 2), .inr (.inl (75, 1, 100)), .inl (ia_ifeq 16), .inl (ia_iload 3), .inl ia_i2l, .inl (ia_const (.long 1)), .inl (ia_const (.long 9)), .inr (.inl (69, 3, 100)), .inl (ia_ifne 18), .inl (ia_const (.int (-1))), .inr (.inr 1), .inl (ia_aload 0), .inl (ia_getR 8 0), .inl (ia_const (.int 1105)), .inl ia_iald, .inl (ia_const (.int 100)), .inl (ia_ine 26), .inl (ia_const (.int (-4))), .inr (.inr 1), .inl (ia_aload 0), .inr (.inl (84, 1, 8)), .inl (ia_aload 0), .inl (ia_iload 1), .inl (ia_iload 2), .inl (ia_iload 3), .inr (.inl (86, 4, 8)), .inl (ia_ifeq 41), .inl (ia_aload 0), .inl (ia_getR 8 0), .inl (ia_const (.int 1105)), .inl ia_iald, .inl (ia_const (.int 1)), .inl (ia_i2 fun x y => x - y), .inl (ia_goto 42), .inl (ia_const (.int (-4))), .inr (.inr 1)])
/-- CModel public int given(); -/
def mt_118 : is_M := (⟨"CardsAndBansModel", "given", "()I"⟩, prog_10_method_52_code, 5, some (.int), 3, 70, [0, 1, 2, 5, 6, 9, 10, 11, 12, 15, 18, 19, 22, 23, 24, 25, 28, 29, 32, 33, 36, 37, 40, 41, 42, 43, 44, 47, 50, 51, 52, 53, 56, 57, 58, 60, 63, 64, 67, 68, 69, 70, 71, 74, 75, 76, 78, 81, 82, 85, 86, 87, 88, 90, 93, 94, 97, 98, 101, 102, 105, 106, 109, 111, 114, 115, 118, 119, 120, 121, 124, 125, 126, 129, 130, 131, 134, 137, 138, 141, 142, 145, 146, 149, 151, 152, 155, 156, 157, 158, 161, 164, 165, 166, 167, 169, 172, 174, 175, 176, 179, 180, 181, 182, 184, 186, 187, 190, 191, 192, 193, 196, 198, 199, 200, 203, 205, 206, 207, 210, 212, 213, 216, 219, 220, 223, 224, 225, 226, 229, 232, 233], [.inl (ia_aload 0), .inl (ia_const (.int 0)), .inl (ia_putI 8 13), .inl (ia_aload 0), .inr (.inl (99, 1, 8)), .inl (ia_const (.int 0)), .inl (ia_istore 1), .inl (ia_aload 0), .inl (ia_getI 8 21), .inl (ia_ifle 12), .inl (ia_const (.int 1)), .inl (ia_goto 13), .inl (ia_const (.int 0)), .inl (ia_istore 2), .inl (ia_iload 2), .inl (ia_ifeq 77), .inl (ia_aload 0), .inl (ia_getI 8 23), .inl (ia_const (.int (-1))), .inl (ia_ine 77), .inl (ia_aload 0), .inl (ia_getR 8 27), .inl (ia_iload 1), .inl (ia_aload 0), .inl (ia_const (.int 0)), .inl (ia_aload 0), .inl (ia_getR 8 0), .inl (ia_const (.int 1104)), .inl ia_iald, .inl (ia_const (.int 1)), .inl (ia_i2 fun x y => x - y), .inr (.inl (104, 3, 8)), .inl ia_iast, .inl (ia_aload 0), .inl (ia_const (.int 99)), .inr (.inl (102, 2, 8)), .inl (ia_aload 0), .inl (ia_getR 8 28), .inl (ia_iload 1), .inl (ia_aload 0), .inl (ia_const (.int 0)), .inl (ia_const (.int 3)), .inr (.inl (103, 3, 8)), .inl ia_iast, .inl (ia_aload 0), .inl (ia_const (.int 110)), .inr (.inl (102, 2, 8)), .inl (ia_aload 0), .inl (ia_getR 8 29), .inl (ia_iload 1), .inl (ia_aload 0), .inl (ia_const (.int 1)), .inl (ia_const (.int 9)), .inr (.inl (103, 3, 8)), .inl ia_iast, .inl (ia_iinc 1 1), .inl (ia_aload 0), .inl (ia_getI 8 23), .inl (ia_const (.int (-1))), .inl (ia_ine 66), .inl (ia_aload 0), .inr (.inl (100, 1, 8)), .inl (ia_const (.int 44)), .inl (ia_ine 66), .inl (ia_const (.int 1)), .inl (ia_goto 67), .inl (ia_const (.int 0)), .inl (ia_istore 2), .inl (ia_iload 2), .inl (ia_ifeq 14), .inl (ia_aload 0), .inl ia_dup, .inl (ia_getI 8 22), .inl (ia_const (.int 1)), .inl (ia_i2 fun x y => x + y), .inl (ia_putI 8 22), .inl (ia_goto 14), .inl (ia_aload 0), .inr (.inl (105, 1, 8)), .inl (ia_aload 0), .inl (ia_getI 8 23), .inl (ia_const (.int (-1))), .inl (ia_ieq 88), .inl (ia_const (.int (-21))), .inl (ia_aload 0), .inl (ia_getI 8 23), .inl (ia_i2 fun x y => x - y), .inr (.inr 1), .inl (ia_aload 0), .inl (ia_getR 8 0), .inl (ia_const (.int 1105)), .inl ia_iald, .inl (ia_iload 1), .inl (ia_i2 fun x y => x + y), .inl (ia_const (.int 100)), .inl (ia_ile 98), .inl (ia_const (.int (-4))), .inr (.inr 1), .inl (ia_aload 0), .inr (.inl (84, 1, 8)), .inl (ia_const (.int 0)), .inl (ia_istore 3), .inl (ia_const (.int 0)), .inl (ia_istore 4), .inl (ia_iload 4), .inl (ia_iload 1), .inl (ia_ige 130), .inl (ia_iload 3), .inl (ia_aload 0), .inl (ia_aload 0), .inl (ia_getR 8 27), .inl (ia_iload 4), .inl ia_iald, .inl (ia_aload 0), .inl (ia_getR 8 28), .inl (ia_iload 4), .inl ia_iald, .inl (ia_aload 0), .inl (ia_getR 8 29), .inl (ia_iload 4), .inl ia_iald, .inr (.inl (86, 4, 8)), .inl (ia_ifeq 125), .inl (ia_const (.int 1)), .inl (ia_goto 126), .inl (ia_const (.int 0)), .inl (ia_i2 fun x y => x + y), .inl (ia_istore 3), .inl (ia_iinc 4 1), .inl (ia_goto 104), .inl (ia_iload 3), .inr (.inr 1)])
/-- CModel public int decides(boolean); -/
def mt_119 : is_M := (⟨"CardsAndBansModel", "decides", "(Z)I"⟩, prog_10_method_53_code, 4, some (.int), 2, 44, [0, 1, 2, 5, 6, 9, 10, 11, 14, 16, 17, 18, 21, 22, 23, 24, 25, 28, 31, 32, 35, 36, 37, 38, 41, 42, 45, 48, 49, 50, 51, 52, 55, 56, 59, 60, 61, 62, 63, 66, 67, 68, 71, 72, 75, 76, 77, 80, 83, 86, 87], [.inl (ia_aload 0), .inl (ia_const (.int 0)), .inl (ia_putI 8 13), .inl (ia_aload 0), .inr (.inl (169, 1, 8)), .inl (ia_istore 2), .inl (ia_iload 2), .inl (ia_ifne 10), .inl (ia_const (.int (-2))), .inr (.inr 1), .inl (ia_aload 0), .inr (.inl (84, 1, 8)), .inl (ia_const (.int 0)), .inl (ia_istore 3), .inl (ia_iload 3), .inl (ia_aload 0), .inl (ia_getR 8 0), .inl (ia_const (.int 1105)), .inl ia_iald, .inl (ia_ige 49), .inl (ia_aload 0), .inl (ia_iload 3), .inl (ia_const (.int 4)), .inr (.inl (79, 3, 8)), .inl (ia_const (.int 1)), .inl (ia_ieq 27), .inl (ia_goto 47), .inl (ia_aload 0), .inl (ia_iload 3), .inl (ia_const (.int 4)), .inl (ia_const (.int 2)), .inr (.inl (80, 4, 8)), .inl (ia_iload 1), .inl (ia_ifeq 39), .inl (ia_aload 0), .inl (ia_iload 3), .inl (ia_const (.int 2)), .inl (ia_const (.int 0)), .inr (.inl (80, 4, 8)), .inl (ia_aload 0), .inl (ia_iload 1), .inl (ia_ifeq 44), .inl (ia_const (.int 3)), .inl (ia_goto 45), .inl (ia_const (.int 5)), .inl (ia_iload 3), .inr (.inl (85, 3, 8)), .inl (ia_iinc 3 1), .inl (ia_goto 14), .inl (ia_iload 2), .inr (.inr 1)])
/-- CModel public int appeal(int); -/
def mt_120 : is_M := (⟨"CardsAndBansModel", "appeal", "(I)I"⟩, prog_10_method_54_code, 2, some (.int), 2, 46, [0, 1, 2, 5, 6, 7, 10, 13, 14, 15, 16, 17, 20, 23, 25, 26, 27, 28, 29, 32, 35, 37, 38, 39, 42, 43, 44, 45, 46, 49, 50, 51, 52, 55, 56, 57, 58, 61], [.inl (ia_aload 0), .inl (ia_const (.int 0)), .inl (ia_putI 8 13), .inl (ia_aload 0), .inl (ia_iload 1), .inr (.inl (78, 2, 8)), .inl (ia_ifne 9), .inl (ia_const (.int (-1))), .inr (.inr 1), .inl (ia_aload 0), .inl (ia_iload 1), .inr (.inl (87, 2, 8)), .inl (ia_ifne 15), .inl (ia_const (.int (-2))), .inr (.inr 1), .inl (ia_aload 0), .inl (ia_iload 1), .inl (ia_const (.int 4)), .inr (.inl (79, 3, 8)), .inl (ia_ifeq 22), .inl (ia_const (.int (-3))), .inr (.inr 1), .inl (ia_aload 0), .inr (.inl (84, 1, 8)), .inl (ia_aload 0), .inl (ia_iload 1), .inl (ia_const (.int 4)), .inl (ia_const (.int 1)), .inr (.inl (80, 4, 8)), .inl (ia_aload 0), .inl (ia_const (.int 4)), .inl (ia_iload 1), .inr (.inl (85, 3, 8)), .inl (ia_aload 0), .inl (ia_iload 1), .inl (ia_const (.int 2)), .inr (.inl (79, 3, 8)), .inr (.inr 1)])
/-- CModel public int decide(int, boolean, int); -/
def mt_121 : is_M := (⟨"CardsAndBansModel", "decide", "(IZI)I"⟩, prog_10_method_55_code, 4, some (.int), 2, 46, [0, 1, 2, 5, 6, 7, 10, 13, 14, 15, 16, 17, 20, 21, 24, 27, 30, 33, 34, 35, 36, 37, 38, 41, 42, 45, 47, 48, 49, 52, 53, 54, 55, 56, 59, 60, 61, 62, 63, 66, 67, 70, 71, 72, 73, 76, 77, 78, 81, 82, 83, 86, 87, 90, 91, 92, 95, 96, 97, 98, 101], [.inl (ia_aload 0), .inl (ia_const (.int 0)), .inl (ia_putI 8 13), .inl (ia_aload 0), .inl (ia_iload 1), .inr (.inl (78, 2, 8)), .inl (ia_ifeq 17), .inl (ia_iload 3), .inl ia_i2l, .inl (ia_const (.long 0)), .inl (ia_iload 2), .inl (ia_ifeq 14), .inl (ia_const (.long 0)), .inl (ia_goto 15), .inl (ia_const (.long 3)), .inr (.inl (69, 3, 100)), .inl (ia_ifne 19), .inl (ia_const (.int (-1))), .inr (.inr 1), .inl (ia_aload 0), .inl (ia_iload 1), .inl (ia_const (.int 4)), .inr (.inl (79, 3, 8)), .inl (ia_const (.int 1)), .inl (ia_ieq 27), .inl (ia_const (.int (-2))), .inr (.inr 1), .inl (ia_aload 0), .inr (.inl (84, 1, 8)), .inl (ia_aload 0), .inl (ia_iload 1), .inl (ia_const (.int 4)), .inl (ia_const (.int 2)), .inr (.inl (80, 4, 8)), .inl (ia_aload 0), .inl (ia_iload 1), .inl (ia_const (.int 2)), .inl (ia_iload 2), .inl (ia_ifeq 41), .inl (ia_const (.int 0)), .inl (ia_goto 47), .inl (ia_aload 0), .inl (ia_iload 1), .inl (ia_const (.int 2)), .inr (.inl (79, 3, 8)), .inl (ia_iload 3), .inl (ia_i2 fun x y => x + y), .inr (.inl (80, 4, 8)), .inl (ia_aload 0), .inl (ia_iload 2), .inl (ia_ifeq 53), .inl (ia_const (.int 3)), .inl (ia_goto 54), .inl (ia_const (.int 5)), .inl (ia_iload 1), .inr (.inl (85, 3, 8)), .inl (ia_aload 0), .inl (ia_iload 1), .inl (ia_const (.int 2)), .inr (.inl (79, 3, 8)), .inr (.inr 1)])
/-- CModel public int pardon(int, int); -/
def mt_122 : is_M := (⟨"CardsAndBansModel", "pardon", "(II)I"⟩, prog_10_method_56_code, 3, some (.int), 2, 46, [0, 1, 2, 5, 6, 7, 10, 13, 14, 15, 18, 19, 20, 21, 22, 25, 28, 30, 31, 32, 33, 34, 35, 38, 41, 42, 43, 44, 47, 48, 49, 50, 51, 52, 53, 56, 57, 58, 61, 62, 63, 66, 69, 70, 71, 72, 75, 76, 77, 78, 79, 82, 83, 86, 87, 88, 89, 90, 93, 94, 95, 96, 99, 100], [.inl (ia_aload 0), .inl (ia_const (.int 0)), .inl (ia_putI 8 13), .inl (ia_aload 0), .inl (ia_iload 1), .inr (.inl (78, 2, 8)), .inl (ia_ifeq 10), .inl (ia_iload 2), .inl (ia_const (.int 1)), .inl (ia_ige 12), .inl (ia_const (.int (-1))), .inr (.inr 1), .inl (ia_aload 0), .inl (ia_iload 1), .inr (.inl (87, 2, 8)), .inl (ia_ifne 18), .inl (ia_const (.int (-2))), .inr (.inr 1), .inl (ia_iload 2), .inl (ia_aload 0), .inl (ia_iload 1), .inl (ia_const (.int 2)), .inr (.inl (79, 3, 8)), .inl (ia_ile 26), .inl (ia_const (.int (-1))), .inr (.inr 1), .inl (ia_aload 0), .inr (.inl (84, 1, 8)), .inl (ia_aload 0), .inl (ia_iload 1), .inl (ia_const (.int 2)), .inl (ia_aload 0), .inl (ia_iload 1), .inl (ia_const (.int 2)), .inr (.inl (79, 3, 8)), .inl (ia_iload 2), .inl (ia_i2 fun x y => x - y), .inr (.inl (80, 4, 8)), .inl (ia_aload 0), .inl (ia_iload 1), .inr (.inl (87, 2, 8)), .inl (ia_ifeq 47), .inl (ia_aload 0), .inl (ia_iload 1), .inl (ia_const (.int 2)), .inr (.inl (79, 3, 8)), .inr (.inr 1), .inl (ia_aload 0), .inl (ia_iload 1), .inl (ia_const (.int 4)), .inr (.inl (79, 3, 8)), .inl (ia_const (.int 1)), .inl (ia_ine 58), .inl (ia_aload 0), .inl (ia_iload 1), .inl (ia_const (.int 4)), .inl (ia_const (.int 2)), .inr (.inl (80, 4, 8)), .inl (ia_aload 0), .inl (ia_const (.int 3)), .inl (ia_iload 1), .inr (.inl (85, 3, 8)), .inl (ia_const (.int 0)), .inr (.inr 1)])
/-- CModel  int allCautions(); -/
def mt_123 : is_M := (⟨"CardsAndBansModel", "allCautions", "()I"⟩, prog_10_method_57_code, 3, some (.int), 0, 0, [0, 1, 2, 3, 4, 5, 7, 10, 11, 12, 15, 17, 18, 19, 20, 21, 22, 25, 28, 29], [.inl (ia_const (.int 0)), .inl (ia_istore 1), .inl (ia_const (.int 0)), .inl (ia_istore 2), .inl (ia_iload 2), .inl (ia_const (.int 48)), .inl (ia_ige 18), .inl (ia_iload 1), .inl (ia_aload 0), .inl (ia_getR 8 0), .inl (ia_const (.int 12)), .inl (ia_iload 2), .inl (ia_i2 fun x y => x + y), .inl ia_iald, .inl (ia_i2 fun x y => x + y), .inl (ia_istore 1), .inl (ia_iinc 2 1), .inl (ia_goto 4), .inl (ia_iload 1), .inr (.inr 1)])
/-- CModel public int season(); -/
def mt_124 : is_M := (⟨"CardsAndBansModel", "season", "()I"⟩, prog_10_method_58_code, 3, some (.int), 2, 41, [0, 1, 2, 5, 6, 9, 10, 13, 14, 15, 16, 17, 19, 22, 23, 26, 28, 29, 30, 31, 32, 35, 38, 39, 40, 41, 43, 46, 47, 50, 52, 53, 54, 55, 56, 59, 62, 63], [.inl (ia_aload 0), .inl (ia_const (.int 0)), .inl (ia_putI 8 13), .inl (ia_aload 0), .inr (.inl (84, 1, 8)), .inl (ia_aload 0), .inr (.inl (123, 1, 8)), .inl (ia_istore 1), .inl (ia_const (.int 0)), .inl (ia_istore 2), .inl (ia_iload 2), .inl (ia_const (.int 48)), .inl (ia_ige 22), .inl (ia_aload 0), .inl (ia_getR 8 0), .inl (ia_const (.int 12)), .inl (ia_iload 2), .inl (ia_i2 fun x y => x + y), .inl (ia_const (.int 0)), .inl ia_iast, .inl (ia_iinc 2 1), .inl (ia_goto 10), .inl (ia_const (.int 0)), .inl (ia_istore 2), .inl (ia_iload 2), .inl (ia_const (.int 16)), .inl (ia_ige 36), .inl (ia_aload 0), .inl (ia_getR 8 0), .inl (ia_const (.int 108)), .inl (ia_iload 2), .inl (ia_i2 fun x y => x + y), .inl (ia_const (.int 0)), .inl ia_iast, .inl (ia_iinc 2 1), .inl (ia_goto 24), .inl (ia_iload 1), .inr (.inr 1)])
/-- CModel public int may(int, int); -/
def mt_125 : is_M := (⟨"CardsAndBansModel", "may", "(II)I"⟩, prog_10_method_59_code, 4, some (.int), 4, 89, [0, 1, 2, 5, 6, 7, 10, 13, 14, 17, 20, 21, 22, 23, 24, 25, 28, 29, 30, 31, 34, 35, 36, 37, 40, 41, 42, 45, 46, 49, 50], [.inl (ia_aload 0), .inl (ia_const (.int 0)), .inl (ia_putI 8 13), .inl (ia_aload 0), .inl (ia_iload 1), .inr (.inl (77, 2, 8)), .inl (ia_ifeq 10), .inl (ia_iload 2), .inr (.inl (75, 1, 100)), .inl (ia_ifne 12), .inl (ia_const (.int (-1))), .inr (.inr 1), .inl (ia_aload 0), .inl (ia_iload 1), .inl (ia_iload 2), .inr (.inl (90, 3, 8)), .inl (ia_istore 3), .inl (ia_aload 0), .inl (ia_const (.int 0)), .inl (ia_putI 8 12), .inl (ia_aload 0), .inl (ia_iload 3), .inl ia_i2l, .inr (.inl (71, 2, 8)), .inl (ia_iload 3), .inl (ia_const (.int (-1))), .inl (ia_ine 29), .inl (ia_const (.int 1)), .inl (ia_goto 30), .inl (ia_const (.int 0)), .inr (.inr 1)])
/-- CModel  int missed(int, int, boolean); -/
def mt_126 : is_M := (⟨"CardsAndBansModel", "missed", "(IIZ)I"⟩, prog_10_method_60_code, 6, some (.int), 3, 66, [0, 1, 3, 4, 6, 8, 9, 12, 15, 16, 19, 20, 22, 23, 26, 27, 30, 31, 33, 34, 37, 40, 41, 44, 45, 47, 48, 51, 54, 56, 57, 59, 60, 63, 64, 66, 69, 72, 74], [.inl (ia_const (.int 0)), .inl (ia_istore 4), .inl (ia_const (.int 0)), .inl (ia_istore 5), .inl (ia_iload 5), .inl (ia_aload 0), .inl (ia_getR 8 0), .inl (ia_const (.int 1105)), .inl ia_iald, .inl (ia_ige 37), .inl (ia_aload 0), .inl (ia_iload 5), .inl (ia_const (.int 0)), .inr (.inl (79, 3, 8)), .inl (ia_iload 1), .inl (ia_ine 35), .inl (ia_aload 0), .inl (ia_iload 5), .inl (ia_iload 2), .inr (.inl (89, 3, 8)), .inl (ia_ifne 28), .inl (ia_iload 3), .inl (ia_ifeq 35), .inl (ia_aload 0), .inl (ia_iload 5), .inl (ia_iload 2), .inr (.inl (88, 3, 8)), .inl (ia_ifeq 35), .inl (ia_iload 4), .inl (ia_aload 0), .inl (ia_iload 5), .inl (ia_const (.int 2)), .inr (.inl (79, 3, 8)), .inl (ia_i2 fun x y => x + y), .inl (ia_istore 4), .inl (ia_iinc 5 1), .inl (ia_goto 4), .inl (ia_iload 4), .inr (.inr 1)])
/-- CModel  int outOf(int, int); -/
def mt_127 : is_M := (⟨"CardsAndBansModel", "outOf", "(II)I"⟩, prog_10_method_61_code, 5, some (.int), 5, 111, [0, 1, 2, 3, 5, 7, 8, 11, 14, 15, 18, 19, 20, 23, 24, 26, 27, 28, 29, 32, 33, 35, 36, 39, 42, 43, 45, 46, 49, 50, 51, 52, 55, 58, 59], [.inl (ia_const (.int 0)), .inl (ia_istore 3), .inl (ia_const (.int 0)), .inl (ia_istore 4), .inl (ia_iload 4), .inl (ia_aload 0), .inl (ia_getR 8 0), .inl (ia_const (.int 1104)), .inl ia_iald, .inl (ia_ige 33), .inl (ia_iload 3), .inl (ia_aload 0), .inl (ia_getR 8 0), .inl (ia_const (.int 0)), .inl (ia_iload 4), .inl (ia_i2 fun x y => x + y), .inl ia_iald, .inl (ia_iload 1), .inl (ia_ine 28), .inl (ia_aload 0), .inl (ia_iload 4), .inl (ia_iload 2), .inr (.inl (91, 3, 8)), .inl (ia_ifeq 28), .inl (ia_const (.int 1)), .inl (ia_iload 4), .inl (ia_i2 fun x y => x <<< (y &&& 31)), .inl (ia_goto 29), .inl (ia_const (.int 0)), .inl (ia_i2 fun x y => x ||| y), .inl (ia_istore 3), .inl (ia_iinc 4 1), .inl (ia_goto 4), .inl (ia_iload 3), .inr (.inr 1)])
/-- CModel public int out(int, int); -/
def mt_128 : is_M := (⟨"CardsAndBansModel", "out", "(II)I"⟩, prog_10_method_62_code, 5, some (.int), 6, 135, [0, 1, 2, 5, 6, 9, 12, 13, 16, 19, 20, 21, 22, 23, 24, 27, 28, 29, 30, 33, 34, 35, 38, 39, 42, 43, 45, 47, 48, 51, 54, 55, 58, 59, 61, 62, 63, 64, 65, 68, 69, 70, 72, 73, 74, 77, 78, 81, 84, 87, 88], [.inl (ia_aload 0), .inl (ia_const (.int 0)), .inl (ia_putI 8 13), .inl (ia_iload 1), .inr (.inl (76, 1, 100)), .inl (ia_ifeq 9), .inl (ia_iload 2), .inr (.inl (75, 1, 100)), .inl (ia_ifne 11), .inl (ia_const (.int (-1))), .inr (.inr 1), .inl (ia_aload 0), .inl (ia_iload 1), .inl (ia_iload 2), .inr (.inl (127, 3, 8)), .inl (ia_istore 3), .inl (ia_aload 0), .inl (ia_const (.int 0)), .inl (ia_putI 8 12), .inl (ia_aload 0), .inl (ia_iload 3), .inr (.inl (72, 1, 100)), .inl ia_i2l, .inr (.inl (71, 2, 8)), .inl (ia_const (.int 0)), .inl (ia_istore 4), .inl (ia_iload 4), .inl (ia_aload 0), .inl (ia_getR 8 0), .inl (ia_const (.int 1104)), .inl ia_iald, .inl (ia_ige 49), .inl (ia_iload 3), .inl (ia_iload 4), .inl (ia_i2 fun x y => x >>> (y &&& 31)), .inl (ia_const (.int 1)), .inl (ia_i2 fun x y => x &&& y), .inl (ia_const (.int 1)), .inl (ia_ine 47), .inl (ia_aload 0), .inl (ia_aload 0), .inl (ia_iload 4), .inl (ia_iload 2), .inl (ia_const (.int 0)), .inr (.inl (126, 4, 8)), .inl ia_i2l, .inr (.inl (71, 2, 8)), .inl (ia_iinc 4 1), .inl (ia_goto 26), .inl (ia_iload 3), .inr (.inr 1)])
/-- CModel public int misses(int, int); -/
def mt_129 : is_M := (⟨"CardsAndBansModel", "misses", "(II)I"⟩, prog_10_method_63_code, 3, some (.int), 4, 91, [0, 1, 2, 5, 6, 7, 10, 13, 14, 17, 20, 21, 22, 23, 24, 27, 28, 29, 30, 31, 32, 35, 36, 39, 40, 41, 42, 43, 46], [.inl (ia_aload 0), .inl (ia_const (.int 0)), .inl (ia_putI 8 13), .inl (ia_aload 0), .inl (ia_iload 1), .inr (.inl (77, 2, 8)), .inl (ia_ifeq 10), .inl (ia_iload 2), .inr (.inl (75, 1, 100)), .inl (ia_ifne 12), .inl (ia_const (.int (-1))), .inr (.inr 1), .inl (ia_aload 0), .inl (ia_const (.int 0)), .inl (ia_putI 8 12), .inl (ia_aload 0), .inl (ia_aload 0), .inl (ia_iload 1), .inl (ia_iload 2), .inl (ia_const (.int 1)), .inr (.inl (126, 4, 8)), .inl ia_i2l, .inr (.inl (71, 2, 8)), .inl (ia_aload 0), .inl (ia_iload 1), .inl (ia_iload 2), .inl (ia_const (.int 0)), .inr (.inl (126, 4, 8)), .inr (.inr 1)])
/-- CModel public int owed(int); -/
def mt_130 : is_M := (⟨"CardsAndBansModel", "owed", "(I)I"⟩, prog_10_method_64_code, 3, some (.int), 4, 91, [0, 1, 2, 5, 6, 7, 10, 13, 14, 15, 16, 17, 20, 21, 22, 23, 24, 27, 28, 29, 30, 31, 32, 35, 36, 39, 42, 45, 46, 47, 50], [.inl (ia_aload 0), .inl (ia_const (.int 0)), .inl (ia_putI 8 13), .inl (ia_aload 0), .inl (ia_iload 1), .inr (.inl (77, 2, 8)), .inl (ia_ifne 9), .inl (ia_const (.int (-1))), .inr (.inr 1), .inl (ia_aload 0), .inl (ia_const (.int 0)), .inl (ia_putI 8 12), .inl (ia_const (.int 0)), .inl (ia_istore 2), .inl (ia_iload 2), .inl (ia_const (.int 4)), .inl (ia_ige 27), .inl (ia_aload 0), .inl (ia_aload 0), .inl (ia_iload 1), .inl (ia_iload 2), .inl (ia_const (.int 0)), .inr (.inl (126, 4, 8)), .inl ia_i2l, .inr (.inl (71, 2, 8)), .inl (ia_iinc 2 1), .inl (ia_goto 14), .inl (ia_aload 0), .inl (ia_iload 1), .inr (.inl (145, 2, 8)), .inr (.inr 1)])
/-- CModel public int sides(int, int, int); -/
def mt_131 : is_M := (⟨"CardsAndBansModel", "sides", "(III)I"⟩, prog_10_method_65_code, 8, some (.int), 6, 135, [0, 1, 2, 5, 6, 9, 12, 13, 16, 19, 20, 23, 26, 27, 28, 31, 32, 33, 34, 35, 36, 39, 40, 41, 42, 45, 46, 48, 49, 51, 52, 54, 55, 57, 59, 60, 63, 66, 67, 70, 72, 73, 76, 77, 79, 80, 81, 82, 85, 86, 88, 89, 92, 93, 94, 96, 98, 99, 102, 103, 105, 106, 107, 108, 111, 112, 114, 115, 118, 119, 120, 122, 125, 128, 129, 130, 133, 134, 136, 138, 139, 140, 141, 144, 145, 148, 149, 151, 153, 154, 155, 156, 159, 160, 163, 164, 166, 167, 170, 172, 174, 175, 177, 178, 179, 180], [.inl (ia_aload 0), .inl (ia_const (.int 0)), .inl (ia_putI 8 13), .inl (ia_iload 1), .inr (.inl (75, 1, 100)), .inl (ia_ifeq 15), .inl (ia_iload 2), .inr (.inl (76, 1, 100)), .inl (ia_ifeq 15), .inl (ia_iload 3), .inr (.inl (76, 1, 100)), .inl (ia_ifeq 15), .inl (ia_iload 2), .inl (ia_iload 3), .inl (ia_ine 17), .inl (ia_const (.int (-1))), .inr (.inr 1), .inl (ia_aload 0), .inl (ia_iload 2), .inl (ia_iload 1), .inr (.inl (127, 3, 8)), .inl (ia_aload 0), .inl (ia_iload 3), .inl (ia_iload 1), .inr (.inl (127, 3, 8)), .inl (ia_i2 fun x y => x ||| y), .inl (ia_istore 4), .inl (ia_const (.int 0)), .inl (ia_istore 5), .inl (ia_const (.int 0)), .inl (ia_istore 6), .inl (ia_const (.int 0)), .inl (ia_istore 7), .inl (ia_iload 7), .inl (ia_aload 0), .inl (ia_getR 8 0), .inl (ia_const (.int 1104)), .inl ia_iald, .inl (ia_ige 73), .inl (ia_iload 5), .inl (ia_aload 0), .inl (ia_getR 8 0), .inl (ia_const (.int 0)), .inl (ia_iload 7), .inl (ia_i2 fun x y => x + y), .inl ia_iald, .inl (ia_iload 2), .inl (ia_ine 52), .inl (ia_const (.int 1)), .inl (ia_iload 7), .inl (ia_i2 fun x y => x <<< (y &&& 31)), .inl (ia_goto 53), .inl (ia_const (.int 0)), .inl (ia_i2 fun x y => x ||| y), .inl (ia_istore 5), .inl (ia_iload 6), .inl (ia_aload 0), .inl (ia_getR 8 0), .inl (ia_const (.int 0)), .inl (ia_iload 7), .inl (ia_i2 fun x y => x + y), .inl ia_iald, .inl (ia_iload 3), .inl (ia_ine 68), .inl (ia_const (.int 1)), .inl (ia_iload 7), .inl (ia_i2 fun x y => x <<< (y &&& 31)), .inl (ia_goto 69), .inl (ia_const (.int 0)), .inl (ia_i2 fun x y => x ||| y), .inl (ia_istore 6), .inl (ia_iinc 7 1), .inl (ia_goto 33), .inl (ia_aload 0), .inl (ia_const (.int 0)), .inl (ia_putI 8 12), .inl (ia_aload 0), .inl (ia_iload 5), .inl (ia_iload 4), .inl (ia_const (.int (-1))), .inl (ia_i2 fun x y => x ^^^ y), .inl (ia_i2 fun x y => x &&& y), .inr (.inl (72, 1, 100)), .inl ia_i2l, .inr (.inl (71, 2, 8)), .inl (ia_aload 0), .inl (ia_iload 6), .inl (ia_iload 4), .inl (ia_const (.int (-1))), .inl (ia_i2 fun x y => x ^^^ y), .inl (ia_i2 fun x y => x &&& y), .inr (.inl (72, 1, 100)), .inl ia_i2l, .inr (.inl (71, 2, 8)), .inl (ia_aload 0), .inl (ia_iload 4), .inl ia_i2l, .inr (.inl (71, 2, 8)), .inl (ia_iload 5), .inl (ia_iload 6), .inl (ia_i2 fun x y => x ||| y), .inl (ia_iload 4), .inl (ia_const (.int (-1))), .inl (ia_i2 fun x y => x ^^^ y), .inl (ia_i2 fun x y => x &&& y), .inr (.inr 1)])
/-- CModel public int until(int, int); -/
def mt_132 : is_M := (⟨"CardsAndBansModel", "until", "(II)I"⟩, prog_10_method_66_code, 7, some (.int), 4, 91, [0, 1, 2, 5, 6, 9, 12, 13, 16, 19, 20, 21, 22, 23, 24, 26, 27, 29, 31, 32, 35, 38, 39, 42, 43, 46, 47, 49, 50, 51, 52, 55, 56, 58, 59, 60, 63, 66, 67, 69, 71, 74, 76, 77, 80, 83, 85, 86, 89, 90, 92, 93, 96, 98, 99, 101, 102, 103, 105, 107, 108, 111, 114, 115, 116, 119, 120, 122, 123, 126, 127], [.inl (ia_aload 0), .inl (ia_const (.int 0)), .inl (ia_putI 8 13), .inl (ia_iload 1), .inr (.inl (76, 1, 100)), .inl (ia_ifeq 9), .inl (ia_iload 2), .inr (.inl (75, 1, 100)), .inl (ia_ifne 11), .inl (ia_const (.int (-1))), .inr (.inr 1), .inl (ia_const (.int 0)), .inl (ia_istore 3), .inl (ia_const (.int 0)), .inl (ia_istore 4), .inl (ia_const (.int 0)), .inl (ia_istore 5), .inl (ia_iload 5), .inl (ia_aload 0), .inl (ia_getR 8 0), .inl (ia_const (.int 1104)), .inl ia_iald, .inl (ia_ige 62), .inl (ia_aload 0), .inl (ia_getR 8 0), .inl (ia_const (.int 0)), .inl (ia_iload 5), .inl (ia_i2 fun x y => x + y), .inl ia_iald, .inl (ia_iload 1), .inl (ia_ine 37), .inl (ia_aload 0), .inl (ia_iload 5), .inl (ia_iload 2), .inl (ia_const (.int 0)), .inr (.inl (126, 4, 8)), .inl (ia_goto 38), .inl (ia_const (.int 0)), .inl (ia_istore 6), .inl (ia_iload 6), .inl (ia_ifeq 60), .inl (ia_iload 6), .inl (ia_iload 3), .inl (ia_ige 45), .inl (ia_goto 60), .inl (ia_iload 6), .inl (ia_iload 3), .inl (ia_ile 52), .inl (ia_const (.int 1)), .inl (ia_iload 5), .inl (ia_i2 fun x y => x <<< (y &&& 31)), .inl (ia_goto 57), .inl (ia_iload 4), .inl (ia_const (.int 1)), .inl (ia_iload 5), .inl (ia_i2 fun x y => x <<< (y &&& 31)), .inl (ia_i2 fun x y => x ||| y), .inl (ia_istore 4), .inl (ia_iload 6), .inl (ia_istore 3), .inl (ia_iinc 5 1), .inl (ia_goto 17), .inl (ia_aload 0), .inl (ia_const (.int 0)), .inl (ia_putI 8 12), .inl (ia_aload 0), .inl (ia_iload 4), .inl ia_i2l, .inr (.inl (71, 2, 8)), .inl (ia_iload 3), .inr (.inr 1)])
/-- CModel public int tempts(int, int, int); -/
def mt_133 : is_M := (⟨"CardsAndBansModel", "tempts", "(III)I"⟩, prog_10_method_67_code, 11, some (.int), 4, 89, [0, 1, 2, 5, 6, 7, 10, 13, 14, 17, 20, 21, 22, 23, 26, 29, 32, 33, 34, 35, 38, 40, 41, 42, 43, 44, 45, 46, 48, 49, 52, 55, 56, 58, 59, 61, 62, 64, 65, 67, 69, 70, 73, 75, 78, 79, 80, 81, 84, 86, 88, 89, 92, 93, 96, 98, 99, 100, 101, 102, 103, 104, 105, 106, 109, 111, 112, 115, 117, 119, 122, 123, 124, 125, 127, 130, 133, 134, 137, 138, 140, 143, 144, 146, 147, 148, 150, 151, 154, 155, 156, 159, 162, 163, 164, 167, 168, 169, 170, 171, 172, 175, 178, 181, 182, 185, 188, 189, 191, 192, 194, 195, 198, 200, 201, 203, 204, 207, 209, 212, 214, 215, 216, 217, 220, 221, 223, 224, 227, 228, 230, 231, 234, 236], [.inl (ia_aload 0), .inl (ia_const (.int 0)), .inl (ia_putI 8 13), .inl (ia_aload 0), .inl (ia_iload 1), .inr (.inl (77, 2, 8)), .inl (ia_ifeq 16), .inl (ia_iload 2), .inr (.inl (75, 1, 100)), .inl (ia_ifeq 16), .inl (ia_iload 3), .inl ia_i2l, .inl (ia_const (.long 1)), .inl (ia_const (.long 40)), .inr (.inl (69, 3, 100)), .inl (ia_ifne 18), .inl (ia_const (.int (-1))), .inr (.inr 1), .inl (ia_aload 0), .inr (.inl (81, 1, 8)), .inl (ia_const (.int 12)), .inl (ia_const (.int 4)), .inl (ia_iload 1), .inl (ia_i2 fun x y => x * y), .inl (ia_i2 fun x y => x + y), .inl (ia_iload 2), .inl (ia_i2 fun x y => x + y), .inl (ia_istore 4), .inl (ia_aload 0), .inl (ia_getR 8 0), .inl (ia_const (.int 1105)), .inl ia_iald, .inl (ia_istore 5), .inl (ia_const (.int 0)), .inl (ia_istore 6), .inl (ia_const (.int 1)), .inl (ia_istore 7), .inl (ia_const (.int 0)), .inl (ia_istore 8), .inl (ia_iload 8), .inl (ia_iload 3), .inl (ia_ige 103), .inl (ia_iload 7), .inl (ia_ifeq 103), .inl (ia_aload 0), .inl (ia_iload 1), .inl (ia_iload 2), .inr (.inl (90, 3, 8)), .inl (ia_istore 9), .inl (ia_iload 9), .inl (ia_const (.int (-1))), .inl (ia_ine 81), .inl (ia_aload 0), .inl (ia_getR 8 0), .inl (ia_iload 4), .inl ia_dup2, .inl ia_iald, .inl (ia_const (.int 1)), .inl (ia_i2 fun x y => x + y), .inl ia_iast, .inl (ia_aload 0), .inl (ia_iload 2), .inl (ia_aload 0), .inl (ia_getR 8 0), .inl (ia_iload 4), .inl ia_iald, .inr (.inl (96, 3, 8)), .inl (ia_istore 10), .inl (ia_iload 10), .inl (ia_ifeq 76), .inl (ia_aload 0), .inl (ia_iload 1), .inl (ia_iload 2), .inl (ia_iload 10), .inr (.inl (86, 4, 8)), .inl (ia_ifeq 78), .inl (ia_const (.int 1)), .inl (ia_goto 79), .inl (ia_const (.int 0)), .inl (ia_istore 7), .inl (ia_goto 92), .inl (ia_aload 0), .inl (ia_iload 9), .inl (ia_const (.int 2)), .inl (ia_aload 0), .inl (ia_iload 9), .inl (ia_const (.int 2)), .inr (.inl (79, 3, 8)), .inl (ia_const (.int 1)), .inl (ia_i2 fun x y => x - y), .inr (.inl (80, 4, 8)), .inl (ia_iinc 6 1), .inl (ia_aload 0), .inl (ia_aload 0), .inl (ia_getR 8 0), .inl (ia_const (.int 0)), .inl (ia_iload 1), .inl (ia_i2 fun x y => x + y), .inl ia_iald, .inl (ia_iload 2), .inr (.inl (94, 3, 8)), .inl (ia_iinc 8 1), .inl (ia_goto 39), .inl (ia_aload 0), .inl (ia_getR 8 0), .inl (ia_const (.int 1105)), .inl ia_iald, .inl (ia_iload 5), .inl (ia_i2 fun x y => x - y), .inl (ia_istore 8), .inl (ia_aload 0), .inl (ia_getR 8 0), .inl (ia_iload 4), .inl ia_iald, .inl (ia_istore 9), .inl (ia_aload 0), .inr (.inl (82, 1, 8)), .inl (ia_iload 7), .inl (ia_ifne 121), .inl (ia_const (.int (-4))), .inr (.inr 1), .inl (ia_aload 0), .inl (ia_const (.int 0)), .inl (ia_putI 8 12), .inl (ia_aload 0), .inl (ia_iload 8), .inl ia_i2l, .inr (.inl (71, 2, 8)), .inl (ia_aload 0), .inl (ia_iload 9), .inl ia_i2l, .inr (.inl (71, 2, 8)), .inl (ia_iload 6), .inr (.inr 1)])
/-- CModel public int costs(int, int); -/
def mt_134 : is_M := (⟨"CardsAndBansModel", "costs", "(II)I"⟩, prog_10_method_68_code, 6, some (.int), 2, 45, [0, 1, 2, 5, 6, 9, 12, 13, 14, 15, 18, 21, 24, 25, 26, 27, 28, 29, 31, 32, 34, 36, 37, 40, 41, 42, 43, 44, 45, 46, 49, 50, 53, 54, 55, 56, 58, 59, 60, 61, 64, 67, 68, 69, 72, 73, 74, 75, 77, 78, 79, 80, 81, 84, 87, 90, 91, 92, 95, 96, 98, 99, 102, 103], [.inl (ia_aload 0), .inl (ia_const (.int 0)), .inl (ia_putI 8 13), .inl (ia_iload 1), .inr (.inl (75, 1, 100)), .inl (ia_ifeq 12), .inl (ia_iload 2), .inl ia_i2l, .inl (ia_const (.long 0)), .inl (ia_const (.long 40)), .inr (.inl (69, 3, 100)), .inl (ia_ifne 14), .inl (ia_const (.int (-1))), .inr (.inr 1), .inl (ia_const (.int 0)), .inl (ia_istore 3), .inl (ia_const (.int 0)), .inl (ia_istore 4), .inl (ia_const (.int 0)), .inl (ia_istore 5), .inl (ia_iload 5), .inl (ia_aload 0), .inl (ia_getR 8 6), .inl (ia_const (.int 4)), .inl (ia_iload 1), .inl (ia_i2 fun x y => x * y), .inl (ia_const (.int 3)), .inl (ia_i2 fun x y => x + y), .inl ia_iald, .inl (ia_ige 55), .inl (ia_aload 0), .inl (ia_getR 8 7), .inl (ia_const (.int 4)), .inl (ia_iload 1), .inl (ia_i2 fun x y => x * y), .inl (ia_iload 5), .inl (ia_i2 fun x y => x + y), .inl ia_iald, .inl (ia_iload 2), .inl (ia_ile 41), .inl (ia_goto 53), .inl (ia_iload 3), .inl (ia_aload 0), .inl (ia_getR 8 8), .inl (ia_const (.int 4)), .inl (ia_iload 1), .inl (ia_i2 fun x y => x * y), .inl (ia_iload 5), .inl (ia_i2 fun x y => x + y), .inl ia_iald, .inl (ia_i2 fun x y => x + y), .inl (ia_istore 3), .inl (ia_iinc 4 1), .inl (ia_iinc 5 1), .inl (ia_goto 20), .inl (ia_aload 0), .inl (ia_const (.int 0)), .inl (ia_putI 8 12), .inl (ia_aload 0), .inl (ia_iload 4), .inl ia_i2l, .inr (.inl (71, 2, 8)), .inl (ia_iload 3), .inr (.inr 1)])
/-- CModel  void writesSign(int); -/
def mt_135 : is_M := (⟨"CardsAndBansModel", "writesSign", "(I)V"⟩, prog_10_method_69_code, 2, none, 0, 0, [0, 1, 4, 5, 8, 9, 10, 11, 12, 13, 16, 17, 18, 21], [.inl (ia_aload 0), .inl (ia_getR 8 30), .inl (ia_aload 0), .inl (ia_getI 8 31), .inl (ia_iload 1), .inl (ia_i1 fun x => x.toInt8.toInt32), .inl ia_bast, .inl (ia_aload 0), .inl ia_dup, .inl (ia_getI 8 31), .inl (ia_const (.int 1)), .inl (ia_i2 fun x y => x + y), .inl (ia_putI 8 31), .inr (.inr 0)])
/-- CModel  void writesNumber(int); -/
def mt_136 : is_M := (⟨"CardsAndBansModel", "writesNumber", "(I)V"⟩, prog_10_method_70_code, 2, none, 1, 21, [0, 1, 3, 6, 7, 9, 10, 12, 13, 14, 17, 18, 20, 21, 23, 24, 25, 28], [.inl (ia_iload 1), .inl (ia_const (.int 9)), .inl (ia_ile 10), .inl (ia_aload 0), .inl (ia_const (.int 48)), .inl (ia_iload 1), .inl (ia_const (.int 10)), .inl (ia_i2z fun x y => x / y), .inl (ia_i2 fun x y => x + y), .inr (.inl (135, 2, 8)), .inl (ia_aload 0), .inl (ia_const (.int 48)), .inl (ia_iload 1), .inl (ia_const (.int 10)), .inl (ia_i2z fun x y => x - x / y * y), .inl (ia_i2 fun x y => x + y), .inr (.inl (135, 2, 8)), .inr (.inr 0)])
/-- CModel  void writesRule(int); -/
def mt_137 : is_M := (⟨"CardsAndBansModel", "writesRule", "(I)V"⟩, prog_10_method_71_code, 3, none, 2, 42, [0, 1, 2, 5, 6, 7, 10, 11, 12, 13, 14, 15, 18, 20, 23, 25, 28, 29, 30, 33, 34, 35, 36, 37, 38, 39, 42, 43, 45, 48, 49, 50, 53, 54, 55, 56, 57, 58, 59, 62, 63, 64, 65, 66, 69, 70, 71, 72, 73, 74, 75, 78, 79, 80, 83, 85, 88, 90, 93, 94, 95, 98, 99, 100, 101, 102, 103, 104, 107, 108, 110, 113, 114, 115, 118, 119, 120, 121, 122, 123, 124, 127, 130, 133], [.inl (ia_aload 0), .inl (ia_iload 1), .inr (.inl (136, 2, 8)), .inl (ia_aload 0), .inl (ia_aload 0), .inl (ia_getR 8 6), .inl (ia_const (.int 4)), .inl (ia_iload 1), .inl (ia_i2 fun x y => x * y), .inl ia_iald, .inl (ia_const (.int 1)), .inl (ia_ine 14), .inl (ia_const (.int 97)), .inl (ia_goto 15), .inl (ia_const (.int 111)), .inr (.inl (135, 2, 8)), .inl (ia_aload 0), .inl (ia_aload 0), .inl (ia_getR 8 6), .inl (ia_const (.int 4)), .inl (ia_iload 1), .inl (ia_i2 fun x y => x * y), .inl (ia_const (.int 1)), .inl (ia_i2 fun x y => x + y), .inl ia_iald, .inr (.inl (136, 2, 8)), .inl (ia_aload 0), .inl (ia_const (.int 120)), .inr (.inl (135, 2, 8)), .inl (ia_aload 0), .inl (ia_aload 0), .inl (ia_getR 8 6), .inl (ia_const (.int 4)), .inl (ia_iload 1), .inl (ia_i2 fun x y => x * y), .inl (ia_const (.int 2)), .inl (ia_i2 fun x y => x + y), .inl ia_iald, .inr (.inl (136, 2, 8)), .inl (ia_const (.int 0)), .inl (ia_istore 2), .inl (ia_iload 2), .inl (ia_aload 0), .inl (ia_getR 8 6), .inl (ia_const (.int 4)), .inl (ia_iload 1), .inl (ia_i2 fun x y => x * y), .inl (ia_const (.int 3)), .inl (ia_i2 fun x y => x + y), .inl ia_iald, .inl (ia_ige 83), .inl (ia_aload 0), .inl (ia_iload 2), .inl (ia_ifne 56), .inl (ia_const (.int 58)), .inl (ia_goto 57), .inl (ia_const (.int 44)), .inr (.inl (135, 2, 8)), .inl (ia_aload 0), .inl (ia_aload 0), .inl (ia_getR 8 7), .inl (ia_const (.int 4)), .inl (ia_iload 1), .inl (ia_i2 fun x y => x * y), .inl (ia_iload 2), .inl (ia_i2 fun x y => x + y), .inl ia_iald, .inr (.inl (136, 2, 8)), .inl (ia_aload 0), .inl (ia_const (.int 47)), .inr (.inl (135, 2, 8)), .inl (ia_aload 0), .inl (ia_aload 0), .inl (ia_getR 8 8), .inl (ia_const (.int 4)), .inl (ia_iload 1), .inl (ia_i2 fun x y => x * y), .inl (ia_iload 2), .inl (ia_i2 fun x y => x + y), .inl ia_iald, .inr (.inl (136, 2, 8)), .inl (ia_iinc 2 1), .inl (ia_goto 41), .inr (.inr 0)])
/-- CModel public int written(int); -/
def mt_138 : is_M := (⟨"CardsAndBansModel", "written", "(I)I"⟩, prog_10_method_72_code, 3, some (.int), 3, 64, [0, 1, 2, 5, 6, 7, 10, 11, 12, 13, 14, 17, 18, 21, 22, 24, 27, 28, 29, 32, 35, 38, 39, 40, 43, 44, 47, 50, 51, 52, 53, 54, 57, 58, 59, 60, 63, 66, 67, 70, 71, 72, 75, 76], [.inl (ia_aload 0), .inl (ia_const (.int 0)), .inl (ia_putI 8 13), .inl (ia_aload 0), .inl (ia_const (.int 0)), .inl (ia_putI 8 31), .inl (ia_const (.int 0)), .inl (ia_istore 2), .inl (ia_iload 2), .inl (ia_const (.int 4)), .inl (ia_ige 21), .inl (ia_iload 2), .inl (ia_ifle 16), .inl (ia_aload 0), .inl (ia_const (.int 59)), .inr (.inl (135, 2, 8)), .inl (ia_aload 0), .inl (ia_iload 2), .inr (.inl (137, 2, 8)), .inl (ia_iinc 2 1), .inl (ia_goto 8), .inl (ia_iload 1), .inl (ia_const (.int (-1))), .inl (ia_ine 27), .inl (ia_aload 0), .inl (ia_getI 8 31), .inl (ia_goto 43), .inl (ia_iload 1), .inl ia_i2l, .inl (ia_const (.long 0)), .inl (ia_aload 0), .inl (ia_getI 8 31), .inl (ia_const (.int 1)), .inl (ia_i2 fun x y => x - y), .inl ia_i2l, .inr (.inl (69, 3, 100)), .inl (ia_ifeq 42), .inl (ia_aload 0), .inl (ia_getR 8 30), .inl (ia_iload 1), .inl (ia_ald 3), .inl (ia_goto 43), .inl (ia_const (.int (-1))), .inr (.inr 1)])
/-- CModel public int cautions(int, int); -/
def mt_139 : is_M := (⟨"CardsAndBansModel", "cautions", "(II)I"⟩, prog_10_method_73_code, 6, some (.int), 2, 46, [0, 1, 2, 5, 6, 7, 10, 13, 14, 17, 20, 21, 22, 23, 26, 28, 29, 30, 31, 32, 33, 34, 35, 36, 37, 39, 41, 42, 45, 46, 47, 48, 49, 50, 51, 54, 55, 58, 59, 60, 61, 63, 64, 65, 66, 69, 72, 75, 77, 78, 81, 82, 83, 84, 85, 86, 87, 90, 91, 94, 95, 97, 98, 99, 102, 103, 105, 108, 109, 112, 113, 114, 115, 117, 118, 119, 120, 121, 122, 125, 128, 131, 132, 134, 137, 138, 141, 142, 143, 144, 146, 147, 148, 149, 152, 155, 158, 159], [.inl (ia_aload 0), .inl (ia_const (.int 0)), .inl (ia_putI 8 13), .inl (ia_aload 0), .inl (ia_iload 1), .inr (.inl (77, 2, 8)), .inl (ia_ifeq 10), .inl (ia_iload 2), .inr (.inl (75, 1, 100)), .inl (ia_ifne 12), .inl (ia_const (.int (-1))), .inr (.inr 1), .inl (ia_aload 0), .inl (ia_getR 8 0), .inl (ia_const (.int 12)), .inl (ia_const (.int 4)), .inl (ia_iload 1), .inl (ia_i2 fun x y => x * y), .inl (ia_i2 fun x y => x + y), .inl (ia_iload 2), .inl (ia_i2 fun x y => x + y), .inl ia_iald, .inl (ia_istore 3), .inl (ia_const (.int 0)), .inl (ia_istore 4), .inl (ia_iload 4), .inl (ia_aload 0), .inl (ia_getR 8 6), .inl (ia_const (.int 4)), .inl (ia_iload 2), .inl (ia_i2 fun x y => x * y), .inl (ia_const (.int 3)), .inl (ia_i2 fun x y => x + y), .inl ia_iald, .inl (ia_ige 47), .inl (ia_aload 0), .inl (ia_getR 8 7), .inl (ia_const (.int 4)), .inl (ia_iload 2), .inl (ia_i2 fun x y => x * y), .inl (ia_iload 4), .inl (ia_i2 fun x y => x + y), .inl ia_iald, .inl (ia_iload 3), .inl (ia_igt 47), .inl (ia_iinc 4 1), .inl (ia_goto 25), .inl (ia_iload 4), .inl (ia_aload 0), .inl (ia_getR 8 6), .inl (ia_const (.int 4)), .inl (ia_iload 2), .inl (ia_i2 fun x y => x * y), .inl (ia_const (.int 3)), .inl (ia_i2 fun x y => x + y), .inl ia_iald, .inl (ia_ige 59), .inl (ia_const (.int 1)), .inl (ia_goto 60), .inl (ia_const (.int 0)), .inl (ia_istore 5), .inl (ia_aload 0), .inl (ia_const (.int 0)), .inl (ia_putI 8 12), .inl (ia_aload 0), .inl (ia_iload 5), .inl (ia_ifeq 79), .inl (ia_aload 0), .inl (ia_getR 8 7), .inl (ia_const (.int 4)), .inl (ia_iload 2), .inl (ia_i2 fun x y => x * y), .inl (ia_iload 4), .inl (ia_i2 fun x y => x + y), .inl ia_iald, .inl (ia_iload 3), .inl (ia_i2 fun x y => x - y), .inl ia_i2l, .inl (ia_goto 80), .inl (ia_const (.long (-1))), .inr (.inl (71, 2, 8)), .inl (ia_aload 0), .inl (ia_iload 5), .inl (ia_ifeq 94), .inl (ia_aload 0), .inl (ia_getR 8 8), .inl (ia_const (.int 4)), .inl (ia_iload 2), .inl (ia_i2 fun x y => x * y), .inl (ia_iload 4), .inl (ia_i2 fun x y => x + y), .inl ia_iald, .inl ia_i2l, .inl (ia_goto 95), .inl (ia_const (.long (-1))), .inr (.inl (71, 2, 8)), .inl (ia_iload 3), .inr (.inr 1)])
/-- CModel public int risks(int, int); -/
def mt_140 : is_M := (⟨"CardsAndBansModel", "risks", "(II)I"⟩, prog_10_method_74_code, 5, some (.int), 6, 135, [0, 1, 2, 5, 6, 9, 12, 13, 16, 19, 20, 21, 22, 23, 24, 26, 28, 29, 32, 35, 36, 39, 40, 41, 44, 45, 47, 48, 49, 50, 53, 54, 55, 56, 59, 61, 62, 64, 65, 66, 67, 68, 69, 70, 71, 74, 77, 78, 80, 81, 84, 85, 86, 87, 90, 93, 94, 95, 98, 99, 100, 101, 102, 103, 106, 107, 108, 109, 112, 113, 116, 117], [.inl (ia_aload 0), .inl (ia_const (.int 0)), .inl (ia_putI 8 13), .inl (ia_iload 1), .inr (.inl (76, 1, 100)), .inl (ia_ifeq 9), .inl (ia_iload 2), .inr (.inl (75, 1, 100)), .inl (ia_ifne 11), .inl (ia_const (.int (-1))), .inr (.inr 1), .inl (ia_const (.int 0)), .inl (ia_istore 3), .inl (ia_const (.int 0)), .inl (ia_istore 4), .inl (ia_iload 4), .inl (ia_aload 0), .inl (ia_getR 8 0), .inl (ia_const (.int 1104)), .inl ia_iald, .inl (ia_ige 55), .inl (ia_iload 3), .inl (ia_aload 0), .inl (ia_getR 8 0), .inl (ia_const (.int 0)), .inl (ia_iload 4), .inl (ia_i2 fun x y => x + y), .inl ia_iald, .inl (ia_iload 1), .inl (ia_ine 50), .inl (ia_aload 0), .inl (ia_iload 2), .inl (ia_aload 0), .inl (ia_getR 8 0), .inl (ia_const (.int 12)), .inl (ia_const (.int 4)), .inl (ia_iload 4), .inl (ia_i2 fun x y => x * y), .inl (ia_i2 fun x y => x + y), .inl (ia_iload 2), .inl (ia_i2 fun x y => x + y), .inl ia_iald, .inl (ia_const (.int 1)), .inl (ia_i2 fun x y => x + y), .inr (.inl (96, 3, 8)), .inl (ia_ifle 50), .inl (ia_const (.int 1)), .inl (ia_iload 4), .inl (ia_i2 fun x y => x <<< (y &&& 31)), .inl (ia_goto 51), .inl (ia_const (.int 0)), .inl (ia_i2 fun x y => x ||| y), .inl (ia_istore 3), .inl (ia_iinc 4 1), .inl (ia_goto 15), .inl (ia_aload 0), .inl (ia_const (.int 0)), .inl (ia_putI 8 12), .inl (ia_aload 0), .inl (ia_iload 3), .inl (ia_aload 0), .inl (ia_iload 1), .inl (ia_iload 2), .inr (.inl (127, 3, 8)), .inl (ia_const (.int (-1))), .inl (ia_i2 fun x y => x ^^^ y), .inl (ia_i2 fun x y => x &&& y), .inr (.inl (72, 1, 100)), .inl ia_i2l, .inr (.inl (71, 2, 8)), .inl (ia_iload 3), .inr (.inr 1)])
/-- CModel public int played(int, int); -/
def mt_141 : is_M := (⟨"CardsAndBansModel", "played", "(II)I"⟩, prog_10_method_75_code, 4, some (.int), 2, 45, [0, 1, 2, 5, 6, 9, 12, 13, 16, 19, 20, 21, 22, 25, 27, 28, 29, 30, 31, 32, 33, 34, 35, 36, 37, 40, 41, 42, 45, 46, 47, 48, 49, 50, 51, 52, 55, 56, 59, 60, 61, 62, 63, 64, 65, 66, 67, 68, 71, 74, 77, 78], [.inl (ia_aload 0), .inl (ia_const (.int 0)), .inl (ia_putI 8 13), .inl (ia_iload 1), .inr (.inl (76, 1, 100)), .inl (ia_ifeq 9), .inl (ia_iload 2), .inr (.inl (75, 1, 100)), .inl (ia_ifne 11), .inl (ia_const (.int (-1))), .inr (.inr 1), .inl (ia_aload 0), .inl (ia_getR 8 0), .inl (ia_const (.int 108)), .inl (ia_const (.int 4)), .inl (ia_iload 1), .inl (ia_i2 fun x y => x * y), .inl (ia_i2 fun x y => x + y), .inl (ia_iload 2), .inl (ia_i2 fun x y => x + y), .inl ia_iald, .inl (ia_istore 3), .inl (ia_aload 0), .inl (ia_const (.int 0)), .inl (ia_putI 8 12), .inl (ia_aload 0), .inl (ia_aload 0), .inl (ia_getR 8 6), .inl (ia_const (.int 4)), .inl (ia_iload 2), .inl (ia_i2 fun x y => x * y), .inl (ia_const (.int 2)), .inl (ia_i2 fun x y => x + y), .inl ia_iald, .inl (ia_iload 3), .inl (ia_ile 48), .inl (ia_aload 0), .inl (ia_getR 8 6), .inl (ia_const (.int 4)), .inl (ia_iload 2), .inl (ia_i2 fun x y => x * y), .inl (ia_const (.int 2)), .inl (ia_i2 fun x y => x + y), .inl ia_iald, .inl (ia_iload 3), .inl (ia_i2 fun x y => x - y), .inl ia_i2l, .inl (ia_goto 49), .inl (ia_const (.long (-1))), .inr (.inl (71, 2, 8)), .inl (ia_iload 3), .inr (.inr 1)])
/-- CModel  void readsList(); -/
def mt_142 : is_M := (⟨"CardsAndBansModel", "readsList", "()V"⟩, prog_10_method_76_code, 2, none, 2, 47, [0, 1, 4, 5, 6, 9, 10, 13, 16, 17, 20, 21, 22, 23, 26, 27, 30, 31, 34, 35, 38, 39, 42, 43, 44, 45, 48, 49, 50, 53, 54, 57, 58, 59, 60, 63, 64, 65, 68, 69, 72, 73, 74, 75, 78, 79, 80, 83, 84, 87, 88, 91, 92, 95, 96, 97, 100, 101, 104, 105, 108, 109, 110, 113, 114, 115, 118, 119, 120, 123, 124, 125, 128, 129, 132, 133, 136, 137, 140, 142, 145, 146, 149, 150, 151, 152, 155, 156, 157, 160, 161, 162, 165, 168, 169, 172], [.inl (ia_aload 0), .inr (.inl (99, 1, 8)), .inl (ia_aload 0), .inl (ia_const (.int 0)), .inl (ia_putI 8 35), .inl (ia_aload 0), .inl (ia_getI 8 21), .inl (ia_ifle 10), .inl (ia_const (.int 1)), .inl (ia_goto 11), .inl (ia_const (.int 0)), .inl (ia_istore 1), .inl (ia_iload 1), .inl (ia_ifeq 93), .inl (ia_aload 0), .inl (ia_getI 8 23), .inl (ia_const (.int (-1))), .inl (ia_ine 93), .inl (ia_aload 0), .inl (ia_getR 8 32), .inl (ia_aload 0), .inl (ia_getI 8 35), .inl (ia_aload 0), .inl (ia_const (.int 0)), .inl (ia_const (.int 3)), .inr (.inl (103, 3, 8)), .inl ia_iast, .inl (ia_aload 0), .inl (ia_getR 8 33), .inl (ia_aload 0), .inl (ia_getI 8 35), .inl (ia_aload 0), .inl (ia_const (.int 0)), .inl (ia_const (.int 3)), .inr (.inl (103, 3, 8)), .inl ia_iast, .inl (ia_aload 0), .inl (ia_getR 8 34), .inl (ia_aload 0), .inl (ia_getI 8 35), .inl (ia_aload 0), .inl (ia_const (.int 0)), .inl (ia_const (.int 3)), .inr (.inl (103, 3, 8)), .inl ia_iast, .inl (ia_aload 0), .inl (ia_getI 8 23), .inl (ia_const (.int (-1))), .inl (ia_ine 66), .inl (ia_aload 0), .inl (ia_getR 8 33), .inl (ia_aload 0), .inl (ia_getI 8 35), .inl ia_iald, .inl (ia_aload 0), .inl (ia_getR 8 34), .inl (ia_aload 0), .inl (ia_getI 8 35), .inl ia_iald, .inl (ia_ine 66), .inl (ia_aload 0), .inl (ia_aload 0), .inl (ia_getI 8 22), .inl (ia_const (.int 1)), .inl (ia_i2 fun x y => x - y), .inr (.inl (101, 2, 8)), .inl (ia_aload 0), .inl ia_dup, .inl (ia_getI 8 35), .inl (ia_const (.int 1)), .inl (ia_i2 fun x y => x + y), .inl (ia_putI 8 35), .inl (ia_aload 0), .inl (ia_getI 8 23), .inl (ia_const (.int (-1))), .inl (ia_ine 82), .inl (ia_aload 0), .inr (.inl (100, 1, 8)), .inl (ia_const (.int 44)), .inl (ia_ine 82), .inl (ia_const (.int 1)), .inl (ia_goto 83), .inl (ia_const (.int 0)), .inl (ia_istore 1), .inl (ia_iload 1), .inl (ia_ifeq 12), .inl (ia_aload 0), .inl ia_dup, .inl (ia_getI 8 22), .inl (ia_const (.int 1)), .inl (ia_i2 fun x y => x + y), .inl (ia_putI 8 22), .inl (ia_goto 12), .inl (ia_aload 0), .inr (.inl (105, 1, 8)), .inr (.inr 0)])
/-- CModel  boolean isTold(int, int); -/
def mt_143 : is_M := (⟨"CardsAndBansModel", "isTold", "(II)Z"⟩, prog_10_method_77_code, 3, some (.boolean), 0, 0, [0, 1, 4, 5, 6, 7, 10, 11, 14, 15, 16, 17, 20, 21, 24, 25], [.inl (ia_aload 0), .inl (ia_getR 8 33), .inl (ia_iload 1), .inl ia_iald, .inl (ia_iload 2), .inl (ia_ieq 12), .inl (ia_aload 0), .inl (ia_getR 8 34), .inl (ia_iload 1), .inl ia_iald, .inl (ia_iload 2), .inl (ia_ine 14), .inl (ia_const (.int 1)), .inl (ia_goto 15), .inl (ia_const (.int 0)), .inr (.inr 2)])
/-- CModel  void comesTo(int); -/
def mt_144 : is_M := (⟨"CardsAndBansModel", "comesTo", "(I)V"⟩, prog_10_method_78_code, 2, none, 6, 137, [0, 1, 2, 5, 6, 7, 8, 11, 12, 13, 14, 17, 18, 19, 22], [.inl (ia_aload 0), .inl (ia_aload 0), .inl (ia_getR 8 32), .inl (ia_iload 1), .inl ia_iald, .inl (ia_aload 0), .inl (ia_getR 8 33), .inl (ia_iload 1), .inl ia_iald, .inl (ia_aload 0), .inl (ia_getR 8 34), .inl (ia_iload 1), .inl ia_iald, .inr (.inl (95, 4, 8)), .inr (.inr 0)])
/-- CModel  int leftOf(int); -/
def mt_145 : is_M := (⟨"CardsAndBansModel", "leftOf", "(I)I"⟩, prog_10_method_79_code, 4, some (.int), 1, 22, [0, 1, 2, 3, 4, 5, 6, 9, 12, 13, 16, 17, 18, 19, 20, 23, 24, 27, 28, 29, 30, 33, 36, 37, 38, 39, 42, 45, 46], [.inl (ia_const (.int 0)), .inl (ia_istore 2), .inl (ia_const (.int 0)), .inl (ia_istore 3), .inl (ia_iload 3), .inl (ia_aload 0), .inl (ia_getR 8 0), .inl (ia_const (.int 1105)), .inl ia_iald, .inl (ia_ige 27), .inl (ia_iload 2), .inl (ia_aload 0), .inl (ia_iload 3), .inl (ia_const (.int 0)), .inr (.inl (79, 3, 8)), .inl (ia_iload 1), .inl (ia_ine 22), .inl (ia_aload 0), .inl (ia_iload 3), .inl (ia_const (.int 2)), .inr (.inl (79, 3, 8)), .inl (ia_goto 23), .inl (ia_const (.int 0)), .inl (ia_i2 fun x y => x + y), .inl (ia_istore 2), .inl (ia_iinc 3 1), .inl (ia_goto 4), .inl (ia_iload 2), .inr (.inr 1)])
/-- CModel public long plan(int); -/
def mt_146 : is_M := (⟨"CardsAndBansModel", "plan", "(I)J"⟩, prog_10_method_80_code, 6, some (.long), 7, 158, [0, 1, 2, 5, 6, 9, 10, 13, 14, 17, 19, 20, 23, 24, 25, 26, 27, 28, 31, 34, 37, 38, 39, 42, 43, 44, 45, 47, 48, 50, 52, 53, 56, 59, 60, 62, 63, 66, 67, 68, 69, 70, 73, 76, 77, 78, 79, 82, 84, 85, 88, 91, 92, 93, 95, 96, 97, 98, 101, 102, 104, 107, 110, 113, 114, 115, 118, 120, 121, 124, 125, 126, 129, 130, 132, 133, 136, 137, 139, 140, 143, 144], [.inl (ia_aload 0), .inl (ia_const (.int 0)), .inl (ia_putI 8 13), .inl (ia_aload 0), .inr (.inl (142, 1, 8)), .inl (ia_aload 0), .inl (ia_getI 8 23), .inl (ia_const (.int (-1))), .inl (ia_ieq 15), .inl (ia_const (.int (-21))), .inl (ia_aload 0), .inl (ia_getI 8 23), .inl (ia_i2 fun x y => x - y), .inl ia_i2l, .inr (.inr 3), .inl (ia_aload 0), .inl (ia_iload 1), .inr (.inl (77, 2, 8)), .inl (ia_ifne 21), .inl (ia_const (.long (-1))), .inr (.inr 3), .inl (ia_aload 0), .inr (.inl (81, 1, 8)), .inl (ia_const (.long 0)), .inl (ia_lstore 2), .inl (ia_const (.int 0)), .inl (ia_istore 4), .inl (ia_const (.int 0)), .inl (ia_istore 5), .inl (ia_iload 5), .inl (ia_aload 0), .inl (ia_getI 8 35), .inl (ia_ige 63), .inl (ia_aload 0), .inl (ia_iload 5), .inl (ia_aload 0), .inl (ia_getR 8 0), .inl (ia_const (.int 0)), .inl (ia_iload 1), .inl (ia_i2 fun x y => x + y), .inl ia_iald, .inr (.inl (143, 3, 8)), .inl (ia_ifeq 58), .inl (ia_aload 0), .inl (ia_iload 1), .inl (ia_aload 0), .inl (ia_getR 8 32), .inl (ia_iload 5), .inl ia_iald, .inr (.inl (91, 3, 8)), .inl (ia_ifeq 58), .inl (ia_lload 2), .inl (ia_const (.long 1)), .inl (ia_iload 5), .inl (ia_lsh fun x y => x <<< (y.toInt64 &&& 63)), .inl (ia_l2 fun x y => x ||| y), .inl (ia_lstore 2), .inl (ia_iinc 4 1), .inl (ia_aload 0), .inl (ia_iload 5), .inr (.inl (144, 2, 8)), .inl (ia_iinc 5 1), .inl (ia_goto 29), .inl (ia_aload 0), .inl (ia_iload 1), .inr (.inl (145, 2, 8)), .inl (ia_istore 5), .inl (ia_aload 0), .inr (.inl (82, 1, 8)), .inl (ia_aload 0), .inl (ia_const (.int 0)), .inl (ia_putI 8 12), .inl (ia_aload 0), .inl (ia_iload 4), .inl ia_i2l, .inr (.inl (71, 2, 8)), .inl (ia_aload 0), .inl (ia_iload 5), .inl ia_i2l, .inr (.inl (71, 2, 8)), .inl (ia_lload 2), .inr (.inr 3)])
/-- CModel public int returns(int); -/
def mt_147 : is_M := (⟨"CardsAndBansModel", "returns", "(I)I"⟩, prog_10_method_81_code, 6, some (.int), 7, 158, [0, 1, 2, 5, 6, 9, 10, 13, 14, 17, 19, 20, 23, 24, 25, 26, 27, 30, 33, 34, 35, 36, 39, 41, 42, 43, 44, 45, 47, 49, 50, 53, 56, 57, 59, 62, 63, 65, 66, 69, 70, 71, 72, 73, 76, 78, 80, 83, 84, 85, 86, 89, 91, 92, 95, 98, 100, 101, 104, 105, 107, 110, 111, 114, 115, 116, 117, 118, 120, 123, 126, 129, 130, 133, 134, 136, 139, 141, 142, 143, 144, 147, 148, 149, 150, 153, 154], [.inl (ia_aload 0), .inl (ia_const (.int 0)), .inl (ia_putI 8 13), .inl (ia_aload 0), .inr (.inl (142, 1, 8)), .inl (ia_aload 0), .inl (ia_getI 8 23), .inl (ia_const (.int (-1))), .inl (ia_ieq 14), .inl (ia_const (.int (-21))), .inl (ia_aload 0), .inl (ia_getI 8 23), .inl (ia_i2 fun x y => x - y), .inr (.inr 1), .inl (ia_aload 0), .inl (ia_iload 1), .inr (.inl (77, 2, 8)), .inl (ia_ifne 20), .inl (ia_const (.int (-1))), .inr (.inr 1), .inl (ia_aload 0), .inr (.inl (81, 1, 8)), .inl (ia_const (.int (-2))), .inl (ia_istore 2), .inl (ia_const (.int 0)), .inl (ia_istore 3), .inl (ia_const (.int 0)), .inl (ia_istore 4), .inl (ia_iload 4), .inl (ia_aload 0), .inl (ia_getI 8 35), .inl (ia_ige 71), .inl (ia_iload 2), .inl (ia_const (.int (-2))), .inl (ia_ine 71), .inl (ia_aload 0), .inl (ia_iload 4), .inl (ia_aload 0), .inl (ia_getR 8 0), .inl (ia_const (.int 0)), .inl (ia_iload 1), .inl (ia_i2 fun x y => x + y), .inl ia_iald, .inr (.inl (143, 3, 8)), .inl (ia_istore 5), .inl (ia_iload 5), .inl (ia_ifeq 58), .inl (ia_aload 0), .inl (ia_iload 1), .inl (ia_aload 0), .inl (ia_getR 8 32), .inl (ia_iload 4), .inl ia_iald, .inr (.inl (91, 3, 8)), .inl (ia_ifne 58), .inl (ia_iload 4), .inl (ia_istore 2), .inl (ia_goto 66), .inl (ia_iload 3), .inl (ia_iload 5), .inl (ia_ifeq 63), .inl (ia_const (.int 1)), .inl (ia_goto 64), .inl (ia_const (.int 0)), .inl (ia_i2 fun x y => x + y), .inl (ia_istore 3), .inl (ia_aload 0), .inl (ia_iload 4), .inr (.inl (144, 2, 8)), .inl (ia_iinc 4 1), .inl (ia_goto 28), .inl (ia_aload 0), .inr (.inl (82, 1, 8)), .inl (ia_iload 2), .inl (ia_const (.int (-2))), .inl (ia_ine 78), .inl (ia_const (.int (-2))), .inr (.inr 1), .inl (ia_aload 0), .inl (ia_const (.int 0)), .inl (ia_putI 8 12), .inl (ia_aload 0), .inl (ia_iload 3), .inl ia_i2l, .inr (.inl (71, 2, 8)), .inl (ia_iload 2), .inr (.inr 1)])
/-- CModel  int outOfSome(); -/
def mt_148 : is_M := (⟨"CardsAndBansModel", "outOfSome", "()I"⟩, prog_10_method_82_code, 4, some (.int), 5, 111, [0, 1, 2, 3, 4, 5, 6, 9, 12, 13, 16, 17, 18, 19, 20, 23, 24, 25, 26, 27, 30, 33, 34, 35, 36, 39, 40, 41, 42, 45, 48, 51, 54, 55], [.inl (ia_const (.int 0)), .inl (ia_istore 1), .inl (ia_const (.int 0)), .inl (ia_istore 2), .inl (ia_iload 2), .inl (ia_aload 0), .inl (ia_getR 8 0), .inl (ia_const (.int 1104)), .inl ia_iald, .inl (ia_ige 32), .inl (ia_const (.int 0)), .inl (ia_istore 3), .inl (ia_iload 3), .inl (ia_const (.int 4)), .inl (ia_ige 30), .inl (ia_iload 1), .inl (ia_aload 0), .inl (ia_iload 2), .inl (ia_iload 3), .inr (.inl (91, 3, 8)), .inl (ia_ifeq 25), .inl (ia_const (.int 1)), .inl (ia_iload 2), .inl (ia_i2 fun x y => x <<< (y &&& 31)), .inl (ia_goto 26), .inl (ia_const (.int 0)), .inl (ia_i2 fun x y => x ||| y), .inl (ia_istore 1), .inl (ia_iinc 3 1), .inl (ia_goto 12), .inl (ia_iinc 2 1), .inl (ia_goto 4), .inl (ia_iload 1), .inr (.inr 1)])
/-- CModel  int opnMany(); -/
def mt_149 : is_M := (⟨"CardsAndBansModel", "openMany", "()I"⟩, prog_10_method_83_code, 3, some (.int), 2, 43, [0, 1, 2, 3, 4, 5, 6, 9, 12, 13, 16, 17, 18, 19, 22, 25, 26, 29, 30, 31, 32, 35, 38, 39], [.inl (ia_const (.int 0)), .inl (ia_istore 1), .inl (ia_const (.int 0)), .inl (ia_istore 2), .inl (ia_iload 2), .inl (ia_aload 0), .inl (ia_getR 8 0), .inl (ia_const (.int 1105)), .inl ia_iald, .inl (ia_ige 22), .inl (ia_iload 1), .inl (ia_aload 0), .inl (ia_iload 2), .inr (.inl (87, 2, 8)), .inl (ia_ifeq 17), .inl (ia_const (.int 1)), .inl (ia_goto 18), .inl (ia_const (.int 0)), .inl (ia_i2 fun x y => x + y), .inl (ia_istore 1), .inl (ia_iinc 2 1), .inl (ia_goto 4), .inl (ia_iload 1), .inr (.inr 1)])
/-- CModel public int behind(); -/
def mt_150 : is_M := (⟨"CardsAndBansModel", "behind", "()I"⟩, prog_10_method_84_code, 4, some (.int), 7, 158, [0, 1, 2, 5, 6, 9, 10, 13, 14, 17, 19, 20, 23, 24, 25, 26, 29, 30, 31, 32, 33, 34, 35, 38, 41, 42, 43, 46, 47, 48, 51, 52, 53, 56, 59, 60, 63, 64, 65, 68, 69, 70, 73, 74, 75, 78, 79, 80, 81, 84, 85, 86, 87, 90, 91], [.inl (ia_aload 0), .inl (ia_const (.int 0)), .inl (ia_putI 8 13), .inl (ia_aload 0), .inr (.inl (142, 1, 8)), .inl (ia_aload 0), .inl (ia_getI 8 23), .inl (ia_const (.int (-1))), .inl (ia_ieq 14), .inl (ia_const (.int (-21))), .inl (ia_aload 0), .inl (ia_getI 8 23), .inl (ia_i2 fun x y => x - y), .inr (.inr 1), .inl (ia_aload 0), .inr (.inl (81, 1, 8)), .inl (ia_const (.int 0)), .inl (ia_istore 1), .inl (ia_const (.int 0)), .inl (ia_istore 2), .inl (ia_iload 2), .inl (ia_aload 0), .inl (ia_getI 8 35), .inl (ia_ige 34), .inl (ia_aload 0), .inl (ia_iload 2), .inr (.inl (144, 2, 8)), .inl (ia_iload 1), .inl (ia_aload 0), .inl (ia_getI 8 14), .inl (ia_i2 fun x y => x + y), .inl (ia_istore 1), .inl (ia_iinc 2 1), .inl (ia_goto 20), .inl (ia_aload 0), .inr (.inl (148, 1, 8)), .inl (ia_istore 2), .inl (ia_aload 0), .inr (.inl (149, 1, 8)), .inl (ia_istore 3), .inl (ia_aload 0), .inr (.inl (82, 1, 8)), .inl (ia_aload 0), .inl (ia_const (.int 0)), .inl (ia_putI 8 12), .inl (ia_aload 0), .inl (ia_iload 1), .inl ia_i2l, .inr (.inl (71, 2, 8)), .inl (ia_aload 0), .inl (ia_iload 3), .inl ia_i2l, .inr (.inl (71, 2, 8)), .inl (ia_iload 2), .inr (.inr 1)])
/-- CModel public int ban(int, int); -/
def mt_151 : is_M := (⟨"CardsAndBansModel", "ban", "(II)I"⟩, prog_10_method_85_code, 3, some (.int), 2, 46, [0, 1, 2, 5, 6, 7, 10, 13, 14, 15, 16, 19, 22, 25, 26, 27, 28, 31, 34, 35], [.inl (ia_aload 0), .inl (ia_const (.int 0)), .inl (ia_putI 8 13), .inl (ia_aload 0), .inl (ia_iload 1), .inr (.inl (78, 2, 8)), .inl (ia_ifeq 18), .inl (ia_iload 2), .inl ia_i2l, .inl (ia_const (.long 0)), .inl (ia_const (.long 7)), .inr (.inl (69, 3, 100)), .inl (ia_ifeq 18), .inl (ia_aload 0), .inl (ia_iload 1), .inl (ia_iload 2), .inr (.inl (79, 3, 8)), .inl (ia_goto 19), .inl (ia_const (.int (-1))), .inr (.inr 1)])
/-- CModel public int opn(int); -/
def mt_152 : is_M := (⟨"CardsAndBansModel", "open", "(I)I"⟩, prog_10_method_86_code, 3, some (.int), 2, 46, [0, 1, 2, 5, 6, 7, 10, 13, 14, 15, 16, 17, 20, 21, 22, 23, 24, 27, 30, 31, 34, 35, 36, 37, 40, 41, 44, 45, 46, 49, 52, 53, 54, 55, 58, 61, 64, 65, 68], [.inl (ia_aload 0), .inl (ia_const (.int 0)), .inl (ia_putI 8 13), .inl (ia_aload 0), .inl (ia_iload 1), .inr (.inl (77, 2, 8)), .inl (ia_ifne 9), .inl (ia_const (.int (-1))), .inr (.inr 1), .inl (ia_aload 0), .inl (ia_const (.int 0)), .inl (ia_putI 8 12), .inl (ia_const (.int 0)), .inl (ia_istore 2), .inl (ia_iload 2), .inl (ia_aload 0), .inl (ia_getR 8 0), .inl (ia_const (.int 1105)), .inl ia_iald, .inl (ia_ige 36), .inl (ia_aload 0), .inl (ia_iload 2), .inl (ia_const (.int 0)), .inr (.inl (79, 3, 8)), .inl (ia_iload 1), .inl (ia_ine 34), .inl (ia_aload 0), .inl (ia_iload 2), .inr (.inl (87, 2, 8)), .inl (ia_ifeq 34), .inl (ia_aload 0), .inl (ia_iload 2), .inl ia_i2l, .inr (.inl (71, 2, 8)), .inl (ia_iinc 2 1), .inl (ia_goto 14), .inl (ia_aload 0), .inl (ia_getI 8 12), .inr (.inr 1)])
/-- CModel public int frees(int, int); -/
def mt_153 : is_M := (⟨"CardsAndBansModel", "frees", "(II)I"⟩, prog_10_method_87_code, 4, some (.int), 3, 66, [0, 1, 2, 5, 6, 7, 10, 13, 14, 17, 20, 21, 22, 23, 24, 25, 26, 29, 32, 33, 36, 37, 38, 39, 42, 43, 46, 47, 48, 49, 52, 55, 56, 57, 58, 61, 64, 66, 67, 70, 73, 74, 75, 78, 79, 80, 81, 82, 85, 88, 89, 92, 93, 94, 95, 98, 99, 102, 103, 104, 105, 108, 111, 112, 113, 114, 117, 120, 123, 124, 127], [.inl (ia_aload 0), .inl (ia_const (.int 0)), .inl (ia_putI 8 13), .inl (ia_aload 0), .inl (ia_iload 1), .inr (.inl (77, 2, 8)), .inl (ia_ifeq 10), .inl (ia_iload 2), .inr (.inl (75, 1, 100)), .inl (ia_ifne 12), .inl (ia_const (.int (-1))), .inr (.inr 1), .inl (ia_const (.int 0)), .inl (ia_istore 3), .inl (ia_iload 3), .inl (ia_aload 0), .inl (ia_getR 8 0), .inl (ia_const (.int 1105)), .inl ia_iald, .inl (ia_ige 40), .inl (ia_aload 0), .inl (ia_iload 3), .inl (ia_const (.int 0)), .inr (.inl (79, 3, 8)), .inl (ia_iload 1), .inl (ia_ine 38), .inl (ia_aload 0), .inl (ia_iload 3), .inl (ia_iload 2), .inr (.inl (89, 3, 8)), .inl (ia_ifeq 38), .inl (ia_aload 0), .inl (ia_iload 3), .inl (ia_const (.int 4)), .inr (.inl (79, 3, 8)), .inl (ia_ifeq 38), .inl (ia_const (.int (-2))), .inr (.inr 1), .inl (ia_iinc 3 1), .inl (ia_goto 14), .inl (ia_aload 0), .inl (ia_const (.int 0)), .inl (ia_putI 8 12), .inl (ia_const (.int 0)), .inl (ia_istore 3), .inl (ia_iload 3), .inl (ia_aload 0), .inl (ia_getR 8 0), .inl (ia_const (.int 1105)), .inl ia_iald, .inl (ia_ige 68), .inl (ia_aload 0), .inl (ia_iload 3), .inl (ia_const (.int 0)), .inr (.inl (79, 3, 8)), .inl (ia_iload 1), .inl (ia_ine 66), .inl (ia_aload 0), .inl (ia_iload 3), .inl (ia_iload 2), .inr (.inl (89, 3, 8)), .inl (ia_ifeq 66), .inl (ia_aload 0), .inl (ia_iload 3), .inl ia_i2l, .inr (.inl (71, 2, 8)), .inl (ia_iinc 3 1), .inl (ia_goto 45), .inl (ia_aload 0), .inl (ia_getI 8 12), .inr (.inr 1)])
/-- CModel public int sum(int); -/
def mt_154 : is_M := (⟨"CardsAndBansModel", "sum", "(I)I"⟩, prog_10_method_88_code, 7, some (.int), 2, 45, [0, 1, 2, 5, 6, 9, 12, 13, 14, 15, 16, 17, 18, 19, 21, 22, 24, 25, 27, 29, 30, 33, 36, 37, 40, 41, 43, 44, 47, 48, 51, 54, 57, 58, 59, 61, 64, 67, 68, 71, 72, 73, 74, 76, 77, 79, 80, 83, 84, 86, 88, 89, 91, 93, 96, 97, 99, 102, 105, 106, 107, 110, 111, 112, 113, 116, 117, 119, 120, 123, 124, 126, 127, 130, 131], [.inl (ia_aload 0), .inl (ia_const (.int 0)), .inl (ia_putI 8 13), .inl (ia_iload 1), .inr (.inl (75, 1, 100)), .inl (ia_ifne 8), .inl (ia_const (.int (-1))), .inr (.inr 1), .inl (ia_const (.int 0)), .inl (ia_istore 2), .inl (ia_const (.int 0)), .inl (ia_istore 3), .inl (ia_const (.int 0)), .inl (ia_istore 4), .inl (ia_const (.int 0)), .inl (ia_istore 5), .inl (ia_const (.int 0)), .inl (ia_istore 6), .inl (ia_iload 6), .inl (ia_aload 0), .inl (ia_getR 8 0), .inl (ia_const (.int 1105)), .inl ia_iald, .inl (ia_ige 58), .inl (ia_aload 0), .inl (ia_iload 6), .inl (ia_const (.int 1)), .inr (.inl (79, 3, 8)), .inl (ia_iload 1), .inl (ia_ieq 31), .inl (ia_goto 56), .inl (ia_iinc 2 1), .inl (ia_iload 3), .inl (ia_aload 0), .inl (ia_iload 6), .inr (.inl (87, 2, 8)), .inl (ia_ifeq 39), .inl (ia_const (.int 1)), .inl (ia_goto 40), .inl (ia_const (.int 0)), .inl (ia_i2 fun x y => x + y), .inl (ia_istore 3), .inl (ia_iload 4), .inl (ia_aload 0), .inl (ia_iload 6), .inl (ia_const (.int 5)), .inr (.inl (79, 3, 8)), .inl (ia_i2 fun x y => x + y), .inl (ia_istore 4), .inl (ia_iload 5), .inl (ia_aload 0), .inl (ia_iload 6), .inl (ia_const (.int 7)), .inr (.inl (79, 3, 8)), .inl (ia_i2 fun x y => x + y), .inl (ia_istore 5), .inl (ia_iinc 6 1), .inl (ia_goto 18), .inl (ia_aload 0), .inl (ia_const (.int 0)), .inl (ia_putI 8 12), .inl (ia_aload 0), .inl (ia_iload 3), .inl ia_i2l, .inr (.inl (71, 2, 8)), .inl (ia_aload 0), .inl (ia_iload 4), .inl ia_i2l, .inr (.inl (71, 2, 8)), .inl (ia_aload 0), .inl (ia_iload 5), .inl ia_i2l, .inr (.inl (71, 2, 8)), .inl (ia_iload 2), .inr (.inr 1)])
/-- CModel public int worst(); -/
def mt_155 : is_M := (⟨"CardsAndBansModel", "worst", "()I"⟩, prog_10_method_89_code, 3, some (.int), 2, 45, [0, 1, 2, 5, 6, 9, 12, 13, 16, 17, 18, 19, 20, 21, 22, 23, 24, 27, 30, 31, 34, 35, 36, 39, 40, 41, 44, 47, 48, 49, 52, 55, 56, 57, 60, 61, 62, 63, 66, 67, 70, 71], [.inl (ia_aload 0), .inl (ia_const (.int 0)), .inl (ia_putI 8 13), .inl (ia_aload 0), .inl (ia_getR 8 0), .inl (ia_const (.int 1104)), .inl ia_iald, .inl (ia_ifne 10), .inl (ia_const (.int (-1))), .inr (.inr 1), .inl (ia_const (.int 0)), .inl (ia_istore 1), .inl (ia_const (.int 1)), .inl (ia_istore 2), .inl (ia_iload 2), .inl (ia_aload 0), .inl (ia_getR 8 0), .inl (ia_const (.int 1104)), .inl ia_iald, .inl (ia_ige 31), .inl (ia_aload 0), .inl (ia_iload 2), .inr (.inl (145, 2, 8)), .inl (ia_aload 0), .inl (ia_iload 1), .inr (.inl (145, 2, 8)), .inl (ia_ile 29), .inl (ia_iload 2), .inl (ia_istore 1), .inl (ia_iinc 2 1), .inl (ia_goto 14), .inl (ia_aload 0), .inl (ia_const (.int 0)), .inl (ia_putI 8 12), .inl (ia_aload 0), .inl (ia_aload 0), .inl (ia_iload 1), .inr (.inl (145, 2, 8)), .inl ia_i2l, .inr (.inl (71, 2, 8)), .inl (ia_iload 1), .inr (.inr 1)])
/-- CModel public int most(int); -/
def mt_156 : is_M := (⟨"CardsAndBansModel", "most", "(I)I"⟩, prog_10_method_90_code, 7, some (.int), 2, 45, [0, 1, 2, 5, 6, 9, 12, 13, 14, 15, 18, 21, 22, 25, 27, 28, 29, 30, 31, 32, 33, 35, 37, 38, 41, 44, 45, 48, 49, 52, 54, 55, 57, 58, 59, 60, 61, 62, 64, 65, 68, 70, 71, 72, 73, 74, 75, 76, 77, 79, 81, 83, 86, 88, 91, 92, 93, 95, 97, 100, 101, 104, 106, 108, 111, 112, 113, 114, 117, 118, 119, 122, 125, 126, 127, 130, 131, 132, 135, 137, 138, 139, 140, 141, 142, 143, 144, 145, 148, 149, 150, 151, 154, 155], [.inl (ia_aload 0), .inl (ia_const (.int 0)), .inl (ia_putI 8 13), .inl (ia_iload 1), .inr (.inl (75, 1, 100)), .inl (ia_ifne 8), .inl (ia_const (.int (-1))), .inr (.inr 1), .inl (ia_aload 0), .inl (ia_getR 8 0), .inl (ia_const (.int 1104)), .inl ia_iald, .inl (ia_ifne 15), .inl (ia_const (.int (-2))), .inr (.inr 1), .inl (ia_const (.int 0)), .inl (ia_istore 2), .inl (ia_const (.int 0)), .inl (ia_istore 3), .inl (ia_const (.int 0)), .inl (ia_istore 4), .inl (ia_iload 4), .inl (ia_aload 0), .inl (ia_getR 8 0), .inl (ia_const (.int 1104)), .inl ia_iald, .inl (ia_ige 72), .inl (ia_aload 0), .inl (ia_getR 8 0), .inl (ia_const (.int 12)), .inl (ia_const (.int 4)), .inl (ia_iload 4), .inl (ia_i2 fun x y => x * y), .inl (ia_i2 fun x y => x + y), .inl (ia_iload 1), .inl (ia_i2 fun x y => x + y), .inl ia_iald, .inl (ia_istore 5), .inl (ia_aload 0), .inl (ia_getR 8 0), .inl (ia_const (.int 12)), .inl (ia_const (.int 4)), .inl (ia_iload 2), .inl (ia_i2 fun x y => x * y), .inl (ia_i2 fun x y => x + y), .inl (ia_iload 1), .inl (ia_i2 fun x y => x + y), .inl ia_iald, .inl (ia_istore 6), .inl (ia_iload 5), .inl (ia_iload 6), .inl (ia_ile 54), .inl (ia_iload 4), .inl (ia_goto 55), .inl (ia_iload 2), .inl (ia_istore 2), .inl (ia_iload 5), .inl (ia_iload 6), .inl (ia_ile 61), .inl (ia_const (.int 1)), .inl (ia_goto 69), .inl (ia_iload 5), .inl (ia_iload 6), .inl (ia_ine 68), .inl (ia_iload 3), .inl (ia_const (.int 1)), .inl (ia_i2 fun x y => x + y), .inl (ia_goto 69), .inl (ia_iload 3), .inl (ia_istore 3), .inl (ia_iinc 4 1), .inl (ia_goto 21), .inl (ia_aload 0), .inl (ia_const (.int 0)), .inl (ia_putI 8 12), .inl (ia_aload 0), .inl (ia_aload 0), .inl (ia_getR 8 0), .inl (ia_const (.int 12)), .inl (ia_const (.int 4)), .inl (ia_iload 2), .inl (ia_i2 fun x y => x * y), .inl (ia_i2 fun x y => x + y), .inl (ia_iload 1), .inl (ia_i2 fun x y => x + y), .inl ia_iald, .inl ia_i2l, .inr (.inl (71, 2, 8)), .inl (ia_aload 0), .inl (ia_iload 3), .inl ia_i2l, .inr (.inl (71, 2, 8)), .inl (ia_iload 2), .inr (.inr 1)])
/-- CModel public int longest(int); -/
def mt_157 : is_M := (⟨"CardsAndBansModel", "longest", "(I)I"⟩, prog_10_method_91_code, 4, some (.int), 2, 45, [0, 1, 2, 5, 6, 9, 12, 13, 14, 15, 16, 17, 18, 19, 20, 23, 26, 27, 30, 31, 32, 33, 36, 37, 40, 41, 42, 45, 46, 47, 48, 51, 52, 53, 54, 57, 60, 61, 62, 65, 68, 69, 70, 73, 75, 76, 77, 78, 81, 82, 83, 84, 85, 88, 89, 92, 93, 96, 97, 98, 100, 103, 104, 105, 106, 107, 110, 111, 112, 115, 116], [.inl (ia_aload 0), .inl (ia_const (.int 0)), .inl (ia_putI 8 13), .inl (ia_iload 1), .inr (.inl (75, 1, 100)), .inl (ia_ifne 8), .inl (ia_const (.int (-1))), .inr (.inr 1), .inl (ia_const (.int (-1))), .inl (ia_istore 2), .inl (ia_const (.int 0)), .inl (ia_istore 3), .inl (ia_iload 3), .inl (ia_aload 0), .inl (ia_getR 8 0), .inl (ia_const (.int 1105)), .inl ia_iald, .inl (ia_ige 40), .inl (ia_aload 0), .inl (ia_iload 3), .inl (ia_const (.int 1)), .inr (.inl (79, 3, 8)), .inl (ia_iload 1), .inl (ia_ine 38), .inl (ia_iload 2), .inl (ia_const (.int (-1))), .inl (ia_ieq 36), .inl (ia_aload 0), .inl (ia_iload 3), .inl (ia_const (.int 5)), .inr (.inl (79, 3, 8)), .inl (ia_aload 0), .inl (ia_iload 2), .inl (ia_const (.int 5)), .inr (.inl (79, 3, 8)), .inl (ia_ile 38), .inl (ia_iload 3), .inl (ia_istore 2), .inl (ia_iinc 3 1), .inl (ia_goto 12), .inl (ia_iload 2), .inl (ia_const (.int (-1))), .inl (ia_ine 45), .inl (ia_const (.int (-2))), .inr (.inr 1), .inl (ia_aload 0), .inl (ia_const (.int 0)), .inl (ia_putI 8 12), .inl (ia_aload 0), .inl (ia_aload 0), .inl (ia_iload 2), .inl (ia_const (.int 5)), .inr (.inl (79, 3, 8)), .inl ia_i2l, .inr (.inl (71, 2, 8)), .inl (ia_aload 0), .inl (ia_const (.int 1000)), .inl (ia_aload 0), .inl (ia_iload 2), .inl (ia_const (.int 7)), .inr (.inl (79, 3, 8)), .inl (ia_i2 fun x y => x * y), .inl (ia_aload 0), .inl (ia_iload 2), .inl (ia_const (.int 5)), .inr (.inl (79, 3, 8)), .inl (ia_i2z fun x y => x / y), .inl ia_i2l, .inr (.inl (71, 2, 8)), .inl (ia_iload 2), .inr (.inr 1)])
/-- CModel  int pointsOf(int); -/
def mt_158 : is_M := (⟨"CardsAndBansModel", "pointsOf", "(I)I"⟩, prog_10_method_92_code, 2, some (.int), 0, 0, [0, 1, 4, 6, 7, 8, 9, 10, 11, 12, 13, 16, 18, 19, 20, 21, 22, 23, 24, 25, 26, 27], [.inl (ia_aload 0), .inl (ia_getR 8 0), .inl (ia_const (.int 60)), .inl (ia_const (.int 3)), .inl (ia_iload 1), .inl (ia_i2 fun x y => x * y), .inl (ia_i2 fun x y => x + y), .inl ia_iald, .inl (ia_const (.int 3)), .inl (ia_aload 0), .inl (ia_getR 8 0), .inl (ia_const (.int 60)), .inl (ia_const (.int 3)), .inl (ia_iload 1), .inl (ia_i2 fun x y => x * y), .inl (ia_i2 fun x y => x + y), .inl (ia_const (.int 1)), .inl (ia_i2 fun x y => x + y), .inl ia_iald, .inl (ia_i2 fun x y => x * y), .inl (ia_i2 fun x y => x + y), .inr (.inr 1)])
/-- CModel public int points(int); -/
def mt_159 : is_M := (⟨"CardsAndBansModel", "points", "(I)I"⟩, prog_10_method_93_code, 3, some (.int), 2, 45, [0, 1, 2, 5, 6, 9, 12, 13, 14, 15, 16, 19, 20, 21, 22, 23, 26, 27, 28, 31, 33, 34, 35, 36, 37, 38, 39, 40, 41, 44, 47, 50, 51, 52, 55], [.inl (ia_aload 0), .inl (ia_const (.int 0)), .inl (ia_putI 8 13), .inl (ia_iload 1), .inr (.inl (76, 1, 100)), .inl (ia_ifne 8), .inl (ia_const (.int (-1))), .inr (.inr 1), .inl (ia_aload 0), .inl (ia_const (.int 0)), .inl (ia_putI 8 12), .inl (ia_const (.int 0)), .inl (ia_istore 2), .inl (ia_iload 2), .inl (ia_const (.int 3)), .inl (ia_ige 31), .inl (ia_aload 0), .inl (ia_aload 0), .inl (ia_getR 8 0), .inl (ia_const (.int 60)), .inl (ia_const (.int 3)), .inl (ia_iload 1), .inl (ia_i2 fun x y => x * y), .inl (ia_i2 fun x y => x + y), .inl (ia_iload 2), .inl (ia_i2 fun x y => x + y), .inl ia_iald, .inl ia_i2l, .inr (.inl (71, 2, 8)), .inl (ia_iinc 2 1), .inl (ia_goto 13), .inl (ia_aload 0), .inl (ia_iload 1), .inr (.inl (158, 2, 8)), .inr (.inr 1)])
/-- CModel public int fair(); -/
def mt_160 : is_M := (⟨"CardsAndBansModel", "fair", "()I"⟩, prog_10_method_94_code, 5, some (.int), 1, 22, [0, 1, 2, 5, 6, 7, 10, 11, 12, 13, 14, 15, 16, 19, 20, 21, 22, 24, 26, 27, 30, 31, 33, 34, 35, 36, 39, 40, 41, 44, 45, 47, 50, 51, 52, 55, 58, 60, 61, 64, 67, 68, 69, 70, 71, 72, 73, 74, 75, 76, 79, 82, 85, 86, 89, 90, 91, 92], [.inl (ia_aload 0), .inl (ia_const (.int 0)), .inl (ia_putI 8 13), .inl (ia_aload 0), .inl (ia_const (.int 0)), .inl (ia_putI 8 12), .inl (ia_const (.int 0)), .inl (ia_istore 1), .inl (ia_const (.int 0)), .inl (ia_istore 2), .inl (ia_iload 2), .inl (ia_const (.int 4)), .inl (ia_ige 52), .inl (ia_const (.int (-1))), .inl (ia_istore 3), .inl (ia_const (.int 0)), .inl (ia_istore 4), .inl (ia_iload 4), .inl (ia_const (.int 4)), .inl (ia_ige 40), .inl (ia_iload 1), .inl (ia_iload 4), .inl (ia_i2 fun x y => x >>> (y &&& 31)), .inl (ia_const (.int 1)), .inl (ia_i2 fun x y => x &&& y), .inl (ia_ifne 38), .inl (ia_iload 3), .inl (ia_const (.int (-1))), .inl (ia_ieq 36), .inl (ia_aload 0), .inl (ia_iload 4), .inr (.inl (158, 2, 8)), .inl (ia_aload 0), .inl (ia_iload 3), .inr (.inl (158, 2, 8)), .inl (ia_ige 38), .inl (ia_iload 4), .inl (ia_istore 3), .inl (ia_iinc 4 1), .inl (ia_goto 17), .inl (ia_iload 1), .inl (ia_const (.int 1)), .inl (ia_iload 3), .inl (ia_i2 fun x y => x <<< (y &&& 31)), .inl (ia_i2 fun x y => x ||| y), .inl (ia_istore 1), .inl (ia_aload 0), .inl (ia_iload 3), .inl ia_i2l, .inr (.inl (71, 2, 8)), .inl (ia_iinc 2 1), .inl (ia_goto 10), .inl (ia_aload 0), .inl (ia_getR 8 11), .inl (ia_const (.int 0)), .inl ia_lald, .inl ia_l2i, .inr (.inr 1)])
/-- CModel public int cards(int); -/
def mt_161 : is_M := (⟨"CardsAndBansModel", "cards", "(I)I"⟩, prog_10_method_95_code, 2, some (.int), 2, 46, [0, 1, 2, 5, 6, 7, 10, 13, 14, 15, 16, 17, 20, 21, 22, 25, 27, 28, 29, 30, 31, 32, 33, 34, 35, 38, 39, 40, 43, 45, 46, 47, 48, 49, 50, 51, 52, 53, 56, 57, 60, 62, 63, 64, 65, 66, 67], [.inl (ia_aload 0), .inl (ia_const (.int 0)), .inl (ia_putI 8 13), .inl (ia_aload 0), .inl (ia_iload 1), .inr (.inl (77, 2, 8)), .inl (ia_ifne 9), .inl (ia_const (.int (-1))), .inr (.inr 1), .inl (ia_aload 0), .inl (ia_const (.int 0)), .inl (ia_putI 8 12), .inl (ia_aload 0), .inl (ia_aload 0), .inl (ia_getR 8 0), .inl (ia_const (.int 72)), .inl (ia_const (.int 3)), .inl (ia_iload 1), .inl (ia_i2 fun x y => x * y), .inl (ia_i2 fun x y => x + y), .inl (ia_const (.int 1)), .inl (ia_i2 fun x y => x + y), .inl ia_iald, .inl ia_i2l, .inr (.inl (71, 2, 8)), .inl (ia_aload 0), .inl (ia_aload 0), .inl (ia_getR 8 0), .inl (ia_const (.int 72)), .inl (ia_const (.int 3)), .inl (ia_iload 1), .inl (ia_i2 fun x y => x * y), .inl (ia_i2 fun x y => x + y), .inl (ia_const (.int 2)), .inl (ia_i2 fun x y => x + y), .inl ia_iald, .inl ia_i2l, .inr (.inl (71, 2, 8)), .inl (ia_aload 0), .inl (ia_getR 8 0), .inl (ia_const (.int 72)), .inl (ia_const (.int 3)), .inl (ia_iload 1), .inl (ia_i2 fun x y => x * y), .inl (ia_i2 fun x y => x + y), .inl ia_iald, .inr (.inr 1)])
/-- CModel public int keeps(); -/
def mt_162 : is_M := (⟨"CardsAndBansModel", "keeps", "()I"⟩, prog_10_method_96_code, 2, some (.int), 0, 0, [0, 1, 2, 5, 6, 7, 8, 11, 14, 15, 18, 19, 20, 23, 24, 25, 26, 29, 32, 33, 34, 37, 38, 41, 44, 45], [.inl (ia_aload 0), .inl (ia_const (.int 0)), .inl (ia_putI 8 13), .inl (ia_const (.int 0)), .inl (ia_istore 1), .inl (ia_iload 1), .inl (ia_const (.int 1108)), .inl (ia_ige 18), .inl (ia_aload 0), .inl (ia_getR 8 2), .inl (ia_iload 1), .inl (ia_aload 0), .inl (ia_getR 8 0), .inl (ia_iload 1), .inl ia_iald, .inl ia_iast, .inl (ia_iinc 1 1), .inl (ia_goto 5), .inl (ia_aload 0), .inl (ia_const (.int 1)), .inl (ia_putZ 8 3), .inl (ia_aload 0), .inl (ia_getR 8 0), .inl (ia_const (.int 1106)), .inl ia_iald, .inr (.inr 1)])
/-- CModel public int back(); -/
def mt_163 : is_M := (⟨"CardsAndBansModel", "back", "()I"⟩, prog_10_method_97_code, 2, some (.int), 2, 41, [0, 1, 2, 5, 6, 9, 12, 14, 15, 16, 19, 20, 21, 22, 25, 28, 29, 32, 33, 34, 37, 38, 39, 40, 43, 46, 47, 50, 53, 54], [.inl (ia_aload 0), .inl (ia_const (.int 0)), .inl (ia_putI 8 13), .inl (ia_aload 0), .inl (ia_getI 8 3), .inl (ia_ifne 8), .inl (ia_const (.int (-2))), .inr (.inr 1), .inl (ia_aload 0), .inr (.inl (84, 1, 8)), .inl (ia_const (.int 0)), .inl (ia_istore 1), .inl (ia_iload 1), .inl (ia_const (.int 1108)), .inl (ia_ige 25), .inl (ia_aload 0), .inl (ia_getR 8 0), .inl (ia_iload 1), .inl (ia_aload 0), .inl (ia_getR 8 2), .inl (ia_iload 1), .inl ia_iald, .inl ia_iast, .inl (ia_iinc 1 1), .inl (ia_goto 12), .inl (ia_aload 0), .inl (ia_getR 8 0), .inl (ia_const (.int 1106)), .inl ia_iald, .inr (.inr 1)])
/-- CModel  int entries(); -/
def mt_164 : is_M := (⟨"CardsAndBansModel", "entries", "()I"⟩, prog_10_method_98_code, 1, some (.int), 1, 21, [0, 2, 3, 6, 9, 10, 13], [.inl (ia_const (.int 60)), .inl (ia_aload 0), .inl (ia_getR 8 0), .inl (ia_const (.int 1107)), .inl ia_iald, .inl ia_min, .inr (.inr 1)])
/-- CModel  int pageAt(int); -/
def mt_165 : is_M := (⟨"CardsAndBansModel", "pageAt", "(I)I"⟩, prog_10_method_99_code, 2, some (.int), 0, 0, [0, 2, 3, 4, 7, 10, 11, 12, 13, 14, 15, 17, 18, 19, 20], [.inl (ia_const (.int 124)), .inl (ia_const (.int 3)), .inl (ia_aload 0), .inl (ia_getR 8 0), .inl (ia_const (.int 1107)), .inl ia_iald, .inl (ia_const (.int 1)), .inl (ia_i2 fun x y => x - y), .inl (ia_iload 1), .inl (ia_i2 fun x y => x - y), .inl (ia_const (.int 60)), .inl (ia_i2z fun x y => x - x / y * y), .inl (ia_i2 fun x y => x * y), .inl (ia_i2 fun x y => x + y), .inr (.inr 1)])
/-- CModel public int book(int, int); -/
def mt_166 : is_M := (⟨"CardsAndBansModel", "book", "(II)I"⟩, prog_10_method_100_code, 3, some (.int), 2, 41, [0, 1, 2, 5, 6, 7, 8, 9, 12, 13, 14, 15, 18, 21, 22, 23, 24, 27, 30, 33, 34, 37, 38, 39, 42, 43, 44, 45, 48, 49], [.inl (ia_aload 0), .inl (ia_const (.int 0)), .inl (ia_putI 8 13), .inl (ia_iload 1), .inl ia_i2l, .inl (ia_const (.long 0)), .inl (ia_aload 0), .inr (.inl (164, 1, 8)), .inl (ia_const (.int 1)), .inl (ia_i2 fun x y => x - y), .inl ia_i2l, .inr (.inl (69, 3, 100)), .inl (ia_ifeq 28), .inl (ia_iload 2), .inl ia_i2l, .inl (ia_const (.long 0)), .inl (ia_const (.long 2)), .inr (.inl (69, 3, 100)), .inl (ia_ifeq 28), .inl (ia_aload 0), .inl (ia_getR 8 0), .inl (ia_aload 0), .inl (ia_iload 1), .inr (.inl (165, 2, 8)), .inl (ia_iload 2), .inl (ia_i2 fun x y => x + y), .inl ia_iald, .inl (ia_goto 29), .inl (ia_const (.int (-1))), .inr (.inr 1)])
/-- CModel public int told(int); -/
def mt_167 : is_M := (⟨"CardsAndBansModel", "told", "(I)I"⟩, prog_10_method_101_code, 4, some (.int), 2, 46, [0, 1, 2, 5, 6, 7, 10, 13, 14, 15, 16, 18, 21, 22, 23, 24, 26, 29, 30, 33, 34, 35, 36, 39, 42, 43, 44, 45, 46, 47, 48, 51, 54, 55, 56, 59, 60, 61, 64, 65, 66, 67, 68, 71, 72, 75, 78, 79, 82, 83, 86, 87, 88, 91, 92, 93, 94, 95, 96, 97, 100, 103, 106, 107], [.inl (ia_aload 0), .inl (ia_const (.int 0)), .inl (ia_putI 8 13), .inl (ia_aload 0), .inl (ia_iload 1), .inr (.inl (77, 2, 8)), .inl (ia_ifne 9), .inl (ia_const (.int (-1))), .inr (.inr 1), .inl (ia_aload 0), .inl (ia_const (.int 6)), .inl (ia_putI 8 12), .inl (ia_const (.int 0)), .inl (ia_istore 2), .inl (ia_iload 2), .inl (ia_const (.int 6)), .inl (ia_ige 24), .inl (ia_aload 0), .inl (ia_getR 8 11), .inl (ia_iload 2), .inl (ia_const (.long 0)), .inl ia_last, .inl (ia_iinc 2 1), .inl (ia_goto 14), .inl (ia_const (.int 0)), .inl (ia_istore 2), .inl (ia_const (.int 0)), .inl (ia_istore 3), .inl (ia_iload 3), .inl (ia_aload 0), .inr (.inl (164, 1, 8)), .inl (ia_ige 62), .inl (ia_aload 0), .inl (ia_aload 0), .inl (ia_getR 8 0), .inl (ia_aload 0), .inl (ia_iload 3), .inr (.inl (165, 2, 8)), .inl (ia_const (.int 1)), .inl (ia_i2 fun x y => x + y), .inl ia_iald, .inl (ia_const (.int 0)), .inr (.inl (79, 3, 8)), .inl (ia_iload 1), .inl (ia_ieq 46), .inl (ia_goto 60), .inl (ia_aload 0), .inl (ia_getR 8 11), .inl (ia_aload 0), .inl (ia_getR 8 0), .inl (ia_aload 0), .inl (ia_iload 3), .inr (.inl (165, 2, 8)), .inl ia_iald, .inl ia_dup2, .inl ia_lald, .inl (ia_const (.long 1)), .inl (ia_l2 fun x y => x + y), .inl ia_last, .inl (ia_iinc 2 1), .inl (ia_iinc 3 1), .inl (ia_goto 28), .inl (ia_iload 2), .inr (.inr 1)])
/-- CModel public int undo(); -/
def mt_168 : is_M := (⟨"CardsAndBansModel", "undo", "()I"⟩, prog_10_method_102_code, 2, some (.int), 0, 0, [0, 1, 2, 5, 6, 9, 12, 14, 15, 16, 17, 20, 21, 22, 25, 26, 27, 28, 31, 34, 35, 38, 39, 40, 43, 46, 47, 50, 51, 52, 53, 54, 55, 58, 61, 62, 65], [.inl (ia_aload 0), .inl (ia_const (.int 0)), .inl (ia_putI 8 13), .inl (ia_aload 0), .inl (ia_getI 8 5), .inl (ia_ifne 8), .inl (ia_const (.int (-2))), .inr (.inr 1), .inl (ia_aload 0), .inl ia_dup, .inl (ia_getI 8 5), .inl (ia_const (.int 1)), .inl (ia_i2 fun x y => x - y), .inl (ia_putI 8 5), .inl (ia_const (.int 0)), .inl (ia_istore 1), .inl (ia_iload 1), .inl (ia_const (.int 1108)), .inl (ia_ige 34), .inl (ia_aload 0), .inl (ia_getR 8 0), .inl (ia_iload 1), .inl (ia_aload 0), .inl (ia_getR 8 4), .inl (ia_const (.int 1108)), .inl (ia_aload 0), .inl (ia_getI 8 5), .inl (ia_i2 fun x y => x * y), .inl (ia_iload 1), .inl (ia_i2 fun x y => x + y), .inl ia_iald, .inl ia_iast, .inl (ia_iinc 1 1), .inl (ia_goto 16), .inl (ia_aload 0), .inl (ia_getI 8 5), .inr (.inr 1)])
/-- CModel  int pendingMany(); -/
def mt_169 : is_M := (⟨"CardsAndBansModel", "pendingMany", "()I"⟩, prog_10_method_103_code, 3, some (.int), 1, 22, [0, 1, 2, 3, 4, 5, 6, 9, 12, 13, 16, 17, 18, 19, 20, 23, 24, 27, 28, 31, 32, 33, 34, 37, 40, 41], [.inl (ia_const (.int 0)), .inl (ia_istore 1), .inl (ia_const (.int 0)), .inl (ia_istore 2), .inl (ia_iload 2), .inl (ia_aload 0), .inl (ia_getR 8 0), .inl (ia_const (.int 1105)), .inl ia_iald, .inl (ia_ige 24), .inl (ia_iload 1), .inl (ia_aload 0), .inl (ia_iload 2), .inl (ia_const (.int 4)), .inr (.inl (79, 3, 8)), .inl (ia_const (.int 1)), .inl (ia_ine 19), .inl (ia_const (.int 1)), .inl (ia_goto 20), .inl (ia_const (.int 0)), .inl (ia_i2 fun x y => x + y), .inl (ia_istore 1), .inl (ia_iinc 2 1), .inl (ia_goto 4), .inl (ia_iload 1), .inr (.inr 1)])
/-- CModel public int count(int); -/
def mt_170 : is_M := (⟨"CardsAndBansModel", "count", "(I)I"⟩, prog_10_method_104_code, 2, some (.int), 6, 134, [0, 1, 2, 5, 6, 64, 65, 68, 71, 72, 73, 74, 77, 80, 81, 82, 83, 86, 87, 88, 91, 92, 93, 96, 99, 100, 101, 102, 105, 106, 107, 110, 111, 112, 115, 116, 117, 120, 121, 122, 125, 126, 127, 130, 131, 132], [.inl (ia_aload 0), .inl (ia_const (.int 0)), .inl (ia_putI 8 13), .inl (ia_iload 1), .inl (ia_sw [5, 10, 15, 18, 21, 26, 29, 32, 35, 38, 41] 44), .inl (ia_aload 0), .inl (ia_getR 8 0), .inl (ia_const (.int 1104)), .inl ia_iald, .inr (.inr 1), .inl (ia_aload 0), .inl (ia_getR 8 0), .inl (ia_const (.int 1105)), .inl ia_iald, .inr (.inr 1), .inl (ia_aload 0), .inr (.inl (149, 1, 8)), .inr (.inr 1), .inl (ia_aload 0), .inr (.inl (169, 1, 8)), .inr (.inr 1), .inl (ia_aload 0), .inl (ia_getR 8 0), .inl (ia_const (.int 1106)), .inl ia_iald, .inr (.inr 1), .inl (ia_aload 0), .inl (ia_getI 8 5), .inr (.inr 1), .inl (ia_aload 0), .inr (.inl (164, 1, 8)), .inr (.inr 1), .inl (ia_aload 0), .inr (.inl (123, 1, 8)), .inr (.inr 1), .inl (ia_aload 0), .inr (.inl (148, 1, 8)), .inr (.inr 1), .inl (ia_aload 0), .inl (ia_getI 8 12), .inr (.inr 1), .inl (ia_aload 0), .inl (ia_getI 8 10), .inr (.inr 1), .inl (ia_const (.int (-1))), .inr (.inr 1)])
/-- CModel public long row(int); -/
def mt_171 : is_M := (⟨"CardsAndBansModel", "row", "(I)J"⟩, prog_10_method_105_code, 2, some (.long), 1, 25, [0, 1, 2, 5, 6, 7, 8, 9, 12, 13, 14, 15, 18, 21, 22, 25, 26, 27, 30, 31, 34, 35], [.inl (ia_aload 0), .inl (ia_const (.int 0)), .inl (ia_putI 8 13), .inl (ia_iload 1), .inl ia_i2l, .inl (ia_const (.long 0)), .inl (ia_aload 0), .inl (ia_getI 8 12), .inl (ia_const (.int 1)), .inl (ia_i2 fun x y => x - y), .inl ia_i2l, .inr (.inl (69, 3, 100)), .inl (ia_ifeq 18), .inl (ia_aload 0), .inl (ia_getR 8 11), .inl (ia_iload 1), .inl ia_lald, .inl (ia_goto 21), .inl (ia_aload 0), .inr (.inl (70, 1, 8)), .inl ia_i2l, .inr (.inr 3)])
/-- C$History  CardsAndBans$History(); -/
def mt_172 : is_M := (⟨"CardsAndBans$History", "<init>", "()V"⟩, prog_2_method_1_code, 1, none, 1, 20, [0, 1, 4, 5, 7, 10, 13], [.inl (ia_aload 0), .inl ia_oinit, .inl (ia_aload 0), .inl (ia_const (.int 8)), .inl (ia_newa 4), .inl (ia_putR 6 0), .inr (.inr 0)])
/-- C$History void forget(); -/
def mt_173 : is_M := (⟨"CardsAndBans$History", "forget", "()V"⟩, prog_2_method_2_code, 1, none, 0, 0, [0, 1, 2, 5], [.inl (ia_aload 0), .inl (ia_const (.int 0)), .inl (ia_putI 6 2), .inr (.inr 0)])
/-- C$History void keep(CardsAndBans$State); -/
def mt_174 : is_M := (⟨"CardsAndBans$History", "keep", "(LCardsAndBans$State;)V"⟩, prog_2_method_3_code, 3, none, 2, 47, [0, 1, 4, 5, 8, 9, 10, 11, 14, 17, 18, 21, 22, 23, 26, 27, 30, 31, 32, 33, 34, 37, 38, 39, 42, 43, 44, 46, 47, 50, 51, 52, 55, 56, 57, 59, 62, 65], [.inl (ia_aload 0), .inl (ia_getR 6 0), .inl (ia_aload 0), .inl (ia_getI 6 1), .inl ia_rald, .inl (ia_astore 2), .inl (ia_aload 2), .inl (ia_nonnull 18), .inl (ia_newo 5 11 [.int 0, .int 0, .int 0, .int 0, .null, .null, .null, .null, .null, .null, .null]), .inl ia_dup, .inr (.inl (204, 1, 101)), .inl (ia_astore 2), .inl (ia_aload 0), .inl (ia_getR 6 0), .inl (ia_aload 0), .inl (ia_getI 6 1), .inl (ia_aload 2), .inl ia_rast, .inl (ia_aload 2), .inl (ia_aload 1), .inr (.inl (205, 2, 5)), .inl (ia_aload 0), .inl (ia_aload 0), .inl (ia_getI 6 1), .inl (ia_const (.int 1)), .inl (ia_i2 fun x y => x + y), .inl (ia_const (.int 8)), .inl (ia_i2z fun x y => x - x / y * y), .inl (ia_putI 6 1), .inl (ia_aload 0), .inl (ia_aload 0), .inl (ia_getI 6 2), .inl (ia_const (.int 1)), .inl (ia_i2 fun x y => x + y), .inl (ia_const (.int 8)), .inl ia_min, .inl (ia_putI 6 2), .inr (.inr 0)])
/-- C$History boolean takeBack(CardsAndBans$State); -/
def mt_175 : is_M := (⟨"CardsAndBans$History", "takeBack", "(LCardsAndBans$State;)Z"⟩, prog_2_method_4_code, 4, some (.boolean), 2, 47, [0, 1, 4, 7, 8, 9, 10, 13, 15, 16, 17, 18, 20, 21, 22, 23, 26, 27, 28, 29, 30, 33, 34, 35, 36, 37, 40, 41, 42, 45, 46, 47, 50, 51, 52, 55, 56], [.inl (ia_aload 0), .inl (ia_getI 6 2), .inl (ia_ifne 5), .inl (ia_const (.int 0)), .inr (.inr 2), .inl (ia_aload 0), .inl (ia_getI 6 1), .inl (ia_const (.int 8)), .inl (ia_i2 fun x y => x + y), .inl (ia_const (.int 1)), .inl (ia_i2 fun x y => x - y), .inl (ia_const (.int 8)), .inl (ia_i2z fun x y => x - x / y * y), .inl (ia_istore 2), .inl (ia_aload 0), .inl (ia_getR 6 0), .inl (ia_iload 2), .inl ia_rald, .inl (ia_astore 3), .inl (ia_aload 3), .inl (ia_nonnull 23), .inl (ia_const (.int 0)), .inr (.inr 2), .inl (ia_aload 1), .inl (ia_aload 3), .inr (.inl (205, 2, 5)), .inl (ia_aload 0), .inl (ia_iload 2), .inl (ia_putI 6 1), .inl (ia_aload 0), .inl ia_dup, .inl (ia_getI 6 2), .inl (ia_const (.int 1)), .inl (ia_i2 fun x y => x - y), .inl (ia_putI 6 2), .inl (ia_const (.int 1)), .inr (.inr 2)])
/-- C$Items  CardsAndBans$Items(); -/
def mt_176 : is_M := (⟨"CardsAndBans$Items", "<init>", "()V"⟩, prog_3_method_1_code, 1, none, 1, 20, [0, 1, 4, 5, 8, 10, 13], [.inl (ia_aload 0), .inl ia_oinit, .inl (ia_aload 0), .inl (ia_const (.int 201)), .inl (ia_newa 0), .inl (ia_putR 2 0), .inr (.inr 0)])
/-- C$Items void clear(); -/
def mt_177 : is_M := (⟨"CardsAndBans$Items", "clear", "()V"⟩, prog_3_method_2_code, 1, none, 0, 0, [0, 1, 2, 5], [.inl (ia_aload 0), .inl (ia_const (.int 0)), .inl (ia_putI 2 1), .inr (.inr 0)])
/-- C$Items void add(int, int, int); -/
def mt_178 : is_M := (⟨"CardsAndBans$Items", "add", "(III)V"⟩, prog_3_method_3_code, 5, none, 0, 0, [0, 1, 4, 6, 9, 10, 13, 14, 15, 17, 18, 21, 23, 24, 25, 26, 29, 31, 32, 33, 34, 35, 36, 39, 41, 42, 43, 44, 45, 46, 47, 50, 51, 52, 55], [.inl (ia_aload 0), .inl (ia_getI 2 1), .inl (ia_const (.int 67)), .inl (ia_ige 34), .inl (ia_aload 0), .inl (ia_getI 2 1), .inl (ia_const (.int 3)), .inl (ia_i2 fun x y => x * y), .inl (ia_istore 4), .inl (ia_aload 0), .inl (ia_getR 2 0), .inl (ia_iload 4), .inl (ia_iload 1), .inl ia_iast, .inl (ia_aload 0), .inl (ia_getR 2 0), .inl (ia_iload 4), .inl (ia_const (.int 1)), .inl (ia_i2 fun x y => x + y), .inl (ia_iload 2), .inl ia_iast, .inl (ia_aload 0), .inl (ia_getR 2 0), .inl (ia_iload 4), .inl (ia_const (.int 2)), .inl (ia_i2 fun x y => x + y), .inl (ia_iload 3), .inl ia_iast, .inl (ia_aload 0), .inl ia_dup, .inl (ia_getI 2 1), .inl (ia_const (.int 1)), .inl (ia_i2 fun x y => x + y), .inl (ia_putI 2 1), .inr (.inr 0)])
/-- C$Items int first(int); -/
def mt_179 : is_M := (⟨"CardsAndBans$Items", "first", "(I)I"⟩, prog_3_method_4_code, 2, some (.int), 0, 0, [0, 1, 4, 5, 6, 7, 8], [.inl (ia_aload 0), .inl (ia_getR 2 0), .inl (ia_iload 1), .inl (ia_const (.int 3)), .inl (ia_i2 fun x y => x * y), .inl ia_iald, .inr (.inr 1)])
/-- C$Items int second(int); -/
def mt_180 : is_M := (⟨"CardsAndBans$Items", "second", "(I)I"⟩, prog_3_method_5_code, 2, some (.int), 0, 0, [0, 1, 4, 5, 6, 7, 8, 9, 10], [.inl (ia_aload 0), .inl (ia_getR 2 0), .inl (ia_iload 1), .inl (ia_const (.int 3)), .inl (ia_i2 fun x y => x * y), .inl (ia_const (.int 1)), .inl (ia_i2 fun x y => x + y), .inl ia_iald, .inr (.inr 1)])
/-- C$Items int third(int); -/
def mt_181 : is_M := (⟨"CardsAndBans$Items", "third", "(I)I"⟩, prog_3_method_6_code, 2, some (.int), 0, 0, [0, 1, 4, 5, 6, 7, 8, 9, 10], [.inl (ia_aload 0), .inl (ia_getR 2 0), .inl (ia_iload 1), .inl (ia_const (.int 3)), .inl (ia_i2 fun x y => x * y), .inl (ia_const (.int 2)), .inl (ia_i2 fun x y => x + y), .inl ia_iald, .inr (.inr 1)])
/-- C$Match CardsAndBans$Match(CardsAndBans$State, CardsAndBans$Rules, int, int, int); -/
def mt_182 : is_M := (⟨"CardsAndBans$Match", "<init>", "(LCardsAndBans$State;LCardsAndBans$Rules;III)V"⟩, prog_4_method_1_code, 6, none, 1, 20, [0, 1, 4, 5, 6, 9, 10, 11, 14, 15, 16, 19, 20, 22, 25, 26, 28, 31], [.inl (ia_aload 0), .inl ia_oinit, .inl (ia_aload 0), .inl (ia_aload 1), .inl (ia_putR 7 0), .inl (ia_aload 0), .inl (ia_aload 2), .inl (ia_putR 7 1), .inl (ia_aload 0), .inl (ia_iload 3), .inl (ia_putI 7 2), .inl (ia_aload 0), .inl (ia_iload 4), .inl (ia_putI 7 3), .inl (ia_aload 0), .inl (ia_iload 5), .inl (ia_putI 7 4), .inr (.inr 0)])
/-- C$Match int begin(); -/
def mt_183 : is_M := (⟨"CardsAndBans$Match", "begin", "()I"⟩, prog_4_method_2_code, 2, some (.int), 5, 115, [0, 1, 4, 5, 8, 9, 10, 13, 14, 15, 18, 19, 22, 23, 26, 29, 30, 33, 34, 37, 38, 41, 44, 45, 48, 49, 50, 51, 52, 55, 58, 61, 62, 65, 66, 69, 72, 73, 76, 77, 78, 81, 84, 85, 88, 91, 92, 95, 98], [.inl (ia_aload 0), .inl (ia_getR 7 0), .inl ia_dup, .inl (ia_getI 5 1), .inl (ia_const (.int 1)), .inl (ia_i2 fun x y => x + y), .inl (ia_putI 5 1), .inl (ia_aload 0), .inl (ia_aload 0), .inl (ia_getR 7 0), .inl (ia_aload 0), .inl (ia_getI 7 3), .inl (ia_aload 0), .inl (ia_getI 7 2), .inr (.inl (226, 3, 5)), .inl (ia_aload 0), .inl (ia_getR 7 0), .inl (ia_aload 0), .inl (ia_getI 7 4), .inl (ia_aload 0), .inl (ia_getI 7 2), .inr (.inl (226, 3, 5)), .inl (ia_i2 fun x y => x ||| y), .inl (ia_putI 7 5), .inl (ia_const (.int 0)), .inl (ia_istore 1), .inl (ia_iload 1), .inl (ia_aload 0), .inl (ia_getR 7 0), .inl (ia_getI 5 0), .inl (ia_ige 45), .inl (ia_aload 0), .inl (ia_getI 7 5), .inl (ia_iload 1), .inr (.inl (55, 2, 100)), .inl (ia_ifeq 43), .inl (ia_aload 0), .inl (ia_getR 7 0), .inl (ia_iload 1), .inl (ia_aload 0), .inl (ia_getI 7 2), .inr (.inl (231, 3, 5)), .inl ia_pop, .inl (ia_iinc 1 1), .inl (ia_goto 26), .inl (ia_aload 0), .inl (ia_getI 7 5), .inr (.inl (257, 1, 100)), .inr (.inr 1)])
/-- C$Match int show(int, int); -/
def mt_184 : is_M := (⟨"CardsAndBans$Match", "show", "(II)I"⟩, prog_4_method_3_code, 5, some (.int), 4, 89, [0, 1, 4, 7, 8, 9, 10, 11, 12, 15, 18, 19, 20, 23, 26, 28, 29, 30, 33, 34, 37, 38, 39, 42, 45, 47, 48, 49, 50, 51, 54, 56, 58, 61, 62, 65, 68, 70, 73, 75, 76, 77, 80, 81, 82, 85, 86, 87, 90, 91, 94, 95, 98, 101, 102, 103, 106, 107, 110, 111, 114, 115, 118, 119, 120, 123, 124, 127, 128, 131, 132, 133, 136, 137, 140, 141, 144, 147, 148, 151, 152, 155, 156, 157, 160, 161, 164, 165, 168, 170, 173, 174, 177, 178, 179, 182, 184, 185, 188, 189, 192, 193, 196, 199, 200, 201], [.inl (ia_aload 0), .inl (ia_getR 7 0), .inl (ia_getR 5 4), .inl (ia_iload 2), .inl ia_iald, .inl (ia_istore 3), .inl (ia_iload 3), .inl (ia_aload 0), .inl (ia_getI 7 3), .inl (ia_ieq 16), .inl (ia_iload 3), .inl (ia_aload 0), .inl (ia_getI 7 4), .inl (ia_ieq 16), .inl (ia_const (.int (-2))), .inr (.inr 1), .inl (ia_aload 0), .inl (ia_getI 7 5), .inl (ia_aload 0), .inl (ia_getI 7 7), .inl (ia_i2 fun x y => x ||| y), .inl (ia_iload 2), .inr (.inl (55, 2, 100)), .inl (ia_ifeq 26), .inl (ia_const (.int (-3))), .inr (.inr 1), .inl (ia_aload 0), .inl (ia_iload 1), .inl (ia_iload 2), .inr (.inl (185, 3, 7)), .inl (ia_istore 4), .inl (ia_iload 4), .inl (ia_ifle 40), .inl (ia_aload 0), .inl (ia_getR 7 0), .inl (ia_getI 5 2), .inl (ia_const (.int 100)), .inl (ia_ilt 40), .inl (ia_const (.int (-4))), .inr (.inr 1), .inl (ia_aload 0), .inl (ia_getR 7 0), .inl (ia_iload 2), .inl (ia_iload 1), .inr (.inl (214, 3, 5)), .inl (ia_iload 1), .inl (ia_const (.int 1)), .inl (ia_ieq 53), .inl (ia_aload 0), .inl (ia_getI 7 6), .inl (ia_iload 2), .inr (.inl (55, 2, 100)), .inl (ia_ifeq 65), .inl (ia_aload 0), .inl ia_dup, .inl (ia_getI 7 7), .inl (ia_iload 2), .inr (.inl (54, 1, 100)), .inl (ia_i2 fun x y => x ||| y), .inl (ia_putI 7 7), .inl (ia_aload 0), .inl (ia_getR 7 0), .inl (ia_iload 2), .inl (ia_const (.int 2)), .inr (.inl (214, 3, 5)), .inl (ia_iload 1), .inl (ia_ifne 88), .inl (ia_aload 0), .inl (ia_getR 7 0), .inl (ia_iload 2), .inl (ia_aload 0), .inl (ia_getI 7 2), .inl (ia_aload 0), .inl (ia_getI 7 6), .inl (ia_iload 2), .inr (.inl (55, 2, 100)), .inl (ia_ifeq 79), .inl (ia_const (.int (-1))), .inl (ia_goto 80), .inl (ia_const (.int 1)), .inr (.inl (209, 4, 5)), .inl (ia_aload 0), .inl ia_dup, .inl (ia_getI 7 6), .inl (ia_iload 2), .inr (.inl (54, 1, 100)), .inl (ia_i2 fun x y => x ||| y), .inl (ia_putI 7 6), .inl (ia_iload 4), .inl (ia_ifle 104), .inl (ia_aload 0), .inl (ia_getR 7 0), .inl (ia_iload 2), .inl (ia_aload 0), .inl (ia_getI 7 2), .inl (ia_iload 4), .inl (ia_aload 0), .inl (ia_getR 7 1), .inl (ia_aload 0), .inl (ia_getI 7 2), .inl (ia_const (.int 0)), .inr (.inl (195, 3, 4)), .inr (.inl (230, 5, 5)), .inl ia_pop, .inl (ia_const (.int 0)), .inr (.inr 1)])
/-- C$Match  int banBy(int, int); -/
def mt_185 : is_M := (⟨"CardsAndBans$Match", "banBy", "(II)I"⟩, prog_4_method_4_code, 3, some (.int), 3, 67, [0, 1, 2, 5, 6, 9, 10, 13, 14, 17, 18, 19, 22, 23, 26, 29, 30, 33, 34, 37, 38, 41, 42, 45, 46, 47, 50, 53, 54, 55, 58], [.inl (ia_iload 1), .inl (ia_const (.int 1)), .inl (ia_ine 10), .inl (ia_aload 0), .inl (ia_getR 7 1), .inl (ia_aload 0), .inl (ia_getI 7 2), .inl (ia_const (.int 1)), .inr (.inl (195, 3, 4)), .inr (.inr 1), .inl (ia_aload 0), .inl (ia_getI 7 6), .inl (ia_iload 2), .inr (.inl (55, 2, 100)), .inl (ia_ifeq 17), .inl (ia_const (.int 1)), .inl (ia_goto 30), .inl (ia_aload 0), .inl (ia_getR 7 1), .inl (ia_aload 0), .inl (ia_getI 7 2), .inl (ia_aload 0), .inl (ia_getR 7 0), .inl (ia_iload 2), .inl (ia_aload 0), .inl (ia_getI 7 2), .inr (.inl (208, 3, 5)), .inl (ia_const (.int 1)), .inl (ia_i2 fun x y => x + y), .inr (.inl (201, 3, 4)), .inr (.inr 1)])
/-- C$Match void finish(); -/
def mt_186 : is_M := (⟨"CardsAndBans$Match", "finish", "()V"⟩, prog_4_method_5_code, 1, none, 3, 65, [0, 1, 2, 5, 8, 9, 10, 13, 16], [.inl (ia_aload 0), .inl (ia_aload 0), .inl (ia_getI 7 3), .inr (.inl (187, 2, 7)), .inl (ia_aload 0), .inl (ia_aload 0), .inl (ia_getI 7 4), .inr (.inl (187, 2, 7)), .inr (.inr 0)])
/-- C$Match  void finishOf(int); -/
def mt_187 : is_M := (⟨"CardsAndBans$Match", "finishOf", "(I)V"⟩, prog_4_method_6_code, 2, none, 2, 44, [0, 1, 4, 5, 8, 9, 12, 13, 14, 17, 20, 23, 26, 27, 30, 31, 32, 35, 38], [.inl (ia_aload 0), .inl (ia_getR 7 1), .inl (ia_aload 0), .inl (ia_getI 7 2), .inl (ia_aload 0), .inl (ia_getR 7 0), .inl (ia_iload 1), .inl (ia_aload 0), .inl (ia_getI 7 2), .inr (.inl (212, 3, 5)), .inr (.inl (203, 3, 4)), .inl (ia_ifeq 18), .inl (ia_aload 0), .inl (ia_getR 7 0), .inl (ia_iload 1), .inl (ia_aload 0), .inl (ia_getI 7 2), .inr (.inl (213, 3, 5)), .inr (.inr 0)])
/-- C$Row  CardsAndBans$Row(); -/
def mt_188 : is_M := (⟨"CardsAndBans$Row", "<init>", "()V"⟩, prog_5_method_1_code, 1, none, 1, 20, [0, 1, 4, 5, 7, 9, 12], [.inl (ia_aload 0), .inl ia_oinit, .inl (ia_aload 0), .inl (ia_const (.int 100)), .inl (ia_newa 0), .inl (ia_putR 3 0), .inr (.inr 0)])
/-- C$Row CardsAndBans$Row restart(); -/
def mt_189 : is_M := (⟨"CardsAndBans$Row", "restart", "()LCardsAndBans$Row;"⟩, prog_5_method_2_code, 1, some (.object "CardsAndBans$Row"), 0, 0, [0, 1, 2, 5, 6], [.inl (ia_aload 0), .inl (ia_const (.int 0)), .inl (ia_putI 3 1), .inl (ia_aload 0), .inr (.inr 4)])
/-- C$Row CardsAndBans$Row add(int); -/
def mt_190 : is_M := (⟨"CardsAndBans$Row", "add", "(I)LCardsAndBans$Row;"⟩, prog_5_method_3_code, 2, some (.object "CardsAndBans$Row"), 0, 0, [0, 1, 4, 5, 8, 9, 12, 13, 16, 17, 20, 21, 22, 23, 24, 27, 28, 29, 32, 33], [.inl (ia_aload 0), .inl (ia_getI 3 1), .inl (ia_aload 0), .inl (ia_getR 3 0), .inl ia_alen, .inl (ia_ige 18), .inl (ia_aload 0), .inl (ia_getR 3 0), .inl (ia_aload 0), .inl (ia_getI 3 1), .inl (ia_iload 1), .inl ia_iast, .inl (ia_aload 0), .inl ia_dup, .inl (ia_getI 3 1), .inl (ia_const (.int 1)), .inl (ia_i2 fun x y => x + y), .inl (ia_putI 3 1), .inl (ia_aload 0), .inr (.inr 4)])
/-- C$Row int at(int); -/
def mt_191 : is_M := (⟨"CardsAndBans$Row", "at", "(I)I"⟩, prog_5_method_4_code, 2, some (.int), 0, 0, [0, 1, 4, 5, 6, 9, 12, 13, 16, 17, 18, 21, 22], [.inl (ia_iload 1), .inl (ia_iflt 11), .inl (ia_iload 1), .inl (ia_aload 0), .inl (ia_getI 3 1), .inl (ia_ige 11), .inl (ia_aload 0), .inl (ia_getR 3 0), .inl (ia_iload 1), .inl ia_iald, .inl (ia_goto 12), .inl (ia_const (.int (-1))), .inr (.inr 1)])
/-- C$Rules CardsAndBans$Rules(); -/
def mt_192 : is_M := (⟨"CardsAndBans$Rules", "<init>", "()V"⟩, prog_6_method_1_code, 1, none, 2, 44, [0, 1, 4, 5, 7, 9, 12, 13, 16], [.inl (ia_aload 0), .inl ia_oinit, .inl (ia_aload 0), .inl (ia_const (.int 48)), .inl (ia_newa 0), .inl (ia_putR 4 0), .inl (ia_aload 0), .inr (.inl (193, 1, 4)), .inr (.inr 0)])
/-- C$Rules void reset(); -/
def mt_193 : is_M := (⟨"CardsAndBans$Rules", "reset", "()V"⟩, prog_6_method_2_code, 2, none, 1, 23, [0, 1, 4, 5, 8, 9, 10, 11, 12, 15, 16, 17, 18, 19, 22, 25, 28], [.inl (ia_aload 0), .inl (ia_getR 4 0), .inl (ia_const (.int 0)), .inr (.inl (256, 2, 100)), .inl (ia_const (.int 0)), .inl (ia_istore 1), .inl (ia_iload 1), .inl (ia_const (.int 4)), .inl (ia_ige 16), .inl (ia_aload 0), .inl (ia_iload 1), .inl (ia_const (.int 1)), .inl (ia_const (.int 1)), .inr (.inl (196, 4, 4)), .inl (ia_iinc 1 1), .inl (ia_goto 6), .inr (.inr 0)])
/-- C$Rules void copyFrom(CardsAndBans$Rules); -/
def mt_194 : is_M := (⟨"CardsAndBans$Rules", "copyFrom", "(LCardsAndBans$Rules;)V"⟩, prog_6_method_3_code, 2, none, 1, 26, [0, 1, 4, 5, 6, 9, 10, 11, 14, 15, 18], [.inl (ia_aload 1), .inl (ia_getR 4 0), .inl (ia_const (.int 0)), .inl (ia_aload 0), .inl (ia_getR 4 0), .inl (ia_const (.int 0)), .inl (ia_aload 0), .inl (ia_getR 4 0), .inl ia_alen, .inl ia_copy, .inr (.inr 0)])
/-- C$Rules int number(int, int); -/
def mt_195 : is_M := (⟨"CardsAndBans$Rules", "number", "(II)I"⟩, prog_6_method_4_code, 3, some (.int), 0, 0, [0, 1, 4, 5, 7, 8, 9, 10, 11], [.inl (ia_aload 0), .inl (ia_getR 4 0), .inl (ia_iload 1), .inl (ia_const (.int 12)), .inl (ia_i2 fun x y => x * y), .inl (ia_iload 2), .inl (ia_i2 fun x y => x + y), .inl ia_iald, .inr (.inr 1)])
/-- C$Rules void set(int, int, int); -/
def mt_196 : is_M := (⟨"CardsAndBans$Rules", "set", "(III)V"⟩, prog_6_method_5_code, 4, none, 0, 0, [0, 1, 4, 5, 7, 8, 9, 10, 11, 12], [.inl (ia_aload 0), .inl (ia_getR 4 0), .inl (ia_iload 1), .inl (ia_const (.int 12)), .inl (ia_i2 fun x y => x * y), .inl (ia_iload 2), .inl (ia_i2 fun x y => x + y), .inl (ia_iload 3), .inl ia_iast, .inr (.inr 0)])
/-- C$Rules int steps(int); -/
def mt_197 : is_M := (⟨"CardsAndBans$Rules", "steps", "(I)I"⟩, prog_6_method_6_code, 2, some (.int), 1, 22, [0, 1, 2, 3, 6], [.inl (ia_aload 0), .inl (ia_iload 1), .inl (ia_const (.int 3)), .inr (.inl (195, 3, 4)), .inr (.inr 1)])
/-- C$Rules int stepCautions(int, int); -/
def mt_198 : is_M := (⟨"CardsAndBans$Rules", "stepCautions", "(II)I"⟩, prog_6_method_7_code, 3, some (.int), 1, 22, [0, 1, 2, 3, 4, 5, 6, 7, 10], [.inl (ia_aload 0), .inl (ia_iload 1), .inl (ia_const (.int 4)), .inl (ia_const (.int 2)), .inl (ia_iload 2), .inl (ia_i2 fun x y => x * y), .inl (ia_i2 fun x y => x + y), .inr (.inl (195, 3, 4)), .inr (.inr 1)])
/-- C$Rules int stepMatches(int, int); -/
def mt_199 : is_M := (⟨"CardsAndBans$Rules", "stepMatches", "(II)I"⟩, prog_6_method_8_code, 3, some (.int), 1, 22, [0, 1, 2, 3, 4, 5, 6, 7, 8, 9, 12], [.inl (ia_aload 0), .inl (ia_iload 1), .inl (ia_const (.int 4)), .inl (ia_const (.int 2)), .inl (ia_iload 2), .inl (ia_i2 fun x y => x * y), .inl (ia_i2 fun x y => x + y), .inl (ia_const (.int 1)), .inl (ia_i2 fun x y => x + y), .inr (.inl (195, 3, 4)), .inr (.inr 1)])
/-- C$Rules void addStep(int, int, int); -/
def mt_200 : is_M := (⟨"CardsAndBans$Rules", "addStep", "(III)V"⟩, prog_6_method_9_code, 5, none, 2, 43, [0, 1, 2, 5, 7, 9, 10, 13, 14, 15, 16, 17, 19, 20, 21, 22, 25, 26, 27, 28, 29, 31, 32, 33, 34, 35, 36, 39, 40, 41, 42, 44, 45, 46, 49], [.inl (ia_aload 0), .inl (ia_iload 1), .inr (.inl (197, 2, 4)), .inl (ia_istore 4), .inl (ia_iload 4), .inl (ia_const (.int 4)), .inl (ia_ige 34), .inl (ia_aload 0), .inl (ia_iload 1), .inl (ia_const (.int 4)), .inl (ia_const (.int 2)), .inl (ia_iload 4), .inl (ia_i2 fun x y => x * y), .inl (ia_i2 fun x y => x + y), .inl (ia_iload 2), .inr (.inl (196, 4, 4)), .inl (ia_aload 0), .inl (ia_iload 1), .inl (ia_const (.int 4)), .inl (ia_const (.int 2)), .inl (ia_iload 4), .inl (ia_i2 fun x y => x * y), .inl (ia_i2 fun x y => x + y), .inl (ia_const (.int 1)), .inl (ia_i2 fun x y => x + y), .inl (ia_iload 3), .inr (.inl (196, 4, 4)), .inl (ia_aload 0), .inl (ia_iload 1), .inl (ia_const (.int 3)), .inl (ia_iload 4), .inl (ia_const (.int 1)), .inl (ia_i2 fun x y => x + y), .inr (.inl (196, 4, 4)), .inr (.inr 0)])
/-- C$Rules int banAt(int, int); -/
def mt_201 : is_M := (⟨"CardsAndBans$Rules", "banAt", "(II)I"⟩, prog_6_method_10_code, 4, some (.int), 2, 44, [0, 1, 2, 3, 4, 5, 8, 11, 12, 13, 14, 17, 18, 21, 22, 23, 24, 27, 28, 31, 34, 35], [.inl (ia_const (.int 0)), .inl (ia_istore 3), .inl (ia_iload 3), .inl (ia_aload 0), .inl (ia_iload 1), .inr (.inl (197, 2, 4)), .inl (ia_ige 20), .inl (ia_aload 0), .inl (ia_iload 1), .inl (ia_iload 3), .inr (.inl (198, 3, 4)), .inl (ia_iload 2), .inl (ia_ine 18), .inl (ia_aload 0), .inl (ia_iload 1), .inl (ia_iload 3), .inr (.inl (199, 3, 4)), .inr (.inr 1), .inl (ia_iinc 3 1), .inl (ia_goto 2), .inl (ia_const (.int 0)), .inr (.inr 1)])
/-- C$Rules int nextStep(int, int); -/
def mt_202 : is_M := (⟨"CardsAndBans$Rules", "nextStep", "(II)I"⟩, prog_6_method_11_code, 4, some (.int), 2, 44, [0, 1, 2, 3, 4, 5, 8, 11, 12, 13, 14, 17, 18, 21, 22, 23, 26, 29, 30], [.inl (ia_const (.int 0)), .inl (ia_istore 3), .inl (ia_iload 3), .inl (ia_aload 0), .inl (ia_iload 1), .inr (.inl (197, 2, 4)), .inl (ia_ige 17), .inl (ia_aload 0), .inl (ia_iload 1), .inl (ia_iload 3), .inr (.inl (198, 3, 4)), .inl (ia_iload 2), .inl (ia_ile 15), .inl (ia_iload 3), .inr (.inr 1), .inl (ia_iinc 3 1), .inl (ia_goto 2), .inl (ia_const (.int (-1))), .inr (.inr 1)])
/-- C$Rules boolean isWipedAt(int, int); -/
def mt_203 : is_M := (⟨"CardsAndBans$Rules", "isWipedAt", "(II)Z"⟩, prog_6_method_12_code, 3, some (.boolean), 1, 22, [0, 1, 4, 5, 6, 7, 8, 11, 14, 15, 18, 19], [.inl (ia_iload 2), .inl (ia_ifle 10), .inl (ia_iload 2), .inl (ia_aload 0), .inl (ia_iload 1), .inl (ia_const (.int 2)), .inr (.inl (195, 3, 4)), .inl (ia_ine 10), .inl (ia_const (.int 1)), .inl (ia_goto 11), .inl (ia_const (.int 0)), .inr (.inr 2)])
/-- C$State  CardsAndBans$State(); -/
def mt_204 : is_M := (⟨"CardsAndBans$State", "<init>", "()V"⟩, prog_7_method_1_code, 1, none, 1, 20, [0, 1, 4, 5, 7, 9, 12, 13, 15, 17, 20, 21, 23, 25, 28, 29, 31, 33, 36, 37, 39, 41, 44, 45, 48, 50, 53, 54, 57, 59, 62], [.inl (ia_aload 0), .inl ia_oinit, .inl (ia_aload 0), .inl (ia_const (.int 12)), .inl (ia_newa 0), .inl (ia_putR 5 4), .inl (ia_aload 0), .inl (ia_const (.int 48)), .inl (ia_newa 0), .inl (ia_putR 5 5), .inl (ia_aload 0), .inl (ia_const (.int 16)), .inl (ia_newa 0), .inl (ia_putR 5 6), .inl (ia_aload 0), .inl (ia_const (.int 36)), .inl (ia_newa 0), .inl (ia_putR 5 7), .inl (ia_aload 0), .inl (ia_const (.int 12)), .inl (ia_newa 0), .inl (ia_putR 5 8), .inl (ia_aload 0), .inl (ia_const (.int 800)), .inl (ia_newa 0), .inl (ia_putR 5 9), .inl (ia_aload 0), .inl (ia_const (.int 180)), .inl (ia_newa 0), .inl (ia_putR 5 10), .inr (.inr 0)])
/-- C$State void copyFrom(CardsAndBans$State); -/
def mt_205 : is_M := (⟨"CardsAndBans$State", "copyFrom", "(LCardsAndBans$State;)V"⟩, prog_7_method_2_code, 2, none, 1, 26, [0, 1, 2, 5, 8, 9, 10, 13, 16, 17, 18, 21, 24, 25, 26, 29, 32, 33, 36, 37, 38, 41, 42, 43, 46, 47, 50, 51, 54, 55, 56, 59, 60, 61, 64, 65, 68, 69, 72, 73, 74, 77, 78, 79, 82, 83, 86, 87, 90, 91, 92, 95, 96, 97, 100, 101, 104, 105, 108, 109, 110, 113, 114, 115, 118, 119, 122, 123, 126, 127, 128, 131, 132, 133, 136, 137, 140, 141, 144, 145, 146, 149, 150, 151, 154, 155, 158], [.inl (ia_aload 0), .inl (ia_aload 1), .inl (ia_getI 5 0), .inl (ia_putI 5 0), .inl (ia_aload 0), .inl (ia_aload 1), .inl (ia_getI 5 1), .inl (ia_putI 5 1), .inl (ia_aload 0), .inl (ia_aload 1), .inl (ia_getI 5 2), .inl (ia_putI 5 2), .inl (ia_aload 0), .inl (ia_aload 1), .inl (ia_getI 5 3), .inl (ia_putI 5 3), .inl (ia_aload 1), .inl (ia_getR 5 4), .inl (ia_const (.int 0)), .inl (ia_aload 0), .inl (ia_getR 5 4), .inl (ia_const (.int 0)), .inl (ia_aload 0), .inl (ia_getR 5 4), .inl ia_alen, .inl ia_copy, .inl (ia_aload 1), .inl (ia_getR 5 5), .inl (ia_const (.int 0)), .inl (ia_aload 0), .inl (ia_getR 5 5), .inl (ia_const (.int 0)), .inl (ia_aload 0), .inl (ia_getR 5 5), .inl ia_alen, .inl ia_copy, .inl (ia_aload 1), .inl (ia_getR 5 6), .inl (ia_const (.int 0)), .inl (ia_aload 0), .inl (ia_getR 5 6), .inl (ia_const (.int 0)), .inl (ia_aload 0), .inl (ia_getR 5 6), .inl ia_alen, .inl ia_copy, .inl (ia_aload 1), .inl (ia_getR 5 7), .inl (ia_const (.int 0)), .inl (ia_aload 0), .inl (ia_getR 5 7), .inl (ia_const (.int 0)), .inl (ia_aload 0), .inl (ia_getR 5 7), .inl ia_alen, .inl ia_copy, .inl (ia_aload 1), .inl (ia_getR 5 8), .inl (ia_const (.int 0)), .inl (ia_aload 0), .inl (ia_getR 5 8), .inl (ia_const (.int 0)), .inl (ia_aload 0), .inl (ia_getR 5 8), .inl ia_alen, .inl ia_copy, .inl (ia_aload 1), .inl (ia_getR 5 9), .inl (ia_const (.int 0)), .inl (ia_aload 0), .inl (ia_getR 5 9), .inl (ia_const (.int 0)), .inl (ia_aload 0), .inl (ia_getR 5 9), .inl ia_alen, .inl ia_copy, .inl (ia_aload 1), .inl (ia_getR 5 10), .inl (ia_const (.int 0)), .inl (ia_aload 0), .inl (ia_getR 5 10), .inl (ia_const (.int 0)), .inl (ia_aload 0), .inl (ia_getR 5 10), .inl ia_alen, .inl ia_copy, .inr (.inr 0)])
/-- C$State void startWith(CardsAndBans$Items); -/
def mt_206 : is_M := (⟨"CardsAndBans$State", "startWith", "(LCardsAndBans$Items;)V"⟩, prog_7_method_3_code, 3, none, 1, 23, [0, 1, 2, 5, 7, 10, 13, 14, 15, 16, 17, 20, 23, 24, 27, 28, 29, 30, 33, 34, 37, 40, 41, 42, 45, 46, 47, 50, 51, 52, 55, 56, 59, 60, 63, 64, 67, 68, 71, 72, 75, 76, 79, 80, 83, 84, 87], [.inl (ia_aload 0), .inl (ia_aload 1), .inl (ia_getI 2 1), .inl (ia_const (.int 12)), .inl ia_min, .inl (ia_putI 5 0), .inl (ia_const (.int 0)), .inl (ia_istore 2), .inl (ia_iload 2), .inl (ia_aload 0), .inl (ia_getI 5 0), .inl (ia_ige 21), .inl (ia_aload 0), .inl (ia_getR 5 4), .inl (ia_iload 2), .inl (ia_aload 1), .inl (ia_iload 2), .inr (.inl (179, 2, 2)), .inl ia_iast, .inl (ia_iinc 2 1), .inl (ia_goto 8), .inl (ia_aload 0), .inl (ia_const (.int 0)), .inl (ia_putI 5 1), .inl (ia_aload 0), .inl (ia_const (.int 0)), .inl (ia_putI 5 2), .inl (ia_aload 0), .inl (ia_const (.int 0)), .inl (ia_putI 5 3), .inl (ia_aload 0), .inl (ia_getR 5 5), .inl (ia_const (.int 0)), .inr (.inl (256, 2, 100)), .inl (ia_aload 0), .inl (ia_getR 5 6), .inl (ia_const (.int 0)), .inr (.inl (256, 2, 100)), .inl (ia_aload 0), .inl (ia_getR 5 7), .inl (ia_const (.int 0)), .inr (.inl (256, 2, 100)), .inl (ia_aload 0), .inl (ia_getR 5 8), .inl (ia_const (.int 0)), .inr (.inl (256, 2, 100)), .inr (.inr 0)])
/-- C$State int membersOf(int); -/
def mt_207 : is_M := (⟨"CardsAndBans$State", "membersOf", "(I)I"⟩, prog_7_method_4_code, 4, some (.int), 1, 20, [0, 1, 2, 3, 4, 5, 6, 9, 12, 13, 16, 17, 18, 19, 22, 23, 24, 27, 28, 29, 32, 35, 36], [.inl (ia_const (.int 0)), .inl (ia_istore 2), .inl (ia_const (.int 0)), .inl (ia_istore 3), .inl (ia_iload 3), .inl (ia_aload 0), .inl (ia_getI 5 0), .inl (ia_ige 21), .inl (ia_aload 0), .inl (ia_getR 5 4), .inl (ia_iload 3), .inl ia_iald, .inl (ia_iload 1), .inl (ia_ine 19), .inl (ia_iload 2), .inl (ia_iload 3), .inr (.inl (54, 1, 100)), .inl (ia_i2 fun x y => x ||| y), .inl (ia_istore 2), .inl (ia_iinc 3 1), .inl (ia_goto 4), .inl (ia_iload 2), .inr (.inr 1)])
/-- C$State int cautionsOf(int, int); -/
def mt_208 : is_M := (⟨"CardsAndBans$State", "cautionsOf", "(II)I"⟩, prog_7_method_5_code, 3, some (.int), 0, 0, [0, 1, 4, 5, 6, 7, 8, 9, 10], [.inl (ia_aload 0), .inl (ia_getR 5 5), .inl (ia_iload 1), .inl (ia_const (.int 4)), .inl (ia_i2 fun x y => x * y), .inl (ia_iload 2), .inl (ia_i2 fun x y => x + y), .inl ia_iald, .inr (.inr 1)])
/-- C$State void addCaution(int, int, int); -/
def mt_209 : is_M := (⟨"CardsAndBans$State", "addCaution", "(III)V"⟩, prog_7_method_6_code, 4, none, 0, 0, [0, 1, 4, 5, 6, 7, 8, 9, 10, 11, 12, 13, 14], [.inl (ia_aload 0), .inl (ia_getR 5 5), .inl (ia_iload 1), .inl (ia_const (.int 4)), .inl (ia_i2 fun x y => x * y), .inl (ia_iload 2), .inl (ia_i2 fun x y => x + y), .inl ia_dup2, .inl ia_iald, .inl (ia_iload 3), .inl (ia_i2 fun x y => x + y), .inl ia_iast, .inr (.inr 0)])
/-- C$State int countCautions(); -/
def mt_210 : is_M := (⟨"CardsAndBans$State", "countCautions", "()I"⟩, prog_7_method_7_code, 3, some (.int), 0, 0, [0, 1, 2, 3, 4, 5, 6, 9, 10, 13, 14, 15, 18, 19, 20, 21, 22, 25, 28, 29], [.inl (ia_const (.int 0)), .inl (ia_istore 1), .inl (ia_const (.int 0)), .inl (ia_istore 2), .inl (ia_iload 2), .inl (ia_aload 0), .inl (ia_getR 5 5), .inl ia_alen, .inl (ia_ige 18), .inl (ia_iload 1), .inl (ia_aload 0), .inl (ia_getR 5 5), .inl (ia_iload 2), .inl ia_iald, .inl (ia_i2 fun x y => x + y), .inl (ia_istore 1), .inl (ia_iinc 2 1), .inl (ia_goto 4), .inl (ia_iload 1), .inr (.inr 1)])
/-- C$State int playedBy(int, int); -/
def mt_211 : is_M := (⟨"CardsAndBans$State", "playedBy", "(II)I"⟩, prog_7_method_8_code, 3, some (.int), 0, 0, [0, 1, 4, 5, 6, 7, 8, 9, 10], [.inl (ia_aload 0), .inl (ia_getR 5 6), .inl (ia_iload 1), .inl (ia_const (.int 4)), .inl (ia_i2 fun x y => x * y), .inl (ia_iload 2), .inl (ia_i2 fun x y => x + y), .inl ia_iald, .inr (.inr 1)])
/-- C$State int addPlayed(int, int); -/
def mt_212 : is_M := (⟨"CardsAndBans$State", "addPlayed", "(II)I"⟩, prog_7_method_9_code, 3, some (.int), 1, 22, [0, 1, 4, 5, 6, 7, 8, 9, 10, 11, 12, 13, 14, 15, 16, 17, 20], [.inl (ia_aload 0), .inl (ia_getR 5 6), .inl (ia_iload 1), .inl (ia_const (.int 4)), .inl (ia_i2 fun x y => x * y), .inl (ia_iload 2), .inl (ia_i2 fun x y => x + y), .inl ia_dup2, .inl ia_iald, .inl (ia_const (.int 1)), .inl (ia_i2 fun x y => x + y), .inl ia_iast, .inl (ia_aload 0), .inl (ia_iload 1), .inl (ia_iload 2), .inr (.inl (211, 3, 5)), .inr (.inr 1)])
/-- C$State void wipeCautions(int, int); -/
def mt_213 : is_M := (⟨"CardsAndBans$State", "wipeCautions", "(II)V"⟩, prog_7_method_10_code, 4, none, 0, 0, [0, 1, 2, 3, 4, 7, 10, 11, 14, 15, 16, 17, 20, 21, 24, 25, 26, 27, 28, 29, 30, 31, 34, 37], [.inl (ia_const (.int 0)), .inl (ia_istore 3), .inl (ia_iload 3), .inl (ia_aload 0), .inl (ia_getI 5 0), .inl (ia_ige 23), .inl (ia_aload 0), .inl (ia_getR 5 4), .inl (ia_iload 3), .inl ia_iald, .inl (ia_iload 1), .inl (ia_ine 21), .inl (ia_aload 0), .inl (ia_getR 5 5), .inl (ia_iload 3), .inl (ia_const (.int 4)), .inl (ia_i2 fun x y => x * y), .inl (ia_iload 2), .inl (ia_i2 fun x y => x + y), .inl (ia_const (.int 0)), .inl ia_iast, .inl (ia_iinc 3 1), .inl (ia_goto 2), .inr (.inr 0)])
/-- C$State void addCard(int, int); -/
def mt_214 : is_M := (⟨"CardsAndBans$State", "addCard", "(II)V"⟩, prog_7_method_11_code, 3, none, 0, 0, [0, 1, 4, 5, 6, 7, 8, 9, 10, 11, 12, 13, 14, 15, 18, 19, 22, 23, 24, 25, 26, 27, 28, 29, 30, 31, 32, 33], [.inl (ia_aload 0), .inl (ia_getR 5 7), .inl (ia_iload 1), .inl (ia_const (.int 3)), .inl (ia_i2 fun x y => x * y), .inl (ia_iload 2), .inl (ia_i2 fun x y => x + y), .inl ia_dup2, .inl ia_iald, .inl (ia_const (.int 1)), .inl (ia_i2 fun x y => x + y), .inl ia_iast, .inl (ia_aload 0), .inl (ia_getR 5 8), .inl (ia_aload 0), .inl (ia_getR 5 4), .inl (ia_iload 1), .inl ia_iald, .inl (ia_const (.int 3)), .inl (ia_i2 fun x y => x * y), .inl (ia_iload 2), .inl (ia_i2 fun x y => x + y), .inl ia_dup2, .inl ia_iald, .inl (ia_const (.int 1)), .inl (ia_i2 fun x y => x + y), .inl ia_iast, .inr (.inr 0)])
/-- C$State int pointsOf(int); -/
def mt_215 : is_M := (⟨"CardsAndBans$State", "pointsOf", "(I)I"⟩, prog_7_method_12_code, 3, some (.int), 0, 0, [0, 1, 2, 3, 4, 5, 8, 9, 10, 11, 12, 13, 14, 17, 18, 19, 20, 21, 22, 23], [.inl (ia_iload 1), .inl (ia_const (.int 3)), .inl (ia_i2 fun x y => x * y), .inl (ia_istore 2), .inl (ia_aload 0), .inl (ia_getR 5 8), .inl (ia_iload 2), .inl (ia_const (.int 0)), .inl (ia_i2 fun x y => x + y), .inl ia_iald, .inl (ia_const (.int 3)), .inl (ia_aload 0), .inl (ia_getR 5 8), .inl (ia_iload 2), .inl (ia_const (.int 1)), .inl (ia_i2 fun x y => x + y), .inl ia_iald, .inl (ia_i2 fun x y => x * y), .inl (ia_i2 fun x y => x + y), .inr (.inr 1)])
/-- C$State int number(int, int); -/
def mt_216 : is_M := (⟨"CardsAndBans$State", "number", "(II)I"⟩, prog_7_method_13_code, 3, some (.int), 0, 0, [0, 1, 4, 5, 7, 8, 9, 10, 11], [.inl (ia_aload 0), .inl (ia_getR 5 9), .inl (ia_iload 1), .inl (ia_const (.int 8)), .inl (ia_i2 fun x y => x * y), .inl (ia_iload 2), .inl (ia_i2 fun x y => x + y), .inl ia_iald, .inr (.inr 1)])
/-- C$State void set(int, int, int); -/
def mt_217 : is_M := (⟨"CardsAndBans$State", "set", "(III)V"⟩, prog_7_method_14_code, 4, none, 0, 0, [0, 1, 4, 5, 7, 8, 9, 10, 11, 12], [.inl (ia_aload 0), .inl (ia_getR 5 9), .inl (ia_iload 1), .inl (ia_const (.int 8)), .inl (ia_i2 fun x y => x * y), .inl (ia_iload 2), .inl (ia_i2 fun x y => x + y), .inl (ia_iload 3), .inl ia_iast, .inr (.inr 0)])
/-- C$State boolean isOpen(int); -/
def mt_218 : is_M := (⟨"CardsAndBans$State", "isOpen", "(I)Z"⟩, prog_7_method_15_code, 2, some (.boolean), 1, 22, [0, 1, 2, 3, 6, 9, 10, 13, 14], [.inl (ia_aload 0), .inl (ia_iload 1), .inl (ia_const (.int 2)), .inr (.inl (216, 3, 5)), .inl (ia_ifle 7), .inl (ia_const (.int 1)), .inl (ia_goto 8), .inl (ia_const (.int 0)), .inr (.inr 2)])
/-- C$State boolean isPending(int); -/
def mt_219 : is_M := (⟨"CardsAndBans$State", "isPending", "(I)Z"⟩, prog_7_method_16_code, 2, some (.boolean), 1, 22, [0, 1, 2, 3, 6, 7, 10, 11, 14, 15], [.inl (ia_aload 0), .inl (ia_iload 1), .inl (ia_const (.int 4)), .inr (.inl (216, 3, 5)), .inl (ia_const (.int 1)), .inl (ia_ine 8), .inl (ia_const (.int 1)), .inl (ia_goto 9), .inl (ia_const (.int 0)), .inr (.inr 2)])
/-- C$State boolean concerns(int, int, int); -/
def mt_220 : is_M := (⟨"CardsAndBans$State", "concerns", "(III)Z"⟩, prog_7_method_17_code, 4, some (.boolean), 1, 22, [0, 1, 2, 3, 6, 7, 10, 11, 12, 13, 16, 19, 20, 21, 22, 25, 26, 29, 30, 31, 32, 35, 36, 39, 40, 43, 44], [.inl (ia_aload 0), .inl (ia_iload 1), .inl (ia_const (.int 0)), .inr (.inl (216, 3, 5)), .inl (ia_iload 2), .inl (ia_ine 25), .inl (ia_aload 0), .inl (ia_iload 1), .inl (ia_const (.int 2)), .inr (.inl (216, 3, 5)), .inl (ia_ifle 25), .inl (ia_aload 0), .inl (ia_iload 1), .inl (ia_const (.int 3)), .inr (.inl (216, 3, 5)), .inl (ia_const (.int 1)), .inl (ia_ieq 23), .inl (ia_aload 0), .inl (ia_iload 1), .inl (ia_const (.int 1)), .inr (.inl (216, 3, 5)), .inl (ia_iload 3), .inl (ia_ine 25), .inl (ia_const (.int 1)), .inl (ia_goto 26), .inl (ia_const (.int 0)), .inr (.inr 2)])
/-- C$State boolean bars(int, int, int); -/
def mt_221 : is_M := (⟨"CardsAndBans$State", "bars", "(III)Z"⟩, prog_7_method_18_code, 4, some (.boolean), 2, 45, [0, 1, 2, 3, 4, 7, 10, 11, 12, 15, 18, 19, 22, 23], [.inl (ia_aload 0), .inl (ia_iload 1), .inl (ia_iload 2), .inl (ia_iload 3), .inr (.inl (220, 4, 5)), .inl (ia_ifeq 12), .inl (ia_aload 0), .inl (ia_iload 1), .inr (.inl (219, 2, 5)), .inl (ia_ifne 12), .inl (ia_const (.int 1)), .inl (ia_goto 13), .inl (ia_const (.int 0)), .inr (.inr 2)])
/-- C$State int firstBar(int, int); -/
def mt_222 : is_M := (⟨"CardsAndBans$State", "firstBar", "(II)I"⟩, prog_7_method_19_code, 4, some (.int), 3, 68, [0, 1, 2, 3, 4, 7, 10, 11, 12, 13, 14, 17, 20, 21, 22, 25, 28, 29], [.inl (ia_const (.int 0)), .inl (ia_istore 3), .inl (ia_iload 3), .inl (ia_aload 0), .inl (ia_getI 5 2), .inl (ia_ige 16), .inl (ia_aload 0), .inl (ia_iload 3), .inl (ia_iload 1), .inl (ia_iload 2), .inr (.inl (221, 4, 5)), .inl (ia_ifeq 14), .inl (ia_iload 3), .inr (.inr 1), .inl (ia_iinc 3 1), .inl (ia_goto 2), .inl (ia_const (.int (-1))), .inr (.inr 1)])
/-- C$State int barredMatches(int, int); -/
def mt_223 : is_M := (⟨"CardsAndBans$State", "barredMatches", "(II)I"⟩, prog_7_method_20_code, 5, some (.int), 3, 68, [0, 1, 2, 3, 5, 7, 8, 11, 14, 15, 16, 18, 19, 20, 23, 26, 27, 29, 30, 33, 36, 37, 38, 39, 42, 45, 46], [.inl (ia_const (.int 0)), .inl (ia_istore 3), .inl (ia_const (.int 0)), .inl (ia_istore 4), .inl (ia_iload 4), .inl (ia_aload 0), .inl (ia_getI 5 2), .inl (ia_ige 25), .inl (ia_iload 3), .inl (ia_aload 0), .inl (ia_iload 4), .inl (ia_iload 1), .inl (ia_iload 2), .inr (.inl (221, 4, 5)), .inl (ia_ifeq 20), .inl (ia_aload 0), .inl (ia_iload 4), .inl (ia_const (.int 2)), .inr (.inl (216, 3, 5)), .inl (ia_goto 21), .inl (ia_const (.int 0)), .inl (ia_i2 fun x y => x + y), .inl (ia_istore 3), .inl (ia_iinc 4 1), .inl (ia_goto 4), .inl (ia_iload 3), .inr (.inr 1)])
/-- C$State int pendingMatches(int, int); -/
def mt_224 : is_M := (⟨"CardsAndBans$State", "pendingMatches", "(II)I"⟩, prog_7_method_21_code, 5, some (.int), 2, 45, [0, 1, 2, 3, 5, 7, 8, 11, 14, 15, 16, 18, 19, 20, 23, 26, 27, 29, 32, 35, 36, 38, 39, 42, 45, 46, 47, 48, 51, 54, 55], [.inl (ia_const (.int 0)), .inl (ia_istore 3), .inl (ia_const (.int 0)), .inl (ia_istore 4), .inl (ia_iload 4), .inl (ia_aload 0), .inl (ia_getI 5 2), .inl (ia_ige 29), .inl (ia_iload 3), .inl (ia_aload 0), .inl (ia_iload 4), .inl (ia_iload 1), .inl (ia_iload 2), .inr (.inl (220, 4, 5)), .inl (ia_ifeq 24), .inl (ia_aload 0), .inl (ia_iload 4), .inr (.inl (219, 2, 5)), .inl (ia_ifeq 24), .inl (ia_aload 0), .inl (ia_iload 4), .inl (ia_const (.int 2)), .inr (.inl (216, 3, 5)), .inl (ia_goto 25), .inl (ia_const (.int 0)), .inl (ia_i2 fun x y => x + y), .inl (ia_istore 3), .inl (ia_iinc 4 1), .inl (ia_goto 4), .inl (ia_iload 3), .inr (.inr 1)])
/-- C$State int leftOf(int); -/
def mt_225 : is_M := (⟨"CardsAndBans$State", "leftOf", "(I)I"⟩, prog_7_method_22_code, 4, some (.int), 1, 22, [0, 1, 2, 3, 4, 5, 6, 9, 12, 13, 14, 15, 16, 19, 20, 23, 24, 25, 26, 29, 32, 33, 34, 35, 38, 41, 42], [.inl (ia_const (.int 0)), .inl (ia_istore 2), .inl (ia_const (.int 0)), .inl (ia_istore 3), .inl (ia_iload 3), .inl (ia_aload 0), .inl (ia_getI 5 2), .inl (ia_ige 25), .inl (ia_iload 2), .inl (ia_aload 0), .inl (ia_iload 3), .inl (ia_const (.int 0)), .inr (.inl (216, 3, 5)), .inl (ia_iload 1), .inl (ia_ine 20), .inl (ia_aload 0), .inl (ia_iload 3), .inl (ia_const (.int 2)), .inr (.inl (216, 3, 5)), .inl (ia_goto 21), .inl (ia_const (.int 0)), .inl (ia_i2 fun x y => x + y), .inl (ia_istore 2), .inl (ia_iinc 3 1), .inl (ia_goto 4), .inl (ia_iload 2), .inr (.inr 1)])
/-- C$State int outsOf(int, int); -/
def mt_226 : is_M := (⟨"CardsAndBans$State", "outsOf", "(II)I"⟩, prog_7_method_23_code, 5, some (.int), 4, 91, [0, 1, 2, 3, 5, 7, 8, 11, 14, 15, 18, 20, 21, 22, 25, 26, 28, 29, 32, 33, 36, 37, 39, 42, 43, 44, 47, 50, 51], [.inl (ia_const (.int 0)), .inl (ia_istore 3), .inl (ia_const (.int 0)), .inl (ia_istore 4), .inl (ia_iload 4), .inl (ia_aload 0), .inl (ia_getI 5 0), .inl (ia_ige 27), .inl (ia_aload 0), .inl (ia_getR 5 4), .inl (ia_iload 4), .inl ia_iald, .inl (ia_iload 1), .inl (ia_ine 25), .inl (ia_aload 0), .inl (ia_iload 4), .inl (ia_iload 2), .inr (.inl (222, 3, 5)), .inl (ia_const (.int (-1))), .inl (ia_ieq 25), .inl (ia_iload 3), .inl (ia_iload 4), .inr (.inl (54, 1, 100)), .inl (ia_i2 fun x y => x ||| y), .inl (ia_istore 3), .inl (ia_iinc 4 1), .inl (ia_goto 4), .inl (ia_iload 3), .inr (.inr 1)])
/-- C$State int outsOfSome(); -/
def mt_227 : is_M := (⟨"CardsAndBans$State", "outsOfSome", "()I"⟩, prog_7_method_24_code, 4, some (.int), 4, 91, [0, 1, 2, 3, 4, 5, 6, 9, 12, 13, 14, 15, 16, 19, 20, 21, 22, 23, 26, 27, 30, 31, 34, 37, 38, 39, 40, 43, 46, 49, 52, 53], [.inl (ia_const (.int 0)), .inl (ia_istore 1), .inl (ia_const (.int 0)), .inl (ia_istore 2), .inl (ia_iload 2), .inl (ia_aload 0), .inl (ia_getI 5 0), .inl (ia_ige 30), .inl (ia_const (.int 0)), .inl (ia_istore 3), .inl (ia_iload 3), .inl (ia_const (.int 4)), .inl (ia_ige 28), .inl (ia_iload 1), .inl (ia_aload 0), .inl (ia_iload 2), .inl (ia_iload 3), .inr (.inl (222, 3, 5)), .inl (ia_const (.int (-1))), .inl (ia_ieq 23), .inl (ia_iload 2), .inr (.inl (54, 1, 100)), .inl (ia_goto 24), .inl (ia_const (.int 0)), .inl (ia_i2 fun x y => x ||| y), .inl (ia_istore 1), .inl (ia_iinc 3 1), .inl (ia_goto 10), .inl (ia_iinc 2 1), .inl (ia_goto 4), .inl (ia_iload 1), .inr (.inr 1)])
/-- C$State int countOpen(); -/
def mt_228 : is_M := (⟨"CardsAndBans$State", "countOpen", "()I"⟩, prog_7_method_25_code, 3, some (.int), 2, 43, [0, 1, 2, 3, 4, 5, 6, 9, 12, 13, 14, 15, 18, 21, 22, 25, 26, 27, 28, 31, 34, 35], [.inl (ia_const (.int 0)), .inl (ia_istore 1), .inl (ia_const (.int 0)), .inl (ia_istore 2), .inl (ia_iload 2), .inl (ia_aload 0), .inl (ia_getI 5 2), .inl (ia_ige 20), .inl (ia_iload 1), .inl (ia_aload 0), .inl (ia_iload 2), .inr (.inl (218, 2, 5)), .inl (ia_ifeq 15), .inl (ia_const (.int 1)), .inl (ia_goto 16), .inl (ia_const (.int 0)), .inl (ia_i2 fun x y => x + y), .inl (ia_istore 1), .inl (ia_iinc 2 1), .inl (ia_goto 4), .inl (ia_iload 1), .inr (.inr 1)])
/-- C$State int countPending(); -/
def mt_229 : is_M := (⟨"CardsAndBans$State", "countPending", "()I"⟩, prog_7_method_26_code, 3, some (.int), 2, 43, [0, 1, 2, 3, 4, 5, 6, 9, 12, 13, 14, 15, 18, 21, 22, 25, 26, 27, 28, 31, 34, 35], [.inl (ia_const (.int 0)), .inl (ia_istore 1), .inl (ia_const (.int 0)), .inl (ia_istore 2), .inl (ia_iload 2), .inl (ia_aload 0), .inl (ia_getI 5 2), .inl (ia_ige 20), .inl (ia_iload 1), .inl (ia_aload 0), .inl (ia_iload 2), .inr (.inl (219, 2, 5)), .inl (ia_ifeq 15), .inl (ia_const (.int 1)), .inl (ia_goto 16), .inl (ia_const (.int 0)), .inl (ia_i2 fun x y => x + y), .inl (ia_istore 1), .inl (ia_iinc 2 1), .inl (ia_goto 4), .inl (ia_iload 1), .inr (.inr 1)])
/-- C$State int addBan(int, int, int, int); -/
def mt_230 : is_M := (⟨"CardsAndBans$State", "addBan", "(IIII)I"⟩, prog_7_method_27_code, 6, some (.int), 1, 23, [0, 1, 4, 6, 9, 10, 11, 12, 15, 17, 18, 19, 22, 23, 24, 27, 28, 30, 31, 32, 35, 36, 38, 39, 40, 43, 44, 46, 47, 48, 51, 52, 54, 55, 57, 60, 61, 63, 64, 65, 68, 69, 71, 72, 73, 76, 77, 79, 81, 82, 85, 88, 89, 91, 93, 94, 97, 98, 99, 101, 104, 106], [.inl (ia_aload 0), .inl (ia_getI 5 2), .inl (ia_const (.int 100)), .inl (ia_ilt 6), .inl (ia_const (.int (-1))), .inr (.inr 1), .inl (ia_aload 0), .inl (ia_getI 5 2), .inl (ia_istore 5), .inl (ia_aload 0), .inl ia_dup, .inl (ia_getI 5 2), .inl (ia_const (.int 1)), .inl (ia_i2 fun x y => x + y), .inl (ia_putI 5 2), .inl (ia_aload 0), .inl (ia_iload 5), .inl (ia_const (.int 0)), .inl (ia_iload 1), .inr (.inl (217, 4, 5)), .inl (ia_aload 0), .inl (ia_iload 5), .inl (ia_const (.int 1)), .inl (ia_iload 2), .inr (.inl (217, 4, 5)), .inl (ia_aload 0), .inl (ia_iload 5), .inl (ia_const (.int 2)), .inl (ia_iload 3), .inr (.inl (217, 4, 5)), .inl (ia_aload 0), .inl (ia_iload 5), .inl (ia_const (.int 3)), .inl (ia_iload 4), .inr (.inl (217, 4, 5)), .inl (ia_aload 0), .inl (ia_iload 5), .inl (ia_const (.int 4)), .inl (ia_const (.int 0)), .inr (.inl (217, 4, 5)), .inl (ia_aload 0), .inl (ia_iload 5), .inl (ia_const (.int 5)), .inl (ia_iload 3), .inr (.inl (217, 4, 5)), .inl (ia_aload 0), .inl (ia_iload 5), .inl (ia_const (.int 6)), .inl (ia_aload 0), .inl (ia_getI 5 1), .inr (.inl (217, 4, 5)), .inl (ia_aload 0), .inl (ia_iload 5), .inl (ia_const (.int 7)), .inl (ia_const (.int 0)), .inr (.inl (217, 4, 5)), .inl (ia_aload 0), .inl (ia_const (.int 0)), .inl (ia_iload 5), .inr (.inl (234, 3, 5)), .inl (ia_iload 5), .inr (.inr 1)])
/-- C$State boolean serve(int, int); -/
def mt_231 : is_M := (⟨"CardsAndBans$State", "serve", "(II)Z"⟩, prog_7_method_28_code, 4, some (.boolean), 4, 91, [0, 1, 2, 3, 6, 7, 8, 9, 12, 13, 14, 15, 16, 17, 18, 19, 20, 23, 24, 25, 28, 29, 30, 32, 33, 34, 36, 39, 40, 41, 44, 45, 46, 47, 50, 51, 52, 55, 58, 59, 60, 61, 64, 65], [.inl (ia_aload 0), .inl (ia_iload 1), .inl (ia_iload 2), .inr (.inl (222, 3, 5)), .inl (ia_istore 3), .inl (ia_iload 3), .inl (ia_const (.int (-1))), .inl (ia_ine 10), .inl (ia_const (.int 0)), .inr (.inr 2), .inl (ia_aload 0), .inl (ia_iload 3), .inl (ia_const (.int 2)), .inl (ia_aload 0), .inl (ia_iload 3), .inl (ia_const (.int 2)), .inr (.inl (216, 3, 5)), .inl (ia_const (.int 1)), .inl (ia_i2 fun x y => x - y), .inr (.inl (217, 4, 5)), .inl (ia_aload 0), .inl (ia_iload 3), .inl (ia_const (.int 7)), .inl (ia_aload 0), .inl (ia_iload 3), .inl (ia_const (.int 7)), .inr (.inl (216, 3, 5)), .inl (ia_const (.int 1)), .inl (ia_i2 fun x y => x + y), .inr (.inl (217, 4, 5)), .inl (ia_aload 0), .inl (ia_const (.int 1)), .inl (ia_iload 3), .inr (.inl (234, 3, 5)), .inl (ia_aload 0), .inl (ia_iload 3), .inr (.inl (218, 2, 5)), .inl (ia_ifne 42), .inl (ia_aload 0), .inl (ia_const (.int 2)), .inl (ia_iload 3), .inr (.inl (234, 3, 5)), .inl (ia_const (.int 1)), .inr (.inr 2)])
/-- C$State void settle(int, boolean, int); -/
def mt_232 : is_M := (⟨"CardsAndBans$State", "settle", "(IZI)V"⟩, prog_7_method_29_code, 4, none, 1, 23, [0, 1, 2, 3, 4, 7, 8, 9, 10, 11, 14, 15, 18, 19, 20, 21, 24, 25, 26, 29, 30, 31, 34, 35, 38, 39, 40, 43], [.inl (ia_aload 0), .inl (ia_iload 1), .inl (ia_const (.int 4)), .inl (ia_const (.int 2)), .inr (.inl (217, 4, 5)), .inl (ia_aload 0), .inl (ia_iload 1), .inl (ia_const (.int 2)), .inl (ia_iload 2), .inl (ia_ifeq 12), .inl (ia_const (.int 0)), .inl (ia_goto 18), .inl (ia_aload 0), .inl (ia_iload 1), .inl (ia_const (.int 2)), .inr (.inl (216, 3, 5)), .inl (ia_iload 3), .inl (ia_i2 fun x y => x + y), .inr (.inl (217, 4, 5)), .inl (ia_aload 0), .inl (ia_iload 2), .inl (ia_ifeq 24), .inl (ia_const (.int 3)), .inl (ia_goto 25), .inl (ia_const (.int 5)), .inl (ia_iload 1), .inr (.inl (234, 3, 5)), .inr (.inr 0)])
/-- C$State void forgive(int, int); -/
def mt_233 : is_M := (⟨"CardsAndBans$State", "forgive", "(II)V"⟩, prog_7_method_30_code, 3, none, 2, 43, [0, 1, 2, 3, 4, 5, 6, 9, 10, 11, 14, 15, 16, 19, 22, 23, 24, 25, 28, 31, 32, 33, 34, 35, 38, 39, 40, 41, 44], [.inl (ia_aload 0), .inl (ia_iload 1), .inl (ia_const (.int 2)), .inl (ia_aload 0), .inl (ia_iload 1), .inl (ia_const (.int 2)), .inr (.inl (216, 3, 5)), .inl (ia_iload 2), .inl (ia_i2 fun x y => x - y), .inr (.inl (217, 4, 5)), .inl (ia_aload 0), .inl (ia_iload 1), .inr (.inl (218, 2, 5)), .inl (ia_ifeq 15), .inr (.inr 0), .inl (ia_aload 0), .inl (ia_iload 1), .inr (.inl (219, 2, 5)), .inl (ia_ifeq 24), .inl (ia_aload 0), .inl (ia_iload 1), .inl (ia_const (.int 4)), .inl (ia_const (.int 2)), .inr (.inl (217, 4, 5)), .inl (ia_aload 0), .inl (ia_const (.int 3)), .inl (ia_iload 1), .inr (.inl (234, 3, 5)), .inr (.inr 0)])
/-- C$State void enter(int, int); -/
def mt_234 : is_M := (⟨"CardsAndBans$State", "enter", "(II)V"⟩, prog_7_method_31_code, 4, none, 0, 0, [0, 1, 4, 6, 7, 8, 9, 10, 11, 14, 15, 16, 17, 18, 21, 22, 23, 24, 25, 26, 27, 30, 31, 32, 33, 34, 37, 38, 39, 40, 43, 44, 45, 48], [.inl (ia_aload 0), .inl (ia_getI 5 3), .inl (ia_const (.int 60)), .inl (ia_i2z fun x y => x - x / y * y), .inl (ia_const (.int 3)), .inl (ia_i2 fun x y => x * y), .inl (ia_istore 3), .inl (ia_aload 0), .inl (ia_getR 5 10), .inl (ia_iload 3), .inl (ia_iload 1), .inl ia_iast, .inl (ia_aload 0), .inl (ia_getR 5 10), .inl (ia_iload 3), .inl (ia_const (.int 1)), .inl (ia_i2 fun x y => x + y), .inl (ia_iload 2), .inl ia_iast, .inl (ia_aload 0), .inl (ia_getR 5 10), .inl (ia_iload 3), .inl (ia_const (.int 2)), .inl (ia_i2 fun x y => x + y), .inl (ia_aload 0), .inl (ia_getI 5 1), .inl ia_iast, .inl (ia_aload 0), .inl ia_dup, .inl (ia_getI 5 3), .inl (ia_const (.int 1)), .inl (ia_i2 fun x y => x + y), .inl (ia_putI 5 3), .inr (.inr 0)])
/-- C$State int countEntries(); -/
def mt_235 : is_M := (⟨"CardsAndBans$State", "countEntries", "()I"⟩, prog_7_method_32_code, 1, some (.int), 1, 21, [0, 1, 4, 6, 9], [.inl (ia_aload 0), .inl (ia_getI 5 3), .inl (ia_const (.int 60)), .inl ia_min, .inr (.inr 1)])
/-- C$State int entryNumber(int, int); -/
def mt_236 : is_M := (⟨"CardsAndBans$State", "entryNumber", "(II)I"⟩, prog_7_method_33_code, 3, some (.int), 0, 0, [0, 1, 4, 5, 8, 9, 10, 11, 12, 14, 15, 16, 17, 18, 19, 20], [.inl (ia_aload 0), .inl (ia_getR 5 10), .inl (ia_aload 0), .inl (ia_getI 5 3), .inl (ia_const (.int 1)), .inl (ia_i2 fun x y => x - y), .inl (ia_iload 1), .inl (ia_i2 fun x y => x - y), .inl (ia_const (.int 60)), .inl (ia_i2z fun x y => x - x / y * y), .inl (ia_const (.int 3)), .inl (ia_i2 fun x y => x * y), .inl (ia_iload 2), .inl (ia_i2 fun x y => x + y), .inl ia_iald, .inr (.inr 1)])
/-- C$State int countEntriesOf(int, int); -/
def mt_237 : is_M := (⟨"CardsAndBans$State", "countEntriesOf", "(II)I"⟩, prog_7_method_34_code, 5, some (.int), 2, 41, [0, 1, 2, 3, 5, 7, 8, 11, 14, 15, 17, 18, 21, 22, 25, 26, 27, 29, 30, 33, 34, 37, 38, 41, 44, 47, 50, 51], [.inl (ia_const (.int 0)), .inl (ia_istore 3), .inl (ia_const (.int 0)), .inl (ia_istore 4), .inl (ia_iload 4), .inl (ia_aload 0), .inr (.inl (235, 1, 5)), .inl (ia_ige 26), .inl (ia_aload 0), .inl (ia_iload 4), .inl (ia_const (.int 0)), .inr (.inl (236, 3, 5)), .inl (ia_iload 2), .inl (ia_ine 24), .inl (ia_aload 0), .inl (ia_aload 0), .inl (ia_iload 4), .inl (ia_const (.int 1)), .inr (.inl (236, 3, 5)), .inl (ia_const (.int 0)), .inr (.inl (216, 3, 5)), .inl (ia_iload 1), .inl (ia_ine 24), .inl (ia_iinc 3 1), .inl (ia_iinc 4 1), .inl (ia_goto 4), .inl (ia_iload 3), .inr (.inr 1)])
/-- C$Text  CardsAndBans$Text(); -/
def mt_238 : is_M := (⟨"CardsAndBans$Text", "<init>", "()V"⟩, prog_8_method_1_code, 1, none, 1, 20, [0, 1, 4, 5, 8, 10, 13, 14, 15, 18], [.inl (ia_aload 0), .inl ia_oinit, .inl (ia_aload 0), .inl (ia_const (.int 200)), .inl (ia_newa 2), .inl (ia_putR 1 0), .inl (ia_aload 0), .inl (ia_const (.int (-1))), .inl (ia_putI 1 3), .inr (.inr 0)])
/-- C$Text boolean addFour(int); -/
def mt_239 : is_M := (⟨"CardsAndBans$Text", "addFour", "(I)Z"⟩, prog_8_method_2_code, 3, some (.boolean), 1, 21, [0, 1, 4, 5, 6, 9, 12, 13, 14, 16, 17, 18, 21, 22, 23, 24, 25, 28, 29, 30, 33, 36, 39, 40], [.inl (ia_aload 0), .inl (ia_getI 1 1), .inl (ia_const (.int 4)), .inl (ia_i2 fun x y => x + y), .inl (ia_const (.int 200)), .inl (ia_ile 8), .inl (ia_const (.int 0)), .inr (.inr 2), .inl (ia_const (.int 24)), .inl (ia_istore 2), .inl (ia_iload 2), .inl (ia_iflt 22), .inl (ia_aload 0), .inl (ia_iload 1), .inl (ia_iload 2), .inl (ia_i2 fun x y => (x.toUInt32 >>> (y.toUInt32 &&& Int32.toUInt32 31)).toInt32), .inl (ia_const (.int 255)), .inl (ia_i2 fun x y => x &&& y), .inl (ia_i1 fun x => (x.toUInt32 % 65536).toInt32), .inr (.inl (240, 2, 1)), .inl (ia_iinc 2 (-8)), .inl (ia_goto 10), .inl (ia_const (.int 1)), .inr (.inr 2)])
/-- C$Text void add(char); -/
def mt_240 : is_M := (⟨"CardsAndBans$Text", "add", "(C)V"⟩, prog_8_method_3_code, 2, none, 0, 0, [0, 1, 4, 7, 10, 11, 14, 15, 18, 19, 20, 21, 22, 25, 26, 27, 30], [.inl (ia_aload 0), .inl (ia_getI 1 1), .inl (ia_const (.int 200)), .inl (ia_ige 16), .inl (ia_aload 0), .inl (ia_getR 1 0), .inl (ia_aload 0), .inl (ia_getI 1 1), .inl (ia_iload 1), .inl ia_cast, .inl (ia_aload 0), .inl ia_dup, .inl (ia_getI 1 1), .inl (ia_const (.int 1)), .inl (ia_i2 fun x y => x + y), .inl (ia_putI 1 1), .inr (.inr 0)])
/-- C$Text void addNumber(int); -/
def mt_241 : is_M := (⟨"CardsAndBans$Text", "addNumber", "(I)V"⟩, prog_8_method_4_code, 2, none, 1, 21, [0, 1, 3, 6, 7, 9, 10, 12, 13, 15, 16, 17, 18, 21, 22, 24, 25, 27, 28, 29, 30, 33], [.inl (ia_iload 1), .inl (ia_const (.int 10)), .inl (ia_ilt 13), .inl (ia_aload 0), .inl (ia_const (.int 48)), .inl (ia_iload 1), .inl (ia_const (.int 10)), .inl (ia_i2z fun x y => x / y), .inl (ia_const (.int 10)), .inl (ia_i2z fun x y => x - x / y * y), .inl (ia_i2 fun x y => x + y), .inl (ia_i1 fun x => (x.toUInt32 % 65536).toInt32), .inr (.inl (240, 2, 1)), .inl (ia_aload 0), .inl (ia_const (.int 48)), .inl (ia_iload 1), .inl (ia_const (.int 10)), .inl (ia_i2z fun x y => x - x / y * y), .inl (ia_i2 fun x y => x + y), .inl (ia_i1 fun x => (x.toUInt32 % 65536).toInt32), .inr (.inl (240, 2, 1)), .inr (.inr 0)])
/-- C$Text boolean cutTo(int); -/
def mt_242 : is_M := (⟨"CardsAndBans$Text", "cutTo", "(I)Z"⟩, prog_8_method_5_code, 2, some (.boolean), 0, 0, [0, 1, 4, 5, 6, 9, 12, 13, 14, 15, 16, 19, 20], [.inl (ia_iload 1), .inl (ia_iflt 6), .inl (ia_iload 1), .inl (ia_aload 0), .inl (ia_getI 1 1), .inl (ia_ile 8), .inl (ia_const (.int 0)), .inr (.inr 2), .inl (ia_aload 0), .inl (ia_iload 1), .inl (ia_putI 1 1), .inl (ia_const (.int 1)), .inr (.inr 2)])
/-- C$Text void empty(); -/
def mt_243 : is_M := (⟨"CardsAndBans$Text", "empty", "()V"⟩, prog_8_method_6_code, 1, none, 0, 0, [0, 1, 2, 5], [.inl (ia_aload 0), .inl (ia_const (.int 0)), .inl (ia_putI 1 1), .inr (.inr 0)])
/-- C$Text int signAt(int); -/
def mt_244 : is_M := (⟨"CardsAndBans$Text", "signAt", "(I)I"⟩, prog_8_method_7_code, 2, some (.int), 0, 0, [0, 1, 4, 5, 6, 9, 12, 13, 16, 17, 18, 21, 22], [.inl (ia_iload 1), .inl (ia_iflt 11), .inl (ia_iload 1), .inl (ia_aload 0), .inl (ia_getI 1 1), .inl (ia_ige 11), .inl (ia_aload 0), .inl (ia_getR 1 0), .inl (ia_iload 1), .inl (ia_ald 2), .inl (ia_goto 12), .inl (ia_const (.int (-1))), .inr (.inr 1)])
/-- C$Text boolean startReading(); -/
def mt_245 : is_M := (⟨"CardsAndBans$Text", "startReading", "()Z"⟩, prog_8_method_8_code, 1, some (.boolean), 0, 0, [0, 1, 2, 5, 6, 7, 10, 11, 14, 17, 18, 21, 22], [.inl (ia_aload 0), .inl (ia_const (.int 0)), .inl (ia_putI 1 2), .inl (ia_aload 0), .inl (ia_const (.int (-1))), .inl (ia_putI 1 3), .inl (ia_aload 0), .inl (ia_getI 1 1), .inl (ia_ifle 11), .inl (ia_const (.int 1)), .inl (ia_goto 12), .inl (ia_const (.int 0)), .inr (.inr 2)])
/-- C$Text boolean isSound(); -/
def mt_246 : is_M := (⟨"CardsAndBans$Text", "isSound", "()Z"⟩, prog_8_method_9_code, 1, some (.boolean), 0, 0, [0, 1, 4, 5, 8, 9, 12, 13], [.inl (ia_aload 0), .inl (ia_getI 1 3), .inl (ia_const (.int (-1))), .inl (ia_ine 6), .inl (ia_const (.int 1)), .inl (ia_goto 7), .inl (ia_const (.int 0)), .inr (.inr 2)])
/-- C$Text boolean isRead(); -/
def mt_247 : is_M := (⟨"CardsAndBans$Text", "isRead", "()Z"⟩, prog_8_method_10_code, 1, some (.boolean), 0, 0, [0, 1, 4, 5, 8, 11, 12, 15, 16], [.inl (ia_aload 0), .inl (ia_getI 1 2), .inl (ia_aload 0), .inl (ia_getI 1 1), .inl (ia_ilt 7), .inl (ia_const (.int 1)), .inl (ia_goto 8), .inl (ia_const (.int 0)), .inr (.inr 2)])
/-- C$Text int peek(); -/
def mt_248 : is_M := (⟨"CardsAndBans$Text", "peek", "()I"⟩, prog_8_method_11_code, 1, some (.int), 0, 0, [0, 1, 4, 7, 8, 11, 12, 15, 18, 19, 22, 23, 26, 27, 30, 31], [.inl (ia_aload 0), .inl (ia_getI 1 2), .inl (ia_iflt 14), .inl (ia_aload 0), .inl (ia_getI 1 2), .inl (ia_aload 0), .inl (ia_getI 1 1), .inl (ia_ige 14), .inl (ia_aload 0), .inl (ia_getR 1 0), .inl (ia_aload 0), .inl (ia_getI 1 2), .inl (ia_ald 2), .inl (ia_goto 15), .inl (ia_const (.int (-1))), .inr (.inr 1)])
/-- C$Text void failAt(int); -/
def mt_249 : is_M := (⟨"CardsAndBans$Text", "failAt", "(I)V"⟩, prog_8_method_12_code, 2, none, 0, 0, [0, 1, 4, 5, 8, 9, 10, 13], [.inl (ia_aload 0), .inl (ia_getI 1 3), .inl (ia_const (.int (-1))), .inl (ia_ine 7), .inl (ia_aload 0), .inl (ia_iload 1), .inl (ia_putI 1 3), .inr (.inr 0)])
/-- C$Text void expect(char); -/
def mt_250 : is_M := (⟨"CardsAndBans$Text", "expect", "(C)V"⟩, prog_8_method_13_code, 2, none, 2, 44, [0, 1, 2, 3, 6, 7], [.inl (ia_aload 0), .inl (ia_iload 1), .inl (ia_iload 1), .inr (.inl (251, 3, 1)), .inl ia_pop, .inr (.inr 0)])
/-- C$Text int eitherOf(char, char); -/
def mt_251 : is_M := (⟨"CardsAndBans$Text", "eitherOf", "(CC)I"⟩, prog_8_method_14_code, 4, some (.int), 1, 21, [0, 1, 4, 5, 6, 9, 12, 13, 14, 17, 18, 19, 22, 23, 24, 27, 30, 31, 32, 33, 34, 37, 38, 39, 42, 43], [.inl (ia_aload 0), .inr (.inl (248, 1, 1)), .inl (ia_istore 3), .inl (ia_aload 0), .inr (.inl (246, 1, 1)), .inl (ia_ifeq 12), .inl (ia_iload 3), .inl (ia_iload 1), .inl (ia_ieq 18), .inl (ia_iload 3), .inl (ia_iload 2), .inl (ia_ieq 18), .inl (ia_aload 0), .inl (ia_aload 0), .inl (ia_getI 1 2), .inr (.inl (249, 2, 1)), .inl (ia_const (.int (-1))), .inr (.inr 1), .inl (ia_aload 0), .inl ia_dup, .inl (ia_getI 1 2), .inl (ia_const (.int 1)), .inl (ia_i2 fun x y => x + y), .inl (ia_putI 1 2), .inl (ia_iload 3), .inr (.inr 1)])
/-- C$Text  boolean isDigitNext(); -/
def mt_252 : is_M := (⟨"CardsAndBans$Text", "isDigitNext", "()Z"⟩, prog_8_method_15_code, 2, some (.boolean), 1, 20, [0, 1, 4, 5, 6, 8, 11, 12, 14, 17, 18, 21, 22], [.inl (ia_aload 0), .inr (.inl (248, 1, 1)), .inl (ia_istore 1), .inl (ia_iload 1), .inl (ia_const (.int 48)), .inl (ia_ilt 11), .inl (ia_iload 1), .inl (ia_const (.int 57)), .inl (ia_igt 11), .inl (ia_const (.int 1)), .inl (ia_goto 12), .inl (ia_const (.int 0)), .inr (.inr 2)])
/-- C$Text int digit(int, int); -/
def mt_253 : is_M := (⟨"CardsAndBans$Text", "digit", "(II)I"⟩, prog_8_method_16_code, 4, some (.int), 1, 21, [0, 1, 4, 6, 7, 8, 9, 12, 15, 16, 17, 20, 21, 22, 25, 26, 27, 30, 33, 34, 35, 36, 37, 40, 41, 42, 45, 46], [.inl (ia_aload 0), .inr (.inl (248, 1, 1)), .inl (ia_const (.int 48)), .inl (ia_i2 fun x y => x - y), .inl (ia_istore 3), .inl (ia_aload 0), .inr (.inl (246, 1, 1)), .inl (ia_ifeq 14), .inl (ia_iload 3), .inl (ia_iload 1), .inl (ia_ilt 14), .inl (ia_iload 3), .inl (ia_iload 2), .inl (ia_ile 20), .inl (ia_aload 0), .inl (ia_aload 0), .inl (ia_getI 1 2), .inr (.inl (249, 2, 1)), .inl (ia_const (.int (-1))), .inr (.inr 1), .inl (ia_aload 0), .inl ia_dup, .inl (ia_getI 1 2), .inl (ia_const (.int 1)), .inl (ia_i2 fun x y => x + y), .inl (ia_putI 1 2), .inl (ia_iload 3), .inr (.inr 1)])
/-- C$Text int number(int, int); -/
def mt_254 : is_M := (⟨"CardsAndBans$Text", "number", "(II)I"⟩, prog_8_method_17_code, 4, some (.int), 2, 44, [0, 1, 2, 4, 7, 8, 9, 12, 13, 16, 19, 21, 22, 23, 24, 25, 27, 30, 31, 32, 33, 36, 39, 40, 41, 44, 45, 46, 49, 50, 51, 54, 55, 56, 59, 60, 63, 66, 67, 70, 71], [.inl (ia_aload 0), .inl (ia_const (.int 0)), .inl (ia_const (.int 9)), .inr (.inl (253, 3, 1)), .inl (ia_istore 3), .inl (ia_iload 3), .inl (ia_ifle 19), .inl (ia_aload 0), .inr (.inl (252, 1, 1)), .inl (ia_ifeq 19), .inl (ia_const (.int 10)), .inl (ia_iload 3), .inl (ia_i2 fun x y => x * y), .inl (ia_aload 0), .inl (ia_const (.int 0)), .inl (ia_const (.int 9)), .inr (.inl (253, 3, 1)), .inl (ia_i2 fun x y => x + y), .inl (ia_istore 3), .inl (ia_aload 0), .inr (.inl (246, 1, 1)), .inl (ia_ifeq 34), .inl (ia_iload 3), .inl (ia_iload 1), .inl (ia_ilt 28), .inl (ia_iload 3), .inl (ia_iload 2), .inl (ia_ile 34), .inl (ia_aload 0), .inl (ia_aload 0), .inl (ia_getI 1 2), .inl (ia_const (.int 1)), .inl (ia_i2 fun x y => x - y), .inr (.inl (249, 2, 1)), .inl (ia_aload 0), .inr (.inl (246, 1, 1)), .inl (ia_ifeq 39), .inl (ia_iload 3), .inl (ia_goto 40), .inl (ia_const (.int (-1))), .inr (.inr 1)])
/-- C$Text boolean goesOnBehind(char); -/
def mt_255 : is_M := (⟨"CardsAndBans$Text", "goesOnBehind", "(C)Z"⟩, prog_8_method_18_code, 2, some (.boolean), 3, 65, [0, 1, 4, 7, 8, 11, 14, 15, 16, 17, 18, 21, 22, 25], [.inl (ia_aload 0), .inr (.inl (246, 1, 1)), .inl (ia_ifeq 6), .inl (ia_aload 0), .inr (.inl (247, 1, 1)), .inl (ia_ifeq 8), .inl (ia_const (.int 0)), .inr (.inr 2), .inl (ia_aload 0), .inl (ia_iload 1), .inr (.inl (250, 2, 1)), .inl (ia_aload 0), .inr (.inl (246, 1, 1)), .inr (.inr 2)])
/-- java/util/Arrays public static void fill(int[], int); -/
def mt_256 : is_M := (⟨"java/util/Arrays", "fill", "([II)V"⟩, prog_19_method_103_code, 4, none, 0, 0, [0, 1, 2, 3, 4, 5, 6, 7, 10, 11, 12, 13, 14, 17, 20], [.inl (ia_const (.int 0)), .inl (ia_istore 2), .inl (ia_aload 0), .inl ia_alen, .inl (ia_istore 3), .inl (ia_iload 2), .inl (ia_iload 3), .inl (ia_ige 14), .inl (ia_aload 0), .inl (ia_iload 2), .inl (ia_iload 1), .inl ia_iast, .inl (ia_iinc 2 1), .inl (ia_goto 5), .inr (.inr 0)])
/-- java/lang/Integer public static int bitCount(int); -/
def mt_257 : is_M := (⟨"java/lang/Integer", "bitCount", "(I)I"⟩, prog_13_method_49_code, 1, some (.int), 0, 0, [0, 1, 2, 3, 4, 7, 8, 9, 10, 11, 14, 15, 16, 17, 18, 21, 22, 23, 24, 25, 26, 27, 28, 29, 32, 33, 34, 35, 36, 38, 39, 40, 41, 42, 43, 45, 46, 47, 48, 49, 51, 52], [.inl (ia_iload 0), .inl (ia_iload 0), .inl (ia_const (.int 1)), .inl (ia_i2 fun x y => (x.toUInt32 >>> (y.toUInt32 &&& Int32.toUInt32 31)).toInt32), .inl (ia_const (.int 1431655765)), .inl (ia_i2 fun x y => x &&& y), .inl (ia_i2 fun x y => x - y), .inl (ia_istore 0), .inl (ia_iload 0), .inl (ia_const (.int 858993459)), .inl (ia_i2 fun x y => x &&& y), .inl (ia_iload 0), .inl (ia_const (.int 2)), .inl (ia_i2 fun x y => (x.toUInt32 >>> (y.toUInt32 &&& Int32.toUInt32 31)).toInt32), .inl (ia_const (.int 858993459)), .inl (ia_i2 fun x y => x &&& y), .inl (ia_i2 fun x y => x + y), .inl (ia_istore 0), .inl (ia_iload 0), .inl (ia_iload 0), .inl (ia_const (.int 4)), .inl (ia_i2 fun x y => (x.toUInt32 >>> (y.toUInt32 &&& Int32.toUInt32 31)).toInt32), .inl (ia_i2 fun x y => x + y), .inl (ia_const (.int 252645135)), .inl (ia_i2 fun x y => x &&& y), .inl (ia_istore 0), .inl (ia_iload 0), .inl (ia_iload 0), .inl (ia_const (.int 8)), .inl (ia_i2 fun x y => (x.toUInt32 >>> (y.toUInt32 &&& Int32.toUInt32 31)).toInt32), .inl (ia_i2 fun x y => x + y), .inl (ia_istore 0), .inl (ia_iload 0), .inl (ia_iload 0), .inl (ia_const (.int 16)), .inl (ia_i2 fun x y => (x.toUInt32 >>> (y.toUInt32 &&& Int32.toUInt32 31)).toInt32), .inl (ia_i2 fun x y => x + y), .inl (ia_istore 0), .inl (ia_iload 0), .inl (ia_const (.int 63)), .inl (ia_i2 fun x y => x &&& y), .inr (.inr 1)])
/-- java/lang/Long public static int bitCount(long); -/
def mt_258 : is_M := (⟨"java/lang/Long", "bitCount", "(J)I"⟩, prog_14_method_50_code, 2, some (.int), 0, 0, [0, 1, 2, 3, 4, 7, 8, 9, 10, 11, 14, 15, 16, 17, 18, 21, 22, 23, 24, 25, 26, 27, 28, 29, 32, 33, 34, 35, 36, 38, 39, 40, 41, 42, 43, 45, 46, 47, 48, 49, 50, 52, 53, 54, 55, 56, 57, 59, 60], [.inl (ia_lload 0), .inl (ia_lload 0), .inl (ia_const (.int 1)), .inl (ia_lsh fun x y => (x.toUInt64 >>> (y.toInt64.toUInt64 &&& Int64.toUInt64 63)).toInt64), .inl (ia_const (.long 6148914691236517205)), .inl (ia_l2 fun x y => x &&& y), .inl (ia_l2 fun x y => x - y), .inl (ia_lstore 0), .inl (ia_lload 0), .inl (ia_const (.long 3689348814741910323)), .inl (ia_l2 fun x y => x &&& y), .inl (ia_lload 0), .inl (ia_const (.int 2)), .inl (ia_lsh fun x y => (x.toUInt64 >>> (y.toInt64.toUInt64 &&& Int64.toUInt64 63)).toInt64), .inl (ia_const (.long 3689348814741910323)), .inl (ia_l2 fun x y => x &&& y), .inl (ia_l2 fun x y => x + y), .inl (ia_lstore 0), .inl (ia_lload 0), .inl (ia_lload 0), .inl (ia_const (.int 4)), .inl (ia_lsh fun x y => (x.toUInt64 >>> (y.toInt64.toUInt64 &&& Int64.toUInt64 63)).toInt64), .inl (ia_l2 fun x y => x + y), .inl (ia_const (.long 1085102592571150095)), .inl (ia_l2 fun x y => x &&& y), .inl (ia_lstore 0), .inl (ia_lload 0), .inl (ia_lload 0), .inl (ia_const (.int 8)), .inl (ia_lsh fun x y => (x.toUInt64 >>> (y.toInt64.toUInt64 &&& Int64.toUInt64 63)).toInt64), .inl (ia_l2 fun x y => x + y), .inl (ia_lstore 0), .inl (ia_lload 0), .inl (ia_lload 0), .inl (ia_const (.int 16)), .inl (ia_lsh fun x y => (x.toUInt64 >>> (y.toInt64.toUInt64 &&& Int64.toUInt64 63)).toInt64), .inl (ia_l2 fun x y => x + y), .inl (ia_lstore 0), .inl (ia_lload 0), .inl (ia_lload 0), .inl (ia_const (.int 32)), .inl (ia_lsh fun x y => (x.toUInt64 >>> (y.toInt64.toUInt64 &&& Int64.toUInt64 63)).toInt64), .inl (ia_l2 fun x y => x + y), .inl (ia_lstore 0), .inl (ia_lload 0), .inl ia_l2i, .inl (ia_const (.int 127)), .inl (ia_i2 fun x y => x &&& y), .inr (.inr 1)])
/-- CLaw public static boolean law(int[]); -/
def mt_259 : is_M := (⟨"CardsAndBansLaw", "law", "([I)Z"⟩, code, 8, ret, 10, 366, [0, 3, 4, 7, 8, 11, 12, 15, 16, 17, 19, 20, 21, 23, 25, 26, 27, 28, 29, 32, 33, 35, 36, 38, 39, 248, 249, 250, 252, 253, 254, 255, 258, 259, 260, 262, 263, 264, 265, 268, 271, 272, 273, 274, 275, 277, 278, 279, 280, 283, 284, 285, 287, 288, 289, 290, 293, 296, 297, 298, 299, 302, 303, 306, 309, 310, 311, 312, 315, 316, 319, 322, 323, 324, 325, 326, 328, 329, 330, 331, 332, 334, 335, 336, 337, 340, 341, 342, 344, 345, 346, 347, 348, 350, 351, 352, 353, 356, 359, 360, 361, 362, 363, 365, 366, 367, 368, 371, 372, 373, 375, 376, 377, 378, 381, 384, 385, 386, 387, 388, 390, 391, 392, 393, 396, 397, 398, 400, 401, 402, 403, 406, 409, 410, 411, 412, 413, 415, 416, 417, 418, 421, 422, 423, 425, 426, 427, 428, 431, 434, 435, 436, 437, 438, 440, 441, 442, 443, 444, 446, 447, 448, 449, 450, 452, 453, 454, 455, 458, 459, 460, 462, 463, 464, 465, 466, 468, 469, 470, 471, 472, 474, 475, 476, 477, 480, 483, 484, 485, 486, 487, 489, 490, 491, 492, 493, 495, 496, 497, 498, 501, 502, 503, 505, 506, 507, 508, 509, 511, 512, 513, 514, 517, 520, 521, 522, 523, 524, 526, 527, 528, 529, 530, 532, 533, 534, 535, 538, 539, 540, 542, 543, 544, 545, 546, 548, 549, 550, 551, 554, 557, 558, 559, 560, 561, 563, 564, 565, 566, 567, 569, 570, 571, 572, 573, 575, 576, 577, 578, 581, 582, 583, 585, 586, 587, 588, 589, 591, 592, 593, 594, 595, 597, 598, 599, 600, 603, 606, 607, 608, 609, 612, 613, 616, 619, 620, 621, 622, 623, 625, 626, 627, 628, 631, 632, 633, 635, 636, 637, 638, 641, 644, 645, 646, 647, 648, 650, 651, 652, 653, 654, 656, 657, 658, 659, 662, 663, 666, 667, 668, 670, 671, 672, 673, 676, 677, 678, 680, 681, 682, 683, 684, 686, 687, 688, 689, 692, 693, 696, 697, 698, 700, 701, 702, 703, 706, 709, 710, 711, 712, 713, 715, 716, 717, 718, 721, 722, 725, 726, 729, 730, 731, 733, 734, 735, 736, 739, 740, 743, 744, 747, 750, 751, 752, 753, 754, 756, 757, 758, 759, 760, 762, 763, 764, 765, 768, 769, 770, 772, 773, 774, 775, 776, 778, 779, 780, 781, 784, 787, 788, 789, 790, 793, 794, 797, 800, 801, 802, 803, 804, 806, 807, 808, 809, 810, 812, 813, 814, 815, 818, 819, 820, 822, 823, 824, 825, 826, 828, 829, 830, 831, 834, 837, 838, 839, 840, 841, 843, 844, 845, 846, 847, 849, 850, 851, 852, 855, 856, 857, 859, 860, 861, 862, 863, 865, 866, 867, 868, 871, 874, 875, 876, 877, 878, 880, 881, 882, 883, 884, 886, 887, 888, 889, 892, 893, 894, 896, 897, 898, 899, 900, 902, 903, 904, 905, 908, 911, 912, 913, 914, 915, 917, 918, 919, 920, 923, 924, 925, 927, 928, 929, 930, 933, 936, 937, 938, 939, 940, 942, 943, 944, 945, 946, 948, 949, 950, 951, 952, 954, 955, 956, 957, 960, 961, 962, 964, 965, 966, 967, 968, 970, 971, 972, 973, 974, 976, 977, 978, 979, 982, 985, 986, 987, 988, 989, 991, 992, 993, 994, 995, 997, 998, 999, 1000, 1003, 1004, 1005, 1007, 1008, 1009, 1010, 1011, 1013, 1014, 1015, 1016, 1019, 1022, 1023, 1024, 1025, 1026, 1028, 1029, 1030, 1031, 1032, 1034, 1035, 1036, 1037, 1040, 1041, 1042, 1044, 1045, 1046, 1047, 1048, 1050, 1051, 1052, 1053, 1056, 1059, 1060, 1061, 1062, 1063, 1065, 1066, 1067, 1068, 1069, 1071, 1072, 1073, 1074, 1077, 1078, 1079, 1081, 1082, 1083, 1084, 1085, 1087, 1088, 1089, 1090, 1093, 1096, 1097, 1098, 1099, 1100, 1102, 1103, 1104, 1105, 1106, 1108, 1109, 1110, 1111, 1112, 1114, 1115, 1116, 1117, 1120, 1121, 1122, 1124, 1125, 1126, 1127, 1128, 1130, 1131, 1132, 1133, 1134, 1136, 1137, 1138, 1139, 1142, 1145, 1146, 1147, 1148, 1149, 1151, 1152, 1153, 1154, 1155, 1157, 1158, 1159, 1160, 1163, 1164, 1165, 1167, 1168, 1169, 1170, 1171, 1173, 1174, 1175, 1176, 1179, 1182, 1183, 1184, 1185, 1186, 1188, 1189, 1190, 1191, 1192, 1194, 1195, 1196, 1197, 1200, 1201, 1202, 1204, 1205, 1206, 1207, 1208, 1210, 1211, 1212, 1213, 1216, 1219, 1220, 1221, 1222, 1223, 1225, 1226, 1227, 1228, 1231, 1232, 1233, 1235, 1236, 1237, 1238, 1241, 1242, 1245, 1246, 1247, 1248, 1249, 1251, 1252, 1253, 1254, 1257, 1258, 1259, 1261, 1262, 1263, 1264, 1267, 1270, 1271, 1272, 1273, 1276, 1277, 1280, 1283, 1284, 1285, 1286, 1287, 1289, 1290, 1291, 1292, 1293, 1295, 1296, 1297, 1298, 1301, 1302, 1303, 1305, 1306, 1307, 1308, 1309, 1311, 1312, 1313, 1314, 1317, 1320, 1321, 1322, 1323, 1324, 1326, 1327, 1328, 1329, 1332, 1333, 1334, 1336, 1337, 1338, 1339, 1342, 1345, 1346, 1347, 1348, 1349, 1351, 1352, 1353, 1354, 1355, 1357, 1358, 1359, 1360, 1363, 1364, 1365, 1367, 1368, 1369, 1370, 1371, 1373, 1374, 1375, 1376, 1379, 1382, 1383, 1384, 1385, 1386, 1388, 1389, 1390, 1391, 1394, 1395, 1396, 1398, 1399, 1400, 1401, 1404, 1407, 1408, 1409, 1410, 1413, 1414, 1417, 1420, 1421, 1422, 1423, 1424, 1426, 1427, 1428, 1429, 1432, 1433, 1434, 1436, 1437, 1438, 1439, 1442, 1445, 1446, 1447, 1448, 1449, 1451, 1452, 1453, 1454, 1457, 1458, 1459, 1461, 1462, 1463, 1464, 1467, 1470, 1471, 1472, 1473, 1474, 1476, 1477, 1478, 1479, 1482, 1483, 1484, 1486, 1487, 1488, 1489, 1492, 1495, 1496, 1497, 1498, 1501, 1502, 1505, 1508, 1509, 1510, 1511, 1512, 1514, 1515, 1516, 1517, 1520, 1521, 1522, 1524, 1525, 1526, 1527, 1530, 1533, 1534, 1535, 1536, 1539, 1540, 1543, 1546, 1547, 1548, 1549, 1552, 1553, 1556, 1559, 1560, 1561, 1562, 1563, 1565, 1566, 1567, 1568, 1569, 1571, 1572, 1573, 1574, 1577, 1578, 1579, 1581, 1582, 1583, 1584, 1585, 1587, 1588, 1589, 1590, 1593, 1596, 1597, 1598, 1599, 1600, 1602, 1603, 1604, 1605, 1608, 1609, 1610, 1612, 1613, 1614, 1615, 1618, 1621, 1622, 1623, 1624, 1627, 1628, 1631, 1634, 1635, 1636, 1637, 1638, 1640, 1641, 1642, 1643, 1646, 1647, 1648, 1650, 1651, 1652, 1653, 1656, 1659, 1660, 1661, 1662, 1663, 1665, 1666, 1667, 1668, 1669, 1672, 1674, 1675, 1676, 1678, 1679, 1680, 1681, 1684, 1686, 1687, 1690, 1692, 1695, 1696, 1697, 1699, 1702, 1703, 1704, 1705, 1707, 1708, 1711, 1712, 1713, 1716, 1719, 1722, 1723], [.inl (ia_newo 0 11 [.null, .null, .null, .null, .null, .null, .null, .null, .null, .null, .int 0]), .inl ia_dup, .inr (.inl (0, 1, 101)), .inl (ia_astore 1), .inl (ia_newo 8 36 [.null, .null, .null, .int 0, .null, .int 0, .null, .null, .null, .null, .int 0, .null, .int 0, .int 0, .int 0, .int 0, .null, .null, .int 0, .int 0, .int 0, .int 0, .int 0, .int 0, .null, .null, .null, .null, .null, .null, .null, .int 0, .null, .null, .null, .int 0]), .inl ia_dup, .inr (.inl (67, 1, 101)), .inl (ia_astore 2), .inl (ia_const (.int 1)), .inl (ia_newa 1), .inl (ia_astore 3), .inl (ia_const (.int 0)), .inl (ia_istore 4), .inl (ia_iload 4), .inl (ia_aload 0), .inl ia_alen, .inl (ia_const (.int 4)), .inl (ia_i2 fun x y => x - y), .inl (ia_igt 1044), .inl (ia_aload 0), .inl (ia_iload 4), .inl ia_iald, .inl (ia_const (.int 63)), .inl (ia_i2 fun x y => x &&& y), .inl (ia_sw [25, 42, 59, 66, 73, 100, 117, 134, 151, 188, 215, 242, 279, 286, 303, 348, 373, 400, 407, 434, 461, 488, 505, 542, 569, 596, 623, 660, 687, 714, 732, 749, 756, 783, 800, 827, 844, 851, 868, 885, 902, 909, 926, 933, 940, 967, 984, 991, 1008] 1042), .inl (ia_aload 1), .inl (ia_aload 0), .inl (ia_iload 4), .inl (ia_const (.int 1)), .inl (ia_i2 fun x y => x + y), .inl ia_iald, .inr (.inl (1, 2, 0)), .inl (ia_aload 2), .inl (ia_aload 0), .inl (ia_iload 4), .inl (ia_const (.int 1)), .inl (ia_i2 fun x y => x + y), .inl ia_iald, .inr (.inl (73, 2, 8)), .inl (ia_ieq 1042), .inl (ia_const (.int 0)), .inr (.inr 2), .inl (ia_aload 1), .inl (ia_aload 0), .inl (ia_iload 4), .inl (ia_const (.int 1)), .inl (ia_i2 fun x y => x + y), .inl ia_iald, .inr (.inl (2, 2, 0)), .inl (ia_aload 2), .inl (ia_aload 0), .inl (ia_iload 4), .inl (ia_const (.int 1)), .inl (ia_i2 fun x y => x + y), .inl ia_iald, .inr (.inl (74, 2, 8)), .inl (ia_ieq 1042), .inl (ia_const (.int 0)), .inr (.inr 2), .inl (ia_aload 1), .inr (.inl (3, 1, 0)), .inl (ia_aload 2), .inr (.inl (108, 1, 8)), .inl (ia_ieq 1042), .inl (ia_const (.int 0)), .inr (.inr 2), .inl (ia_aload 1), .inr (.inl (4, 1, 0)), .inl (ia_aload 2), .inr (.inl (109, 1, 8)), .inl (ia_ieq 1042), .inl (ia_const (.int 0)), .inr (.inr 2), .inl (ia_aload 1), .inl (ia_aload 0), .inl (ia_iload 4), .inl (ia_const (.int 1)), .inl (ia_i2 fun x y => x + y), .inl ia_iald, .inl (ia_aload 0), .inl (ia_iload 4), .inl (ia_const (.int 2)), .inl (ia_i2 fun x y => x + y), .inl ia_iald, .inr (.inl (5, 3, 0)), .inl (ia_aload 2), .inl (ia_aload 0), .inl (ia_iload 4), .inl (ia_const (.int 1)), .inl (ia_i2 fun x y => x + y), .inl ia_iald, .inl (ia_aload 0), .inl (ia_iload 4), .inl (ia_const (.int 2)), .inl (ia_i2 fun x y => x + y), .inl ia_iald, .inr (.inl (110, 3, 8)), .inl (ia_ieq 1042), .inl (ia_const (.int 0)), .inr (.inr 2), .inl (ia_aload 1), .inl (ia_aload 0), .inl (ia_iload 4), .inl (ia_const (.int 1)), .inl (ia_i2 fun x y => x + y), .inl ia_iald, .inr (.inl (6, 2, 0)), .inl (ia_aload 2), .inl (ia_aload 0), .inl (ia_iload 4), .inl (ia_const (.int 1)), .inl (ia_i2 fun x y => x + y), .inl ia_iald, .inr (.inl (138, 2, 8)), .inl (ia_ieq 1042), .inl (ia_const (.int 0)), .inr (.inr 2), .inl (ia_aload 1), .inl (ia_aload 0), .inl (ia_iload 4), .inl (ia_const (.int 1)), .inl (ia_i2 fun x y => x + y), .inl ia_iald, .inr (.inl (7, 2, 0)), .inl (ia_aload 2), .inl (ia_aload 0), .inl (ia_iload 4), .inl (ia_const (.int 1)), .inl (ia_i2 fun x y => x + y), .inl ia_iald, .inr (.inl (111, 2, 8)), .inl (ia_ieq 1042), .inl (ia_const (.int 0)), .inr (.inr 2), .inl (ia_aload 1), .inl (ia_aload 0), .inl (ia_iload 4), .inl (ia_const (.int 1)), .inl (ia_i2 fun x y => x + y), .inl ia_iald, .inr (.inl (8, 2, 0)), .inl (ia_aload 2), .inl (ia_aload 0), .inl (ia_iload 4), .inl (ia_const (.int 1)), .inl (ia_i2 fun x y => x + y), .inl ia_iald, .inr (.inl (112, 2, 8)), .inl (ia_ieq 1042), .inl (ia_const (.int 0)), .inr (.inr 2), .inl (ia_aload 1), .inl (ia_aload 0), .inl (ia_iload 4), .inl (ia_const (.int 1)), .inl (ia_i2 fun x y => x + y), .inl ia_iald, .inl (ia_aload 0), .inl (ia_iload 4), .inl (ia_const (.int 2)), .inl (ia_i2 fun x y => x + y), .inl ia_iald, .inl (ia_aload 0), .inl (ia_iload 4), .inl (ia_const (.int 3)), .inl (ia_i2 fun x y => x + y), .inl ia_iald, .inr (.inl (9, 4, 0)), .inl (ia_aload 2), .inl (ia_aload 0), .inl (ia_iload 4), .inl (ia_const (.int 1)), .inl (ia_i2 fun x y => x + y), .inl ia_iald, .inl (ia_aload 0), .inl (ia_iload 4), .inl (ia_const (.int 2)), .inl (ia_i2 fun x y => x + y), .inl ia_iald, .inl (ia_aload 0), .inl (ia_iload 4), .inl (ia_const (.int 3)), .inl (ia_i2 fun x y => x + y), .inl ia_iald, .inr (.inl (114, 4, 8)), .inl (ia_ieq 1042), .inl (ia_const (.int 0)), .inr (.inr 2), .inl (ia_aload 1), .inl (ia_aload 0), .inl (ia_iload 4), .inl (ia_const (.int 1)), .inl (ia_i2 fun x y => x + y), .inl ia_iald, .inl (ia_aload 0), .inl (ia_iload 4), .inl (ia_const (.int 2)), .inl (ia_i2 fun x y => x + y), .inl ia_iald, .inr (.inl (10, 3, 0)), .inl (ia_aload 2), .inl (ia_aload 0), .inl (ia_iload 4), .inl (ia_const (.int 1)), .inl (ia_i2 fun x y => x + y), .inl ia_iald, .inl (ia_aload 0), .inl (ia_iload 4), .inl (ia_const (.int 2)), .inl (ia_i2 fun x y => x + y), .inl ia_iald, .inr (.inl (115, 3, 8)), .inl (ia_ieq 1042), .inl (ia_const (.int 0)), .inr (.inr 2), .inl (ia_aload 1), .inl (ia_aload 0), .inl (ia_iload 4), .inl (ia_const (.int 1)), .inl (ia_i2 fun x y => x + y), .inl ia_iald, .inl (ia_aload 0), .inl (ia_iload 4), .inl (ia_const (.int 2)), .inl (ia_i2 fun x y => x + y), .inl ia_iald, .inr (.inl (11, 3, 0)), .inl (ia_aload 2), .inl (ia_aload 0), .inl (ia_iload 4), .inl (ia_const (.int 1)), .inl (ia_i2 fun x y => x + y), .inl ia_iald, .inl (ia_aload 0), .inl (ia_iload 4), .inl (ia_const (.int 2)), .inl (ia_i2 fun x y => x + y), .inl ia_iald, .inr (.inl (116, 3, 8)), .inl (ia_ieq 1042), .inl (ia_const (.int 0)), .inr (.inr 2), .inl (ia_aload 1), .inl (ia_aload 0), .inl (ia_iload 4), .inl (ia_const (.int 1)), .inl (ia_i2 fun x y => x + y), .inl ia_iald, .inl (ia_aload 0), .inl (ia_iload 4), .inl (ia_const (.int 2)), .inl (ia_i2 fun x y => x + y), .inl ia_iald, .inl (ia_aload 0), .inl (ia_iload 4), .inl (ia_const (.int 3)), .inl (ia_i2 fun x y => x + y), .inl ia_iald, .inr (.inl (12, 4, 0)), .inl (ia_aload 2), .inl (ia_aload 0), .inl (ia_iload 4), .inl (ia_const (.int 1)), .inl (ia_i2 fun x y => x + y), .inl ia_iald, .inl (ia_aload 0), .inl (ia_iload 4), .inl (ia_const (.int 2)), .inl (ia_i2 fun x y => x + y), .inl ia_iald, .inl (ia_aload 0), .inl (ia_iload 4), .inl (ia_const (.int 3)), .inl (ia_i2 fun x y => x + y), .inl ia_iald, .inr (.inl (117, 4, 8)), .inl (ia_ieq 1042), .inl (ia_const (.int 0)), .inr (.inr 2), .inl (ia_aload 1), .inr (.inl (13, 1, 0)), .inl (ia_aload 2), .inr (.inl (118, 1, 8)), .inl (ia_ieq 1042), .inl (ia_const (.int 0)), .inr (.inr 2), .inl (ia_aload 1), .inl (ia_aload 0), .inl (ia_iload 4), .inl (ia_const (.int 1)), .inl (ia_i2 fun x y => x + y), .inl ia_iald, .inr (.inl (14, 2, 0)), .inl (ia_aload 2), .inl (ia_aload 0), .inl (ia_iload 4), .inl (ia_const (.int 1)), .inl (ia_i2 fun x y => x + y), .inl ia_iald, .inr (.inl (120, 2, 8)), .inl (ia_ieq 1042), .inl (ia_const (.int 0)), .inr (.inr 2), .inl (ia_aload 1), .inl (ia_aload 0), .inl (ia_iload 4), .inl (ia_const (.int 1)), .inl (ia_i2 fun x y => x + y), .inl ia_iald, .inl (ia_aload 0), .inl (ia_iload 4), .inl (ia_const (.int 2)), .inl (ia_i2 fun x y => x + y), .inl ia_iald, .inl (ia_ifeq 317), .inl (ia_const (.int 1)), .inl (ia_goto 318), .inl (ia_const (.int 0)), .inl (ia_aload 0), .inl (ia_iload 4), .inl (ia_const (.int 3)), .inl (ia_i2 fun x y => x + y), .inl ia_iald, .inr (.inl (15, 4, 0)), .inl (ia_aload 2), .inl (ia_aload 0), .inl (ia_iload 4), .inl (ia_const (.int 1)), .inl (ia_i2 fun x y => x + y), .inl ia_iald, .inl (ia_aload 0), .inl (ia_iload 4), .inl (ia_const (.int 2)), .inl (ia_i2 fun x y => x + y), .inl ia_iald, .inl (ia_ifeq 338), .inl (ia_const (.int 1)), .inl (ia_goto 339), .inl (ia_const (.int 0)), .inl (ia_aload 0), .inl (ia_iload 4), .inl (ia_const (.int 3)), .inl (ia_i2 fun x y => x + y), .inl ia_iald, .inr (.inl (121, 4, 8)), .inl (ia_ieq 1042), .inl (ia_const (.int 0)), .inr (.inr 2), .inl (ia_aload 1), .inl (ia_aload 0), .inl (ia_iload 4), .inl (ia_const (.int 1)), .inl (ia_i2 fun x y => x + y), .inl ia_iald, .inl (ia_ifeq 357), .inl (ia_const (.int 1)), .inl (ia_goto 358), .inl (ia_const (.int 0)), .inr (.inl (16, 2, 0)), .inl (ia_aload 2), .inl (ia_aload 0), .inl (ia_iload 4), .inl (ia_const (.int 1)), .inl (ia_i2 fun x y => x + y), .inl ia_iald, .inl (ia_ifeq 368), .inl (ia_const (.int 1)), .inl (ia_goto 369), .inl (ia_const (.int 0)), .inr (.inl (119, 2, 8)), .inl (ia_ieq 1042), .inl (ia_const (.int 0)), .inr (.inr 2), .inl (ia_aload 1), .inl (ia_aload 0), .inl (ia_iload 4), .inl (ia_const (.int 1)), .inl (ia_i2 fun x y => x + y), .inl ia_iald, .inl (ia_aload 0), .inl (ia_iload 4), .inl (ia_const (.int 2)), .inl (ia_i2 fun x y => x + y), .inl ia_iald, .inr (.inl (17, 3, 0)), .inl (ia_aload 2), .inl (ia_aload 0), .inl (ia_iload 4), .inl (ia_const (.int 1)), .inl (ia_i2 fun x y => x + y), .inl ia_iald, .inl (ia_aload 0), .inl (ia_iload 4), .inl (ia_const (.int 2)), .inl (ia_i2 fun x y => x + y), .inl ia_iald, .inr (.inl (122, 3, 8)), .inl (ia_ieq 1042), .inl (ia_const (.int 0)), .inr (.inr 2), .inl (ia_aload 1), .inr (.inl (18, 1, 0)), .inl (ia_aload 2), .inr (.inl (124, 1, 8)), .inl (ia_ieq 1042), .inl (ia_const (.int 0)), .inr (.inr 2), .inl (ia_aload 1), .inl (ia_aload 0), .inl (ia_iload 4), .inl (ia_const (.int 1)), .inl (ia_i2 fun x y => x + y), .inl ia_iald, .inl (ia_aload 0), .inl (ia_iload 4), .inl (ia_const (.int 2)), .inl (ia_i2 fun x y => x + y), .inl ia_iald, .inr (.inl (19, 3, 0)), .inl (ia_aload 2), .inl (ia_aload 0), .inl (ia_iload 4), .inl (ia_const (.int 1)), .inl (ia_i2 fun x y => x + y), .inl ia_iald, .inl (ia_aload 0), .inl (ia_iload 4), .inl (ia_const (.int 2)), .inl (ia_i2 fun x y => x + y), .inl ia_iald, .inr (.inl (125, 3, 8)), .inl (ia_ieq 1042), .inl (ia_const (.int 0)), .inr (.inr 2), .inl (ia_aload 1), .inl (ia_aload 0), .inl (ia_iload 4), .inl (ia_const (.int 1)), .inl (ia_i2 fun x y => x + y), .inl ia_iald, .inl (ia_aload 0), .inl (ia_iload 4), .inl (ia_const (.int 2)), .inl (ia_i2 fun x y => x + y), .inl ia_iald, .inr (.inl (20, 3, 0)), .inl (ia_aload 2), .inl (ia_aload 0), .inl (ia_iload 4), .inl (ia_const (.int 1)), .inl (ia_i2 fun x y => x + y), .inl ia_iald, .inl (ia_aload 0), .inl (ia_iload 4), .inl (ia_const (.int 2)), .inl (ia_i2 fun x y => x + y), .inl ia_iald, .inr (.inl (128, 3, 8)), .inl (ia_ieq 1042), .inl (ia_const (.int 0)), .inr (.inr 2), .inl (ia_aload 1), .inl (ia_aload 0), .inl (ia_iload 4), .inl (ia_const (.int 1)), .inl (ia_i2 fun x y => x + y), .inl ia_iald, .inl (ia_aload 0), .inl (ia_iload 4), .inl (ia_const (.int 2)), .inl (ia_i2 fun x y => x + y), .inl ia_iald, .inr (.inl (21, 3, 0)), .inl (ia_aload 2), .inl (ia_aload 0), .inl (ia_iload 4), .inl (ia_const (.int 1)), .inl (ia_i2 fun x y => x + y), .inl ia_iald, .inl (ia_aload 0), .inl (ia_iload 4), .inl (ia_const (.int 2)), .inl (ia_i2 fun x y => x + y), .inl ia_iald, .inr (.inl (129, 3, 8)), .inl (ia_ieq 1042), .inl (ia_const (.int 0)), .inr (.inr 2), .inl (ia_aload 1), .inl (ia_aload 0), .inl (ia_iload 4), .inl (ia_const (.int 1)), .inl (ia_i2 fun x y => x + y), .inl ia_iald, .inr (.inl (22, 2, 0)), .inl (ia_aload 2), .inl (ia_aload 0), .inl (ia_iload 4), .inl (ia_const (.int 1)), .inl (ia_i2 fun x y => x + y), .inl ia_iald, .inr (.inl (130, 2, 8)), .inl (ia_ieq 1042), .inl (ia_const (.int 0)), .inr (.inr 2), .inl (ia_aload 1), .inl (ia_aload 0), .inl (ia_iload 4), .inl (ia_const (.int 1)), .inl (ia_i2 fun x y => x + y), .inl ia_iald, .inl (ia_aload 0), .inl (ia_iload 4), .inl (ia_const (.int 2)), .inl (ia_i2 fun x y => x + y), .inl ia_iald, .inl (ia_aload 0), .inl (ia_iload 4), .inl (ia_const (.int 3)), .inl (ia_i2 fun x y => x + y), .inl ia_iald, .inr (.inl (23, 4, 0)), .inl (ia_aload 2), .inl (ia_aload 0), .inl (ia_iload 4), .inl (ia_const (.int 1)), .inl (ia_i2 fun x y => x + y), .inl ia_iald, .inl (ia_aload 0), .inl (ia_iload 4), .inl (ia_const (.int 2)), .inl (ia_i2 fun x y => x + y), .inl ia_iald, .inl (ia_aload 0), .inl (ia_iload 4), .inl (ia_const (.int 3)), .inl (ia_i2 fun x y => x + y), .inl ia_iald, .inr (.inl (131, 4, 8)), .inl (ia_ieq 1042), .inl (ia_const (.int 0)), .inr (.inr 2), .inl (ia_aload 1), .inl (ia_aload 0), .inl (ia_iload 4), .inl (ia_const (.int 1)), .inl (ia_i2 fun x y => x + y), .inl ia_iald, .inl (ia_aload 0), .inl (ia_iload 4), .inl (ia_const (.int 2)), .inl (ia_i2 fun x y => x + y), .inl ia_iald, .inr (.inl (24, 3, 0)), .inl (ia_aload 2), .inl (ia_aload 0), .inl (ia_iload 4), .inl (ia_const (.int 1)), .inl (ia_i2 fun x y => x + y), .inl ia_iald, .inl (ia_aload 0), .inl (ia_iload 4), .inl (ia_const (.int 2)), .inl (ia_i2 fun x y => x + y), .inl ia_iald, .inr (.inl (132, 3, 8)), .inl (ia_ieq 1042), .inl (ia_const (.int 0)), .inr (.inr 2), .inl (ia_aload 1), .inl (ia_aload 0), .inl (ia_iload 4), .inl (ia_const (.int 1)), .inl (ia_i2 fun x y => x + y), .inl ia_iald, .inl (ia_aload 0), .inl (ia_iload 4), .inl (ia_const (.int 2)), .inl (ia_i2 fun x y => x + y), .inl ia_iald, .inr (.inl (25, 3, 0)), .inl (ia_aload 2), .inl (ia_aload 0), .inl (ia_iload 4), .inl (ia_const (.int 1)), .inl (ia_i2 fun x y => x + y), .inl ia_iald, .inl (ia_aload 0), .inl (ia_iload 4), .inl (ia_const (.int 2)), .inl (ia_i2 fun x y => x + y), .inl ia_iald, .inr (.inl (139, 3, 8)), .inl (ia_ieq 1042), .inl (ia_const (.int 0)), .inr (.inr 2), .inl (ia_aload 1), .inl (ia_aload 0), .inl (ia_iload 4), .inl (ia_const (.int 1)), .inl (ia_i2 fun x y => x + y), .inl ia_iald, .inl (ia_aload 0), .inl (ia_iload 4), .inl (ia_const (.int 2)), .inl (ia_i2 fun x y => x + y), .inl ia_iald, .inr (.inl (26, 3, 0)), .inl (ia_aload 2), .inl (ia_aload 0), .inl (ia_iload 4), .inl (ia_const (.int 1)), .inl (ia_i2 fun x y => x + y), .inl ia_iald, .inl (ia_aload 0), .inl (ia_iload 4), .inl (ia_const (.int 2)), .inl (ia_i2 fun x y => x + y), .inl ia_iald, .inr (.inl (140, 3, 8)), .inl (ia_ieq 1042), .inl (ia_const (.int 0)), .inr (.inr 2), .inl (ia_aload 1), .inl (ia_aload 0), .inl (ia_iload 4), .inl (ia_const (.int 1)), .inl (ia_i2 fun x y => x + y), .inl ia_iald, .inl (ia_aload 0), .inl (ia_iload 4), .inl (ia_const (.int 2)), .inl (ia_i2 fun x y => x + y), .inl ia_iald, .inl (ia_aload 0), .inl (ia_iload 4), .inl (ia_const (.int 3)), .inl (ia_i2 fun x y => x + y), .inl ia_iald, .inr (.inl (27, 4, 0)), .inl (ia_aload 2), .inl (ia_aload 0), .inl (ia_iload 4), .inl (ia_const (.int 1)), .inl (ia_i2 fun x y => x + y), .inl ia_iald, .inl (ia_aload 0), .inl (ia_iload 4), .inl (ia_const (.int 2)), .inl (ia_i2 fun x y => x + y), .inl ia_iald, .inl (ia_aload 0), .inl (ia_iload 4), .inl (ia_const (.int 3)), .inl (ia_i2 fun x y => x + y), .inl ia_iald, .inr (.inl (133, 4, 8)), .inl (ia_ieq 1042), .inl (ia_const (.int 0)), .inr (.inr 2), .inl (ia_aload 1), .inl (ia_aload 0), .inl (ia_iload 4), .inl (ia_const (.int 1)), .inl (ia_i2 fun x y => x + y), .inl ia_iald, .inl (ia_aload 0), .inl (ia_iload 4), .inl (ia_const (.int 2)), .inl (ia_i2 fun x y => x + y), .inl ia_iald, .inr (.inl (28, 3, 0)), .inl (ia_aload 2), .inl (ia_aload 0), .inl (ia_iload 4), .inl (ia_const (.int 1)), .inl (ia_i2 fun x y => x + y), .inl ia_iald, .inl (ia_aload 0), .inl (ia_iload 4), .inl (ia_const (.int 2)), .inl (ia_i2 fun x y => x + y), .inl ia_iald, .inr (.inl (134, 3, 8)), .inl (ia_ieq 1042), .inl (ia_const (.int 0)), .inr (.inr 2), .inl (ia_aload 1), .inl (ia_aload 0), .inl (ia_iload 4), .inl (ia_const (.int 1)), .inl (ia_i2 fun x y => x + y), .inl ia_iald, .inl (ia_aload 0), .inl (ia_iload 4), .inl (ia_const (.int 2)), .inl (ia_i2 fun x y => x + y), .inl ia_iald, .inr (.inl (29, 3, 0)), .inl (ia_aload 2), .inl (ia_aload 0), .inl (ia_iload 4), .inl (ia_const (.int 1)), .inl (ia_i2 fun x y => x + y), .inl ia_iald, .inl (ia_aload 0), .inl (ia_iload 4), .inl (ia_const (.int 2)), .inl (ia_i2 fun x y => x + y), .inl ia_iald, .inr (.inl (141, 3, 8)), .inl (ia_ieq 1042), .inl (ia_const (.int 0)), .inr (.inr 2), .inl (ia_aload 1), .inl (ia_aload 0), .inl (ia_iload 4), .inl (ia_const (.int 1)), .inl (ia_i2 fun x y => x + y), .inl ia_iald, .inr (.inl (30, 2, 0)), .inl (ia_aload 2), .inl (ia_aload 0), .inl (ia_iload 4), .inl (ia_const (.int 1)), .inl (ia_i2 fun x y => x + y), .inl ia_iald, .inr (.inl (146, 2, 8)), .inl ia_lcmp, .inl (ia_ifeq 1042), .inl (ia_const (.int 0)), .inr (.inr 2), .inl (ia_aload 1), .inl (ia_aload 0), .inl (ia_iload 4), .inl (ia_const (.int 1)), .inl (ia_i2 fun x y => x + y), .inl ia_iald, .inr (.inl (31, 2, 0)), .inl (ia_aload 2), .inl (ia_aload 0), .inl (ia_iload 4), .inl (ia_const (.int 1)), .inl (ia_i2 fun x y => x + y), .inl ia_iald, .inr (.inl (147, 2, 8)), .inl (ia_ieq 1042), .inl (ia_const (.int 0)), .inr (.inr 2), .inl (ia_aload 1), .inr (.inl (32, 1, 0)), .inl (ia_aload 2), .inr (.inl (150, 1, 8)), .inl (ia_ieq 1042), .inl (ia_const (.int 0)), .inr (.inr 2), .inl (ia_aload 1), .inl (ia_aload 0), .inl (ia_iload 4), .inl (ia_const (.int 1)), .inl (ia_i2 fun x y => x + y), .inl ia_iald, .inl (ia_aload 0), .inl (ia_iload 4), .inl (ia_const (.int 2)), .inl (ia_i2 fun x y => x + y), .inl ia_iald, .inr (.inl (33, 3, 0)), .inl (ia_aload 2), .inl (ia_aload 0), .inl (ia_iload 4), .inl (ia_const (.int 1)), .inl (ia_i2 fun x y => x + y), .inl ia_iald, .inl (ia_aload 0), .inl (ia_iload 4), .inl (ia_const (.int 2)), .inl (ia_i2 fun x y => x + y), .inl ia_iald, .inr (.inl (151, 3, 8)), .inl (ia_ieq 1042), .inl (ia_const (.int 0)), .inr (.inr 2), .inl (ia_aload 1), .inl (ia_aload 0), .inl (ia_iload 4), .inl (ia_const (.int 1)), .inl (ia_i2 fun x y => x + y), .inl ia_iald, .inr (.inl (34, 2, 0)), .inl (ia_aload 2), .inl (ia_aload 0), .inl (ia_iload 4), .inl (ia_const (.int 1)), .inl (ia_i2 fun x y => x + y), .inl ia_iald, .inr (.inl (152, 2, 8)), .inl (ia_ieq 1042), .inl (ia_const (.int 0)), .inr (.inr 2), .inl (ia_aload 1), .inl (ia_aload 0), .inl (ia_iload 4), .inl (ia_const (.int 1)), .inl (ia_i2 fun x y => x + y), .inl ia_iald, .inl (ia_aload 0), .inl (ia_iload 4), .inl (ia_const (.int 2)), .inl (ia_i2 fun x y => x + y), .inl ia_iald, .inr (.inl (35, 3, 0)), .inl (ia_aload 2), .inl (ia_aload 0), .inl (ia_iload 4), .inl (ia_const (.int 1)), .inl (ia_i2 fun x y => x + y), .inl ia_iald, .inl (ia_aload 0), .inl (ia_iload 4), .inl (ia_const (.int 2)), .inl (ia_i2 fun x y => x + y), .inl ia_iald, .inr (.inl (153, 3, 8)), .inl (ia_ieq 1042), .inl (ia_const (.int 0)), .inr (.inr 2), .inl (ia_aload 1), .inl (ia_aload 0), .inl (ia_iload 4), .inl (ia_const (.int 1)), .inl (ia_i2 fun x y => x + y), .inl ia_iald, .inr (.inl (36, 2, 0)), .inl (ia_aload 2), .inl (ia_aload 0), .inl (ia_iload 4), .inl (ia_const (.int 1)), .inl (ia_i2 fun x y => x + y), .inl ia_iald, .inr (.inl (154, 2, 8)), .inl (ia_ieq 1042), .inl (ia_const (.int 0)), .inr (.inr 2), .inl (ia_aload 1), .inr (.inl (37, 1, 0)), .inl (ia_aload 2), .inr (.inl (155, 1, 8)), .inl (ia_ieq 1042), .inl (ia_const (.int 0)), .inr (.inr 2), .inl (ia_aload 1), .inl (ia_aload 0), .inl (ia_iload 4), .inl (ia_const (.int 1)), .inl (ia_i2 fun x y => x + y), .inl ia_iald, .inr (.inl (38, 2, 0)), .inl (ia_aload 2), .inl (ia_aload 0), .inl (ia_iload 4), .inl (ia_const (.int 1)), .inl (ia_i2 fun x y => x + y), .inl ia_iald, .inr (.inl (156, 2, 8)), .inl (ia_ieq 1042), .inl (ia_const (.int 0)), .inr (.inr 2), .inl (ia_aload 1), .inl (ia_aload 0), .inl (ia_iload 4), .inl (ia_const (.int 1)), .inl (ia_i2 fun x y => x + y), .inl ia_iald, .inr (.inl (39, 2, 0)), .inl (ia_aload 2), .inl (ia_aload 0), .inl (ia_iload 4), .inl (ia_const (.int 1)), .inl (ia_i2 fun x y => x + y), .inl ia_iald, .inr (.inl (157, 2, 8)), .inl (ia_ieq 1042), .inl (ia_const (.int 0)), .inr (.inr 2), .inl (ia_aload 1), .inl (ia_aload 0), .inl (ia_iload 4), .inl (ia_const (.int 1)), .inl (ia_i2 fun x y => x + y), .inl ia_iald, .inr (.inl (40, 2, 0)), .inl (ia_aload 2), .inl (ia_aload 0), .inl (ia_iload 4), .inl (ia_const (.int 1)), .inl (ia_i2 fun x y => x + y), .inl ia_iald, .inr (.inl (159, 2, 8)), .inl (ia_ieq 1042), .inl (ia_const (.int 0)), .inr (.inr 2), .inl (ia_aload 1), .inr (.inl (41, 1, 0)), .inl (ia_aload 2), .inr (.inl (160, 1, 8)), .inl (ia_ieq 1042), .inl (ia_const (.int 0)), .inr (.inr 2), .inl (ia_aload 1), .inl (ia_aload 0), .inl (ia_iload 4), .inl (ia_const (.int 1)), .inl (ia_i2 fun x y => x + y), .inl ia_iald, .inr (.inl (42, 2, 0)), .inl (ia_aload 2), .inl (ia_aload 0), .inl (ia_iload 4), .inl (ia_const (.int 1)), .inl (ia_i2 fun x y => x + y), .inl ia_iald, .inr (.inl (161, 2, 8)), .inl (ia_ieq 1042), .inl (ia_const (.int 0)), .inr (.inr 2), .inl (ia_aload 1), .inr (.inl (43, 1, 0)), .inl (ia_aload 2), .inr (.inl (162, 1, 8)), .inl (ia_ieq 1042), .inl (ia_const (.int 0)), .inr (.inr 2), .inl (ia_aload 1), .inr (.inl (44, 1, 0)), .inl (ia_aload 2), .inr (.inl (163, 1, 8)), .inl (ia_ieq 1042), .inl (ia_const (.int 0)), .inr (.inr 2), .inl (ia_aload 1), .inl (ia_aload 0), .inl (ia_iload 4), .inl (ia_const (.int 1)), .inl (ia_i2 fun x y => x + y), .inl ia_iald, .inl (ia_aload 0), .inl (ia_iload 4), .inl (ia_const (.int 2)), .inl (ia_i2 fun x y => x + y), .inl ia_iald, .inr (.inl (45, 3, 0)), .inl (ia_aload 2), .inl (ia_aload 0), .inl (ia_iload 4), .inl (ia_const (.int 1)), .inl (ia_i2 fun x y => x + y), .inl ia_iald, .inl (ia_aload 0), .inl (ia_iload 4), .inl (ia_const (.int 2)), .inl (ia_i2 fun x y => x + y), .inl ia_iald, .inr (.inl (166, 3, 8)), .inl (ia_ieq 1042), .inl (ia_const (.int 0)), .inr (.inr 2), .inl (ia_aload 1), .inl (ia_aload 0), .inl (ia_iload 4), .inl (ia_const (.int 1)), .inl (ia_i2 fun x y => x + y), .inl ia_iald, .inr (.inl (46, 2, 0)), .inl (ia_aload 2), .inl (ia_aload 0), .inl (ia_iload 4), .inl (ia_const (.int 1)), .inl (ia_i2 fun x y => x + y), .inl ia_iald, .inr (.inl (167, 2, 8)), .inl (ia_ieq 1042), .inl (ia_const (.int 0)), .inr (.inr 2), .inl (ia_aload 1), .inr (.inl (47, 1, 0)), .inl (ia_aload 2), .inr (.inl (168, 1, 8)), .inl (ia_ieq 1042), .inl (ia_const (.int 0)), .inr (.inr 2), .inl (ia_aload 1), .inl (ia_aload 0), .inl (ia_iload 4), .inl (ia_const (.int 1)), .inl (ia_i2 fun x y => x + y), .inl ia_iald, .inr (.inl (48, 2, 0)), .inl (ia_aload 2), .inl (ia_aload 0), .inl (ia_iload 4), .inl (ia_const (.int 1)), .inl (ia_i2 fun x y => x + y), .inl ia_iald, .inr (.inl (170, 2, 8)), .inl (ia_ieq 1042), .inl (ia_const (.int 0)), .inr (.inr 2), .inl (ia_aload 1), .inl (ia_aload 0), .inl (ia_iload 4), .inl (ia_const (.int 1)), .inl (ia_i2 fun x y => x + y), .inl ia_iald, .inl (ia_aload 3), .inl ia_lrow, .inl (ia_istore 5), .inl (ia_aload 2), .inl (ia_aload 0), .inl (ia_iload 4), .inl (ia_const (.int 1)), .inl (ia_i2 fun x y => x + y), .inl ia_iald, .inr (.inl (171, 2, 8)), .inl (ia_lstore 6), .inl (ia_aload 2), .inr (.inl (68, 1, 8)), .inl (ia_iload 5), .inl (ia_ieq 1031), .inl (ia_const (.int 0)), .inr (.inr 2), .inl (ia_iload 5), .inl (ia_ifne 1041), .inl (ia_aload 3), .inl (ia_const (.int 0)), .inl ia_lald, .inl (ia_lload 6), .inl ia_lcmp, .inl (ia_ifeq 1041), .inl (ia_const (.int 0)), .inr (.inr 2), .inl (ia_goto 1042), .inl (ia_iinc 4 4), .inl (ia_goto 13), .inl (ia_const (.int 1)), .inr (.inr 2)])
def cb_ml0 : List is_M := [mt_0, mt_1, mt_2, mt_3, mt_4, mt_5, mt_6, mt_7, mt_8, mt_9, mt_10, mt_11, mt_12, mt_13, mt_14, mt_15, mt_16, mt_17, mt_18, mt_19, mt_20, mt_21, mt_22, mt_23, mt_24, mt_25, mt_26, mt_27, mt_28, mt_29, mt_30, mt_31]
def cb_ml1 : List is_M := [mt_32, mt_33, mt_34, mt_35, mt_36, mt_37, mt_38, mt_39, mt_40, mt_41, mt_42, mt_43, mt_44, mt_45, mt_46, mt_47, mt_48, mt_49, mt_50, mt_51, mt_52, mt_53, mt_54, mt_55, mt_56, mt_57, mt_58, mt_59, mt_60, mt_61, mt_62, mt_63]
def cb_ml2 : List is_M := [mt_64, mt_65, mt_66, mt_67, mt_68, mt_69, mt_70, mt_71, mt_72, mt_73, mt_74, mt_75, mt_76, mt_77, mt_78, mt_79, mt_80, mt_81, mt_82, mt_83, mt_84, mt_85, mt_86, mt_87, mt_88, mt_89, mt_90, mt_91, mt_92, mt_93, mt_94, mt_95]
def cb_ml3 : List is_M := [mt_96, mt_97, mt_98, mt_99, mt_100, mt_101, mt_102, mt_103, mt_104, mt_105, mt_106, mt_107, mt_108, mt_109, mt_110, mt_111, mt_112, mt_113, mt_114, mt_115, mt_116, mt_117, mt_118, mt_119, mt_120, mt_121, mt_122, mt_123, mt_124, mt_125, mt_126, mt_127]
def cb_ml4 : List is_M := [mt_128, mt_129, mt_130, mt_131, mt_132, mt_133, mt_134, mt_135, mt_136, mt_137, mt_138, mt_139, mt_140, mt_141, mt_142, mt_143, mt_144, mt_145, mt_146, mt_147, mt_148, mt_149, mt_150, mt_151, mt_152, mt_153, mt_154, mt_155, mt_156, mt_157, mt_158, mt_159]
def cb_ml5 : List is_M := [mt_160, mt_161, mt_162, mt_163, mt_164, mt_165, mt_166, mt_167, mt_168, mt_169, mt_170, mt_171, mt_172, mt_173, mt_174, mt_175, mt_176, mt_177, mt_178, mt_179, mt_180, mt_181, mt_182, mt_183, mt_184, mt_185, mt_186, mt_187, mt_188, mt_189, mt_190, mt_191]
def cb_ml6 : List is_M := [mt_192, mt_193, mt_194, mt_195, mt_196, mt_197, mt_198, mt_199, mt_200, mt_201, mt_202, mt_203, mt_204, mt_205, mt_206, mt_207, mt_208, mt_209, mt_210, mt_211, mt_212, mt_213, mt_214, mt_215, mt_216, mt_217, mt_218, mt_219, mt_220, mt_221, mt_222, mt_223]
def cb_ml7 : List is_M := [mt_224, mt_225, mt_226, mt_227, mt_228, mt_229, mt_230, mt_231, mt_232, mt_233, mt_234, mt_235, mt_236, mt_237, mt_238, mt_239, mt_240, mt_241, mt_242, mt_243, mt_244, mt_245, mt_246, mt_247, mt_248, mt_249, mt_250, mt_251, mt_252, mt_253, mt_254, mt_255]
def cb_ml8 : List is_M := [mt_256, mt_257, mt_258, mt_259]
def cb_MT (y : Nat) : is_M := ([cb_ml0, cb_ml1, cb_ml2, cb_ml3, cb_ml4, cb_ml5, cb_ml6, cb_ml7, cb_ml8].getD (y / 32) []).getD (y % 32) mt_0
abbrev cb_NM : Nat := 259
end
section
/-! EQUATIONS: what each row does to `dn`; calls by what they return -/
def cb_P (y k : Nat) : Option ia_R := is_row (cb_MT y) k
def cb_M (y : Nat) : Nat := is_mL (cb_MT y)
noncomputable def dn (y k : Nat) (L : ia_L) (st : List Value) (h : ia_H) : ia_O := ia_den cb_P cb_M y k L st h
noncomputable def cl (y : Nat) (as : List Value) (h : ia_H) : ia_O := dn y 0 (ia_ent (cb_M y) as) [] h
theorem dq {y k : Nat} {f : ia_F} {L : ia_L} {st : List Value} {h : ia_H} {k' : Nat} {L' : ia_L} {st' : List Value} {h' : ia_H} (hP : cb_P y k = some (.inl f)) (hf : f k L st h = some (k', L', st', h')) : dn y k L st h = dn y k' L' st' h' := ia_den_to cb_P cb_M hP hf
theorem dq_iinc {y k i : Nat} {n : Int} {L : ia_L} {st : List Value} {h : ia_H} {x v : Int32} (hP : cb_P y k = some (.inl (ia_iinc i n))) (hx : L[i]? = some (some (.int x))) (hv : Int32.ofInt n = v) : dn y k L st h = dn y (k + 1) (L.set i (some (.int (x + v)))) st h := by
  refine ia_den_to cb_P cb_M hP ?_
  rw [ia_iinc, hx, ← hv]
theorem dq_bind {y k : Nat} {f : ia_F} {L : ia_L} {st : List Value} {h : ia_H} {α : Type} {o : Option α} {g : α → ia_S} (hP : cb_P y k = some (.inl f)) (hf : f k L st h = o.map g) : dn y k L st h = o.bind fun x => dn y (g x).1 (g x).2.1 (g x).2.2.1 (g x).2.2.2 := by
  rw [dn, ia_den_go cb_P cb_M hP, hf]
  cases o <;> rfl
def kxi (o : ia_O) (f : Int32 → ia_H → ia_O) : ia_O := o.bind fun s => match s.1 with
  | some (.int r) => f r s.2
  | _ => none
def kxl (o : ia_O) (f : Int64 → ia_H → ia_O) : ia_O := o.bind fun s => match s.1 with
  | some (.long r) => f r s.2
  | _ => none
def kxr (o : ia_O) (f : Nat → ia_H → ia_O) : ia_O := o.bind fun s => match s.1 with
  | some (.ref r) => f r s.2
  | _ => none
def kxv (o : ia_O) (f : ia_H → ia_O) : ia_O := o.bind fun s => match s.1 with
  | none => f s.2
  | _ => none
theorem kxi_s (r : Int32) (h : ia_H) (f : Int32 → ia_H → ia_O) : kxi (some (some (.int r), h)) f = f r h := rfl
theorem kxl_s (r : Int64) (h : ia_H) (f : Int64 → ia_H → ia_O) : kxl (some (some (.long r), h)) f = f r h := rfl
theorem kxr_s (r : Nat) (h : ia_H) (f : Nat → ia_H → ia_O) : kxr (some (some (.ref r), h)) f = f r h := rfl
theorem kxv_s (h : ia_H) (f : ia_H → ia_O) : kxv (some (none, h)) f = f h := rfl
theorem kxi_c {o : ia_O} {f g : Int32 → ia_H → ia_O} (h : ∀ r q, f r q = g r q) : kxi o f = kxi o g := by rw [show f = g from funext fun r => funext fun q => h r q]
theorem kxl_c {o : ia_O} {f g : Int64 → ia_H → ia_O} (h : ∀ r q, f r q = g r q) : kxl o f = kxl o g := by rw [show f = g from funext fun r => funext fun q => h r q]
theorem kxr_c {o : ia_O} {f g : Nat → ia_H → ia_O} (h : ∀ r q, f r q = g r q) : kxr o f = kxr o g := by rw [show f = g from funext fun r => funext fun q => h r q]
theorem kxv_c {o : ia_O} {f g : ia_H → ia_O} (h : ∀ q, f q = g q) : kxv o f = kxv o g := by rw [show f = g from funext h]
theorem bn_c {α β : Type} {o : Option α} {f g : α → Option β} (h : ∀ x, f x = g x) : o.bind f = o.bind g := by rw [show f = g from funext h]
theorem it_c {c : Prop} [Decidable c] {α : Type} {a b : Option α} (h : a = b) : (if c then a else none) = (if c then b else none) := by rw [h]
theorem ie_c {c : Prop} [Decidable c] {α : Type} {a b a' b' : α} (h : a = a') (h' : b = b') : (if c then a else b) = (if c then a' else b') := by rw [h, h']
theorem oe_c {α β : Type} {o : Option α} {a a' : β} {f f' : α → β} (h : a = a') (h' : ∀ x, f x = f' x) : o.elim a f = o.elim a' f' := by rw [h, show f = f' from funext h']
/-- the kinds of a method's returns -/
def ia_kd (p : Nat → Bool) (ws : List ia_R) : Bool := ws.all fun w => match w with
  | .inr (.inr r) => p r
  | _ => true
theorem ia_kd_run (P : Nat → Nat → Option ia_R) (M : Nat → Nat) (y : Nat) (p : Nat → Bool) (hp : ∀ k r, P y k = some (.inr (.inr r)) → p r = true) : ∀ (n k : Nat) (L : ia_L) (st : List Value) (h : ia_H) (o : Option Value × ia_H), ia_run P M n y k L st h = some o → ∃ (r : Nat) (st' : List Value), p r = true ∧ ia_ret r st' = some o.1 := by
  intro n
  induction n with
  | zero => intro k L st h o ho; cases ho
  | succ n ih =>
    intro k L st h o ho
    rw [ia_run] at ho
    split at ho
    · cases ho
    · obtain ⟨s, h1, h2⟩ := Option.bind_eq_some_iff.mp ho
      exact ih _ _ _ _ _ h2
    · split at ho
      · cases ho
      · obtain ⟨s, h1, h2⟩ := Option.bind_eq_some_iff.mp ho
        exact ih _ _ _ _ _ h2
    · rename_i r hf
      obtain ⟨v, hv, rfl⟩ := Option.map_eq_some_iff.mp ho
      exact ⟨r, st, hp k r hf, hv⟩
theorem ia_kd_cl {y : Nat} {p : Nat → Bool} (hk : ia_kd p (cb_MT y).2.2.2.2.2.2.2 = true) {as : List Value} {h : ia_H} {o : Option Value × ia_H} (ho : cl y as h = some o) : ∃ (r : Nat) (st' : List Value), p r = true ∧ ia_ret r st' = some o.1 := by
  obtain ⟨n, hn⟩ := (ia_den_iff cb_P cb_M).mp ho
  refine ia_kd_run cb_P cb_M y p (fun k r hr => ?_) n _ _ _ _ _ hn
  have := List.all_eq_true.mp hk _ (List.mem_of_getElem? hr)
  exact this
def ia_kI (r : Nat) : Bool := r == 1 || r == 2
def ia_kV (r : Nat) : Bool := r == 0
def ia_kL (r : Nat) : Bool := r == 3
def ia_kR (r : Nat) : Bool := r == 4
theorem ia_ret_I {r : Nat} {st : List Value} {v : Option Value} (hp : ia_kI r = true) (h : ia_ret r st = some v) : ∃ x, v = some (.int x) := by
  unfold ia_kI at hp
  unfold ia_ret at h
  split at h <;> simp_all
  · exact ⟨_, h.symm⟩
  · exact ⟨_, h.2.symm⟩
theorem ia_ret_V {r : Nat} {st : List Value} {v : Option Value} (hp : ia_kV r = true) (h : ia_ret r st = some v) : v = none := by
  unfold ia_kV at hp
  unfold ia_ret at h
  split at h <;> simp_all
theorem ia_ret_L {r : Nat} {st : List Value} {v : Option Value} (hp : ia_kL r = true) (h : ia_ret r st = some v) : ∃ x, v = some (.long x) := by
  unfold ia_kL at hp
  unfold ia_ret at h
  split at h <;> simp_all
  exact ⟨_, h.symm⟩
theorem ia_ret_R {r : Nat} {st : List Value} {v : Option Value} (hp : ia_kR r = true) (h : ia_ret r st = some v) : ∃ x, v = some (.ref x) := by
  unfold ia_kR at hp
  unfold ia_ret at h
  split at h <;> simp_all
  exact ⟨_, h.symm⟩
theorem dq_kxi {y k z na rc : Nat} {L : ia_L} {st : List Value} {h : ia_H} (hP : cb_P y k = some (.inr (.inl (z, na, rc)))) (hl : na ≤ st.length) (hw : ia_w (st.take na) ≤ cb_M z) (hd : ia_w (st.drop na) ≤ 8) (ht : ia_kd ia_kI (cb_MT z).2.2.2.2.2.2.2 = true) : dn y k L st h = if ia_ok h rc (st.take na).reverse = true then kxi (cl z (st.take na).reverse h) (fun r h' => dn y (k + 1) L (.int r :: st.drop na) h') else none := by
  rw [dn, ia_den_call cb_P cb_M hP L st h hl hw hd]
  by_cases hok : ia_ok h rc (st.take na).reverse = true
  · rw [if_pos hok, if_pos hok]
    show (cl z (st.take na).reverse h).bind _ = _
    cases hc : cl z (st.take na).reverse h with
    | none => rfl
    | some s =>
      obtain ⟨v, h1⟩ := s
      obtain ⟨r, st', h2, h3⟩ := ia_kd_cl ht hc
      obtain ⟨x, hx⟩ := ia_ret_I h2 h3
      cases hx
      rfl
  · rw [if_neg hok, if_neg hok]
theorem dq_kxi0 {y k z na : Nat} {L : ia_L} {st : List Value} {h : ia_H} (hP : cb_P y k = some (.inr (.inl (z, na, 100)))) (hl : na ≤ st.length) (hw : ia_w (st.take na) ≤ cb_M z) (hd : ia_w (st.drop na) ≤ 8) (ht : ia_kd ia_kI (cb_MT z).2.2.2.2.2.2.2 = true) : dn y k L st h = kxi (cl z (st.take na).reverse h) (fun r h' => dn y (k + 1) L (.int r :: st.drop na) h') := (dq_kxi hP hl hw hd ht).trans (if_pos rfl)
theorem dq_kxi1 {y k z na : Nat} {L : ia_L} {st : List Value} {h : ia_H} {a : Nat} {as : List Value} (hP : cb_P y k = some (.inr (.inl (z, na, 101)))) (hl : na ≤ st.length) (hw : ia_w (st.take na) ≤ cb_M z) (hd : ia_w (st.drop na) ≤ 8) (ht : ia_kd ia_kI (cb_MT z).2.2.2.2.2.2.2 = true) (ha : (st.take na).reverse = .ref a :: as) : dn y k L st h = kxi (cl z (st.take na).reverse h) (fun r h' => dn y (k + 1) L (.int r :: st.drop na) h') := (dq_kxi hP hl hw hd ht).trans (if_pos (by rw [ha]; rfl))
theorem dq_kxl {y k z na rc : Nat} {L : ia_L} {st : List Value} {h : ia_H} (hP : cb_P y k = some (.inr (.inl (z, na, rc)))) (hl : na ≤ st.length) (hw : ia_w (st.take na) ≤ cb_M z) (hd : ia_w (st.drop na) ≤ 8) (ht : ia_kd ia_kL (cb_MT z).2.2.2.2.2.2.2 = true) : dn y k L st h = if ia_ok h rc (st.take na).reverse = true then kxl (cl z (st.take na).reverse h) (fun r h' => dn y (k + 1) L (.long r :: st.drop na) h') else none := by
  rw [dn, ia_den_call cb_P cb_M hP L st h hl hw hd]
  by_cases hok : ia_ok h rc (st.take na).reverse = true
  · rw [if_pos hok, if_pos hok]
    show (cl z (st.take na).reverse h).bind _ = _
    cases hc : cl z (st.take na).reverse h with
    | none => rfl
    | some s =>
      obtain ⟨v, h1⟩ := s
      obtain ⟨r, st', h2, h3⟩ := ia_kd_cl ht hc
      obtain ⟨x, hx⟩ := ia_ret_L h2 h3
      cases hx
      rfl
  · rw [if_neg hok, if_neg hok]
theorem dq_kxl0 {y k z na : Nat} {L : ia_L} {st : List Value} {h : ia_H} (hP : cb_P y k = some (.inr (.inl (z, na, 100)))) (hl : na ≤ st.length) (hw : ia_w (st.take na) ≤ cb_M z) (hd : ia_w (st.drop na) ≤ 8) (ht : ia_kd ia_kL (cb_MT z).2.2.2.2.2.2.2 = true) : dn y k L st h = kxl (cl z (st.take na).reverse h) (fun r h' => dn y (k + 1) L (.long r :: st.drop na) h') := (dq_kxl hP hl hw hd ht).trans (if_pos rfl)
theorem dq_kxl1 {y k z na : Nat} {L : ia_L} {st : List Value} {h : ia_H} {a : Nat} {as : List Value} (hP : cb_P y k = some (.inr (.inl (z, na, 101)))) (hl : na ≤ st.length) (hw : ia_w (st.take na) ≤ cb_M z) (hd : ia_w (st.drop na) ≤ 8) (ht : ia_kd ia_kL (cb_MT z).2.2.2.2.2.2.2 = true) (ha : (st.take na).reverse = .ref a :: as) : dn y k L st h = kxl (cl z (st.take na).reverse h) (fun r h' => dn y (k + 1) L (.long r :: st.drop na) h') := (dq_kxl hP hl hw hd ht).trans (if_pos (by rw [ha]; rfl))
theorem dq_kxr {y k z na rc : Nat} {L : ia_L} {st : List Value} {h : ia_H} (hP : cb_P y k = some (.inr (.inl (z, na, rc)))) (hl : na ≤ st.length) (hw : ia_w (st.take na) ≤ cb_M z) (hd : ia_w (st.drop na) ≤ 8) (ht : ia_kd ia_kR (cb_MT z).2.2.2.2.2.2.2 = true) : dn y k L st h = if ia_ok h rc (st.take na).reverse = true then kxr (cl z (st.take na).reverse h) (fun r h' => dn y (k + 1) L (.ref r :: st.drop na) h') else none := by
  rw [dn, ia_den_call cb_P cb_M hP L st h hl hw hd]
  by_cases hok : ia_ok h rc (st.take na).reverse = true
  · rw [if_pos hok, if_pos hok]
    show (cl z (st.take na).reverse h).bind _ = _
    cases hc : cl z (st.take na).reverse h with
    | none => rfl
    | some s =>
      obtain ⟨v, h1⟩ := s
      obtain ⟨r, st', h2, h3⟩ := ia_kd_cl ht hc
      obtain ⟨x, hx⟩ := ia_ret_R h2 h3
      cases hx
      rfl
  · rw [if_neg hok, if_neg hok]
theorem dq_kxr0 {y k z na : Nat} {L : ia_L} {st : List Value} {h : ia_H} (hP : cb_P y k = some (.inr (.inl (z, na, 100)))) (hl : na ≤ st.length) (hw : ia_w (st.take na) ≤ cb_M z) (hd : ia_w (st.drop na) ≤ 8) (ht : ia_kd ia_kR (cb_MT z).2.2.2.2.2.2.2 = true) : dn y k L st h = kxr (cl z (st.take na).reverse h) (fun r h' => dn y (k + 1) L (.ref r :: st.drop na) h') := (dq_kxr hP hl hw hd ht).trans (if_pos rfl)
theorem dq_kxr1 {y k z na : Nat} {L : ia_L} {st : List Value} {h : ia_H} {a : Nat} {as : List Value} (hP : cb_P y k = some (.inr (.inl (z, na, 101)))) (hl : na ≤ st.length) (hw : ia_w (st.take na) ≤ cb_M z) (hd : ia_w (st.drop na) ≤ 8) (ht : ia_kd ia_kR (cb_MT z).2.2.2.2.2.2.2 = true) (ha : (st.take na).reverse = .ref a :: as) : dn y k L st h = kxr (cl z (st.take na).reverse h) (fun r h' => dn y (k + 1) L (.ref r :: st.drop na) h') := (dq_kxr hP hl hw hd ht).trans (if_pos (by rw [ha]; rfl))
theorem dq_kxv {y k z na rc : Nat} {L : ia_L} {st : List Value} {h : ia_H} (hP : cb_P y k = some (.inr (.inl (z, na, rc)))) (hl : na ≤ st.length) (hw : ia_w (st.take na) ≤ cb_M z) (hd : ia_w (st.drop na) ≤ 8) (ht : ia_kd ia_kV (cb_MT z).2.2.2.2.2.2.2 = true) : dn y k L st h = if ia_ok h rc (st.take na).reverse = true then kxv (cl z (st.take na).reverse h) (fun h' => dn y (k + 1) L (st.drop na) h') else none := by
  rw [dn, ia_den_call cb_P cb_M hP L st h hl hw hd]
  by_cases hok : ia_ok h rc (st.take na).reverse = true
  · rw [if_pos hok, if_pos hok]
    show (cl z (st.take na).reverse h).bind _ = _
    cases hc : cl z (st.take na).reverse h with
    | none => rfl
    | some s =>
      obtain ⟨v, h1⟩ := s
      obtain ⟨r, st', h2, h3⟩ := ia_kd_cl ht hc
      have hx := ia_ret_V h2 h3
      cases hx
      rfl
  · rw [if_neg hok, if_neg hok]
theorem dq_kxv0 {y k z na : Nat} {L : ia_L} {st : List Value} {h : ia_H} (hP : cb_P y k = some (.inr (.inl (z, na, 100)))) (hl : na ≤ st.length) (hw : ia_w (st.take na) ≤ cb_M z) (hd : ia_w (st.drop na) ≤ 8) (ht : ia_kd ia_kV (cb_MT z).2.2.2.2.2.2.2 = true) : dn y k L st h = kxv (cl z (st.take na).reverse h) (fun h' => dn y (k + 1) L (st.drop na) h') := (dq_kxv hP hl hw hd ht).trans (if_pos rfl)
theorem dq_kxv1 {y k z na : Nat} {L : ia_L} {st : List Value} {h : ia_H} {a : Nat} {as : List Value} (hP : cb_P y k = some (.inr (.inl (z, na, 101)))) (hl : na ≤ st.length) (hw : ia_w (st.take na) ≤ cb_M z) (hd : ia_w (st.drop na) ≤ 8) (ht : ia_kd ia_kV (cb_MT z).2.2.2.2.2.2.2 = true) (ha : (st.take na).reverse = .ref a :: as) : dn y k L st h = kxv (cl z (st.take na).reverse h) (fun h' => dn y (k + 1) L (st.drop na) h') := (dq_kxv hP hl hw hd ht).trans (if_pos (by rw [ha]; rfl))
theorem dq_ret0 {y k : Nat} {L : ia_L} {h : ia_H} (hP : cb_P y k = some (.inr (.inr 0))) : dn y k L [] h = some (none, h) := by
  rw [dn, ia_den_ret cb_P cb_M hP]
  rfl
theorem dq_ret1 {y k : Nat} {L : ia_L} {h : ia_H} {x : Int32} (hP : cb_P y k = some (.inr (.inr 1))) : dn y k L [.int x] h = some (some (.int x), h) := by
  rw [dn, ia_den_ret cb_P cb_M hP]
  rfl
theorem dq_ret3 {y k : Nat} {L : ia_L} {h : ia_H} {x : Int64} (hP : cb_P y k = some (.inr (.inr 3))) : dn y k L [.long x] h = some (some (.long x), h) := by
  rw [dn, ia_den_ret cb_P cb_M hP]
  rfl
theorem dq_ret4 {y k : Nat} {L : ia_L} {h : ia_H} {x : Nat} (hP : cb_P y k = some (.inr (.inr 4))) : dn y k L [.ref x] h = some (some (.ref x), h) := by
  rw [dn, ia_den_ret cb_P cb_M hP]
  rfl
theorem dq_ret2 {y k : Nat} {L : ia_L} {h : ia_H} {x : Int32} (hP : cb_P y k = some (.inr (.inr 2))) : dn y k L [.int x] h = if x = 0 ∨ x = 1 then some (some (.int x), h) else none := by
  rw [dn, ia_den_ret cb_P cb_M hP]
  simp only [ia_ret]
  split <;> rfl
theorem dq_ret20 {y k : Nat} {L : ia_L} {h : ia_H} (hP : cb_P y k = some (.inr (.inr 2))) : dn y k L [.int 0] h = some (some (.int 0), h) := (dq_ret2 hP).trans (if_pos (Or.inl rfl))
theorem dq_ret21 {y k : Nat} {L : ia_L} {h : ia_H} (hP : cb_P y k = some (.inr (.inr 2))) : dn y k L [.int 1] h = some (some (.int 1), h) := (dq_ret2 hP).trans (if_pos (Or.inr rfl))
theorem dq_ifeq {y k t : Nat} {L : ia_L} {st : List Value} {h : ia_H} {x : Int32} (hP : cb_P y k = some (.inl (ia_ifeq t))) : dn y k L (.int x :: st) h = if x = 0 then dn y t L st h else dn y (k + 1) L st h := by
  refine (dq hP rfl).trans ?_
  split <;> rfl
theorem dq_ifne {y k t : Nat} {L : ia_L} {st : List Value} {h : ia_H} {x : Int32} (hP : cb_P y k = some (.inl (ia_ifne t))) : dn y k L (.int x :: st) h = if x = 0 then dn y (k + 1) L st h else dn y t L st h := by
  refine (dq hP rfl).trans ?_
  split <;> rfl
theorem dq_iflt {y k t : Nat} {L : ia_L} {st : List Value} {h : ia_H} {x : Int32} (hP : cb_P y k = some (.inl (ia_iflt t))) : dn y k L (.int x :: st) h = if x < 0 then dn y t L st h else dn y (k + 1) L st h := by
  refine (dq hP rfl).trans ?_
  split <;> rfl
theorem dq_ifge {y k t : Nat} {L : ia_L} {st : List Value} {h : ia_H} {x : Int32} (hP : cb_P y k = some (.inl (ia_ifge t))) : dn y k L (.int x :: st) h = if 0 ≤ x then dn y t L st h else dn y (k + 1) L st h := by
  refine (dq hP rfl).trans ?_
  split <;> rfl
theorem dq_ifgt {y k t : Nat} {L : ia_L} {st : List Value} {h : ia_H} {x : Int32} (hP : cb_P y k = some (.inl (ia_ifgt t))) : dn y k L (.int x :: st) h = if 0 < x then dn y t L st h else dn y (k + 1) L st h := by
  refine (dq hP rfl).trans ?_
  split <;> rfl
theorem dq_ifle {y k t : Nat} {L : ia_L} {st : List Value} {h : ia_H} {x : Int32} (hP : cb_P y k = some (.inl (ia_ifle t))) : dn y k L (.int x :: st) h = if x ≤ 0 then dn y t L st h else dn y (k + 1) L st h := by
  refine (dq hP rfl).trans ?_
  split <;> rfl
theorem dq_ieq {y k t : Nat} {L : ia_L} {st : List Value} {h : ia_H} {x w : Int32} (hP : cb_P y k = some (.inl (ia_ieq t))) : dn y k L (.int w :: .int x :: st) h = if x = w then dn y t L st h else dn y (k + 1) L st h := by
  refine (dq hP rfl).trans ?_
  split <;> rfl
theorem dq_ine {y k t : Nat} {L : ia_L} {st : List Value} {h : ia_H} {x w : Int32} (hP : cb_P y k = some (.inl (ia_ine t))) : dn y k L (.int w :: .int x :: st) h = if x = w then dn y (k + 1) L st h else dn y t L st h := by
  refine (dq hP rfl).trans ?_
  split <;> rfl
theorem dq_ilt {y k t : Nat} {L : ia_L} {st : List Value} {h : ia_H} {x w : Int32} (hP : cb_P y k = some (.inl (ia_ilt t))) : dn y k L (.int w :: .int x :: st) h = if x < w then dn y t L st h else dn y (k + 1) L st h := by
  refine (dq hP rfl).trans ?_
  split <;> rfl
theorem dq_ige {y k t : Nat} {L : ia_L} {st : List Value} {h : ia_H} {x w : Int32} (hP : cb_P y k = some (.inl (ia_ige t))) : dn y k L (.int w :: .int x :: st) h = if w ≤ x then dn y t L st h else dn y (k + 1) L st h := by
  refine (dq hP rfl).trans ?_
  split <;> rfl
theorem dq_igt {y k t : Nat} {L : ia_L} {st : List Value} {h : ia_H} {x w : Int32} (hP : cb_P y k = some (.inl (ia_igt t))) : dn y k L (.int w :: .int x :: st) h = if w < x then dn y t L st h else dn y (k + 1) L st h := by
  refine (dq hP rfl).trans ?_
  split <;> rfl
theorem dq_ile {y k t : Nat} {L : ia_L} {st : List Value} {h : ia_H} {x w : Int32} (hP : cb_P y k = some (.inl (ia_ile t))) : dn y k L (.int w :: .int x :: st) h = if x ≤ w then dn y t L st h else dn y (k + 1) L st h := by
  refine (dq hP rfl).trans ?_
  split <;> rfl
theorem dq_i2z {y k : Nat} {f : Int32 → Int32 → Int32} {L : ia_L} {st : List Value} {h : ia_H} {x w : Int32} (hP : cb_P y k = some (.inl (ia_i2z f))) : dn y k L (.int w :: .int x :: st) h = if w = 0 then none else dn y (k + 1) L (.int (f x w) :: st) h := by
  rw [dn, ia_den_go cb_P cb_M hP]
  simp only [ia_i2z]
  split <;> rfl
theorem dq_i2zl {y k : Nat} {f : Int32 → Int32 → Int32} {L : ia_L} {st : List Value} {h : ia_H} {x w : Int32} (hP : cb_P y k = some (.inl (ia_i2z f))) (hw : ¬ w = 0) : dn y k L (.int w :: .int x :: st) h = dn y (k + 1) L (.int (f x w) :: st) h := (dq_i2z hP).trans (if_neg hw)
theorem dq_getI {y k ci f : Nat} {L : ia_L} {st : List Value} {h : ia_H} {a : Nat} (hP : cb_P y k = some (.inl (ia_getI ci f))) : dn y k L (.ref a :: st) h = (ia_gI h ci a f).bind fun x => dn y (k + 1) L (.int x :: st) h := dq_bind (g := fun x => (k + 1, L, .int x :: st, h)) hP rfl
theorem dq_getR {y k ci f : Nat} {L : ia_L} {st : List Value} {h : ia_H} {a : Nat} (hP : cb_P y k = some (.inl (ia_getR ci f))) : dn y k L (.ref a :: st) h = (ia_gR h ci a f).bind fun x => dn y (k + 1) L (.ref x :: st) h := dq_bind (g := fun x => (k + 1, L, .ref x :: st, h)) hP rfl
theorem dq_putI {y k ci f : Nat} {L : ia_L} {st : List Value} {h : ia_H} {a : Nat} {x : Int32} (hP : cb_P y k = some (.inl (ia_putI ci f))) : dn y k L (.int x :: .ref a :: st) h = (ia_pF h ci a f (.int x)).bind fun h => dn y (k + 1) L st h := dq_bind (g := fun h => (k + 1, L, st, h)) hP rfl
theorem dq_putR {y k ci f : Nat} {L : ia_L} {st : List Value} {h : ia_H} {a x : Nat} (hP : cb_P y k = some (.inl (ia_putR ci f))) : dn y k L (.ref x :: .ref a :: st) h = (ia_pF h ci a f (.ref x)).bind fun h => dn y (k + 1) L st h := dq_bind (g := fun h => (k + 1, L, st, h)) hP rfl
theorem dq_putZ {y k ci f : Nat} {L : ia_L} {st : List Value} {h : ia_H} {a : Nat} {x : Int32} (hP : cb_P y k = some (.inl (ia_putZ ci f))) : dn y k L (.int x :: .ref a :: st) h = if x = 0 ∨ x = 1 then (ia_pF h ci a f (.int x)).bind fun h => dn y (k + 1) L st h else none := by
  rw [dn, ia_den_go cb_P cb_M hP]
  simp only [ia_putZ]
  split
  · cases ia_pF h ci a f (.int x) <;> rfl
  · rfl
theorem dq_putZ0 {y k ci f : Nat} {L : ia_L} {st : List Value} {h : ia_H} {a : Nat} (hP : cb_P y k = some (.inl (ia_putZ ci f))) : dn y k L (.int 0 :: .ref a :: st) h = (ia_pF h ci a f (.int 0)).bind fun h => dn y (k + 1) L st h := (dq_putZ hP).trans (if_pos (Or.inl rfl))
theorem dq_putZ1 {y k ci f : Nat} {L : ia_L} {st : List Value} {h : ia_H} {a : Nat} (hP : cb_P y k = some (.inl (ia_putZ ci f))) : dn y k L (.int 1 :: .ref a :: st) h = (ia_pF h ci a f (.int 1)).bind fun h => dn y (k + 1) L st h := (dq_putZ hP).trans (if_pos (Or.inr rfl))
theorem dq_iald {y k : Nat} {L : ia_L} {st : List Value} {h : ia_H} {a : Nat} {i : Int32} (hP : cb_P y k = some (.inl ia_iald)) : dn y k L (.int i :: .ref a :: st) h = (ia_ld h 0 a i).bind fun x => dn y (k + 1) L (.int x :: st) h := dq_bind (g := fun x => (k + 1, L, .int x :: st, h)) hP rfl
theorem dq_sld {y k : Nat} {L : ia_L} {st : List Value} {h : ia_H} {a : UInt32} {i : Int32} (hP : cb_P y k = some (.inl ia_iald)) : dn y k L (.int i :: .float a :: st) h = if i < 0 ∨ h.2.2.1.1 ≤ i.toNatClampNeg then none else dn y (k + 1) L (.int (h.2.2.1.2 i.toNatClampNeg) :: st) h := by
  rw [dn, ia_den_go cb_P cb_M hP]
  simp only [ia_iald]
  split <;> rfl
theorem dq_ald {y k t : Nat} {L : ia_L} {st : List Value} {h : ia_H} {a : Nat} {i : Int32} (hP : cb_P y k = some (.inl (ia_ald t))) : dn y k L (.int i :: .ref a :: st) h = (ia_ld h t a i).bind fun x => dn y (k + 1) L (.int x :: st) h := dq_bind (g := fun x => (k + 1, L, .int x :: st, h)) hP rfl
theorem dq_lald {y k : Nat} {L : ia_L} {st : List Value} {h : ia_H} {a : Nat} {i : Int32} (hP : cb_P y k = some (.inl ia_lald)) : dn y k L (.int i :: .ref a :: st) h = (ia_ldL h a i).bind fun x => dn y (k + 1) L (.long x :: st) h := dq_bind (g := fun x => (k + 1, L, .long x :: st, h)) hP rfl
theorem dq_rald {y k : Nat} {L : ia_L} {st : List Value} {h : ia_H} {a : Nat} {i : Int32} (hP : cb_P y k = some (.inl ia_rald)) : dn y k L (.int i :: .ref a :: st) h = (ia_ldR h a i).bind fun o => o.elim (dn y (k + 1) L (.null :: st) h) fun x => dn y (k + 1) L (.ref x :: st) h := by
  refine (dq_bind (g := fun x => (k + 1, L, va_rf x :: st, h)) hP (o := ia_ldR h a i) rfl).trans (bn_c fun o => ?_)
  cases o <;> rfl
theorem dq_iast {y k : Nat} {L : ia_L} {st : List Value} {h : ia_H} {a : Nat} {i x : Int32} (hP : cb_P y k = some (.inl ia_iast)) : dn y k L (.int x :: .int i :: .ref a :: st) h = (ia_st h 0 a i x).bind fun h => dn y (k + 1) L st h := dq_bind (g := fun h => (k + 1, L, st, h)) hP rfl
theorem dq_bast {y k : Nat} {L : ia_L} {st : List Value} {h : ia_H} {a : Nat} {i x : Int32} (hP : cb_P y k = some (.inl ia_bast)) : dn y k L (.int x :: .int i :: .ref a :: st) h = (ia_st h 3 a i (x.toInt8.toInt32)).bind fun h => dn y (k + 1) L st h := dq_bind (g := fun h => (k + 1, L, st, h)) hP rfl
theorem dq_cast {y k : Nat} {L : ia_L} {st : List Value} {h : ia_H} {a : Nat} {i x : Int32} (hP : cb_P y k = some (.inl ia_cast)) : dn y k L (.int x :: .int i :: .ref a :: st) h = (ia_st h 2 a i (x.toUInt32.toUInt16.toUInt32.toInt32)).bind fun h => dn y (k + 1) L st h := dq_bind (g := fun h => (k + 1, L, st, h)) hP rfl
theorem dq_last {y k : Nat} {L : ia_L} {st : List Value} {h : ia_H} {a : Nat} {i : Int32} {x : Int64} (hP : cb_P y k = some (.inl ia_last)) : dn y k L (.long x :: .int i :: .ref a :: st) h = (ia_stL h a i x).bind fun h => dn y (k + 1) L st h := dq_bind (g := fun h => (k + 1, L, st, h)) hP rfl
theorem dq_rast {y k : Nat} {L : ia_L} {st : List Value} {h : ia_H} {a v : Nat} {i : Int32} (hP : cb_P y k = some (.inl ia_rast)) : dn y k L (.ref v :: .int i :: .ref a :: st) h = (ia_stR h a i v).bind fun h => dn y (k + 1) L st h := dq_bind (g := fun h => (k + 1, L, st, h)) hP rfl
theorem dq_alen {y k : Nat} {L : ia_L} {st : List Value} {h : ia_H} {a : Nat} (hP : cb_P y k = some (.inl ia_alen)) : dn y k L (.ref a :: st) h = (ia_len h a).bind fun x => dn y (k + 1) L (.int x :: st) h := dq_bind (g := fun x => (k + 1, L, .int x :: st, h)) hP rfl
theorem dq_copy {y k : Nat} {L : ia_L} {st : List Value} {h : ia_H} {a b : Nat} {n dp sp : Int32} (hP : cb_P y k = some (.inl ia_copy)) (hw : ia_w st ≤ 8) : dn y k L (.int n :: .int dp :: .ref b :: .int sp :: .ref a :: st) h = (ia_cp h a b sp dp n).bind fun h => dn y (k + 1) L st h := dq_bind (g := fun h => (k + 1, L, st, h)) hP (by simp only [ia_copy, if_pos hw])
theorem dq_newa {y k t n : Nat} {L : ia_L} {st : List Value} {h : ia_H} {x : Int32} (hP : cb_P y k = some (.inl (ia_newa t))) (hn : ¬ x < 0 ∧ n ≤ 10000 ∧ x.toNatClampNeg = n) : dn y k L (.int x :: st) h = dn y (k + 1) L (.ref h.1 :: st) (ia_new h n (.inl (t, n, ia_zero t))) := by
  obtain ⟨h1, h2, h3⟩ := hn
  subst h3
  exact dq hP (by simp only [ia_newa]; rw [if_pos ⟨h1, h2⟩])
theorem dq_sw {y k d : Nat} {ts : List Nat} {L : ia_L} {st : List Value} {h : ia_H} {x : Int32} (hP : cb_P y k = some (.inl (ia_sw ts d))) : dn y k L (.int x :: st) h = if x.toInt < 0 ∨ (ts.length : Int) ≤ x.toInt then dn y d L st h else dn y (ts.getD x.toInt.toNat d) L st h := by
  refine (dq hP rfl).trans ?_
  split <;> rfl
/-- what the law's call of row comes to -/
def lrowd (h : ia_H) (x : Nat) (i : Int32) (out : Nat) : Option (Int32 × ia_H) := (ia_gR h 0 x 3).bind fun ro => (ia_gI h 3 ro 1).bind fun n =>
  if i < 0 ∨ n ≤ i then some (1, ia_new h 6 (.inr (9, []))) else (ia_gR h 3 ro 0).bind fun a => (ia_ld h 0 a i).bind fun v => (ia_stL h out 0 v.toInt64).map fun h => (0, h)
theorem dq_lrow {y k : Nat} {L : ia_L} {st : List Value} {h : ia_H} {x out : Nat} {i : Int32} (hP : cb_P y k = some (.inl ia_lrow)) (hw : ia_w st ≤ 8) : dn y k L (.ref out :: .int i :: .ref x :: st) h = (lrowd h x i out).bind fun q => dn y (k + 1) L (.int q.1 :: st) q.2 := by
  refine dq_bind (o := lrowd h x i out) (g := fun q => (k + 1, L, .int q.1 :: st, q.2)) hP ?_
  simp only [ia_lrow, if_pos hw, lrowd]
  cases ia_gR h 0 x 3 with
  | none => rfl
  | some ro =>
    dsimp only [Option.bind_some]
    cases ia_gI h 3 ro 1 with
    | none => rfl
    | some n =>
      dsimp only [Option.bind_some]
      split
      · rfl
      · cases ia_gR h 3 ro 0 with
        | none => rfl
        | some a =>
          dsimp only [Option.bind_some]
          cases ia_ld h 0 a i with
          | none => rfl
          | some v =>
            dsimp only [Option.bind_some]
            cases ia_stL h out 0 v.toInt64 <;> rfl
end
section
/-! kinds of the returns -/
theorem lq {a b : Nat} (h : Nat.ble a b = true) : a ≤ b := Nat.le_of_ble_eq_true h
theorem kd_0 : ia_kd ia_kV (cb_MT 0).2.2.2.2.2.2.2 = true := by decide +kernel
theorem kd_1 : ia_kd ia_kI (cb_MT 1).2.2.2.2.2.2.2 = true := by decide +kernel
theorem kd_2 : ia_kd ia_kI (cb_MT 2).2.2.2.2.2.2.2 = true := by decide +kernel
theorem kd_3 : ia_kd ia_kI (cb_MT 3).2.2.2.2.2.2.2 = true := by decide +kernel
theorem kd_4 : ia_kd ia_kI (cb_MT 4).2.2.2.2.2.2.2 = true := by decide +kernel
theorem kd_5 : ia_kd ia_kI (cb_MT 5).2.2.2.2.2.2.2 = true := by decide +kernel
theorem kd_6 : ia_kd ia_kI (cb_MT 6).2.2.2.2.2.2.2 = true := by decide +kernel
theorem kd_7 : ia_kd ia_kI (cb_MT 7).2.2.2.2.2.2.2 = true := by decide +kernel
theorem kd_8 : ia_kd ia_kI (cb_MT 8).2.2.2.2.2.2.2 = true := by decide +kernel
theorem kd_9 : ia_kd ia_kI (cb_MT 9).2.2.2.2.2.2.2 = true := by decide +kernel
theorem kd_10 : ia_kd ia_kI (cb_MT 10).2.2.2.2.2.2.2 = true := by decide +kernel
theorem kd_11 : ia_kd ia_kI (cb_MT 11).2.2.2.2.2.2.2 = true := by decide +kernel
theorem kd_12 : ia_kd ia_kI (cb_MT 12).2.2.2.2.2.2.2 = true := by decide +kernel
theorem kd_13 : ia_kd ia_kI (cb_MT 13).2.2.2.2.2.2.2 = true := by decide +kernel
theorem kd_14 : ia_kd ia_kI (cb_MT 14).2.2.2.2.2.2.2 = true := by decide +kernel
theorem kd_15 : ia_kd ia_kI (cb_MT 15).2.2.2.2.2.2.2 = true := by decide +kernel
theorem kd_16 : ia_kd ia_kI (cb_MT 16).2.2.2.2.2.2.2 = true := by decide +kernel
theorem kd_17 : ia_kd ia_kI (cb_MT 17).2.2.2.2.2.2.2 = true := by decide +kernel
theorem kd_18 : ia_kd ia_kI (cb_MT 18).2.2.2.2.2.2.2 = true := by decide +kernel
theorem kd_19 : ia_kd ia_kI (cb_MT 19).2.2.2.2.2.2.2 = true := by decide +kernel
theorem kd_20 : ia_kd ia_kI (cb_MT 20).2.2.2.2.2.2.2 = true := by decide +kernel
theorem kd_21 : ia_kd ia_kI (cb_MT 21).2.2.2.2.2.2.2 = true := by decide +kernel
theorem kd_22 : ia_kd ia_kI (cb_MT 22).2.2.2.2.2.2.2 = true := by decide +kernel
theorem kd_23 : ia_kd ia_kI (cb_MT 23).2.2.2.2.2.2.2 = true := by decide +kernel
theorem kd_24 : ia_kd ia_kI (cb_MT 24).2.2.2.2.2.2.2 = true := by decide +kernel
theorem kd_25 : ia_kd ia_kI (cb_MT 25).2.2.2.2.2.2.2 = true := by decide +kernel
theorem kd_26 : ia_kd ia_kI (cb_MT 26).2.2.2.2.2.2.2 = true := by decide +kernel
theorem kd_27 : ia_kd ia_kI (cb_MT 27).2.2.2.2.2.2.2 = true := by decide +kernel
theorem kd_28 : ia_kd ia_kI (cb_MT 28).2.2.2.2.2.2.2 = true := by decide +kernel
theorem kd_29 : ia_kd ia_kI (cb_MT 29).2.2.2.2.2.2.2 = true := by decide +kernel
theorem kd_30 : ia_kd ia_kL (cb_MT 30).2.2.2.2.2.2.2 = true := by decide +kernel
theorem kd_31 : ia_kd ia_kI (cb_MT 31).2.2.2.2.2.2.2 = true := by decide +kernel
theorem kd_32 : ia_kd ia_kI (cb_MT 32).2.2.2.2.2.2.2 = true := by decide +kernel
theorem kd_33 : ia_kd ia_kI (cb_MT 33).2.2.2.2.2.2.2 = true := by decide +kernel
theorem kd_34 : ia_kd ia_kI (cb_MT 34).2.2.2.2.2.2.2 = true := by decide +kernel
theorem kd_35 : ia_kd ia_kI (cb_MT 35).2.2.2.2.2.2.2 = true := by decide +kernel
theorem kd_36 : ia_kd ia_kI (cb_MT 36).2.2.2.2.2.2.2 = true := by decide +kernel
theorem kd_37 : ia_kd ia_kI (cb_MT 37).2.2.2.2.2.2.2 = true := by decide +kernel
theorem kd_38 : ia_kd ia_kI (cb_MT 38).2.2.2.2.2.2.2 = true := by decide +kernel
theorem kd_39 : ia_kd ia_kI (cb_MT 39).2.2.2.2.2.2.2 = true := by decide +kernel
theorem kd_40 : ia_kd ia_kI (cb_MT 40).2.2.2.2.2.2.2 = true := by decide +kernel
theorem kd_41 : ia_kd ia_kI (cb_MT 41).2.2.2.2.2.2.2 = true := by decide +kernel
theorem kd_42 : ia_kd ia_kI (cb_MT 42).2.2.2.2.2.2.2 = true := by decide +kernel
theorem kd_43 : ia_kd ia_kI (cb_MT 43).2.2.2.2.2.2.2 = true := by decide +kernel
theorem kd_44 : ia_kd ia_kI (cb_MT 44).2.2.2.2.2.2.2 = true := by decide +kernel
theorem kd_45 : ia_kd ia_kI (cb_MT 45).2.2.2.2.2.2.2 = true := by decide +kernel
theorem kd_46 : ia_kd ia_kI (cb_MT 46).2.2.2.2.2.2.2 = true := by decide +kernel
theorem kd_47 : ia_kd ia_kI (cb_MT 47).2.2.2.2.2.2.2 = true := by decide +kernel
theorem kd_48 : ia_kd ia_kI (cb_MT 48).2.2.2.2.2.2.2 = true := by decide +kernel
theorem kd_49 : ia_kd ia_kI (cb_MT 49).2.2.2.2.2.2.2 = true := by decide +kernel
theorem kd_50 : ia_kd ia_kI (cb_MT 50).2.2.2.2.2.2.2 = true := by decide +kernel
theorem kd_51 : ia_kd ia_kI (cb_MT 51).2.2.2.2.2.2.2 = true := by decide +kernel
theorem kd_52 : ia_kd ia_kI (cb_MT 52).2.2.2.2.2.2.2 = true := by decide +kernel
theorem kd_53 : ia_kd ia_kI (cb_MT 53).2.2.2.2.2.2.2 = true := by decide +kernel
theorem kd_54 : ia_kd ia_kI (cb_MT 54).2.2.2.2.2.2.2 = true := by decide +kernel
theorem kd_55 : ia_kd ia_kI (cb_MT 55).2.2.2.2.2.2.2 = true := by decide +kernel
theorem kd_56 : ia_kd ia_kI (cb_MT 56).2.2.2.2.2.2.2 = true := by decide +kernel
theorem kd_57 : ia_kd ia_kI (cb_MT 57).2.2.2.2.2.2.2 = true := by decide +kernel
theorem kd_58 : ia_kd ia_kI (cb_MT 58).2.2.2.2.2.2.2 = true := by decide +kernel
theorem kd_59 : ia_kd ia_kI (cb_MT 59).2.2.2.2.2.2.2 = true := by decide +kernel
theorem kd_60 : ia_kd ia_kV (cb_MT 60).2.2.2.2.2.2.2 = true := by decide +kernel
theorem kd_61 : ia_kd ia_kV (cb_MT 61).2.2.2.2.2.2.2 = true := by decide +kernel
theorem kd_62 : ia_kd ia_kV (cb_MT 62).2.2.2.2.2.2.2 = true := by decide +kernel
theorem kd_63 : ia_kd ia_kV (cb_MT 63).2.2.2.2.2.2.2 = true := by decide +kernel
theorem kd_64 : ia_kd ia_kV (cb_MT 64).2.2.2.2.2.2.2 = true := by decide +kernel
theorem kd_65 : ia_kd ia_kV (cb_MT 65).2.2.2.2.2.2.2 = true := by decide +kernel
theorem kd_66 : ia_kd ia_kV (cb_MT 66).2.2.2.2.2.2.2 = true := by decide +kernel
theorem kd_67 : ia_kd ia_kV (cb_MT 67).2.2.2.2.2.2.2 = true := by decide +kernel
theorem kd_68 : ia_kd ia_kI (cb_MT 68).2.2.2.2.2.2.2 = true := by decide +kernel
theorem kd_69 : ia_kd ia_kI (cb_MT 69).2.2.2.2.2.2.2 = true := by decide +kernel
theorem kd_70 : ia_kd ia_kI (cb_MT 70).2.2.2.2.2.2.2 = true := by decide +kernel
theorem kd_71 : ia_kd ia_kV (cb_MT 71).2.2.2.2.2.2.2 = true := by decide +kernel
theorem kd_72 : ia_kd ia_kI (cb_MT 72).2.2.2.2.2.2.2 = true := by decide +kernel
theorem kd_73 : ia_kd ia_kI (cb_MT 73).2.2.2.2.2.2.2 = true := by decide +kernel
theorem kd_74 : ia_kd ia_kI (cb_MT 74).2.2.2.2.2.2.2 = true := by decide +kernel
theorem kd_75 : ia_kd ia_kI (cb_MT 75).2.2.2.2.2.2.2 = true := by decide +kernel
theorem kd_76 : ia_kd ia_kI (cb_MT 76).2.2.2.2.2.2.2 = true := by decide +kernel
theorem kd_77 : ia_kd ia_kI (cb_MT 77).2.2.2.2.2.2.2 = true := by decide +kernel
theorem kd_78 : ia_kd ia_kI (cb_MT 78).2.2.2.2.2.2.2 = true := by decide +kernel
theorem kd_79 : ia_kd ia_kI (cb_MT 79).2.2.2.2.2.2.2 = true := by decide +kernel
theorem kd_80 : ia_kd ia_kV (cb_MT 80).2.2.2.2.2.2.2 = true := by decide +kernel
theorem kd_81 : ia_kd ia_kV (cb_MT 81).2.2.2.2.2.2.2 = true := by decide +kernel
theorem kd_82 : ia_kd ia_kV (cb_MT 82).2.2.2.2.2.2.2 = true := by decide +kernel
theorem kd_83 : ia_kd ia_kV (cb_MT 83).2.2.2.2.2.2.2 = true := by decide +kernel
theorem kd_84 : ia_kd ia_kV (cb_MT 84).2.2.2.2.2.2.2 = true := by decide +kernel
theorem kd_85 : ia_kd ia_kV (cb_MT 85).2.2.2.2.2.2.2 = true := by decide +kernel
theorem kd_86 : ia_kd ia_kI (cb_MT 86).2.2.2.2.2.2.2 = true := by decide +kernel
theorem kd_87 : ia_kd ia_kI (cb_MT 87).2.2.2.2.2.2.2 = true := by decide +kernel
theorem kd_88 : ia_kd ia_kI (cb_MT 88).2.2.2.2.2.2.2 = true := by decide +kernel
theorem kd_89 : ia_kd ia_kI (cb_MT 89).2.2.2.2.2.2.2 = true := by decide +kernel
theorem kd_90 : ia_kd ia_kI (cb_MT 90).2.2.2.2.2.2.2 = true := by decide +kernel
theorem kd_91 : ia_kd ia_kI (cb_MT 91).2.2.2.2.2.2.2 = true := by decide +kernel
theorem kd_92 : ia_kd ia_kI (cb_MT 92).2.2.2.2.2.2.2 = true := by decide +kernel
theorem kd_93 : ia_kd ia_kV (cb_MT 93).2.2.2.2.2.2.2 = true := by decide +kernel
theorem kd_94 : ia_kd ia_kV (cb_MT 94).2.2.2.2.2.2.2 = true := by decide +kernel
theorem kd_95 : ia_kd ia_kV (cb_MT 95).2.2.2.2.2.2.2 = true := by decide +kernel
theorem kd_96 : ia_kd ia_kI (cb_MT 96).2.2.2.2.2.2.2 = true := by decide +kernel
theorem kd_97 : ia_kd ia_kV (cb_MT 97).2.2.2.2.2.2.2 = true := by decide +kernel
theorem kd_98 : ia_kd ia_kI (cb_MT 98).2.2.2.2.2.2.2 = true := by decide +kernel
theorem kd_99 : ia_kd ia_kV (cb_MT 99).2.2.2.2.2.2.2 = true := by decide +kernel
theorem kd_100 : ia_kd ia_kI (cb_MT 100).2.2.2.2.2.2.2 = true := by decide +kernel
theorem kd_101 : ia_kd ia_kV (cb_MT 101).2.2.2.2.2.2.2 = true := by decide +kernel
theorem kd_102 : ia_kd ia_kV (cb_MT 102).2.2.2.2.2.2.2 = true := by decide +kernel
theorem kd_103 : ia_kd ia_kI (cb_MT 103).2.2.2.2.2.2.2 = true := by decide +kernel
theorem kd_104 : ia_kd ia_kI (cb_MT 104).2.2.2.2.2.2.2 = true := by decide +kernel
theorem kd_105 : ia_kd ia_kV (cb_MT 105).2.2.2.2.2.2.2 = true := by decide +kernel
theorem kd_106 : ia_kd ia_kV (cb_MT 106).2.2.2.2.2.2.2 = true := by decide +kernel
theorem kd_107 : ia_kd ia_kI (cb_MT 107).2.2.2.2.2.2.2 = true := by decide +kernel
theorem kd_108 : ia_kd ia_kI (cb_MT 108).2.2.2.2.2.2.2 = true := by decide +kernel
theorem kd_109 : ia_kd ia_kI (cb_MT 109).2.2.2.2.2.2.2 = true := by decide +kernel
theorem kd_110 : ia_kd ia_kI (cb_MT 110).2.2.2.2.2.2.2 = true := by decide +kernel
theorem kd_111 : ia_kd ia_kI (cb_MT 111).2.2.2.2.2.2.2 = true := by decide +kernel
theorem kd_112 : ia_kd ia_kI (cb_MT 112).2.2.2.2.2.2.2 = true := by decide +kernel
theorem kd_113 : ia_kd ia_kV (cb_MT 113).2.2.2.2.2.2.2 = true := by decide +kernel
theorem kd_114 : ia_kd ia_kI (cb_MT 114).2.2.2.2.2.2.2 = true := by decide +kernel
theorem kd_115 : ia_kd ia_kI (cb_MT 115).2.2.2.2.2.2.2 = true := by decide +kernel
theorem kd_116 : ia_kd ia_kI (cb_MT 116).2.2.2.2.2.2.2 = true := by decide +kernel
theorem kd_117 : ia_kd ia_kI (cb_MT 117).2.2.2.2.2.2.2 = true := by decide +kernel
theorem kd_118 : ia_kd ia_kI (cb_MT 118).2.2.2.2.2.2.2 = true := by decide +kernel
theorem kd_119 : ia_kd ia_kI (cb_MT 119).2.2.2.2.2.2.2 = true := by decide +kernel
theorem kd_120 : ia_kd ia_kI (cb_MT 120).2.2.2.2.2.2.2 = true := by decide +kernel
theorem kd_121 : ia_kd ia_kI (cb_MT 121).2.2.2.2.2.2.2 = true := by decide +kernel
theorem kd_122 : ia_kd ia_kI (cb_MT 122).2.2.2.2.2.2.2 = true := by decide +kernel
theorem kd_123 : ia_kd ia_kI (cb_MT 123).2.2.2.2.2.2.2 = true := by decide +kernel
theorem kd_124 : ia_kd ia_kI (cb_MT 124).2.2.2.2.2.2.2 = true := by decide +kernel
theorem kd_125 : ia_kd ia_kI (cb_MT 125).2.2.2.2.2.2.2 = true := by decide +kernel
theorem kd_126 : ia_kd ia_kI (cb_MT 126).2.2.2.2.2.2.2 = true := by decide +kernel
theorem kd_127 : ia_kd ia_kI (cb_MT 127).2.2.2.2.2.2.2 = true := by decide +kernel
theorem kd_128 : ia_kd ia_kI (cb_MT 128).2.2.2.2.2.2.2 = true := by decide +kernel
theorem kd_129 : ia_kd ia_kI (cb_MT 129).2.2.2.2.2.2.2 = true := by decide +kernel
theorem kd_130 : ia_kd ia_kI (cb_MT 130).2.2.2.2.2.2.2 = true := by decide +kernel
theorem kd_131 : ia_kd ia_kI (cb_MT 131).2.2.2.2.2.2.2 = true := by decide +kernel
theorem kd_132 : ia_kd ia_kI (cb_MT 132).2.2.2.2.2.2.2 = true := by decide +kernel
theorem kd_133 : ia_kd ia_kI (cb_MT 133).2.2.2.2.2.2.2 = true := by decide +kernel
theorem kd_134 : ia_kd ia_kI (cb_MT 134).2.2.2.2.2.2.2 = true := by decide +kernel
theorem kd_135 : ia_kd ia_kV (cb_MT 135).2.2.2.2.2.2.2 = true := by decide +kernel
theorem kd_136 : ia_kd ia_kV (cb_MT 136).2.2.2.2.2.2.2 = true := by decide +kernel
theorem kd_137 : ia_kd ia_kV (cb_MT 137).2.2.2.2.2.2.2 = true := by decide +kernel
theorem kd_138 : ia_kd ia_kI (cb_MT 138).2.2.2.2.2.2.2 = true := by decide +kernel
theorem kd_139 : ia_kd ia_kI (cb_MT 139).2.2.2.2.2.2.2 = true := by decide +kernel
theorem kd_140 : ia_kd ia_kI (cb_MT 140).2.2.2.2.2.2.2 = true := by decide +kernel
theorem kd_141 : ia_kd ia_kI (cb_MT 141).2.2.2.2.2.2.2 = true := by decide +kernel
theorem kd_142 : ia_kd ia_kV (cb_MT 142).2.2.2.2.2.2.2 = true := by decide +kernel
theorem kd_143 : ia_kd ia_kI (cb_MT 143).2.2.2.2.2.2.2 = true := by decide +kernel
theorem kd_144 : ia_kd ia_kV (cb_MT 144).2.2.2.2.2.2.2 = true := by decide +kernel
theorem kd_145 : ia_kd ia_kI (cb_MT 145).2.2.2.2.2.2.2 = true := by decide +kernel
theorem kd_146 : ia_kd ia_kL (cb_MT 146).2.2.2.2.2.2.2 = true := by decide +kernel
theorem kd_147 : ia_kd ia_kI (cb_MT 147).2.2.2.2.2.2.2 = true := by decide +kernel
theorem kd_148 : ia_kd ia_kI (cb_MT 148).2.2.2.2.2.2.2 = true := by decide +kernel
theorem kd_149 : ia_kd ia_kI (cb_MT 149).2.2.2.2.2.2.2 = true := by decide +kernel
theorem kd_150 : ia_kd ia_kI (cb_MT 150).2.2.2.2.2.2.2 = true := by decide +kernel
theorem kd_151 : ia_kd ia_kI (cb_MT 151).2.2.2.2.2.2.2 = true := by decide +kernel
theorem kd_152 : ia_kd ia_kI (cb_MT 152).2.2.2.2.2.2.2 = true := by decide +kernel
theorem kd_153 : ia_kd ia_kI (cb_MT 153).2.2.2.2.2.2.2 = true := by decide +kernel
theorem kd_154 : ia_kd ia_kI (cb_MT 154).2.2.2.2.2.2.2 = true := by decide +kernel
theorem kd_155 : ia_kd ia_kI (cb_MT 155).2.2.2.2.2.2.2 = true := by decide +kernel
theorem kd_156 : ia_kd ia_kI (cb_MT 156).2.2.2.2.2.2.2 = true := by decide +kernel
theorem kd_157 : ia_kd ia_kI (cb_MT 157).2.2.2.2.2.2.2 = true := by decide +kernel
theorem kd_158 : ia_kd ia_kI (cb_MT 158).2.2.2.2.2.2.2 = true := by decide +kernel
theorem kd_159 : ia_kd ia_kI (cb_MT 159).2.2.2.2.2.2.2 = true := by decide +kernel
theorem kd_160 : ia_kd ia_kI (cb_MT 160).2.2.2.2.2.2.2 = true := by decide +kernel
theorem kd_161 : ia_kd ia_kI (cb_MT 161).2.2.2.2.2.2.2 = true := by decide +kernel
theorem kd_162 : ia_kd ia_kI (cb_MT 162).2.2.2.2.2.2.2 = true := by decide +kernel
theorem kd_163 : ia_kd ia_kI (cb_MT 163).2.2.2.2.2.2.2 = true := by decide +kernel
theorem kd_164 : ia_kd ia_kI (cb_MT 164).2.2.2.2.2.2.2 = true := by decide +kernel
theorem kd_165 : ia_kd ia_kI (cb_MT 165).2.2.2.2.2.2.2 = true := by decide +kernel
theorem kd_166 : ia_kd ia_kI (cb_MT 166).2.2.2.2.2.2.2 = true := by decide +kernel
theorem kd_167 : ia_kd ia_kI (cb_MT 167).2.2.2.2.2.2.2 = true := by decide +kernel
theorem kd_168 : ia_kd ia_kI (cb_MT 168).2.2.2.2.2.2.2 = true := by decide +kernel
theorem kd_169 : ia_kd ia_kI (cb_MT 169).2.2.2.2.2.2.2 = true := by decide +kernel
theorem kd_170 : ia_kd ia_kI (cb_MT 170).2.2.2.2.2.2.2 = true := by decide +kernel
theorem kd_171 : ia_kd ia_kL (cb_MT 171).2.2.2.2.2.2.2 = true := by decide +kernel
theorem kd_172 : ia_kd ia_kV (cb_MT 172).2.2.2.2.2.2.2 = true := by decide +kernel
theorem kd_173 : ia_kd ia_kV (cb_MT 173).2.2.2.2.2.2.2 = true := by decide +kernel
theorem kd_174 : ia_kd ia_kV (cb_MT 174).2.2.2.2.2.2.2 = true := by decide +kernel
theorem kd_175 : ia_kd ia_kI (cb_MT 175).2.2.2.2.2.2.2 = true := by decide +kernel
theorem kd_176 : ia_kd ia_kV (cb_MT 176).2.2.2.2.2.2.2 = true := by decide +kernel
theorem kd_177 : ia_kd ia_kV (cb_MT 177).2.2.2.2.2.2.2 = true := by decide +kernel
theorem kd_178 : ia_kd ia_kV (cb_MT 178).2.2.2.2.2.2.2 = true := by decide +kernel
theorem kd_179 : ia_kd ia_kI (cb_MT 179).2.2.2.2.2.2.2 = true := by decide +kernel
theorem kd_180 : ia_kd ia_kI (cb_MT 180).2.2.2.2.2.2.2 = true := by decide +kernel
theorem kd_181 : ia_kd ia_kI (cb_MT 181).2.2.2.2.2.2.2 = true := by decide +kernel
theorem kd_182 : ia_kd ia_kV (cb_MT 182).2.2.2.2.2.2.2 = true := by decide +kernel
theorem kd_183 : ia_kd ia_kI (cb_MT 183).2.2.2.2.2.2.2 = true := by decide +kernel
theorem kd_184 : ia_kd ia_kI (cb_MT 184).2.2.2.2.2.2.2 = true := by decide +kernel
theorem kd_185 : ia_kd ia_kI (cb_MT 185).2.2.2.2.2.2.2 = true := by decide +kernel
theorem kd_186 : ia_kd ia_kV (cb_MT 186).2.2.2.2.2.2.2 = true := by decide +kernel
theorem kd_187 : ia_kd ia_kV (cb_MT 187).2.2.2.2.2.2.2 = true := by decide +kernel
theorem kd_188 : ia_kd ia_kV (cb_MT 188).2.2.2.2.2.2.2 = true := by decide +kernel
theorem kd_189 : ia_kd ia_kR (cb_MT 189).2.2.2.2.2.2.2 = true := by decide +kernel
theorem kd_190 : ia_kd ia_kR (cb_MT 190).2.2.2.2.2.2.2 = true := by decide +kernel
theorem kd_191 : ia_kd ia_kI (cb_MT 191).2.2.2.2.2.2.2 = true := by decide +kernel
theorem kd_192 : ia_kd ia_kV (cb_MT 192).2.2.2.2.2.2.2 = true := by decide +kernel
theorem kd_193 : ia_kd ia_kV (cb_MT 193).2.2.2.2.2.2.2 = true := by decide +kernel
theorem kd_194 : ia_kd ia_kV (cb_MT 194).2.2.2.2.2.2.2 = true := by decide +kernel
theorem kd_195 : ia_kd ia_kI (cb_MT 195).2.2.2.2.2.2.2 = true := by decide +kernel
theorem kd_196 : ia_kd ia_kV (cb_MT 196).2.2.2.2.2.2.2 = true := by decide +kernel
theorem kd_197 : ia_kd ia_kI (cb_MT 197).2.2.2.2.2.2.2 = true := by decide +kernel
theorem kd_198 : ia_kd ia_kI (cb_MT 198).2.2.2.2.2.2.2 = true := by decide +kernel
theorem kd_199 : ia_kd ia_kI (cb_MT 199).2.2.2.2.2.2.2 = true := by decide +kernel
theorem kd_200 : ia_kd ia_kV (cb_MT 200).2.2.2.2.2.2.2 = true := by decide +kernel
theorem kd_201 : ia_kd ia_kI (cb_MT 201).2.2.2.2.2.2.2 = true := by decide +kernel
theorem kd_202 : ia_kd ia_kI (cb_MT 202).2.2.2.2.2.2.2 = true := by decide +kernel
theorem kd_203 : ia_kd ia_kI (cb_MT 203).2.2.2.2.2.2.2 = true := by decide +kernel
theorem kd_204 : ia_kd ia_kV (cb_MT 204).2.2.2.2.2.2.2 = true := by decide +kernel
theorem kd_205 : ia_kd ia_kV (cb_MT 205).2.2.2.2.2.2.2 = true := by decide +kernel
theorem kd_206 : ia_kd ia_kV (cb_MT 206).2.2.2.2.2.2.2 = true := by decide +kernel
theorem kd_207 : ia_kd ia_kI (cb_MT 207).2.2.2.2.2.2.2 = true := by decide +kernel
theorem kd_208 : ia_kd ia_kI (cb_MT 208).2.2.2.2.2.2.2 = true := by decide +kernel
theorem kd_209 : ia_kd ia_kV (cb_MT 209).2.2.2.2.2.2.2 = true := by decide +kernel
theorem kd_210 : ia_kd ia_kI (cb_MT 210).2.2.2.2.2.2.2 = true := by decide +kernel
theorem kd_211 : ia_kd ia_kI (cb_MT 211).2.2.2.2.2.2.2 = true := by decide +kernel
theorem kd_212 : ia_kd ia_kI (cb_MT 212).2.2.2.2.2.2.2 = true := by decide +kernel
theorem kd_213 : ia_kd ia_kV (cb_MT 213).2.2.2.2.2.2.2 = true := by decide +kernel
theorem kd_214 : ia_kd ia_kV (cb_MT 214).2.2.2.2.2.2.2 = true := by decide +kernel
theorem kd_215 : ia_kd ia_kI (cb_MT 215).2.2.2.2.2.2.2 = true := by decide +kernel
theorem kd_216 : ia_kd ia_kI (cb_MT 216).2.2.2.2.2.2.2 = true := by decide +kernel
theorem kd_217 : ia_kd ia_kV (cb_MT 217).2.2.2.2.2.2.2 = true := by decide +kernel
theorem kd_218 : ia_kd ia_kI (cb_MT 218).2.2.2.2.2.2.2 = true := by decide +kernel
theorem kd_219 : ia_kd ia_kI (cb_MT 219).2.2.2.2.2.2.2 = true := by decide +kernel
theorem kd_220 : ia_kd ia_kI (cb_MT 220).2.2.2.2.2.2.2 = true := by decide +kernel
theorem kd_221 : ia_kd ia_kI (cb_MT 221).2.2.2.2.2.2.2 = true := by decide +kernel
theorem kd_222 : ia_kd ia_kI (cb_MT 222).2.2.2.2.2.2.2 = true := by decide +kernel
theorem kd_223 : ia_kd ia_kI (cb_MT 223).2.2.2.2.2.2.2 = true := by decide +kernel
theorem kd_224 : ia_kd ia_kI (cb_MT 224).2.2.2.2.2.2.2 = true := by decide +kernel
theorem kd_225 : ia_kd ia_kI (cb_MT 225).2.2.2.2.2.2.2 = true := by decide +kernel
theorem kd_226 : ia_kd ia_kI (cb_MT 226).2.2.2.2.2.2.2 = true := by decide +kernel
theorem kd_227 : ia_kd ia_kI (cb_MT 227).2.2.2.2.2.2.2 = true := by decide +kernel
theorem kd_228 : ia_kd ia_kI (cb_MT 228).2.2.2.2.2.2.2 = true := by decide +kernel
theorem kd_229 : ia_kd ia_kI (cb_MT 229).2.2.2.2.2.2.2 = true := by decide +kernel
theorem kd_230 : ia_kd ia_kI (cb_MT 230).2.2.2.2.2.2.2 = true := by decide +kernel
theorem kd_231 : ia_kd ia_kI (cb_MT 231).2.2.2.2.2.2.2 = true := by decide +kernel
theorem kd_232 : ia_kd ia_kV (cb_MT 232).2.2.2.2.2.2.2 = true := by decide +kernel
theorem kd_233 : ia_kd ia_kV (cb_MT 233).2.2.2.2.2.2.2 = true := by decide +kernel
theorem kd_234 : ia_kd ia_kV (cb_MT 234).2.2.2.2.2.2.2 = true := by decide +kernel
theorem kd_235 : ia_kd ia_kI (cb_MT 235).2.2.2.2.2.2.2 = true := by decide +kernel
theorem kd_236 : ia_kd ia_kI (cb_MT 236).2.2.2.2.2.2.2 = true := by decide +kernel
theorem kd_237 : ia_kd ia_kI (cb_MT 237).2.2.2.2.2.2.2 = true := by decide +kernel
theorem kd_238 : ia_kd ia_kV (cb_MT 238).2.2.2.2.2.2.2 = true := by decide +kernel
theorem kd_239 : ia_kd ia_kI (cb_MT 239).2.2.2.2.2.2.2 = true := by decide +kernel
theorem kd_240 : ia_kd ia_kV (cb_MT 240).2.2.2.2.2.2.2 = true := by decide +kernel
theorem kd_241 : ia_kd ia_kV (cb_MT 241).2.2.2.2.2.2.2 = true := by decide +kernel
theorem kd_242 : ia_kd ia_kI (cb_MT 242).2.2.2.2.2.2.2 = true := by decide +kernel
theorem kd_243 : ia_kd ia_kV (cb_MT 243).2.2.2.2.2.2.2 = true := by decide +kernel
theorem kd_244 : ia_kd ia_kI (cb_MT 244).2.2.2.2.2.2.2 = true := by decide +kernel
theorem kd_245 : ia_kd ia_kI (cb_MT 245).2.2.2.2.2.2.2 = true := by decide +kernel
theorem kd_246 : ia_kd ia_kI (cb_MT 246).2.2.2.2.2.2.2 = true := by decide +kernel
theorem kd_247 : ia_kd ia_kI (cb_MT 247).2.2.2.2.2.2.2 = true := by decide +kernel
theorem kd_248 : ia_kd ia_kI (cb_MT 248).2.2.2.2.2.2.2 = true := by decide +kernel
theorem kd_249 : ia_kd ia_kV (cb_MT 249).2.2.2.2.2.2.2 = true := by decide +kernel
theorem kd_250 : ia_kd ia_kV (cb_MT 250).2.2.2.2.2.2.2 = true := by decide +kernel
theorem kd_251 : ia_kd ia_kI (cb_MT 251).2.2.2.2.2.2.2 = true := by decide +kernel
theorem kd_252 : ia_kd ia_kI (cb_MT 252).2.2.2.2.2.2.2 = true := by decide +kernel
theorem kd_253 : ia_kd ia_kI (cb_MT 253).2.2.2.2.2.2.2 = true := by decide +kernel
theorem kd_254 : ia_kd ia_kI (cb_MT 254).2.2.2.2.2.2.2 = true := by decide +kernel
theorem kd_255 : ia_kd ia_kI (cb_MT 255).2.2.2.2.2.2.2 = true := by decide +kernel
theorem kd_256 : ia_kd ia_kV (cb_MT 256).2.2.2.2.2.2.2 = true := by decide +kernel
theorem kd_257 : ia_kd ia_kI (cb_MT 257).2.2.2.2.2.2.2 = true := by decide +kernel
theorem kd_258 : ia_kd ia_kI (cb_MT 258).2.2.2.2.2.2.2 = true := by decide +kernel
end
section
/-! test -/
theorem q_49 (ab : Int32) (h : ia_H) : cl 49 [.int ab] h = (if ab < 0 then some (some (.int 0), h) else (if 4 ≤ ab then some (some (.int 0), h) else some (some (.int 1), h))) := by
  refine (dq rfl rfl).trans ?_
  refine (dq_iflt rfl).trans (ie_c ?_ ?_)
  · refine (dq rfl rfl).trans ?_
    exact dq_ret20 rfl
  · refine (dq rfl rfl).trans ?_
    refine (dq rfl rfl).trans ?_
    refine (dq_ige rfl).trans (ie_c ?_ ?_)
    · refine (dq rfl rfl).trans ?_
      exact dq_ret20 rfl
    · refine (dq rfl rfl).trans ?_
      refine (dq rfl rfl).trans ?_
      exact dq_ret21 rfl
theorem q_52 (ab : Nat) (ac : Int32) (h : ia_H) : cl 52 [.ref ab, .int ac] h = (if ac < 0 then some (some (.int 0), h) else ((ia_gR h 0 ab 6).bind fun a1 => ((ia_gI h 5 a1 0).bind fun v2 => (if v2 ≤ ac then some (some (.int 0), h) else some (some (.int 1), h))))) := by
  refine (dq rfl rfl).trans ?_
  refine (dq_iflt rfl).trans (ie_c ?_ ?_)
  · refine (dq rfl rfl).trans ?_
    exact dq_ret20 rfl
  · refine (dq rfl rfl).trans ?_
    refine (dq rfl rfl).trans ?_
    refine (dq_getR rfl).trans (bn_c (fun a1 => ?_))
    refine (dq_getI rfl).trans (bn_c (fun v2 => ?_))
    refine (dq_ige rfl).trans (ie_c ?_ ?_)
    · refine (dq rfl rfl).trans ?_
      exact dq_ret20 rfl
    · refine (dq rfl rfl).trans ?_
      refine (dq rfl rfl).trans ?_
      exact dq_ret21 rfl
theorem q_222 (ab : Nat) (ac : Int32) (ad : Int32) (h : ia_H) : cl 222 [.ref ab, .int ac, .int ad] h = dn 222 2 [some (.ref ab), some (.int ac), some (.int ad), some (.int 0)] [] h := by
  refine (dq rfl rfl).trans ?_
  refine (dq rfl rfl).trans ?_
  rfl
theorem q_222_2 (x0 : Nat) (x1 : Int32) (x2 : Int32) (x3 : Int32) (h : ia_H) : dn 222 2 [some (.ref x0), some (.int x1), some (.int x2), some (.int x3)] [] h = ((ia_gI h 5 x0 2).bind fun v1 => (if v1 ≤ x3 then some (some (.int (-1)), h) else (if ia_ok h 5 [.ref x0, .int x3, .int x1, .int x2] = true then kxi (cl 221 [.ref x0, .int x3, .int x1, .int x2] h) (fun r3 h2 => (if r3 = 0 then dn 222 2 [some (.ref x0), some (.int x1), some (.int x2), some (.int (x3 + 1))] [] h2 else some (some (.int x3), h2))) else none))) := by
  refine (dq rfl rfl).trans ?_
  refine (dq rfl rfl).trans ?_
  refine (dq_getI rfl).trans (bn_c (fun v1 => ?_))
  refine (dq_ige rfl).trans (ie_c ?_ ?_)
  · refine (dq rfl rfl).trans ?_
    exact dq_ret1 rfl
  · refine (dq rfl rfl).trans ?_
    refine (dq rfl rfl).trans ?_
    refine (dq rfl rfl).trans ?_
    refine (dq rfl rfl).trans ?_
    refine (dq_kxi (z := 221) rfl (lq rfl) (lq rfl) (lq rfl) kd_221).trans (it_c (kxi_c (fun r3 h2 => ?_)))
    refine (dq_ifeq rfl).trans (ie_c ?_ ?_)
    · refine (dq_iinc (v := 1) rfl rfl (by decide)).trans ?_
      refine (dq rfl rfl).trans ?_
      rfl
    · refine (dq rfl rfl).trans ?_
      exact dq_ret1 rfl
theorem q_174 (ab : Nat) (ac : Nat) (h : ia_H) : cl 174 [.ref ab, .ref ac] h = ((ia_gR h 6 ab 0).bind fun a1 => ((ia_gI h 6 ab 1).bind fun v2 => ((ia_ldR h a1 v2).bind fun o => o.elim (kxv (cl 204 [.ref (h.1)] (ia_new h 11 (.inr (5, [.int 0, .int 0, .int 0, .int 0, .null, .null, .null, .null, .null, .null, .null])))) (fun h4 => ((ia_gR h4 6 ab 0).bind fun a5 => ((ia_gI h4 6 ab 1).bind fun v6 => ((ia_stR h4 a5 v6 (h.1)).bind fun h7 => dn 174 18 [some (.ref ab), some (.ref ac), some (.ref (h.1))] [] h7))))) fun a3 => dn 174 18 [some (.ref ab), some (.ref ac), some (.ref a3)] [] h))) := by
  refine (dq rfl rfl).trans ?_
  refine (dq_getR rfl).trans (bn_c (fun a1 => ?_))
  refine (dq rfl rfl).trans ?_
  refine (dq_getI rfl).trans (bn_c (fun v2 => ?_))
  refine (dq_rald rfl).trans (bn_c (fun o => oe_c ?_ (fun a3 => ?_)))
  · refine (dq rfl rfl).trans ?_
    refine (dq rfl rfl).trans ?_
    refine (dq rfl rfl).trans ?_
    refine (dq rfl rfl).trans ?_
    refine (dq rfl rfl).trans ?_
    refine (dq_kxv1 (z := 204) rfl (lq rfl) (lq rfl) (lq rfl) kd_204 rfl).trans (kxv_c (fun h4 => ?_))
    refine (dq rfl rfl).trans ?_
    refine (dq rfl rfl).trans ?_
    refine (dq_getR rfl).trans (bn_c (fun a5 => ?_))
    refine (dq rfl rfl).trans ?_
    refine (dq_getI rfl).trans (bn_c (fun v6 => ?_))
    refine (dq rfl rfl).trans ?_
    refine (dq_rast rfl).trans (bn_c (fun h7 => ?_))
    rfl
  · refine (dq rfl rfl).trans ?_
    refine (dq rfl rfl).trans ?_
    refine (dq rfl rfl).trans ?_
    rfl
theorem q_174_18 (x0 : Nat) (x1 : Nat) (x2 : Nat) (h : ia_H) : dn 174 18 [some (.ref x0), some (.ref x1), some (.ref x2)] [] h = (if ia_ok h 5 [.ref x2, .ref x1] = true then kxv (cl 205 [.ref x2, .ref x1] h) (fun h1 => ((ia_gI h1 6 x0 1).bind fun v2 => ((ia_pF h1 6 x0 1 (.int ((v2 + 1) - (v2 + 1) / 8 * 8))).bind fun h3 => ((ia_gI h3 6 x0 2).bind fun v4 => ((ia_pF h3 6 x0 2 (.int (if 8 < (v4 + 1) then 8 else (v4 + 1)))).bind fun h5 => some (none, h5)))))) else none) := by
  refine (dq rfl rfl).trans ?_
  refine (dq rfl rfl).trans ?_
  refine (dq_kxv (z := 205) rfl (lq rfl) (lq rfl) (lq rfl) kd_205).trans (it_c (kxv_c (fun h1 => ?_)))
  refine (dq rfl rfl).trans ?_
  refine (dq rfl rfl).trans ?_
  refine (dq_getI rfl).trans (bn_c (fun v2 => ?_))
  refine (dq rfl rfl).trans ?_
  refine (dq rfl rfl).trans ?_
  refine (dq rfl rfl).trans ?_
  refine (dq_i2zl rfl (by decide)).trans ?_
  refine (dq_putI rfl).trans (bn_c (fun h3 => ?_))
  refine (dq rfl rfl).trans ?_
  refine (dq rfl rfl).trans ?_
  refine (dq_getI rfl).trans (bn_c (fun v4 => ?_))
  refine (dq rfl rfl).trans ?_
  refine (dq rfl rfl).trans ?_
  refine (dq rfl rfl).trans ?_
  refine (dq rfl rfl).trans ?_
  refine (dq_putI rfl).trans (bn_c (fun h5 => ?_))
  exact dq_ret0 rfl
theorem q_104 (ab : Nat) (ac : Int32) (ad : Int32) (h : ia_H) : cl 104 [.ref ab, .int ac, .int ad] h = (if ia_ok h 8 [.ref ab, .int 0, .int 9] = true then kxi (cl 103 [.ref ab, .int 0, .int 9] h) (fun r2 h1 => ((ia_gI h1 8 ab 23).bind fun v3 => (if v3 = (-1) then (if r2 ≤ 0 then dn 104 35 [some (.ref ab), some (.int ac), some (.int ad), some (.int r2)] [] h1 else (if ia_ok h1 8 [.ref ab] = true then kxi (cl 100 [.ref ab] h1) (fun r5 h4 => kxi (cl 69 [.long (r5.toInt64), .long 48, .long 57] h4) (fun r7 h6 => (if r7 = 0 then dn 104 35 [some (.ref ab), some (.int ac), some (.int ad), some (.int r2)] [] h6 else (if ia_ok h6 8 [.ref ab] = true then kxi (cl 100 [.ref ab] h6) (fun r9 h8 => ((ia_gI h8 8 ab 22).bind fun v10 => ((ia_pF h8 8 ab 22 (.int (v10 + 1))).bind fun h11 => dn 104 35 [some (.ref ab), some (.int ac), some (.int ad), some (.int (((10 * r2) + r9) - 48))] [] h11))) else none)))) else none)) else some (some (.int ac), h1)))) else none) := by
  refine (dq rfl rfl).trans ?_
  refine (dq rfl rfl).trans ?_
  refine (dq rfl rfl).trans ?_
  refine (dq_kxi (z := 103) rfl (lq rfl) (lq rfl) (lq rfl) kd_103).trans (it_c (kxi_c (fun r2 h1 => ?_)))
  refine (dq rfl rfl).trans ?_
  refine (dq rfl rfl).trans ?_
  refine (dq_getI rfl).trans (bn_c (fun v3 => ?_))
  refine (dq rfl rfl).trans ?_
  refine (dq_ieq rfl).trans (ie_c ?_ ?_)
  · refine (dq rfl rfl).trans ?_
    refine (dq_ifle rfl).trans (ie_c ?_ ?_)
    · rfl
    · refine (dq rfl rfl).trans ?_
      refine (dq_kxi (z := 100) rfl (lq rfl) (lq rfl) (lq rfl) kd_100).trans (it_c (kxi_c (fun r5 h4 => ?_)))
      refine (dq rfl rfl).trans ?_
      refine (dq rfl rfl).trans ?_
      refine (dq rfl rfl).trans ?_
      refine (dq_kxi0 (z := 69) rfl (lq rfl) (lq rfl) (lq rfl) kd_69).trans (kxi_c (fun r7 h6 => ?_))
      refine (dq_ifeq rfl).trans (ie_c ?_ ?_)
      · rfl
      · refine (dq rfl rfl).trans ?_
        refine (dq rfl rfl).trans ?_
        refine (dq rfl rfl).trans ?_
        refine (dq rfl rfl).trans ?_
        refine (dq_kxi (z := 100) rfl (lq rfl) (lq rfl) (lq rfl) kd_100).trans (it_c (kxi_c (fun r9 h8 => ?_)))
        refine (dq rfl rfl).trans ?_
        refine (dq rfl rfl).trans ?_
        refine (dq rfl rfl).trans ?_
        refine (dq rfl rfl).trans ?_
        refine (dq rfl rfl).trans ?_
        refine (dq rfl rfl).trans ?_
        refine (dq_getI rfl).trans (bn_c (fun v10 => ?_))
        refine (dq rfl rfl).trans ?_
        refine (dq rfl rfl).trans ?_
        refine (dq_putI rfl).trans (bn_c (fun h11 => ?_))
        rfl
  · refine (dq rfl rfl).trans ?_
    exact dq_ret1 rfl
theorem q_104_35 (x0 : Nat) (x1 : Int32) (x2 : Int32) (x3 : Int32) (h : ia_H) : dn 104 35 [some (.ref x0), some (.int x1), some (.int x2), some (.int x3)] [] h = kxi (cl 69 [.long (x3.toInt64), .long (x1.toInt64), .long (x2.toInt64)] h) (fun r2 h1 => (if r2 = 0 then ((ia_gI h1 8 x0 22).bind fun v3 => (if ia_ok h1 8 [.ref x0, .int (v3 - 1)] = true then kxv (cl 101 [.ref x0, .int (v3 - 1)] h1) (fun h4 => some (some (.int x1), h4)) else none)) else some (some (.int x3), h1))) := by
  refine (dq rfl rfl).trans ?_
  refine (dq rfl rfl).trans ?_
  refine (dq rfl rfl).trans ?_
  refine (dq rfl rfl).trans ?_
  refine (dq rfl rfl).trans ?_
  refine (dq rfl rfl).trans ?_
  refine (dq_kxi0 (z := 69) rfl (lq rfl) (lq rfl) (lq rfl) kd_69).trans (kxi_c (fun r2 h1 => ?_))
  refine (dq_ifeq rfl).trans (ie_c ?_ ?_)
  · refine (dq rfl rfl).trans ?_
    refine (dq rfl rfl).trans ?_
    refine (dq_getI rfl).trans (bn_c (fun v3 => ?_))
    refine (dq rfl rfl).trans ?_
    refine (dq rfl rfl).trans ?_
    refine (dq_kxv (z := 101) rfl (lq rfl) (lq rfl) (lq rfl) kd_101).trans (it_c (kxv_c (fun h4 => ?_)))
    refine (dq rfl rfl).trans ?_
    exact dq_ret1 rfl
  · refine (dq rfl rfl).trans ?_
    exact dq_ret1 rfl
theorem q_0 (ab : Nat) (h : ia_H) : cl 0 [.ref ab] h = kxv (cl 238 [.ref (h.1)] (ia_new h 4 (.inr (1, [.null, .int 0, .int 0, .int 0])))) (fun h1 => ((ia_pF h1 0 ab 0 (.ref (h.1))).bind fun h2 => kxv (cl 238 [.ref (h2.1)] (ia_new h2 4 (.inr (1, [.null, .int 0, .int 0, .int 0])))) (fun h3 => ((ia_pF h3 0 ab 1 (.ref (h2.1))).bind fun h4 => kxv (cl 176 [.ref (h4.1)] (ia_new h4 2 (.inr (2, [.null, .int 0])))) (fun h5 => ((ia_pF h5 0 ab 2 (.ref (h4.1))).bind fun h6 => kxv (cl 188 [.ref (h6.1)] (ia_new h6 2 (.inr (3, [.null, .int 0])))) (fun h7 => ((ia_pF h7 0 ab 3 (.ref (h6.1))).bind fun h8 => kxv (cl 192 [.ref (h8.1)] (ia_new h8 1 (.inr (4, [.null])))) (fun h9 => ((ia_pF h9 0 ab 4 (.ref (h8.1))).bind fun h10 => kxv (cl 192 [.ref (h10.1)] (ia_new h10 1 (.inr (4, [.null])))) (fun h11 => ((ia_pF h11 0 ab 5 (.ref (h10.1))).bind fun h12 => kxv (cl 204 [.ref (h12.1)] (ia_new h12 11 (.inr (5, [.int 0, .int 0, .int 0, .int 0, .null, .null, .null, .null, .null, .null, .null])))) (fun h13 => ((ia_pF h13 0 ab 6 (.ref (h12.1))).bind fun h14 => kxv (cl 204 [.ref (h14.1)] (ia_new h14 11 (.inr (5, [.int 0, .int 0, .int 0, .int 0, .null, .null, .null, .null, .null, .null, .null])))) (fun h15 => ((ia_pF h15 0 ab 7 (.ref (h14.1))).bind fun h16 => kxv (cl 204 [.ref (h16.1)] (ia_new h16 11 (.inr (5, [.int 0, .int 0, .int 0, .int 0, .null, .null, .null, .null, .null, .null, .null])))) (fun h17 => ((ia_pF h17 0 ab 8 (.ref (h16.1))).bind fun h18 => kxv (cl 172 [.ref (h18.1)] (ia_new h18 3 (.inr (6, [.null, .int 0, .int 0])))) (fun h19 => ((ia_pF h19 0 ab 9 (.ref (h18.1))).bind fun h20 => ((ia_pF h20 0 ab 10 (.int 0)).bind fun h21 => some (none, h21)))))))))))))))))))))) := by
  refine (dq rfl rfl).trans ?_
  refine (dq rfl rfl).trans ?_
  refine (dq rfl rfl).trans ?_
  refine (dq rfl rfl).trans ?_
  refine (dq rfl rfl).trans ?_
  refine (dq_kxv1 (z := 238) rfl (lq rfl) (lq rfl) (lq rfl) kd_238 rfl).trans (kxv_c (fun h1 => ?_))
  refine (dq_putR rfl).trans (bn_c (fun h2 => ?_))
  refine (dq rfl rfl).trans ?_
  refine (dq rfl rfl).trans ?_
  refine (dq rfl rfl).trans ?_
  refine (dq_kxv1 (z := 238) rfl (lq rfl) (lq rfl) (lq rfl) kd_238 rfl).trans (kxv_c (fun h3 => ?_))
  refine (dq_putR rfl).trans (bn_c (fun h4 => ?_))
  refine (dq rfl rfl).trans ?_
  refine (dq rfl rfl).trans ?_
  refine (dq rfl rfl).trans ?_
  refine (dq_kxv1 (z := 176) rfl (lq rfl) (lq rfl) (lq rfl) kd_176 rfl).trans (kxv_c (fun h5 => ?_))
  refine (dq_putR rfl).trans (bn_c (fun h6 => ?_))
  refine (dq rfl rfl).trans ?_
  refine (dq rfl rfl).trans ?_
  refine (dq rfl rfl).trans ?_
  refine (dq_kxv1 (z := 188) rfl (lq rfl) (lq rfl) (lq rfl) kd_188 rfl).trans (kxv_c (fun h7 => ?_))
  refine (dq_putR rfl).trans (bn_c (fun h8 => ?_))
  refine (dq rfl rfl).trans ?_
  refine (dq rfl rfl).trans ?_
  refine (dq rfl rfl).trans ?_
  refine (dq_kxv1 (z := 192) rfl (lq rfl) (lq rfl) (lq rfl) kd_192 rfl).trans (kxv_c (fun h9 => ?_))
  refine (dq_putR rfl).trans (bn_c (fun h10 => ?_))
  refine (dq rfl rfl).trans ?_
  refine (dq rfl rfl).trans ?_
  refine (dq rfl rfl).trans ?_
  refine (dq_kxv1 (z := 192) rfl (lq rfl) (lq rfl) (lq rfl) kd_192 rfl).trans (kxv_c (fun h11 => ?_))
  refine (dq_putR rfl).trans (bn_c (fun h12 => ?_))
  refine (dq rfl rfl).trans ?_
  refine (dq rfl rfl).trans ?_
  refine (dq rfl rfl).trans ?_
  refine (dq_kxv1 (z := 204) rfl (lq rfl) (lq rfl) (lq rfl) kd_204 rfl).trans (kxv_c (fun h13 => ?_))
  refine (dq_putR rfl).trans (bn_c (fun h14 => ?_))
  refine (dq rfl rfl).trans ?_
  refine (dq rfl rfl).trans ?_
  refine (dq rfl rfl).trans ?_
  refine (dq_kxv1 (z := 204) rfl (lq rfl) (lq rfl) (lq rfl) kd_204 rfl).trans (kxv_c (fun h15 => ?_))
  refine (dq_putR rfl).trans (bn_c (fun h16 => ?_))
  refine (dq rfl rfl).trans ?_
  refine (dq rfl rfl).trans ?_
  refine (dq rfl rfl).trans ?_
  refine (dq_kxv1 (z := 204) rfl (lq rfl) (lq rfl) (lq rfl) kd_204 rfl).trans (kxv_c (fun h17 => ?_))
  refine (dq_putR rfl).trans (bn_c (fun h18 => ?_))
  refine (dq rfl rfl).trans ?_
  refine (dq rfl rfl).trans ?_
  refine (dq rfl rfl).trans ?_
  refine (dq_kxv1 (z := 172) rfl (lq rfl) (lq rfl) (lq rfl) kd_172 rfl).trans (kxv_c (fun h19 => ?_))
  refine (dq_putR rfl).trans (bn_c (fun h20 => ?_))
  refine (dq rfl rfl).trans ?_
  refine (dq rfl rfl).trans ?_
  refine (dq_putZ0 rfl).trans (bn_c (fun h21 => ?_))
  exact dq_ret0 rfl
theorem q_171 (ab : Nat) (ac : Int32) (h : ia_H) : cl 171 [.ref ab, .int ac] h = ((ia_pF h 8 ab 13 (.int 0)).bind fun h1 => ((ia_gI h1 8 ab 12).bind fun v2 => kxi (cl 69 [.long (ac.toInt64), .long 0, .long ((v2 - 1).toInt64)] h1) (fun r4 h3 => (if r4 = 0 then (if ia_ok h3 8 [.ref ab] = true then kxi (cl 70 [.ref ab] h3) (fun r6 h5 => some (some (.long (r6.toInt64)), h5)) else none) else ((ia_gR h3 8 ab 11).bind fun a7 => ((ia_ldL h3 a7 ac).bind fun v8 => some (some (.long v8), h3))))))) := by
  refine (dq rfl rfl).trans ?_
  refine (dq rfl rfl).trans ?_
  refine (dq_putI rfl).trans (bn_c (fun h1 => ?_))
  refine (dq rfl rfl).trans ?_
  refine (dq rfl rfl).trans ?_
  refine (dq rfl rfl).trans ?_
  refine (dq rfl rfl).trans ?_
  refine (dq_getI rfl).trans (bn_c (fun v2 => ?_))
  refine (dq rfl rfl).trans ?_
  refine (dq rfl rfl).trans ?_
  refine (dq rfl rfl).trans ?_
  refine (dq_kxi0 (z := 69) rfl (lq rfl) (lq rfl) (lq rfl) kd_69).trans (kxi_c (fun r4 h3 => ?_))
  refine (dq_ifeq rfl).trans (ie_c ?_ ?_)
  · refine (dq rfl rfl).trans ?_
    refine (dq_kxi (z := 70) rfl (lq rfl) (lq rfl) (lq rfl) kd_70).trans (it_c (kxi_c (fun r6 h5 => ?_)))
    refine (dq rfl rfl).trans ?_
    exact dq_ret3 rfl
  · refine (dq rfl rfl).trans ?_
    refine (dq_getR rfl).trans (bn_c (fun a7 => ?_))
    refine (dq rfl rfl).trans ?_
    refine (dq_lald rfl).trans (bn_c (fun v8 => ?_))
    refine (dq rfl rfl).trans ?_
    exact dq_ret3 rfl
theorem q_30 (ab : Nat) (ac : Int32) (h : ia_H) : cl 30 [.ref ab, .int ac] h = (if ia_ok h 0 [.ref ab] = true then kxv (cl 65 [.ref ab] h) (fun h1 => ((ia_gR h1 0 ab 0).bind fun a2 => (if ia_ok h1 1 [.ref a2] = true then kxv (cl 243 [.ref a2] h1) (fun h3 => ((ia_gR h3 0 ab 0).bind fun a4 => (if ia_ok h3 1 [.ref a4] = true then kxi (cl 246 [.ref a4] h3) (fun r6 h5 => (if r6 = 0 then (if ia_ok h5 0 [.ref ab] = true then kxi (cl 58 [.ref ab] h5) (fun r13 h12 => some (some (.long (r13.toInt64)), h12)) else none) else (if ia_ok h5 0 [.ref ab, .int ac] = true then kxi (cl 52 [.ref ab, .int ac] h5) (fun r8 h7 => (if r8 = 0 then some (some (.long (-1)), h7) else ((ia_gR h7 0 ab 7).bind fun a9 => ((ia_gR h7 0 ab 6).bind fun a10 => (if ia_ok h7 5 [.ref a9, .ref a10] = true then kxv (cl 205 [.ref a9, .ref a10] h7) (fun h11 => dn 30 28 [some (.ref ab), some (.int ac), some (.long 0), none, some (.int 0)] [] h11) else none))))) else none))) else none))) else none))) else none) := by
  refine (dq rfl rfl).trans ?_
  refine (dq_kxv (z := 65) rfl (lq rfl) (lq rfl) (lq rfl) kd_65).trans (it_c (kxv_c (fun h1 => ?_)))
  refine (dq rfl rfl).trans ?_
  refine (dq_getR rfl).trans (bn_c (fun a2 => ?_))
  refine (dq_kxv (z := 243) rfl (lq rfl) (lq rfl) (lq rfl) kd_243).trans (it_c (kxv_c (fun h3 => ?_)))
  refine (dq rfl rfl).trans ?_
  refine (dq_getR rfl).trans (bn_c (fun a4 => ?_))
  refine (dq_kxi (z := 246) rfl (lq rfl) (lq rfl) (lq rfl) kd_246).trans (it_c (kxi_c (fun r6 h5 => ?_)))
  refine (dq_ifne rfl).trans (ie_c ?_ ?_)
  · refine (dq rfl rfl).trans ?_
    refine (dq_kxi (z := 58) rfl (lq rfl) (lq rfl) (lq rfl) kd_58).trans (it_c (kxi_c (fun r13 h12 => ?_)))
    refine (dq rfl rfl).trans ?_
    exact dq_ret3 rfl
  · refine (dq rfl rfl).trans ?_
    refine (dq rfl rfl).trans ?_
    refine (dq_kxi (z := 52) rfl (lq rfl) (lq rfl) (lq rfl) kd_52).trans (it_c (kxi_c (fun r8 h7 => ?_)))
    refine (dq_ifne rfl).trans (ie_c ?_ ?_)
    · refine (dq rfl rfl).trans ?_
      exact dq_ret3 rfl
    · refine (dq rfl rfl).trans ?_
      refine (dq_getR rfl).trans (bn_c (fun a9 => ?_))
      refine (dq rfl rfl).trans ?_
      refine (dq_getR rfl).trans (bn_c (fun a10 => ?_))
      refine (dq_kxv (z := 205) rfl (lq rfl) (lq rfl) (lq rfl) kd_205).trans (it_c (kxv_c (fun h11 => ?_)))
      refine (dq rfl rfl).trans ?_
      refine (dq rfl rfl).trans ?_
      refine (dq rfl rfl).trans ?_
      refine (dq rfl rfl).trans ?_
      rfl
theorem q_30_28 (x0 : Nat) (x1 : Int32) (x2 : Int64) (x4 : Int32) (h : ia_H) : dn 30 28 [some (.ref x0), some (.int x1), some (.long x2), none, some (.int x4)] [] h = ((ia_gR h 0 x0 2).bind fun a1 => ((ia_gI h 2 a1 1).bind fun v2 => (if v2 ≤ x4 then ((ia_gR h 0 x0 3).bind fun a3 => (if ia_ok h 3 [.ref a3] = true then kxr (cl 189 [.ref a3] h) (fun r5 h4 => kxi (cl 258 [.long x2] h4) (fun r7 h6 => (if ia_ok h6 3 [.ref r5, .int r7] = true then kxr (cl 190 [.ref r5, .int r7] h6) (fun r9 h8 => ((ia_gR h8 0 x0 7).bind fun a10 => (if ia_ok h8 5 [.ref a10, .int x1] = true then kxi (cl 225 [.ref a10, .int x1] h8) (fun r12 h11 => (if ia_ok h11 3 [.ref r9, .int r12] = true then kxr (cl 190 [.ref r9, .int r12] h11) (fun r14 h13 => some (some (.long x2), h13)) else none)) else none))) else none))) else none)) else ((ia_gR h 0 x0 7).bind fun a15 => ((ia_gR h 5 a15 4).bind fun a16 => ((ia_ld h 0 a16 x1).bind fun v17 => (if ia_ok h 0 [.ref x0, .int x4, .int v17] = true then kxi (cl 56 [.ref x0, .int x4, .int v17] h) (fun r19 h18 => (if r19 = 0 then dn 30 28 [some (.ref x0), some (.int x1), some (.long x2), none, some (.int (x4 + 1))] [] h18 else ((ia_gR h18 0 x0 7).bind fun a20 => ((ia_gR h18 0 x0 2).bind fun a21 => (if ia_ok h18 2 [.ref a21, .int x4] = true then kxi (cl 179 [.ref a21, .int x4] h18) (fun r23 h22 => (if ia_ok h22 5 [.ref a20, .int x1, .int r23] = true then kxi (cl 231 [.ref a20, .int x1, .int r23] h22) (fun r25 h24 => (if r25 = 0 then dn 30 28 [some (.ref x0), some (.int x1), some (.long x2), none, some (.int (x4 + 1))] [] h24 else dn 30 28 [some (.ref x0), some (.int x1), some (.long (x2 ||| (1 <<< (x4.toInt64 &&& 63)))), none, some (.int (x4 + 1))] [] h24)) else none)) else none))))) else none))))))) := by
  refine (dq rfl rfl).trans ?_
  refine (dq rfl rfl).trans ?_
  refine (dq_getR rfl).trans (bn_c (fun a1 => ?_))
  refine (dq_getI rfl).trans (bn_c (fun v2 => ?_))
  refine (dq_ige rfl).trans (ie_c ?_ ?_)
  · refine (dq rfl rfl).trans ?_
    refine (dq_getR rfl).trans (bn_c (fun a3 => ?_))
    refine (dq_kxr (z := 189) rfl (lq rfl) (lq rfl) (lq rfl) kd_189).trans (it_c (kxr_c (fun r5 h4 => ?_)))
    refine (dq rfl rfl).trans ?_
    refine (dq_kxi0 (z := 258) rfl (lq rfl) (lq rfl) (lq rfl) kd_258).trans (kxi_c (fun r7 h6 => ?_))
    refine (dq_kxr (z := 190) rfl (lq rfl) (lq rfl) (lq rfl) kd_190).trans (it_c (kxr_c (fun r9 h8 => ?_)))
    refine (dq rfl rfl).trans ?_
    refine (dq_getR rfl).trans (bn_c (fun a10 => ?_))
    refine (dq rfl rfl).trans ?_
    refine (dq_kxi (z := 225) rfl (lq rfl) (lq rfl) (lq rfl) kd_225).trans (it_c (kxi_c (fun r12 h11 => ?_)))
    refine (dq_kxr (z := 190) rfl (lq rfl) (lq rfl) (lq rfl) kd_190).trans (it_c (kxr_c (fun r14 h13 => ?_)))
    refine (dq rfl rfl).trans ?_
    refine (dq rfl rfl).trans ?_
    exact dq_ret3 rfl
  · refine (dq rfl rfl).trans ?_
    refine (dq rfl rfl).trans ?_
    refine (dq rfl rfl).trans ?_
    refine (dq_getR rfl).trans (bn_c (fun a15 => ?_))
    refine (dq_getR rfl).trans (bn_c (fun a16 => ?_))
    refine (dq rfl rfl).trans ?_
    refine (dq_iald rfl).trans (bn_c (fun v17 => ?_))
    refine (dq_kxi (z := 56) rfl (lq rfl) (lq rfl) (lq rfl) kd_56).trans (it_c (kxi_c (fun r19 h18 => ?_)))
    refine (dq_ifeq rfl).trans (ie_c ?_ ?_)
    · refine (dq_iinc (v := 1) rfl rfl (by decide)).trans ?_
      refine (dq rfl rfl).trans ?_
      rfl
    · refine (dq rfl rfl).trans ?_
      refine (dq_getR rfl).trans (bn_c (fun a20 => ?_))
      refine (dq rfl rfl).trans ?_
      refine (dq rfl rfl).trans ?_
      refine (dq_getR rfl).trans (bn_c (fun a21 => ?_))
      refine (dq rfl rfl).trans ?_
      refine (dq_kxi (z := 179) rfl (lq rfl) (lq rfl) (lq rfl) kd_179).trans (it_c (kxi_c (fun r23 h22 => ?_)))
      refine (dq_kxi (z := 231) rfl (lq rfl) (lq rfl) (lq rfl) kd_231).trans (it_c (kxi_c (fun r25 h24 => ?_)))
      refine (dq_ifeq rfl).trans (ie_c ?_ ?_)
      · refine (dq_iinc (v := 1) rfl rfl (by decide)).trans ?_
        refine (dq rfl rfl).trans ?_
        rfl
      · refine (dq rfl rfl).trans ?_
        refine (dq rfl rfl).trans ?_
        refine (dq rfl rfl).trans ?_
        refine (dq rfl rfl).trans ?_
        refine (dq rfl rfl).trans ?_
        refine (dq rfl rfl).trans ?_
        refine (dq_iinc (v := 1) rfl rfl (by decide)).trans ?_
        refine (dq rfl rfl).trans ?_
        rfl
theorem q_48 (ab : Nat) (ac : Int32) (h : ia_H) : cl 48 [.ref ab, .int ac] h = (if ac.toInt < 0 ∨ (11 : Int) ≤ ac.toInt then dn 48 46 [some (.ref ab), some (.int ac)] [] h else dn 48 ([2, 6, 10, 14, 18, 22, 26, 30, 34, 38, 42].getD ac.toInt.toNat 46) [some (.ref ab), some (.int ac)] [] h) := by
  refine (dq rfl rfl).trans ?_
  exact dq_sw rfl
end
