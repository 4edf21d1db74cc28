-- ===== PART A: goes FIRST, ahead of the names: the tables' words, and 'selects' of the private methods out of them =====
/-- a private method of a class that the tables say can be made, by its rows of tables_1 -/
def lw_okq (q : MethodName × Nat) : Prop := (q.1.cls ≠ "java/lang/invoke/MethodHandle" ∧ q.1.cls ≠ "java/lang/invoke/VarHandle") ∧ Cond.instantiable q.1.cls q.2 ∈ tables_1 ∧ Cond.privateMethod q.1 ∈ tables_1 ∧ Cond.instanceMethod q.1 ∈ tables_1
theorem lw_p0 : lw_okq (⟨"LoosePlug", "useTape", "()V"⟩, 17) := ⟨⟨by decide +kernel, by decide +kernel⟩, List.mem_of_getElem? (i := 21) (by decide +kernel), List.mem_of_getElem? (i := 448) (by decide +kernel), List.mem_of_getElem? (i := 449) (by decide +kernel)⟩
theorem lw_p1 : lw_okq (⟨"LoosePlug$Tokens", "add", "(III)V"⟩, 5) := ⟨⟨by decide +kernel, by decide +kernel⟩, List.mem_of_getElem? (i := 174) (by decide +kernel), List.mem_of_getElem? (i := 535) (by decide +kernel), List.mem_of_getElem? (i := 536) (by decide +kernel)⟩
theorem lw_p2 : lw_okq (⟨"LoosePlug$StoryText", "readBy", "()Z"⟩, 5) := ⟨⟨by decide +kernel, by decide +kernel⟩, List.mem_of_getElem? (i := 197) (by decide +kernel), List.mem_of_getElem? (i := 553) (by decide +kernel), List.mem_of_getElem? (i := 554) (by decide +kernel)⟩
theorem lw_p3 : lw_okq (⟨"LoosePlug$StoryText", "readClauses", "()Z"⟩, 5) := ⟨⟨by decide +kernel, by decide +kernel⟩, List.mem_of_getElem? (i := 197) (by decide +kernel), List.mem_of_getElem? (i := 561) (by decide +kernel), List.mem_of_getElem? (i := 562) (by decide +kernel)⟩
theorem lw_p4 : lw_okq (⟨"LoosePlug$StoryText", "readClause", "(I)Z"⟩, 5) := ⟨⟨by decide +kernel, by decide +kernel⟩, List.mem_of_getElem? (i := 197) (by decide +kernel), List.mem_of_getElem? (i := 565) (by decide +kernel), List.mem_of_getElem? (i := 566) (by decide +kernel)⟩
theorem lw_p5 : lw_okq (⟨"LoosePlug", "gatherTwos", "(I)I"⟩, 17) := ⟨⟨by decide +kernel, by decide +kernel⟩, List.mem_of_getElem? (i := 21) (by decide +kernel), List.mem_of_getElem? (i := 698) (by decide +kernel), List.mem_of_getElem? (i := 699) (by decide +kernel)⟩
theorem lw_p6 : lw_okq (⟨"LoosePlug", "twosParted", "(II)I"⟩, 17) := ⟨⟨by decide +kernel, by decide +kernel⟩, List.mem_of_getElem? (i := 21) (by decide +kernel), List.mem_of_getElem? (i := 707) (by decide +kernel), List.mem_of_getElem? (i := 708) (by decide +kernel)⟩
theorem lw_p7 : lw_okq (⟨"LoosePlug", "partsAll", "(II)Z"⟩, 17) := ⟨⟨by decide +kernel, by decide +kernel⟩, List.mem_of_getElem? (i := 21) (by decide +kernel), List.mem_of_getElem? (i := 719) (by decide +kernel), List.mem_of_getElem? (i := 720) (by decide +kernel)⟩
theorem lw_p8 : lw_okq (⟨"LoosePlug$RuleText", "both", "(I)Z"⟩, 3) := ⟨⟨by decide +kernel, by decide +kernel⟩, List.mem_of_getElem? (i := 219) (by decide +kernel), List.mem_of_getElem? (i := 790) (by decide +kernel), List.mem_of_getElem? (i := 791) (by decide +kernel)⟩
theorem lw_p9 : lw_okq (⟨"LoosePlug$RuleText", "one", "(I)Z"⟩, 3) := ⟨⟨by decide +kernel, by decide +kernel⟩, List.mem_of_getElem? (i := 219) (by decide +kernel), List.mem_of_getElem? (i := 794) (by decide +kernel), List.mem_of_getElem? (i := 795) (by decide +kernel)⟩
theorem lw_p10 : lw_okq (⟨"LoosePlug$RuleText", "emit", "(I)V"⟩, 3) := ⟨⟨by decide +kernel, by decide +kernel⟩, List.mem_of_getElem? (i := 219) (by decide +kernel), List.mem_of_getElem? (i := 801) (by decide +kernel), List.mem_of_getElem? (i := 802) (by decide +kernel)⟩
theorem lw_p11 : lw_okq (⟨"LoosePlug$RuleText", "sum", "(I)Z"⟩, 3) := ⟨⟨by decide +kernel, by decide +kernel⟩, List.mem_of_getElem? (i := 219) (by decide +kernel), List.mem_of_getElem? (i := 805) (by decide +kernel), List.mem_of_getElem? (i := 806) (by decide +kernel)⟩
theorem lw_p12 : lw_okq (⟨"LoosePlug$RuleText", "term", "(I)Z"⟩, 3) := ⟨⟨by decide +kernel, by decide +kernel⟩, List.mem_of_getElem? (i := 219) (by decide +kernel), List.mem_of_getElem? (i := 809) (by decide +kernel), List.mem_of_getElem? (i := 810) (by decide +kernel)⟩
theorem lw_p13 : lw_okq (⟨"LoosePlug$RuleText", "at", "(I)Z"⟩, 3) := ⟨⟨by decide +kernel, by decide +kernel⟩, List.mem_of_getElem? (i := 219) (by decide +kernel), List.mem_of_getElem? (i := 813) (by decide +kernel), List.mem_of_getElem? (i := 814) (by decide +kernel)⟩
theorem lw_p14 : lw_okq (⟨"LoosePlug", "isInRows", "(II)Z"⟩, 17) := ⟨⟨by decide +kernel, by decide +kernel⟩, List.mem_of_getElem? (i := 21) (by decide +kernel), List.mem_of_getElem? (i := 867) (by decide +kernel), List.mem_of_getElem? (i := 868) (by decide +kernel)⟩
theorem lw_p15 : lw_okq (⟨"LoosePlug", "holdsPart", "(LLoosePlug$Shelf;)Z"⟩, 17) := ⟨⟨by decide +kernel, by decide +kernel⟩, List.mem_of_getElem? (i := 21) (by decide +kernel), List.mem_of_getElem? (i := 932) (by decide +kernel), List.mem_of_getElem? (i := 933) (by decide +kernel)⟩
def lw_privs_1 : List (MethodName × Nat) := [(⟨"LoosePlug", "useTape", "()V"⟩, 17), (⟨"LoosePlug$Tokens", "add", "(III)V"⟩, 5), (⟨"LoosePlug$StoryText", "readBy", "()Z"⟩, 5), (⟨"LoosePlug$StoryText", "readClauses", "()Z"⟩, 5), (⟨"LoosePlug$StoryText", "readClause", "(I)Z"⟩, 5), (⟨"LoosePlug", "gatherTwos", "(I)I"⟩, 17), (⟨"LoosePlug", "twosParted", "(II)I"⟩, 17), (⟨"LoosePlug", "partsAll", "(II)Z"⟩, 17), (⟨"LoosePlug$RuleText", "both", "(I)Z"⟩, 3), (⟨"LoosePlug$RuleText", "one", "(I)Z"⟩, 3), (⟨"LoosePlug$RuleText", "emit", "(I)V"⟩, 3), (⟨"LoosePlug$RuleText", "sum", "(I)Z"⟩, 3), (⟨"LoosePlug$RuleText", "term", "(I)Z"⟩, 3), (⟨"LoosePlug$RuleText", "at", "(I)Z"⟩, 3), (⟨"LoosePlug", "isInRows", "(II)Z"⟩, 17), (⟨"LoosePlug", "holdsPart", "(LLoosePlug$Shelf;)Z"⟩, 17)]
theorem lw_r1 : ∀ q ∈ lw_privs_1, lw_okq q := List.forall_mem_cons.mpr ⟨lw_p0, List.forall_mem_cons.mpr ⟨lw_p1, List.forall_mem_cons.mpr ⟨lw_p2, List.forall_mem_cons.mpr ⟨lw_p3, List.forall_mem_cons.mpr ⟨lw_p4, List.forall_mem_cons.mpr ⟨lw_p5, List.forall_mem_cons.mpr ⟨lw_p6, List.forall_mem_cons.mpr ⟨lw_p7, List.forall_mem_cons.mpr ⟨lw_p8, List.forall_mem_cons.mpr ⟨lw_p9, List.forall_mem_cons.mpr ⟨lw_p10, List.forall_mem_cons.mpr ⟨lw_p11, List.forall_mem_cons.mpr ⟨lw_p12, List.forall_mem_cons.mpr ⟨lw_p13, List.forall_mem_cons.mpr ⟨lw_p14, List.forall_mem_cons.mpr ⟨lw_p15, fun _ h => absurd h List.not_mem_nil⟩⟩⟩⟩⟩⟩⟩⟩⟩⟩⟩⟩⟩⟩⟩⟩
theorem lw_p16 : lw_okq (⟨"LoosePlug$Actor", "began", "(I)V"⟩, 6) := ⟨⟨by decide +kernel, by decide +kernel⟩, List.mem_of_getElem? (i := 239) (by decide +kernel), List.mem_of_getElem? (i := 955) (by decide +kernel), List.mem_of_getElem? (i := 956) (by decide +kernel)⟩
theorem lw_p17 : lw_okq (⟨"LoosePlug$Actor", "takesOfPart", "(I)I"⟩, 6) := ⟨⟨by decide +kernel, by decide +kernel⟩, List.mem_of_getElem? (i := 239) (by decide +kernel), List.mem_of_getElem? (i := 959) (by decide +kernel), List.mem_of_getElem? (i := 960) (by decide +kernel)⟩
theorem lw_p18 : lw_okq (⟨"LoosePlug$Actor", "sharesOfPart", "(I)I"⟩, 6) := ⟨⟨by decide +kernel, by decide +kernel⟩, List.mem_of_getElem? (i := 239) (by decide +kernel), List.mem_of_getElem? (i := 967) (by decide +kernel), List.mem_of_getElem? (i := 968) (by decide +kernel)⟩
theorem lw_p19 : lw_okq (⟨"LoosePlug$Actor", "boundsOfLoose", "(I)I"⟩, 6) := ⟨⟨by decide +kernel, by decide +kernel⟩, List.mem_of_getElem? (i := 239) (by decide +kernel), List.mem_of_getElem? (i := 976) (by decide +kernel), List.mem_of_getElem? (i := 977) (by decide +kernel)⟩
theorem lw_p20 : lw_okq (⟨"LoosePlug$Actor", "boundsOfPart", "(I)I"⟩, 6) := ⟨⟨by decide +kernel, by decide +kernel⟩, List.mem_of_getElem? (i := 239) (by decide +kernel), List.mem_of_getElem? (i := 980) (by decide +kernel), List.mem_of_getElem? (i := 981) (by decide +kernel)⟩
theorem lw_p21 : lw_okq (⟨"LoosePlug$Actor", "tellsOfPart", "(I)I"⟩, 6) := ⟨⟨by decide +kernel, by decide +kernel⟩, List.mem_of_getElem? (i := 239) (by decide +kernel), List.mem_of_getElem? (i := 988) (by decide +kernel), List.mem_of_getElem? (i := 989) (by decide +kernel)⟩
theorem lw_p22 : lw_okq (⟨"LoosePlugModel", "isPart", "(I)Z"⟩, 54) := ⟨⟨by decide +kernel, by decide +kernel⟩, List.mem_of_getElem? (i := 1018) (by decide +kernel), List.mem_of_getElem? (i := 1199) (by decide +kernel), List.mem_of_getElem? (i := 1200) (by decide +kernel)⟩
theorem lw_p23 : lw_okq (⟨"LoosePlugModel", "its", "(II)I"⟩, 54) := ⟨⟨by decide +kernel, by decide +kernel⟩, List.mem_of_getElem? (i := 1018) (by decide +kernel), List.mem_of_getElem? (i := 1203) (by decide +kernel), List.mem_of_getElem? (i := 1204) (by decide +kernel)⟩
theorem lw_p24 : lw_okq (⟨"LoosePlugModel", "takes", "(I)I"⟩, 54) := ⟨⟨by decide +kernel, by decide +kernel⟩, List.mem_of_getElem? (i := 1018) (by decide +kernel), List.mem_of_getElem? (i := 1215) (by decide +kernel), List.mem_of_getElem? (i := 1216) (by decide +kernel)⟩
theorem lw_p25 : lw_okq (⟨"LoosePlugModel", "isOn", "(II)Z"⟩, 54) := ⟨⟨by decide +kernel, by decide +kernel⟩, List.mem_of_getElem? (i := 1018) (by decide +kernel), List.mem_of_getElem? (i := 1239) (by decide +kernel), List.mem_of_getElem? (i := 1240) (by decide +kernel)⟩
theorem lw_p26 : lw_okq (⟨"LoosePlugModel", "lacks", "(I)I"⟩, 54) := ⟨⟨by decide +kernel, by decide +kernel⟩, List.mem_of_getElem? (i := 1018) (by decide +kernel), List.mem_of_getElem? (i := 1243) (by decide +kernel), List.mem_of_getElem? (i := 1244) (by decide +kernel)⟩
theorem lw_p27 : lw_okq (⟨"LoosePlugModel", "addRun", "(III)I"⟩, 54) := ⟨⟨by decide +kernel, by decide +kernel⟩, List.mem_of_getElem? (i := 1018) (by decide +kernel), List.mem_of_getElem? (i := 1247) (by decide +kernel), List.mem_of_getElem? (i := 1248) (by decide +kernel)⟩
theorem lw_p28 : lw_okq (⟨"LoosePlugModel", "begin", "()V"⟩, 54) := ⟨⟨by decide +kernel, by decide +kernel⟩, List.mem_of_getElem? (i := 1018) (by decide +kernel), List.mem_of_getElem? (i := 1272) (by decide +kernel), List.mem_of_getElem? (i := 1273) (by decide +kernel)⟩
theorem lw_p29 : lw_okq (⟨"LoosePlugModel", "advance", "()V"⟩, 54) := ⟨⟨by decide +kernel, by decide +kernel⟩, List.mem_of_getElem? (i := 1018) (by decide +kernel), List.mem_of_getElem? (i := 1276) (by decide +kernel), List.mem_of_getElem? (i := 1277) (by decide +kernel)⟩
theorem lw_p30 : lw_okq (⟨"LoosePlugModel", "byteAt", "(I)I"⟩, 54) := ⟨⟨by decide +kernel, by decide +kernel⟩, List.mem_of_getElem? (i := 1018) (by decide +kernel), List.mem_of_getElem? (i := 1280) (by decide +kernel), List.mem_of_getElem? (i := 1281) (by decide +kernel)⟩
theorem lw_p31 : lw_okq (⟨"LoosePlugModel", "isWord", "(J)Z"⟩, 54) := ⟨⟨by decide +kernel, by decide +kernel⟩, List.mem_of_getElem? (i := 1018) (by decide +kernel), List.mem_of_getElem? (i := 1294) (by decide +kernel), List.mem_of_getElem? (i := 1295) (by decide +kernel)⟩
def lw_privs_2 : List (MethodName × Nat) := [(⟨"LoosePlug$Actor", "began", "(I)V"⟩, 6), (⟨"LoosePlug$Actor", "takesOfPart", "(I)I"⟩, 6), (⟨"LoosePlug$Actor", "sharesOfPart", "(I)I"⟩, 6), (⟨"LoosePlug$Actor", "boundsOfLoose", "(I)I"⟩, 6), (⟨"LoosePlug$Actor", "boundsOfPart", "(I)I"⟩, 6), (⟨"LoosePlug$Actor", "tellsOfPart", "(I)I"⟩, 6), (⟨"LoosePlugModel", "isPart", "(I)Z"⟩, 54), (⟨"LoosePlugModel", "its", "(II)I"⟩, 54), (⟨"LoosePlugModel", "takes", "(I)I"⟩, 54), (⟨"LoosePlugModel", "isOn", "(II)Z"⟩, 54), (⟨"LoosePlugModel", "lacks", "(I)I"⟩, 54), (⟨"LoosePlugModel", "addRun", "(III)I"⟩, 54), (⟨"LoosePlugModel", "begin", "()V"⟩, 54), (⟨"LoosePlugModel", "advance", "()V"⟩, 54), (⟨"LoosePlugModel", "byteAt", "(I)I"⟩, 54), (⟨"LoosePlugModel", "isWord", "(J)Z"⟩, 54)]
theorem lw_r2 : ∀ q ∈ lw_privs_2, lw_okq q := List.forall_mem_cons.mpr ⟨lw_p16, List.forall_mem_cons.mpr ⟨lw_p17, List.forall_mem_cons.mpr ⟨lw_p18, List.forall_mem_cons.mpr ⟨lw_p19, List.forall_mem_cons.mpr ⟨lw_p20, List.forall_mem_cons.mpr ⟨lw_p21, List.forall_mem_cons.mpr ⟨lw_p22, List.forall_mem_cons.mpr ⟨lw_p23, List.forall_mem_cons.mpr ⟨lw_p24, List.forall_mem_cons.mpr ⟨lw_p25, List.forall_mem_cons.mpr ⟨lw_p26, List.forall_mem_cons.mpr ⟨lw_p27, List.forall_mem_cons.mpr ⟨lw_p28, List.forall_mem_cons.mpr ⟨lw_p29, List.forall_mem_cons.mpr ⟨lw_p30, List.forall_mem_cons.mpr ⟨lw_p31, fun _ h => absurd h List.not_mem_nil⟩⟩⟩⟩⟩⟩⟩⟩⟩⟩⟩⟩⟩⟩⟩⟩
theorem lw_p32 : lw_okq (⟨"LoosePlugModel", "wantWord", "(J)V"⟩, 54) := ⟨⟨by decide +kernel, by decide +kernel⟩, List.mem_of_getElem? (i := 1018) (by decide +kernel), List.mem_of_getElem? (i := 1300) (by decide +kernel), List.mem_of_getElem? (i := 1301) (by decide +kernel)⟩
theorem lw_p33 : lw_okq (⟨"LoosePlugModel", "wantInt", "()I"⟩, 54) := ⟨⟨by decide +kernel, by decide +kernel⟩, List.mem_of_getElem? (i := 1018) (by decide +kernel), List.mem_of_getElem? (i := 1304) (by decide +kernel), List.mem_of_getElem? (i := 1305) (by decide +kernel)⟩
theorem lw_p34 : lw_okq (⟨"LoosePlugModel", "isMark", "(I)Z"⟩, 54) := ⟨⟨by decide +kernel, by decide +kernel⟩, List.mem_of_getElem? (i := 1018) (by decide +kernel), List.mem_of_getElem? (i := 1308) (by decide +kernel), List.mem_of_getElem? (i := 1309) (by decide +kernel)⟩
theorem lw_p35 : lw_okq (⟨"LoosePlugModel", "wantNumber", "()I"⟩, 54) := ⟨⟨by decide +kernel, by decide +kernel⟩, List.mem_of_getElem? (i := 1018) (by decide +kernel), List.mem_of_getElem? (i := 1312) (by decide +kernel), List.mem_of_getElem? (i := 1313) (by decide +kernel)⟩
theorem lw_p36 : lw_okq (⟨"LoosePlugModel", "isNumber", "()Z"⟩, 54) := ⟨⟨by decide +kernel, by decide +kernel⟩, List.mem_of_getElem? (i := 1018) (by decide +kernel), List.mem_of_getElem? (i := 1316) (by decide +kernel), List.mem_of_getElem? (i := 1317) (by decide +kernel)⟩
theorem lw_p37 : lw_okq (⟨"LoosePlugModel", "wantClauses", "()V"⟩, 54) := ⟨⟨by decide +kernel, by decide +kernel⟩, List.mem_of_getElem? (i := 1018) (by decide +kernel), List.mem_of_getElem? (i := 1320) (by decide +kernel), List.mem_of_getElem? (i := 1321) (by decide +kernel)⟩
theorem lw_p38 : lw_okq (⟨"LoosePlugModel", "isStory", "(I)Z"⟩, 54) := ⟨⟨by decide +kernel, by decide +kernel⟩, List.mem_of_getElem? (i := 1018) (by decide +kernel), List.mem_of_getElem? (i := 1331) (by decide +kernel), List.mem_of_getElem? (i := 1332) (by decide +kernel)⟩
theorem lw_p39 : lw_okq (⟨"LoosePlugModel", "givesBy", "(III)I"⟩, 54) := ⟨⟨by decide +kernel, by decide +kernel⟩, List.mem_of_getElem? (i := 1018) (by decide +kernel), List.mem_of_getElem? (i := 1335) (by decide +kernel), List.mem_of_getElem? (i := 1336) (by decide +kernel)⟩
theorem lw_p40 : lw_okq (⟨"LoosePlugModel", "findsBy", "(II)I"⟩, 54) := ⟨⟨by decide +kernel, by decide +kernel⟩, List.mem_of_getElem? (i := 1018) (by decide +kernel), List.mem_of_getElem? (i := 1343) (by decide +kernel), List.mem_of_getElem? (i := 1344) (by decide +kernel)⟩
theorem lw_p41 : lw_okq (⟨"LoosePlugModel", "missOf", "(I)I"⟩, 54) := ⟨⟨by decide +kernel, by decide +kernel⟩, List.mem_of_getElem? (i := 1018) (by decide +kernel), List.mem_of_getElem? (i := 1351) (by decide +kernel), List.mem_of_getElem? (i := 1352) (by decide +kernel)⟩
theorem lw_p42 : lw_okq (⟨"LoosePlugModel", "far", "(II)I"⟩, 54) := ⟨⟨by decide +kernel, by decide +kernel⟩, List.mem_of_getElem? (i := 1018) (by decide +kernel), List.mem_of_getElem? (i := 1355) (by decide +kernel), List.mem_of_getElem? (i := 1356) (by decide +kernel)⟩
theorem lw_p43 : lw_okq (⟨"LoosePlugModel", "likelyOne", "()I"⟩, 54) := ⟨⟨by decide +kernel, by decide +kernel⟩, List.mem_of_getElem? (i := 1018) (by decide +kernel), List.mem_of_getElem? (i := 1366) (by decide +kernel), List.mem_of_getElem? (i := 1367) (by decide +kernel)⟩
theorem lw_p44 : lw_okq (⟨"LoosePlugModel", "weightOf", "(I)J"⟩, 54) := ⟨⟨by decide +kernel, by decide +kernel⟩, List.mem_of_getElem? (i := 1018) (by decide +kernel), List.mem_of_getElem? (i := 1374) (by decide +kernel), List.mem_of_getElem? (i := 1375) (by decide +kernel)⟩
theorem lw_p45 : lw_okq (⟨"LoosePlugModel", "lowest", "(JJ)V"⟩, 54) := ⟨⟨by decide +kernel, by decide +kernel⟩, List.mem_of_getElem? (i := 1018) (by decide +kernel), List.mem_of_getElem? (i := 1381) (by decide +kernel), List.mem_of_getElem? (i := 1382) (by decide +kernel)⟩
theorem lw_p46 : lw_okq (⟨"LoosePlugModel", "isSet", "(I)Z"⟩, 54) := ⟨⟨by decide +kernel, by decide +kernel⟩, List.mem_of_getElem? (i := 1018) (by decide +kernel), List.mem_of_getElem? (i := 1393) (by decide +kernel), List.mem_of_getElem? (i := 1394) (by decide +kernel)⟩
theorem lw_p47 : lw_okq (⟨"LoosePlugModel", "partedBy", "(II)I"⟩, 54) := ⟨⟨by decide +kernel, by decide +kernel⟩, List.mem_of_getElem? (i := 1018) (by decide +kernel), List.mem_of_getElem? (i := 1397) (by decide +kernel), List.mem_of_getElem? (i := 1398) (by decide +kernel)⟩
def lw_privs_3 : List (MethodName × Nat) := [(⟨"LoosePlugModel", "wantWord", "(J)V"⟩, 54), (⟨"LoosePlugModel", "wantInt", "()I"⟩, 54), (⟨"LoosePlugModel", "isMark", "(I)Z"⟩, 54), (⟨"LoosePlugModel", "wantNumber", "()I"⟩, 54), (⟨"LoosePlugModel", "isNumber", "()Z"⟩, 54), (⟨"LoosePlugModel", "wantClauses", "()V"⟩, 54), (⟨"LoosePlugModel", "isStory", "(I)Z"⟩, 54), (⟨"LoosePlugModel", "givesBy", "(III)I"⟩, 54), (⟨"LoosePlugModel", "findsBy", "(II)I"⟩, 54), (⟨"LoosePlugModel", "missOf", "(I)I"⟩, 54), (⟨"LoosePlugModel", "far", "(II)I"⟩, 54), (⟨"LoosePlugModel", "likelyOne", "()I"⟩, 54), (⟨"LoosePlugModel", "weightOf", "(I)J"⟩, 54), (⟨"LoosePlugModel", "lowest", "(JJ)V"⟩, 54), (⟨"LoosePlugModel", "isSet", "(I)Z"⟩, 54), (⟨"LoosePlugModel", "partedBy", "(II)I"⟩, 54)]
theorem lw_r3 : ∀ q ∈ lw_privs_3, lw_okq q := List.forall_mem_cons.mpr ⟨lw_p32, List.forall_mem_cons.mpr ⟨lw_p33, List.forall_mem_cons.mpr ⟨lw_p34, List.forall_mem_cons.mpr ⟨lw_p35, List.forall_mem_cons.mpr ⟨lw_p36, List.forall_mem_cons.mpr ⟨lw_p37, List.forall_mem_cons.mpr ⟨lw_p38, List.forall_mem_cons.mpr ⟨lw_p39, List.forall_mem_cons.mpr ⟨lw_p40, List.forall_mem_cons.mpr ⟨lw_p41, List.forall_mem_cons.mpr ⟨lw_p42, List.forall_mem_cons.mpr ⟨lw_p43, List.forall_mem_cons.mpr ⟨lw_p44, List.forall_mem_cons.mpr ⟨lw_p45, List.forall_mem_cons.mpr ⟨lw_p46, List.forall_mem_cons.mpr ⟨lw_p47, fun _ h => absurd h List.not_mem_nil⟩⟩⟩⟩⟩⟩⟩⟩⟩⟩⟩⟩⟩⟩⟩⟩
theorem lw_p48 : lw_okq (⟨"LoosePlugModel", "parting", "(II)I"⟩, 54) := ⟨⟨by decide +kernel, by decide +kernel⟩, List.mem_of_getElem? (i := 1018) (by decide +kernel), List.mem_of_getElem? (i := 1405) (by decide +kernel), List.mem_of_getElem? (i := 1406) (by decide +kernel)⟩
theorem lw_p49 : lw_okq (⟨"LoosePlugModel", "spanOf", "(I)I"⟩, 54) := ⟨⟨by decide +kernel, by decide +kernel⟩, List.mem_of_getElem? (i := 1018) (by decide +kernel), List.mem_of_getElem? (i := 1413) (by decide +kernel), List.mem_of_getElem? (i := 1414) (by decide +kernel)⟩
theorem lw_p50 : lw_okq (⟨"LoosePlugModel", "rootOf", "(I)I"⟩, 54) := ⟨⟨by decide +kernel, by decide +kernel⟩, List.mem_of_getElem? (i := 1018) (by decide +kernel), List.mem_of_getElem? (i := 1417) (by decide +kernel), List.mem_of_getElem? (i := 1418) (by decide +kernel)⟩
theorem lw_p51 : lw_okq (⟨"LoosePlugModel", "sumOf", "(III)I"⟩, 54) := ⟨⟨by decide +kernel, by decide +kernel⟩, List.mem_of_getElem? (i := 1018) (by decide +kernel), List.mem_of_getElem? (i := 1425) (by decide +kernel), List.mem_of_getElem? (i := 1426) (by decide +kernel)⟩
theorem lw_p52 : lw_okq (⟨"LoosePlugModel", "sortRuns", "(I)I"⟩, 54) := ⟨⟨by decide +kernel, by decide +kernel⟩, List.mem_of_getElem? (i := 1018) (by decide +kernel), List.mem_of_getElem? (i := 1445) (by decide +kernel), List.mem_of_getElem? (i := 1446) (by decide +kernel)⟩
theorem lw_p53 : lw_okq (⟨"LoosePlugModel", "wantRule", "()V"⟩, 54) := ⟨⟨by decide +kernel, by decide +kernel⟩, List.mem_of_getElem? (i := 1018) (by decide +kernel), List.mem_of_getElem? (i := 1457) (by decide +kernel), List.mem_of_getElem? (i := 1458) (by decide +kernel)⟩
theorem lw_p54 : lw_okq (⟨"LoosePlugModel", "beginOne", "()V"⟩, 54) := ⟨⟨by decide +kernel, by decide +kernel⟩, List.mem_of_getElem? (i := 1018) (by decide +kernel), List.mem_of_getElem? (i := 1461) (by decide +kernel), List.mem_of_getElem? (i := 1462) (by decide +kernel)⟩
theorem lw_p55 : lw_okq (⟨"LoosePlugModel", "opens", "(I)V"⟩, 54) := ⟨⟨by decide +kernel, by decide +kernel⟩, List.mem_of_getElem? (i := 1018) (by decide +kernel), List.mem_of_getElem? (i := 1467) (by decide +kernel), List.mem_of_getElem? (i := 1468) (by decide +kernel)⟩
theorem lw_p56 : lw_okq (⟨"LoosePlugModel", "pend", "(I)V"⟩, 54) := ⟨⟨by decide +kernel, by decide +kernel⟩, List.mem_of_getElem? (i := 1018) (by decide +kernel), List.mem_of_getElem? (i := 1471) (by decide +kernel), List.mem_of_getElem? (i := 1472) (by decide +kernel)⟩
theorem lw_p57 : lw_okq (⟨"LoosePlugModel", "beginAt", "()V"⟩, 54) := ⟨⟨by decide +kernel, by decide +kernel⟩, List.mem_of_getElem? (i := 1018) (by decide +kernel), List.mem_of_getElem? (i := 1476) (by decide +kernel), List.mem_of_getElem? (i := 1477) (by decide +kernel)⟩
theorem lw_p58 : lw_okq (⟨"LoosePlugModel", "factHere", "()I"⟩, 54) := ⟨⟨by decide +kernel, by decide +kernel⟩, List.mem_of_getElem? (i := 1018) (by decide +kernel), List.mem_of_getElem? (i := 1481) (by decide +kernel), List.mem_of_getElem? (i := 1482) (by decide +kernel)⟩
theorem lw_p59 : lw_okq (⟨"LoosePlugModel", "emit", "(I)V"⟩, 54) := ⟨⟨by decide +kernel, by decide +kernel⟩, List.mem_of_getElem? (i := 1018) (by decide +kernel), List.mem_of_getElem? (i := 1492) (by decide +kernel), List.mem_of_getElem? (i := 1493) (by decide +kernel)⟩
theorem lw_p60 : lw_okq (⟨"LoosePlugModel", "ends", "(I)V"⟩, 54) := ⟨⟨by decide +kernel, by decide +kernel⟩, List.mem_of_getElem? (i := 1018) (by decide +kernel), List.mem_of_getElem? (i := 1496) (by decide +kernel), List.mem_of_getElem? (i := 1497) (by decide +kernel)⟩
theorem lw_p61 : lw_okq (⟨"LoosePlugModel", "top", "()I"⟩, 54) := ⟨⟨by decide +kernel, by decide +kernel⟩, List.mem_of_getElem? (i := 1018) (by decide +kernel), List.mem_of_getElem? (i := 1500) (by decide +kernel), List.mem_of_getElem? (i := 1501) (by decide +kernel)⟩
theorem lw_p62 : lw_okq (⟨"LoosePlugModel", "goOnEnded", "()V"⟩, 54) := ⟨⟨by decide +kernel, by decide +kernel⟩, List.mem_of_getElem? (i := 1018) (by decide +kernel), List.mem_of_getElem? (i := 1504) (by decide +kernel), List.mem_of_getElem? (i := 1505) (by decide +kernel)⟩
theorem lw_p63 : lw_okq (⟨"LoosePlugModel", "settle", "(I)V"⟩, 54) := ⟨⟨by decide +kernel, by decide +kernel⟩, List.mem_of_getElem? (i := 1018) (by decide +kernel), List.mem_of_getElem? (i := 1509) (by decide +kernel), List.mem_of_getElem? (i := 1510) (by decide +kernel)⟩
def lw_privs_4 : List (MethodName × Nat) := [(⟨"LoosePlugModel", "parting", "(II)I"⟩, 54), (⟨"LoosePlugModel", "spanOf", "(I)I"⟩, 54), (⟨"LoosePlugModel", "rootOf", "(I)I"⟩, 54), (⟨"LoosePlugModel", "sumOf", "(III)I"⟩, 54), (⟨"LoosePlugModel", "sortRuns", "(I)I"⟩, 54), (⟨"LoosePlugModel", "wantRule", "()V"⟩, 54), (⟨"LoosePlugModel", "beginOne", "()V"⟩, 54), (⟨"LoosePlugModel", "opens", "(I)V"⟩, 54), (⟨"LoosePlugModel", "pend", "(I)V"⟩, 54), (⟨"LoosePlugModel", "beginAt", "()V"⟩, 54), (⟨"LoosePlugModel", "factHere", "()I"⟩, 54), (⟨"LoosePlugModel", "emit", "(I)V"⟩, 54), (⟨"LoosePlugModel", "ends", "(I)V"⟩, 54), (⟨"LoosePlugModel", "top", "()I"⟩, 54), (⟨"LoosePlugModel", "goOnEnded", "()V"⟩, 54), (⟨"LoosePlugModel", "settle", "(I)V"⟩, 54)]
theorem lw_r4 : ∀ q ∈ lw_privs_4, lw_okq q := List.forall_mem_cons.mpr ⟨lw_p48, List.forall_mem_cons.mpr ⟨lw_p49, List.forall_mem_cons.mpr ⟨lw_p50, List.forall_mem_cons.mpr ⟨lw_p51, List.forall_mem_cons.mpr ⟨lw_p52, List.forall_mem_cons.mpr ⟨lw_p53, List.forall_mem_cons.mpr ⟨lw_p54, List.forall_mem_cons.mpr ⟨lw_p55, List.forall_mem_cons.mpr ⟨lw_p56, List.forall_mem_cons.mpr ⟨lw_p57, List.forall_mem_cons.mpr ⟨lw_p58, List.forall_mem_cons.mpr ⟨lw_p59, List.forall_mem_cons.mpr ⟨lw_p60, List.forall_mem_cons.mpr ⟨lw_p61, List.forall_mem_cons.mpr ⟨lw_p62, List.forall_mem_cons.mpr ⟨lw_p63, fun _ h => absurd h List.not_mem_nil⟩⟩⟩⟩⟩⟩⟩⟩⟩⟩⟩⟩⟩⟩⟩⟩
theorem lw_p64 : lw_okq (⟨"LoosePlugModel", "goOnAt", "()V"⟩, 54) := ⟨⟨by decide +kernel, by decide +kernel⟩, List.mem_of_getElem? (i := 1018) (by decide +kernel), List.mem_of_getElem? (i := 1518) (by decide +kernel), List.mem_of_getElem? (i := 1519) (by decide +kernel)⟩
theorem lw_p65 : lw_okq (⟨"LoosePlugModel", "factOf", "(I)I"⟩, 54) := ⟨⟨by decide +kernel, by decide +kernel⟩, List.mem_of_getElem? (i := 1018) (by decide +kernel), List.mem_of_getElem? (i := 1526) (by decide +kernel), List.mem_of_getElem? (i := 1527) (by decide +kernel)⟩
theorem lw_p66 : lw_okq (⟨"LoosePlugModel", "findFacts", "()V"⟩, 54) := ⟨⟨by decide +kernel, by decide +kernel⟩, List.mem_of_getElem? (i := 1018) (by decide +kernel), List.mem_of_getElem? (i := 1534) (by decide +kernel), List.mem_of_getElem? (i := 1535) (by decide +kernel)⟩
theorem lw_p67 : lw_okq (⟨"LoosePlugModel", "isSo", "(II)Z"⟩, 54) := ⟨⟨by decide +kernel, by decide +kernel⟩, List.mem_of_getElem? (i := 1018) (by decide +kernel), List.mem_of_getElem? (i := 1538) (by decide +kernel), List.mem_of_getElem? (i := 1539) (by decide +kernel)⟩
theorem lw_p68 : lw_okq (⟨"LoosePlugModel", "isRow", "(II)Z"⟩, 54) := ⟨⟨by decide +kernel, by decide +kernel⟩, List.mem_of_getElem? (i := 1018) (by decide +kernel), List.mem_of_getElem? (i := 1557) (by decide +kernel), List.mem_of_getElem? (i := 1558) (by decide +kernel)⟩
theorem lw_p69 : lw_okq (⟨"LoosePlugModel", "lacksSort", "(II)I"⟩, 54) := ⟨⟨by decide +kernel, by decide +kernel⟩, List.mem_of_getElem? (i := 1018) (by decide +kernel), List.mem_of_getElem? (i := 1584) (by decide +kernel), List.mem_of_getElem? (i := 1585) (by decide +kernel)⟩
theorem lw_p70 : lw_okq (⟨"LoosePlugModel", "isHeld", "(II)Z"⟩, 54) := ⟨⟨by decide +kernel, by decide +kernel⟩, List.mem_of_getElem? (i := 1018) (by decide +kernel), List.mem_of_getElem? (i := 1592) (by decide +kernel), List.mem_of_getElem? (i := 1593) (by decide +kernel)⟩
theorem lw_p71 : lw_okq (⟨"LoosePlugModel", "kindOn", "(I)I"⟩, 54) := ⟨⟨by decide +kernel, by decide +kernel⟩, List.mem_of_getElem? (i := 1018) (by decide +kernel), List.mem_of_getElem? (i := 1600) (by decide +kernel), List.mem_of_getElem? (i := 1601) (by decide +kernel)⟩
theorem lw_p72 : lw_okq (⟨"LoosePlugModel", "takesIt", "(I)I"⟩, 54) := ⟨⟨by decide +kernel, by decide +kernel⟩, List.mem_of_getElem? (i := 1018) (by decide +kernel), List.mem_of_getElem? (i := 1611) (by decide +kernel), List.mem_of_getElem? (i := 1612) (by decide +kernel)⟩
theorem lw_p73 : lw_okq (⟨"LoosePlugModel", "body", "(I)V"⟩, 54) := ⟨⟨by decide +kernel, by decide +kernel⟩, List.mem_of_getElem? (i := 1018) (by decide +kernel), List.mem_of_getElem? (i := 1615) (by decide +kernel), List.mem_of_getElem? (i := 1616) (by decide +kernel)⟩
theorem lw_p74 : lw_okq (⟨"LoosePlugModel", "sharesIt", "(I)I"⟩, 54) := ⟨⟨by decide +kernel, by decide +kernel⟩, List.mem_of_getElem? (i := 1018) (by decide +kernel), List.mem_of_getElem? (i := 1619) (by decide +kernel), List.mem_of_getElem? (i := 1620) (by decide +kernel)⟩
theorem lw_p75 : lw_okq (⟨"LoosePlugModel", "plainShares", "(I)I"⟩, 54) := ⟨⟨by decide +kernel, by decide +kernel⟩, List.mem_of_getElem? (i := 1018) (by decide +kernel), List.mem_of_getElem? (i := 1623) (by decide +kernel), List.mem_of_getElem? (i := 1624) (by decide +kernel)⟩
theorem lw_p76 : lw_okq (⟨"LoosePlugModel", "boundsIt", "(I)I"⟩, 54) := ⟨⟨by decide +kernel, by decide +kernel⟩, List.mem_of_getElem? (i := 1018) (by decide +kernel), List.mem_of_getElem? (i := 1627) (by decide +kernel), List.mem_of_getElem? (i := 1628) (by decide +kernel)⟩
theorem lw_p77 : lw_okq (⟨"LoosePlugModel", "plainBounds", "(I)I"⟩, 54) := ⟨⟨by decide +kernel, by decide +kernel⟩, List.mem_of_getElem? (i := 1018) (by decide +kernel), List.mem_of_getElem? (i := 1631) (by decide +kernel), List.mem_of_getElem? (i := 1632) (by decide +kernel)⟩
theorem lw_p78 : lw_okq (⟨"LoosePlugModel", "tellsIt", "(I)I"⟩, 54) := ⟨⟨by decide +kernel, by decide +kernel⟩, List.mem_of_getElem? (i := 1018) (by decide +kernel), List.mem_of_getElem? (i := 1635) (by decide +kernel), List.mem_of_getElem? (i := 1636) (by decide +kernel)⟩
theorem lw_p79 : lw_okq (⟨"LoosePlugModel", "plainTells", "(I)I"⟩, 54) := ⟨⟨by decide +kernel, by decide +kernel⟩, List.mem_of_getElem? (i := 1018) (by decide +kernel), List.mem_of_getElem? (i := 1639) (by decide +kernel), List.mem_of_getElem? (i := 1640) (by decide +kernel)⟩
def lw_privs_5 : List (MethodName × Nat) := [(⟨"LoosePlugModel", "goOnAt", "()V"⟩, 54), (⟨"LoosePlugModel", "factOf", "(I)I"⟩, 54), (⟨"LoosePlugModel", "findFacts", "()V"⟩, 54), (⟨"LoosePlugModel", "isSo", "(II)Z"⟩, 54), (⟨"LoosePlugModel", "isRow", "(II)Z"⟩, 54), (⟨"LoosePlugModel", "lacksSort", "(II)I"⟩, 54), (⟨"LoosePlugModel", "isHeld", "(II)Z"⟩, 54), (⟨"LoosePlugModel", "kindOn", "(I)I"⟩, 54), (⟨"LoosePlugModel", "takesIt", "(I)I"⟩, 54), (⟨"LoosePlugModel", "body", "(I)V"⟩, 54), (⟨"LoosePlugModel", "sharesIt", "(I)I"⟩, 54), (⟨"LoosePlugModel", "plainShares", "(I)I"⟩, 54), (⟨"LoosePlugModel", "boundsIt", "(I)I"⟩, 54), (⟨"LoosePlugModel", "plainBounds", "(I)I"⟩, 54), (⟨"LoosePlugModel", "tellsIt", "(I)I"⟩, 54), (⟨"LoosePlugModel", "plainTells", "(I)I"⟩, 54)]
theorem lw_r5 : ∀ q ∈ lw_privs_5, lw_okq q := List.forall_mem_cons.mpr ⟨lw_p64, List.forall_mem_cons.mpr ⟨lw_p65, List.forall_mem_cons.mpr ⟨lw_p66, List.forall_mem_cons.mpr ⟨lw_p67, List.forall_mem_cons.mpr ⟨lw_p68, List.forall_mem_cons.mpr ⟨lw_p69, List.forall_mem_cons.mpr ⟨lw_p70, List.forall_mem_cons.mpr ⟨lw_p71, List.forall_mem_cons.mpr ⟨lw_p72, List.forall_mem_cons.mpr ⟨lw_p73, List.forall_mem_cons.mpr ⟨lw_p74, List.forall_mem_cons.mpr ⟨lw_p75, List.forall_mem_cons.mpr ⟨lw_p76, List.forall_mem_cons.mpr ⟨lw_p77, List.forall_mem_cons.mpr ⟨lw_p78, List.forall_mem_cons.mpr ⟨lw_p79, fun _ h => absurd h List.not_mem_nil⟩⟩⟩⟩⟩⟩⟩⟩⟩⟩⟩⟩⟩⟩⟩⟩
theorem lw_p80 : lw_okq (⟨"LoosePlugModel", "moveAll", "(Z)V"⟩, 54) := ⟨⟨by decide +kernel, by decide +kernel⟩, List.mem_of_getElem? (i := 1018) (by decide +kernel), List.mem_of_getElem? (i := 1655) (by decide +kernel), List.mem_of_getElem? (i := 1656) (by decide +kernel)⟩
theorem lw_p81 : lw_okq (⟨"LoosePlugModel", "move", "([IIZ)V"⟩, 54) := ⟨⟨by decide +kernel, by decide +kernel⟩, List.mem_of_getElem? (i := 1018) (by decide +kernel), List.mem_of_getElem? (i := 1659) (by decide +kernel), List.mem_of_getElem? (i := 1660) (by decide +kernel)⟩
def lw_privs_6 : List (MethodName × Nat) := [(⟨"LoosePlugModel", "moveAll", "(Z)V"⟩, 54), (⟨"LoosePlugModel", "move", "([IIZ)V"⟩, 54)]
theorem lw_r6 : ∀ q ∈ lw_privs_6, lw_okq q := List.forall_mem_cons.mpr ⟨lw_p80, List.forall_mem_cons.mpr ⟨lw_p81, fun _ h => absurd h List.not_mem_nil⟩⟩
def lw_privs : List (MethodName × Nat) := lw_privs_1 ++ (lw_privs_2 ++ (lw_privs_3 ++ (lw_privs_4 ++ (lw_privs_5 ++ (lw_privs_6)))))
def lw_tbl : List Cond := k2_sels lw_privs ++ tables_1
theorem lw_privs_ok : ∀ q ∈ lw_privs, lw_okq q := by
  show ∀ q ∈ lw_privs_1 ++ (lw_privs_2 ++ (lw_privs_3 ++ (lw_privs_4 ++ (lw_privs_5 ++ (lw_privs_6))))), lw_okq q
  exact List.forall_mem_append.mpr ⟨lw_r1, List.forall_mem_append.mpr ⟨lw_r2, List.forall_mem_append.mpr ⟨lw_r3, List.forall_mem_append.mpr ⟨lw_r4, List.forall_mem_append.mpr ⟨lw_r5, lw_r6⟩⟩⟩⟩⟩
def RX0 : String := "LoosePlug$Actor"
def TX0 : u_T := fun k => match k with
  | 0 => ("LoosePlug$Actor", "trace", "[I", true)
  | 1 => ("LoosePlug$Actor", "traceCount", "I", false)
  | 2 => ("LoosePlug$Actor", "partedByZero", "Z", false)
  | 3 => ("LoosePlug$Actor", "number", "I", false)
  | 4 => ("LoosePlug$Actor", "kind", "I", false)
  | _ => ("LoosePlug$Actor", "span", "I", false)
def tyX0 : Nat → FieldType := fun k => match k with
  | 0 => .array .int
  | 1 => .int
  | 2 => .boolean
  | 3 => .int
  | 4 => .int
  | _ => .int
abbrev wsX00 : List Cond := u_ws RX0 TX0 6
theorem nmX0 : ∀ a, a < 6 → ∀ b, b < 6 → a ≠ b → (TX0 a).2.1 ≠ (TX0 b).2.1 := by decide +kernel
theorem tyX0_ok : ∀ k, k < 6 → parseFieldDescriptor (TX0 k).2.2.1 = some (tyX0 k) := by decide +kernel
abbrev cX0_init : ByteArray := prog_2_method_1_code
def yX0_init : MethodName := ⟨RX0, "<init>", "()V"⟩
abbrev cX0_forget : ByteArray := prog_2_method_2_code
def yX0_forget : MethodName := ⟨RX0, "forget", "()V"⟩
abbrev cX0_play : ByteArray := prog_2_method_3_code
def yX0_play : MethodName := ⟨RX0, "play", "(III)V"⟩
abbrev cX0_takes : ByteArray := prog_2_method_4_code
def yX0_takes : MethodName := ⟨RX0, "takes", "(I)I"⟩
abbrev cX0_shares : ByteArray := prog_2_method_5_code
def yX0_shares : MethodName := ⟨RX0, "shares", "(I)I"⟩
abbrev cX0_bounds : ByteArray := prog_2_method_6_code
def yX0_bounds : MethodName := ⟨RX0, "bounds", "(I)I"⟩
abbrev cX0_tells : ByteArray := prog_2_method_7_code
def yX0_tells : MethodName := ⟨RX0, "tells", "(I)I"⟩
abbrev cX0_takesOfPart : ByteArray := prog_2_method_8_code
def yX0_takesOfPart : MethodName := ⟨RX0, "takesOfPart", "(I)I"⟩
abbrev cX0_sharesOfPart : ByteArray := prog_2_method_9_code
def yX0_sharesOfPart : MethodName := ⟨RX0, "sharesOfPart", "(I)I"⟩
abbrev cX0_boundsOfPart : ByteArray := prog_2_method_10_code
def yX0_boundsOfPart : MethodName := ⟨RX0, "boundsOfPart", "(I)I"⟩
abbrev cX0_boundsOfLoose : ByteArray := prog_2_method_11_code
def yX0_boundsOfLoose : MethodName := ⟨RX0, "boundsOfLoose", "(I)I"⟩
abbrev cX0_tellsOfPart : ByteArray := prog_2_method_12_code
def yX0_tellsOfPart : MethodName := ⟨RX0, "tellsOfPart", "(I)I"⟩
abbrev cX0_began : ByteArray := prog_2_method_13_code
def yX0_began : MethodName := ⟨RX0, "began", "(I)V"⟩
def RX1 : String := "LoosePlug$Part"
def TX1 : u_T := fun k => match k with
  | 0 => ("LoosePlug$Part", "kind", "I", false)
  | 1 => ("LoosePlug$Part", "ways", "I", false)
  | 2 => ("LoosePlug$Part", "paper", "I", false)
  | 3 => ("LoosePlug$Part", "span", "I", false)
  | 4 => ("LoosePlug$Part", "hours", "I", false)
  | 5 => ("LoosePlug$Part", "believed", "I", false)
  | 6 => ("LoosePlug$Part", "tried", "Z", false)
  | 7 => ("LoosePlug$Part", "off", "I", false)
  | _ => ("LoosePlug$Part", "since", "I", false)
def tyX1 : Nat → FieldType := fun k => match k with
  | 0 => .int
  | 1 => .int
  | 2 => .int
  | 3 => .int
  | 4 => .int
  | 5 => .int
  | 6 => .boolean
  | 7 => .int
  | _ => .int
abbrev wsX10 : List Cond := u_ws RX1 TX1 9
theorem nmX1 : ∀ a, a < 9 → ∀ b, b < 9 → a ≠ b → (TX1 a).2.1 ≠ (TX1 b).2.1 := by decide +kernel
theorem tyX1_ok : ∀ k, k < 9 → parseFieldDescriptor (TX1 k).2.2.1 = some (tyX1 k) := by decide +kernel
abbrev cX1_init : ByteArray := prog_3_method_1_code
def yX1_init : MethodName := ⟨RX1, "<init>", "()V"⟩
abbrev cX1_begin : ByteArray := prog_3_method_2_code
def yX1_begin : MethodName := ⟨RX1, "begin", "(IIIII)V"⟩
abbrev cX1_become : ByteArray := prog_3_method_3_code
def yX1_become : MethodName := ⟨RX1, "become", "(LLoosePlug$Part;)V"⟩
abbrev cX1_isIn : ByteArray := prog_3_method_4_code
def yX1_isIn : MethodName := ⟨RX1, "isIn", "(I)Z"⟩
abbrev cX1_takesOn : ByteArray := prog_3_method_5_code
def yX1_takesOn : MethodName := ⟨RX1, "takesOn", "(I)I"⟩
abbrev cX1_lateOn : ByteArray := prog_3_method_6_code
def yX1_lateOn : MethodName := ⟨RX1, "lateOn", "(I)I"⟩
def RX2 : String := "LoosePlug$Rule"
def TX2 : u_T := fun k => match k with
  | _ => ("LoosePlug$Rule", "code", "[I", true)
def tyX2 : Nat → FieldType := fun k => match k with
  | _ => .array .int
abbrev wsX20 : List Cond := u_ws RX2 TX2 1
theorem nmX2 : ∀ a, a < 1 → ∀ b, b < 1 → a ≠ b → (TX2 a).2.1 ≠ (TX2 b).2.1 := by decide +kernel
theorem tyX2_ok : ∀ k, k < 1 → parseFieldDescriptor (TX2 k).2.2.1 = some (tyX2 k) := by decide +kernel
abbrev cX2_init : ByteArray := prog_4_method_1_code
def yX2_init : MethodName := ⟨RX2, "<init>", "([I)V"⟩
abbrev cX2_isMet : ByteArray := prog_4_method_2_code
def yX2_isMet : MethodName := ⟨RX2, "isMet", "([I[I)Z"⟩
abbrev cX2_valueOf : ByteArray := prog_4_method_3_code
def yX2_valueOf : MethodName := ⟨RX2, "valueOf", "(I[I)I"⟩
abbrev cX2_joined : ByteArray := prog_4_method_4_code
def yX2_joined : MethodName := ⟨RX2, "joined", "(III)I"⟩
def RX3 : String := "LoosePlug$RuleText"
def TX3 : u_T := fun k => match k with
  | 0 => ("LoosePlug$RuleText", "tokens", "LLoosePlug$Tokens;", true)
  | 1 => ("LoosePlug$RuleText", "code", "[I", true)
  | _ => ("LoosePlug$RuleText", "size", "I", false)
def tyX3 : Nat → FieldType := fun k => match k with
  | 0 => .object "LoosePlug$Tokens"
  | 1 => .array .int
  | _ => .int
abbrev wsX30 : List Cond := u_ws RX3 TX3 3
theorem nmX3 : ∀ a, a < 3 → ∀ b, b < 3 → a ≠ b → (TX3 a).2.1 ≠ (TX3 b).2.1 := by decide +kernel
theorem tyX3_ok : ∀ k, k < 3 → parseFieldDescriptor (TX3 k).2.2.1 = some (tyX3 k) := by decide +kernel
abbrev cX3_init : ByteArray := prog_5_method_1_code
def yX3_init : MethodName := ⟨RX3, "<init>", "(LLoosePlug$Tokens;)V"⟩
abbrev cX3_begin : ByteArray := prog_5_method_2_code
def yX3_begin : MethodName := ⟨RX3, "begin", "()V"⟩
abbrev cX3_told : ByteArray := prog_5_method_3_code
def yX3_told : MethodName := ⟨RX3, "told", "()LLoosePlug$Rule;"⟩
abbrev cX3_either : ByteArray := prog_5_method_4_code
def yX3_either : MethodName := ⟨RX3, "either", "(I)Z"⟩
abbrev cX3_both : ByteArray := prog_5_method_5_code
def yX3_both : MethodName := ⟨RX3, "both", "(I)Z"⟩
abbrev cX3_one : ByteArray := prog_5_method_6_code
def yX3_one : MethodName := ⟨RX3, "one", "(I)Z"⟩
abbrev cX3_sum : ByteArray := prog_5_method_7_code
def yX3_sum : MethodName := ⟨RX3, "sum", "(I)Z"⟩
abbrev cX3_term : ByteArray := prog_5_method_8_code
def yX3_term : MethodName := ⟨RX3, "term", "(I)Z"⟩
abbrev cX3_at : ByteArray := prog_5_method_9_code
def yX3_at : MethodName := ⟨RX3, "at", "(I)Z"⟩
abbrev cX3_emit : ByteArray := prog_5_method_10_code
def yX3_emit : MethodName := ⟨RX3, "emit", "(I)V"⟩
def RX4 : String := "LoosePlug$Sheet"
def TX4 : u_T := fun k => match k with
  | 0 => ("LoosePlug$Sheet", "sort", "I", false)
  | 1 => ("LoosePlug$Sheet", "size", "I", false)
  | _ => ("LoosePlug$Sheet", "items", "[I", true)
def tyX4 : Nat → FieldType := fun k => match k with
  | 0 => .int
  | 1 => .int
  | _ => .array .int
abbrev wsX40 : List Cond := u_ws RX4 TX4 3
theorem nmX4 : ∀ a, a < 3 → ∀ b, b < 3 → a ≠ b → (TX4 a).2.1 ≠ (TX4 b).2.1 := by decide +kernel
theorem tyX4_ok : ∀ k, k < 3 → parseFieldDescriptor (TX4 k).2.2.1 = some (tyX4 k) := by decide +kernel
abbrev cX4_init : ByteArray := prog_6_method_1_code
def yX4_init : MethodName := ⟨RX4, "<init>", "()V"⟩
abbrev cX4_begin : ByteArray := prog_6_method_2_code
def yX4_begin : MethodName := ⟨RX4, "begin", "(II)V"⟩
abbrev cX4_hasItem : ByteArray := prog_6_method_3_code
def yX4_hasItem : MethodName := ⟨RX4, "hasItem", "(I)Z"⟩
abbrev cX4_write : ByteArray := prog_6_method_4_code
def yX4_write : MethodName := ⟨RX4, "write", "(II)V"⟩
def RX5 : String := "LoosePlug$Shelf"
def TX5 : u_T := fun k => match k with
  | 0 => ("LoosePlug$Shelf", "holds", "I", false)
  | 1 => ("LoosePlug$Shelf", "number", "I", false)
  | 2 => ("LoosePlug$Shelf", "sort", "I", false)
  | _ => ("LoosePlug$Shelf", "size", "I", false)
def tyX5 : Nat → FieldType := fun k => match k with
  | 0 => .int
  | 1 => .int
  | 2 => .int
  | _ => .int
abbrev wsX50 : List Cond := u_ws RX5 TX5 4
theorem nmX5 : ∀ a, a < 4 → ∀ b, b < 4 → a ≠ b → (TX5 a).2.1 ≠ (TX5 b).2.1 := by decide +kernel
theorem tyX5_ok : ∀ k, k < 4 → parseFieldDescriptor (TX5 k).2.2.1 = some (tyX5 k) := by decide +kernel
abbrev cX5_init : ByteArray := prog_7_method_1_code
def yX5_init : MethodName := ⟨RX5, "<init>", "()V"⟩
abbrev cX5_holdPart : ByteArray := prog_7_method_2_code
def yX5_holdPart : MethodName := ⟨RX5, "holdPart", "(I)V"⟩
abbrev cX5_holdRow : ByteArray := prog_7_method_3_code
def yX5_holdRow : MethodName := ⟨RX5, "holdRow", "(II)V"⟩
abbrev cX5_holdNothing : ByteArray := prog_7_method_4_code
def yX5_holdNothing : MethodName := ⟨RX5, "holdNothing", "()V"⟩
def RX6 : String := "LoosePlug$Story"
def TX6 : u_T := fun k => match k with
  | 0 => ("LoosePlug$Story", "weight", "I", true)
  | 1 => ("LoosePlug$Story", "sort", "I", true)
  | 2 => ("LoosePlug$Story", "light", "I", true)
  | _ => ("LoosePlug$Story", "clauses", "[I", true)
def tyX6 : Nat → FieldType := fun k => match k with
  | 0 => .int
  | 1 => .int
  | 2 => .int
  | _ => .array .int
abbrev wsX60 : List Cond := u_ws RX6 TX6 4
theorem nmX6 : ∀ a, a < 4 → ∀ b, b < 4 → a ≠ b → (TX6 a).2.1 ≠ (TX6 b).2.1 := by decide +kernel
theorem tyX6_ok : ∀ k, k < 4 → parseFieldDescriptor (TX6 k).2.2.1 = some (tyX6 k) := by decide +kernel
abbrev cX6_init : ByteArray := prog_8_method_1_code
def yX6_init : MethodName := ⟨RX6, "<init>", "(III[I)V"⟩
abbrev cX6_clauseCount : ByteArray := prog_8_method_2_code
def yX6_clauseCount : MethodName := ⟨RX6, "clauseCount", "()I"⟩
abbrev cX6_partOf : ByteArray := prog_8_method_3_code
def yX6_partOf : MethodName := ⟨RX6, "partOf", "(I)I"⟩
abbrev cX6_amountOn : ByteArray := prog_8_method_4_code
def yX6_amountOn : MethodName := ⟨RX6, "amountOn", "(II)I"⟩
abbrev cX6_foundAt : ByteArray := prog_8_method_5_code
def yX6_foundAt : MethodName := ⟨RX6, "foundAt", "(II)I"⟩
def RX7 : String := "LoosePlug$StoryText"
def TX7 : u_T := fun k => match k with
  | 0 => ("LoosePlug$StoryText", "tokens", "LLoosePlug$Tokens;", true)
  | 1 => ("LoosePlug$StoryText", "clauses", "[I", true)
  | 2 => ("LoosePlug$StoryText", "sort", "I", false)
  | 3 => ("LoosePlug$StoryText", "count", "I", false)
  | _ => ("LoosePlug$StoryText", "amount", "I", false)
def tyX7 : Nat → FieldType := fun k => match k with
  | 0 => .object "LoosePlug$Tokens"
  | 1 => .array .int
  | 2 => .int
  | 3 => .int
  | _ => .int
abbrev wsX70 : List Cond := u_ws RX7 TX7 5
theorem nmX7 : ∀ a, a < 5 → ∀ b, b < 5 → a ≠ b → (TX7 a).2.1 ≠ (TX7 b).2.1 := by decide +kernel
theorem tyX7_ok : ∀ k, k < 5 → parseFieldDescriptor (TX7 k).2.2.1 = some (tyX7 k) := by decide +kernel
abbrev cX7_init : ByteArray := prog_9_method_1_code
def yX7_init : MethodName := ⟨RX7, "<init>", "(LLoosePlug$Tokens;)V"⟩
abbrev cX7_readWhole : ByteArray := prog_9_method_2_code
def yX7_readWhole : MethodName := ⟨RX7, "readWhole", "()Z"⟩
abbrev cX7_told : ByteArray := prog_9_method_3_code
def yX7_told : MethodName := ⟨RX7, "told", "(I)LLoosePlug$Story;"⟩
abbrev cX7_readClauses : ByteArray := prog_9_method_4_code
def yX7_readClauses : MethodName := ⟨RX7, "readClauses", "()Z"⟩
abbrev cX7_readClause : ByteArray := prog_9_method_5_code
def yX7_readClause : MethodName := ⟨RX7, "readClause", "(I)Z"⟩
abbrev cX7_readBy : ByteArray := prog_9_method_6_code
def yX7_readBy : MethodName := ⟨RX7, "readBy", "()Z"⟩
def RX8 : String := "LoosePlug$Tokens"
def TX8 : u_T := fun k => match k with
  | 0 => ("LoosePlug$Tokens", "codes", "[I", true)
  | 1 => ("LoosePlug$Tokens", "values", "[I", true)
  | 2 => ("LoosePlug$Tokens", "places", "[I", true)
  | 3 => ("LoosePlug$Tokens", "count", "I", false)
  | _ => ("LoosePlug$Tokens", "at", "I", false)
def tyX8 : Nat → FieldType := fun k => match k with
  | 0 => .array .int
  | 1 => .array .int
  | 2 => .array .int
  | 3 => .int
  | _ => .int
abbrev wsX80 : List Cond := u_ws RX8 TX8 5
theorem nmX8 : ∀ a, a < 5 → ∀ b, b < 5 → a ≠ b → (TX8 a).2.1 ≠ (TX8 b).2.1 := by decide +kernel
theorem tyX8_ok : ∀ k, k < 5 → parseFieldDescriptor (TX8 k).2.2.1 = some (tyX8 k) := by decide +kernel
abbrev cX8_init : ByteArray := prog_10_method_1_code
def yX8_init : MethodName := ⟨RX8, "<init>", "()V"⟩
abbrev cX8_readAll : ByteArray := prog_10_method_2_code
def yX8_readAll : MethodName := ⟨RX8, "readAll", "([CI)V"⟩
abbrev cX8_isNow : ByteArray := prog_10_method_3_code
def yX8_isNow : MethodName := ⟨RX8, "isNow", "(I)Z"⟩
abbrev cX8_take : ByteArray := prog_10_method_4_code
def yX8_take : MethodName := ⟨RX8, "take", "(I)Z"⟩
abbrev cX8_code : ByteArray := prog_10_method_5_code
def yX8_code : MethodName := ⟨RX8, "code", "()I"⟩
abbrev cX8_value : ByteArray := prog_10_method_6_code
def yX8_value : MethodName := ⟨RX8, "value", "()I"⟩
abbrev cX8_place : ByteArray := prog_10_method_7_code
def yX8_place : MethodName := ⟨RX8, "place", "()I"⟩
abbrev cX8_add : ByteArray := prog_10_method_8_code
def yX8_add : MethodName := ⟨RX8, "add", "(III)V"⟩
abbrev cX8_isLetter : ByteArray := prog_10_method_9_code
def yX8_isLetter : MethodName := ⟨RX8, "isLetter", "(C)Z"⟩
abbrev cX8_isDigit : ByteArray := prog_10_method_10_code
def yX8_isDigit : MethodName := ⟨RX8, "isDigit", "(C)Z"⟩
abbrev cX8_endOfRun : ByteArray := prog_10_method_11_code
def yX8_endOfRun : MethodName := ⟨RX8, "endOfRun", "([CIICC)I"⟩
abbrev cX8_number : ByteArray := prog_10_method_12_code
def yX8_number : MethodName := ⟨RX8, "number", "([CII)I"⟩
abbrev cX8_wordCode : ByteArray := prog_10_method_13_code
def yX8_wordCode : MethodName := ⟨RX8, "wordCode", "([CII)I"⟩
abbrev cX8_isSpelled : ByteArray := prog_10_method_14_code
def yX8_isSpelled : MethodName := ⟨RX8, "isSpelled", "(Ljava/lang/String;[CII)Z"⟩
abbrev cX8_spelling : ByteArray := prog_10_method_15_code
def yX8_spelling : MethodName := ⟨RX8, "spelling", "(I)Ljava/lang/String;"⟩
def RX9 : String := "LoosePlug$World"
def TX9 : u_T := fun k => match k with
  | 0 => ("LoosePlug$World", "day", "I", false)
  | 1 => ("LoosePlug$World", "noise", "I", false)
  | 2 => ("LoosePlug$World", "lot", "I", false)
  | 3 => ("LoosePlug$World", "spent", "I", false)
  | 4 => ("LoosePlug$World", "partCount", "I", false)
  | 5 => ("LoosePlug$World", "runCount", "I", false)
  | 6 => ("LoosePlug$World", "storyCount", "I", false)
  | 7 => ("LoosePlug$World", "houseCount", "I", false)
  | 8 => ("LoosePlug$World", "parts", "[LLoosePlug$Part;", true)
  | 9 => ("LoosePlug$World", "runDay", "[I", true)
  | 10 => ("LoosePlug$World", "runWay", "[I", true)
  | 11 => ("LoosePlug$World", "runSoon", "[I", true)
  | 12 => ("LoosePlug$World", "stories", "[LLoosePlug$Story;", true)
  | _ => ("LoosePlug$World", "rules", "[LLoosePlug$Rule;", true)
def tyX9 : Nat → FieldType := fun k => match k with
  | 0 => .int
  | 1 => .int
  | 2 => .int
  | 3 => .int
  | 4 => .int
  | 5 => .int
  | 6 => .int
  | 7 => .int
  | 8 => .array (.object "LoosePlug$Part")
  | 9 => .array .int
  | 10 => .array .int
  | 11 => .array .int
  | 12 => .array (.object "LoosePlug$Story")
  | _ => .array (.object "LoosePlug$Rule")
abbrev wsX90 : List Cond := u_ws RX9 TX9 14
theorem nmX9 : ∀ a, a < 14 → ∀ b, b < 14 → a ≠ b → (TX9 a).2.1 ≠ (TX9 b).2.1 := by decide +kernel
theorem tyX9_ok : ∀ k, k < 14 → parseFieldDescriptor (TX9 k).2.2.1 = some (tyX9 k) := by decide +kernel
abbrev cX9_init : ByteArray := prog_11_method_1_code
def yX9_init : MethodName := ⟨RX9, "<init>", "()V"⟩
abbrev cX9_become : ByteArray := prog_11_method_2_code
def yX9_become : MethodName := ⟨RX9, "become", "(LLoosePlug$World;)V"⟩
abbrev cX9_hasPart : ByteArray := prog_11_method_3_code
def yX9_hasPart : MethodName := ⟨RX9, "hasPart", "(I)Z"⟩
abbrev cX9_hasStory : ByteArray := prog_11_method_4_code
def yX9_hasStory : MethodName := ⟨RX9, "hasStory", "(I)Z"⟩
abbrev cX9_areStories : ByteArray := prog_11_method_5_code
def yX9_areStories : MethodName := ⟨RX9, "areStories", "(I)Z"⟩
abbrev cX9_draw : ByteArray := prog_11_method_6_code
def yX9_draw : MethodName := ⟨RX9, "draw", "()I"⟩
abbrev cX9_addRun : ByteArray := prog_11_method_7_code
def yX9_addRun : MethodName := ⟨RX9, "addRun", "(III)I"⟩
abbrev cX9_given : ByteArray := prog_11_method_8_code
def yX9_given : MethodName := ⟨RX9, "given", "(III)I"⟩
abbrev cX9_farFrom : ByteArray := prog_11_method_9_code
def yX9_farFrom : MethodName := ⟨RX9, "farFrom", "(II)I"⟩
abbrev cX9_missed : ByteArray := prog_11_method_10_code
def yX9_missed : MethodName := ⟨RX9, "missed", "(I)I"⟩
abbrev cX9_leastMissed : ByteArray := prog_11_method_11_code
def yX9_leastMissed : MethodName := ⟨RX9, "leastMissed", "()I"⟩
abbrev cX9_weighed : ByteArray := prog_11_method_12_code
def yX9_weighed : MethodName := ⟨RX9, "weighed", "(I)J"⟩
abbrev cX9_partsBetween : ByteArray := prog_11_method_13_code
def yX9_partsBetween : MethodName := ⟨RX9, "partsBetween", "(II)I"⟩
abbrev cX9_hoursOf : ByteArray := prog_11_method_14_code
def yX9_hoursOf : MethodName := ⟨RX9, "hoursOf", "(I)I"⟩
abbrev cX9_spanSum : ByteArray := prog_11_method_15_code
def yX9_spanSum : MethodName := ⟨RX9, "spanSum", "(I)I"⟩
abbrev cX9_spanRoot : ByteArray := prog_11_method_16_code
def yX9_spanRoot : MethodName := ⟨RX9, "spanRoot", "(I)I"⟩
abbrev cX9_isRun : ByteArray := prog_11_method_17_code
def yX9_isRun : MethodName := ⟨RX9, "isRun", "(IIII)Z"⟩
abbrev cX9_countRuns : ByteArray := prog_11_method_18_code
def yX9_countRuns : MethodName := ⟨RX9, "countRuns", "(III)I"⟩
abbrev cX9_sumRuns : ByteArray := prog_11_method_19_code
def yX9_sumRuns : MethodName := ⟨RX9, "sumRuns", "(III)I"⟩
abbrev cX9_orderRuns : ByteArray := prog_11_method_20_code
def yX9_orderRuns : MethodName := ⟨RX9, "orderRuns", "(I[I)I"⟩
abbrev cX9_tellFacts : ByteArray := prog_11_method_21_code
def yX9_tellFacts : MethodName := ⟨RX9, "tellFacts", "([I)V"⟩
def RX10 : String := "LoosePlug"
def TX10 : u_T := fun k => match k with
  | 0 => ("LoosePlug", "now", "LLoosePlug$World;", true)
  | 1 => ("LoosePlug", "kept", "LLoosePlug$World;", true)
  | 2 => ("LoosePlug", "anyKept", "Z", false)
  | 3 => ("LoosePlug", "tape", "[C", true)
  | 4 => ("LoosePlug", "tapeSize", "I", false)
  | 5 => ("LoosePlug", "tokens", "LLoosePlug$Tokens;", true)
  | 6 => ("LoosePlug", "storyText", "LLoosePlug$StoryText;", true)
  | 7 => ("LoosePlug", "ruleText", "LLoosePlug$RuleText;", true)
  | 8 => ("LoosePlug", "facts", "[I", true)
  | 9 => ("LoosePlug", "stack", "[I", true)
  | 10 => ("LoosePlug", "twos", "[I", true)
  | 11 => ("LoosePlug", "order", "[I", true)
  | 12 => ("LoosePlug", "rows", "[I", true)
  | 13 => ("LoosePlug", "rowCount", "I", false)
  | 14 => ("LoosePlug", "sheets", "[LLoosePlug$Sheet;", true)
  | 15 => ("LoosePlug", "shelves", "[LLoosePlug$Shelf;", true)
  | _ => ("LoosePlug", "actor", "LLoosePlug$Actor;", true)
def tyX10 : Nat → FieldType := fun k => match k with
  | 0 => .object "LoosePlug$World"
  | 1 => .object "LoosePlug$World"
  | 2 => .boolean
  | 3 => .array .char
  | 4 => .int
  | 5 => .object "LoosePlug$Tokens"
  | 6 => .object "LoosePlug$StoryText"
  | 7 => .object "LoosePlug$RuleText"
  | 8 => .array .int
  | 9 => .array .int
  | 10 => .array .int
  | 11 => .array .int
  | 12 => .array .int
  | 13 => .int
  | 14 => .array (.object "LoosePlug$Sheet")
  | 15 => .array (.object "LoosePlug$Shelf")
  | _ => .object "LoosePlug$Actor"
abbrev wsX100 : List Cond := u_ws RX10 TX10 17
theorem nmX10 : ∀ a, a < 17 → ∀ b, b < 17 → a ≠ b → (TX10 a).2.1 ≠ (TX10 b).2.1 := by decide +kernel
theorem tyX10_ok : ∀ k, k < 17 → parseFieldDescriptor (TX10 k).2.2.1 = some (tyX10 k) := by decide +kernel
abbrev cX10_init : ByteArray := prog_1_method_1_code
def yX10_init : MethodName := ⟨RX10, "<init>", "()V"⟩
abbrev cX10_part : ByteArray := prog_1_method_2_code
def yX10_part : MethodName := ⟨RX10, "part", "(IIIII)I"⟩
abbrev cX10_of : ByteArray := prog_1_method_3_code
def yX10_of : MethodName := ⟨RX10, "of", "(II)I"⟩
abbrev cX10_fail : ByteArray := prog_1_method_4_code
def yX10_fail : MethodName := ⟨RX10, "fail", "(III)I"⟩
abbrev cX10_later : ByteArray := prog_1_method_5_code
def yX10_later : MethodName := ⟨RX10, "later", "(I)I"⟩
abbrev cX10_noise : ByteArray := prog_1_method_6_code
def yX10_noise : MethodName := ⟨RX10, "noise", "(I)I"⟩
abbrev cX10_lots : ByteArray := prog_1_method_7_code
def yX10_lots : MethodName := ⟨RX10, "lots", "(I)I"⟩
abbrev cX10_run : ByteArray := prog_1_method_8_code
def yX10_run : MethodName := ⟨RX10, "run", "(I)I"⟩
abbrev cX10_older : ByteArray := prog_1_method_9_code
def yX10_older : MethodName := ⟨RX10, "older", "(III)I"⟩
abbrev cX10_ran : ByteArray := prog_1_method_10_code
def yX10_ran : MethodName := ⟨RX10, "ran", "(II)I"⟩
abbrev cX10_tryout : ByteArray := prog_1_method_11_code
def yX10_tryout : MethodName := ⟨RX10, "tryout", "(IZ)I"⟩
abbrev cX10_feed : ByteArray := prog_1_method_12_code
def yX10_feed : MethodName := ⟨RX10, "feed", "(JI)I"⟩
abbrev cX10_story : ByteArray := prog_1_method_13_code
def yX10_story : MethodName := ⟨RX10, "story", "(I)I"⟩
abbrev cX10_gives : ByteArray := prog_1_method_14_code
def yX10_gives : MethodName := ⟨RX10, "gives", "(III)I"⟩
abbrev cX10_finds : ByteArray := prog_1_method_15_code
def yX10_finds : MethodName := ⟨RX10, "finds", "(II)I"⟩
abbrev cX10_miss : ByteArray := prog_1_method_16_code
def yX10_miss : MethodName := ⟨RX10, "miss", "(I)I"⟩
abbrev cX10_likely : ByteArray := prog_1_method_17_code
def yX10_likely : MethodName := ⟨RX10, "likely", "()I"⟩
abbrev cX10_odds : ByteArray := prog_1_method_18_code
def yX10_odds : MethodName := ⟨RX10, "odds", "(II)J"⟩
abbrev cX10_same : ByteArray := prog_1_method_19_code
def yX10_same : MethodName := ⟨RX10, "same", "(III)I"⟩
abbrev cX10_next : ByteArray := prog_1_method_20_code
def yX10_next : MethodName := ⟨RX10, "next", "(II)I"⟩
abbrev cX10_least : ByteArray := prog_1_method_21_code
def yX10_least : MethodName := ⟨RX10, "least", "(II)I"⟩
abbrev cX10_span : ByteArray := prog_1_method_22_code
def yX10_span : MethodName := ⟨RX10, "span", "(II)I"⟩
abbrev cX10_sure : ByteArray := prog_1_method_23_code
def yX10_sure : MethodName := ⟨RX10, "sure", "(I)I"⟩
abbrev cX10_could : ByteArray := prog_1_method_24_code
def yX10_could : MethodName := ⟨RX10, "could", "(II)I"⟩
abbrev cX10_fits : ByteArray := prog_1_method_25_code
def yX10_fits : MethodName := ⟨RX10, "fits", "(II)I"⟩
abbrev cX10_jump : ByteArray := prog_1_method_26_code
def yX10_jump : MethodName := ⟨RX10, "jump", "(II)J"⟩
abbrev cX10_month : ByteArray := prog_1_method_27_code
def yX10_month : MethodName := ⟨RX10, "month", "(III)J"⟩
abbrev cX10_house : ByteArray := prog_1_method_28_code
def yX10_house : MethodName := ⟨RX10, "house", "()I"⟩
abbrev cX10_fact : ByteArray := prog_1_method_29_code
def yX10_fact : MethodName := ⟨RX10, "fact", "(I)I"⟩
abbrev cX10_holds : ByteArray := prog_1_method_30_code
def yX10_holds : MethodName := ⟨RX10, "holds", "(II)I"⟩
abbrev cX10_sign : ByteArray := prog_1_method_31_code
def yX10_sign : MethodName := ⟨RX10, "sign", "()I"⟩
abbrev cX10_prove : ByteArray := prog_1_method_32_code
def yX10_prove : MethodName := ⟨RX10, "prove", "(I)I"⟩
abbrev cX10_row : ByteArray := prog_1_method_33_code
def yX10_row : MethodName := ⟨RX10, "row", "(II)I"⟩
abbrev cX10_alterRow : ByteArray := prog_1_method_34_code
def yX10_alterRow : MethodName := ⟨RX10, "alterRow", "(III)I"⟩
abbrev cX10_judge : ByteArray := prog_1_method_35_code
def yX10_judge : MethodName := ⟨RX10, "judge", "(I)I"⟩
abbrev cX10_sheet : ByteArray := prog_1_method_36_code
def yX10_sheet : MethodName := ⟨RX10, "sheet", "(III)I"⟩
abbrev cX10_put : ByteArray := prog_1_method_37_code
def yX10_put : MethodName := ⟨RX10, "put", "(III)I"⟩
abbrev cX10_item : ByteArray := prog_1_method_38_code
def yX10_item : MethodName := ⟨RX10, "item", "(III)I"⟩
abbrev cX10_shelf : ByteArray := prog_1_method_39_code
def yX10_shelf : MethodName := ⟨RX10, "shelf", "(III)I"⟩
abbrev cX10_taken : ByteArray := prog_1_method_40_code
def yX10_taken : MethodName := ⟨RX10, "taken", "(II)I"⟩
abbrev cX10_act : ByteArray := prog_1_method_41_code
def yX10_act : MethodName := ⟨RX10, "act", "(III)I"⟩
abbrev cX10_trace : ByteArray := prog_1_method_42_code
def yX10_trace : MethodName := ⟨RX10, "trace", "(I)I"⟩
abbrev cX10_many : ByteArray := prog_1_method_43_code
def yX10_many : MethodName := ⟨RX10, "many", "(I)I"⟩
abbrev cX10_keep : ByteArray := prog_1_method_44_code
def yX10_keep : MethodName := ⟨RX10, "keep", "()I"⟩
abbrev cX10_back : ByteArray := prog_1_method_45_code
def yX10_back : MethodName := ⟨RX10, "back", "()I"⟩
abbrev cX10_within : ByteArray := prog_1_method_46_code
def yX10_within : MethodName := ⟨RX10, "within", "(III)Z"⟩
abbrev cX10_isWay : ByteArray := prog_1_method_47_code
def yX10_isWay : MethodName := ⟨RX10, "isWay", "(I)Z"⟩
abbrev cX10_isDay : ByteArray := prog_1_method_48_code
def yX10_isDay : MethodName := ⟨RX10, "isDay", "(I)Z"⟩
abbrev cX10_isSheet : ByteArray := prog_1_method_49_code
def yX10_isSheet : MethodName := ⟨RX10, "isSheet", "(I)Z"⟩
abbrev cX10_isShelf : ByteArray := prog_1_method_50_code
def yX10_isShelf : MethodName := ⟨RX10, "isShelf", "(I)Z"⟩
abbrev cX10_isInRows : ByteArray := prog_1_method_51_code
def yX10_isInRows : MethodName := ⟨RX10, "isInRows", "(II)Z"⟩
abbrev cX10_holdsPart : ByteArray := prog_1_method_52_code
def yX10_holdsPart : MethodName := ⟨RX10, "holdsPart", "(LLoosePlug$Shelf;)Z"⟩
abbrev cX10_isUnder : ByteArray := prog_1_method_53_code
def yX10_isUnder : MethodName := ⟨RX10, "isUnder", "(II)Z"⟩
abbrev cX10_useTape : ByteArray := prog_1_method_54_code
def yX10_useTape : MethodName := ⟨RX10, "useTape", "()V"⟩
abbrev cX10_fraction : ByteArray := prog_1_method_55_code
def yX10_fraction : MethodName := ⟨RX10, "fraction", "(JJI)J"⟩
abbrev cX10_commonDivisor : ByteArray := prog_1_method_56_code
def yX10_commonDivisor : MethodName := ⟨RX10, "commonDivisor", "(JJ)J"⟩
abbrev cX10_fitsOfTwo : ByteArray := prog_1_method_57_code
def yX10_fitsOfTwo : MethodName := ⟨RX10, "fitsOfTwo", "(III)I"⟩
abbrev cX10_gatherTwos : ByteArray := prog_1_method_58_code
def yX10_gatherTwos : MethodName := ⟨RX10, "gatherTwos", "(I)I"⟩
abbrev cX10_twosParted : ByteArray := prog_1_method_59_code
def yX10_twosParted : MethodName := ⟨RX10, "twosParted", "(II)I"⟩
abbrev cX10_partsAll : ByteArray := prog_1_method_60_code
def yX10_partsAll : MethodName := ⟨RX10, "partsAll", "(II)Z"⟩
def RX11 : String := "LoosePlugModel"
def TX11 : u_T := fun k => match k with
  | 0 => ("LoosePlugModel", "today", "I", false)
  | 1 => ("LoosePlugModel", "noise", "I", false)
  | 2 => ("LoosePlugModel", "z", "I", false)
  | 3 => ("LoosePlugModel", "spent", "I", false)
  | 4 => ("LoosePlugModel", "parts", "I", false)
  | 5 => ("LoosePlugModel", "part", "[I", true)
  | 6 => ("LoosePlugModel", "runs", "I", false)
  | 7 => ("LoosePlugModel", "run", "[I", true)
  | 8 => ("LoosePlugModel", "stories", "I", false)
  | 9 => ("LoosePlugModel", "story", "[I", true)
  | 10 => ("LoosePlugModel", "houses", "I", false)
  | 11 => ("LoosePlugModel", "ruleMany", "[I", true)
  | 12 => ("LoosePlugModel", "rules", "[I", true)
  | 13 => ("LoosePlugModel", "tape", "[I", true)
  | 14 => ("LoosePlugModel", "tapeMany", "I", false)
  | 15 => ("LoosePlugModel", "sort", "I", false)
  | 16 => ("LoosePlugModel", "begins", "I", false)
  | 17 => ("LoosePlugModel", "ends", "I", false)
  | 18 => ("LoosePlugModel", "word", "J", false)
  | 19 => ("LoosePlugModel", "value", "I", false)
  | 20 => ("LoosePlugModel", "good", "Z", false)
  | 21 => ("LoosePlugModel", "fresh", "[I", true)
  | 22 => ("LoosePlugModel", "above", "J", false)
  | 23 => ("LoosePlugModel", "below", "J", false)
  | 24 => ("LoosePlugModel", "must", "[I", true)
  | 25 => ("LoosePlugModel", "sumMany", "I", false)
  | 26 => ("LoosePlugModel", "sorted", "[I", true)
  | 27 => ("LoosePlugModel", "freshRule", "[I", true)
  | 28 => ("LoosePlugModel", "pending", "[I", true)
  | 29 => ("LoosePlugModel", "freshMany", "I", false)
  | 30 => ("LoosePlugModel", "pendingMany", "I", false)
  | 31 => ("LoosePlugModel", "open", "I", false)
  | 32 => ("LoosePlugModel", "wants", "I", false)
  | 33 => ("LoosePlugModel", "compared", "Z", false)
  | 34 => ("LoosePlugModel", "pile", "[I", true)
  | 35 => ("LoosePlugModel", "facts", "[I", true)
  | 36 => ("LoosePlugModel", "rows", "[I", true)
  | 37 => ("LoosePlugModel", "rowMany", "I", false)
  | 38 => ("LoosePlugModel", "sorts", "[I", true)
  | 39 => ("LoosePlugModel", "sizes", "[I", true)
  | 40 => ("LoosePlugModel", "sheets", "[J", true)
  | 41 => ("LoosePlugModel", "held", "[I", true)
  | 42 => ("LoosePlugModel", "heldNumber", "[I", true)
  | 43 => ("LoosePlugModel", "heldSize", "[I", true)
  | 44 => ("LoosePlugModel", "kind", "I", false)
  | 45 => ("LoosePlugModel", "number", "I", false)
  | 46 => ("LoosePlugModel", "spans", "I", false)
  | 47 => ("LoosePlugModel", "traced", "[I", true)
  | 48 => ("LoosePlugModel", "bodies", "I", false)
  | 49 => ("LoosePlugModel", "isParted", "Z", false)
  | 50 => ("LoosePlugModel", "isKept", "Z", false)
  | 51 => ("LoosePlugModel", "kept", "[I", true)
  | 52 => ("LoosePlugModel", "movedTo", "I", false)
  | _ => ("LoosePlugModel", "single", "[I", true)
def tyX11 : Nat → FieldType := fun k => match k with
  | 0 => .int
  | 1 => .int
  | 2 => .int
  | 3 => .int
  | 4 => .int
  | 5 => .array .int
  | 6 => .int
  | 7 => .array .int
  | 8 => .int
  | 9 => .array .int
  | 10 => .int
  | 11 => .array .int
  | 12 => .array .int
  | 13 => .array .int
  | 14 => .int
  | 15 => .int
  | 16 => .int
  | 17 => .int
  | 18 => .long
  | 19 => .int
  | 20 => .boolean
  | 21 => .array .int
  | 22 => .long
  | 23 => .long
  | 24 => .array .int
  | 25 => .int
  | 26 => .array .int
  | 27 => .array .int
  | 28 => .array .int
  | 29 => .int
  | 30 => .int
  | 31 => .int
  | 32 => .int
  | 33 => .boolean
  | 34 => .array .int
  | 35 => .array .int
  | 36 => .array .int
  | 37 => .int
  | 38 => .array .int
  | 39 => .array .int
  | 40 => .array .long
  | 41 => .array .int
  | 42 => .array .int
  | 43 => .array .int
  | 44 => .int
  | 45 => .int
  | 46 => .int
  | 47 => .array .int
  | 48 => .int
  | 49 => .boolean
  | 50 => .boolean
  | 51 => .array .int
  | 52 => .int
  | _ => .array .int
abbrev wsX110 : List Cond := u_ws RX11 TX11 54
theorem nmX11 : ∀ a, a < 54 → ∀ b, b < 54 → a ≠ b → (TX11 a).2.1 ≠ (TX11 b).2.1 := by decide +kernel
theorem tyX11_ok : ∀ k, k < 54 → parseFieldDescriptor (TX11 k).2.2.1 = some (tyX11 k) := by decide +kernel
abbrev cX11_init : ByteArray := prog_13_method_1_code
def yX11_init : MethodName := ⟨RX11, "<init>", "()V"⟩
abbrev cX11_in : ByteArray := prog_13_method_2_code
def yX11_in : MethodName := ⟨RX11, "in", "(III)Z"⟩
abbrev cX11_isPart : ByteArray := prog_13_method_3_code
def yX11_isPart : MethodName := ⟨RX11, "isPart", "(I)Z"⟩
abbrev cX11_isStory : ByteArray := prog_13_method_4_code
def yX11_isStory : MethodName := ⟨RX11, "isStory", "(I)Z"⟩
abbrev cX11_isSide : ByteArray := prog_13_method_5_code
def yX11_isSide : MethodName := ⟨RX11, "isSide", "(I)Z"⟩
abbrev cX11_isDay : ByteArray := prog_13_method_6_code
def yX11_isDay : MethodName := ⟨RX11, "isDay", "(I)Z"⟩
abbrev cX11_size : ByteArray := prog_13_method_7_code
def yX11_size : MethodName := ⟨RX11, "size", "(I)I"⟩
abbrev cX11_its : ByteArray := prog_13_method_8_code
def yX11_its : MethodName := ⟨RX11, "its", "(II)I"⟩
abbrev cX11_isOn : ByteArray := prog_13_method_9_code
def yX11_isOn : MethodName := ⟨RX11, "isOn", "(II)Z"⟩
abbrev cX11_part : ByteArray := prog_13_method_10_code
def yX11_part : MethodName := ⟨RX11, "part", "(IIIII)I"⟩
abbrev cX11_of : ByteArray := prog_13_method_11_code
def yX11_of : MethodName := ⟨RX11, "of", "(II)I"⟩
abbrev cX11_takes : ByteArray := prog_13_method_12_code
def yX11_takes : MethodName := ⟨RX11, "takes", "(I)I"⟩
abbrev cX11_lacks : ByteArray := prog_13_method_13_code
def yX11_lacks : MethodName := ⟨RX11, "lacks", "(I)I"⟩
abbrev cX11_fail : ByteArray := prog_13_method_14_code
def yX11_fail : MethodName := ⟨RX11, "fail", "(III)I"⟩
abbrev cX11_later : ByteArray := prog_13_method_15_code
def yX11_later : MethodName := ⟨RX11, "later", "(I)I"⟩
abbrev cX11_noise : ByteArray := prog_13_method_16_code
def yX11_noise : MethodName := ⟨RX11, "noise", "(I)I"⟩
abbrev cX11_lots : ByteArray := prog_13_method_17_code
def yX11_lots : MethodName := ⟨RX11, "lots", "(I)I"⟩
abbrev cX11_addRun : ByteArray := prog_13_method_18_code
def yX11_addRun : MethodName := ⟨RX11, "addRun", "(III)I"⟩
abbrev cX11_run : ByteArray := prog_13_method_19_code
def yX11_run : MethodName := ⟨RX11, "run", "(I)I"⟩
abbrev cX11_older : ByteArray := prog_13_method_20_code
def yX11_older : MethodName := ⟨RX11, "older", "(III)I"⟩
abbrev cX11_ran : ByteArray := prog_13_method_21_code
def yX11_ran : MethodName := ⟨RX11, "ran", "(II)I"⟩
abbrev cX11_tryout : ByteArray := prog_13_method_22_code
def yX11_tryout : MethodName := ⟨RX11, "tryout", "(IZ)I"⟩
abbrev cX11_feed : ByteArray := prog_13_method_23_code
def yX11_feed : MethodName := ⟨RX11, "feed", "(JI)I"⟩
abbrev cX11_byteAt : ByteArray := prog_13_method_24_code
def yX11_byteAt : MethodName := ⟨RX11, "byteAt", "(I)I"⟩
abbrev cX11_isLetter : ByteArray := prog_13_method_25_code
def yX11_isLetter : MethodName := ⟨RX11, "isLetter", "(I)Z"⟩
abbrev cX11_isDigit : ByteArray := prog_13_method_26_code
def yX11_isDigit : MethodName := ⟨RX11, "isDigit", "(I)Z"⟩
abbrev cX11_advance : ByteArray := prog_13_method_27_code
def yX11_advance : MethodName := ⟨RX11, "advance", "()V"⟩
abbrev cX11_isMark : ByteArray := prog_13_method_28_code
def yX11_isMark : MethodName := ⟨RX11, "isMark", "(I)Z"⟩
abbrev cX11_isWord : ByteArray := prog_13_method_29_code
def yX11_isWord : MethodName := ⟨RX11, "isWord", "(J)Z"⟩
abbrev cX11_isNumber : ByteArray := prog_13_method_30_code
def yX11_isNumber : MethodName := ⟨RX11, "isNumber", "()Z"⟩
abbrev cX11_begin : ByteArray := prog_13_method_31_code
def yX11_begin : MethodName := ⟨RX11, "begin", "()V"⟩
abbrev cX11_wantWord : ByteArray := prog_13_method_32_code
def yX11_wantWord : MethodName := ⟨RX11, "wantWord", "(J)V"⟩
abbrev cX11_wantNumber : ByteArray := prog_13_method_33_code
def yX11_wantNumber : MethodName := ⟨RX11, "wantNumber", "()I"⟩
abbrev cX11_wantInt : ByteArray := prog_13_method_34_code
def yX11_wantInt : MethodName := ⟨RX11, "wantInt", "()I"⟩
abbrev cX11_wantClauses : ByteArray := prog_13_method_35_code
def yX11_wantClauses : MethodName := ⟨RX11, "wantClauses", "()V"⟩
abbrev cX11_story : ByteArray := prog_13_method_36_code
def yX11_story : MethodName := ⟨RX11, "story", "(I)I"⟩
abbrev cX11_givesBy : ByteArray := prog_13_method_37_code
def yX11_givesBy : MethodName := ⟨RX11, "givesBy", "(III)I"⟩
abbrev cX11_gives : ByteArray := prog_13_method_38_code
def yX11_gives : MethodName := ⟨RX11, "gives", "(III)I"⟩
abbrev cX11_findsBy : ByteArray := prog_13_method_39_code
def yX11_findsBy : MethodName := ⟨RX11, "findsBy", "(II)I"⟩
abbrev cX11_finds : ByteArray := prog_13_method_40_code
def yX11_finds : MethodName := ⟨RX11, "finds", "(II)I"⟩
abbrev cX11_far : ByteArray := prog_13_method_41_code
def yX11_far : MethodName := ⟨RX11, "far", "(II)I"⟩
abbrev cX11_missOf : ByteArray := prog_13_method_42_code
def yX11_missOf : MethodName := ⟨RX11, "missOf", "(I)I"⟩
abbrev cX11_miss : ByteArray := prog_13_method_43_code
def yX11_miss : MethodName := ⟨RX11, "miss", "(I)I"⟩
abbrev cX11_likelyOne : ByteArray := prog_13_method_44_code
def yX11_likelyOne : MethodName := ⟨RX11, "likelyOne", "()I"⟩
abbrev cX11_likely : ByteArray := prog_13_method_45_code
def yX11_likely : MethodName := ⟨RX11, "likely", "()I"⟩
abbrev cX11_lowest : ByteArray := prog_13_method_46_code
def yX11_lowest : MethodName := ⟨RX11, "lowest", "(JJ)V"⟩
abbrev cX11_weightOf : ByteArray := prog_13_method_47_code
def yX11_weightOf : MethodName := ⟨RX11, "weightOf", "(I)J"⟩
abbrev cX11_odds : ByteArray := prog_13_method_48_code
def yX11_odds : MethodName := ⟨RX11, "odds", "(II)J"⟩
abbrev cX11_same : ByteArray := prog_13_method_49_code
def yX11_same : MethodName := ⟨RX11, "same", "(III)I"⟩
abbrev cX11_partedBy : ByteArray := prog_13_method_50_code
def yX11_partedBy : MethodName := ⟨RX11, "partedBy", "(II)I"⟩
abbrev cX11_isSet : ByteArray := prog_13_method_51_code
def yX11_isSet : MethodName := ⟨RX11, "isSet", "(I)Z"⟩
abbrev cX11_next : ByteArray := prog_13_method_52_code
def yX11_next : MethodName := ⟨RX11, "next", "(II)I"⟩
abbrev cX11_parting : ByteArray := prog_13_method_53_code
def yX11_parting : MethodName := ⟨RX11, "parting", "(II)I"⟩
abbrev cX11_least : ByteArray := prog_13_method_54_code
def yX11_least : MethodName := ⟨RX11, "least", "(II)I"⟩
abbrev cX11_spanOf : ByteArray := prog_13_method_55_code
def yX11_spanOf : MethodName := ⟨RX11, "spanOf", "(I)I"⟩
abbrev cX11_rootOf : ByteArray := prog_13_method_56_code
def yX11_rootOf : MethodName := ⟨RX11, "rootOf", "(I)I"⟩
abbrev cX11_span : ByteArray := prog_13_method_57_code
def yX11_span : MethodName := ⟨RX11, "span", "(II)I"⟩
abbrev cX11_sumOf : ByteArray := prog_13_method_58_code
def yX11_sumOf : MethodName := ⟨RX11, "sumOf", "(III)I"⟩
abbrev cX11_sure : ByteArray := prog_13_method_59_code
def yX11_sure : MethodName := ⟨RX11, "sure", "(I)I"⟩
abbrev cX11_isFar : ByteArray := prog_13_method_60_code
def yX11_isFar : MethodName := ⟨RX11, "isFar", "(I)Z"⟩
abbrev cX11_could : ByteArray := prog_13_method_61_code
def yX11_could : MethodName := ⟨RX11, "could", "(II)I"⟩
abbrev cX11_fits : ByteArray := prog_13_method_62_code
def yX11_fits : MethodName := ⟨RX11, "fits", "(II)I"⟩
abbrev cX11_sortRuns : ByteArray := prog_13_method_63_code
def yX11_sortRuns : MethodName := ⟨RX11, "sortRuns", "(I)I"⟩
abbrev cX11_jump : ByteArray := prog_13_method_64_code
def yX11_jump : MethodName := ⟨RX11, "jump", "(II)J"⟩
abbrev cX11_month : ByteArray := prog_13_method_65_code
def yX11_month : MethodName := ⟨RX11, "month", "(III)J"⟩
abbrev cX11_emit : ByteArray := prog_13_method_66_code
def yX11_emit : MethodName := ⟨RX11, "emit", "(I)V"⟩
abbrev cX11_top : ByteArray := prog_13_method_67_code
def yX11_top : MethodName := ⟨RX11, "top", "()I"⟩
abbrev cX11_pend : ByteArray := prog_13_method_68_code
def yX11_pend : MethodName := ⟨RX11, "pend", "(I)V"⟩
abbrev cX11_binds : ByteArray := prog_13_method_69_code
def yX11_binds : MethodName := ⟨RX11, "binds", "(I)I"⟩
abbrev cX11_settle : ByteArray := prog_13_method_70_code
def yX11_settle : MethodName := ⟨RX11, "settle", "(I)V"⟩
abbrev cX11_ends : ByteArray := prog_13_method_71_code
def yX11_ends : MethodName := ⟨RX11, "ends", "(I)V"⟩
abbrev cX11_opens : ByteArray := prog_13_method_72_code
def yX11_opens : MethodName := ⟨RX11, "opens", "(I)V"⟩
abbrev cX11_factHere : ByteArray := prog_13_method_73_code
def yX11_factHere : MethodName := ⟨RX11, "factHere", "()I"⟩
abbrev cX11_beginOne : ByteArray := prog_13_method_74_code
def yX11_beginOne : MethodName := ⟨RX11, "beginOne", "()V"⟩
abbrev cX11_beginAt : ByteArray := prog_13_method_75_code
def yX11_beginAt : MethodName := ⟨RX11, "beginAt", "()V"⟩
abbrev cX11_goOnAt : ByteArray := prog_13_method_76_code
def yX11_goOnAt : MethodName := ⟨RX11, "goOnAt", "()V"⟩
abbrev cX11_goOnEnded : ByteArray := prog_13_method_77_code
def yX11_goOnEnded : MethodName := ⟨RX11, "goOnEnded", "()V"⟩
abbrev cX11_wantRule : ByteArray := prog_13_method_78_code
def yX11_wantRule : MethodName := ⟨RX11, "wantRule", "()V"⟩
abbrev cX11_house : ByteArray := prog_13_method_79_code
def yX11_house : MethodName := ⟨RX11, "house", "()I"⟩
abbrev cX11_factOf : ByteArray := prog_13_method_80_code
def yX11_factOf : MethodName := ⟨RX11, "factOf", "(I)I"⟩
abbrev cX11_fact : ByteArray := prog_13_method_81_code
def yX11_fact : MethodName := ⟨RX11, "fact", "(I)I"⟩
abbrev cX11_findFacts : ByteArray := prog_13_method_82_code
def yX11_findFacts : MethodName := ⟨RX11, "findFacts", "()V"⟩
abbrev cX11_joined : ByteArray := prog_13_method_83_code
def yX11_joined : MethodName := ⟨RX11, "joined", "(III)I"⟩
abbrev cX11_isSo : ByteArray := prog_13_method_84_code
def yX11_isSo : MethodName := ⟨RX11, "isSo", "(II)Z"⟩
abbrev cX11_holds : ByteArray := prog_13_method_85_code
def yX11_holds : MethodName := ⟨RX11, "holds", "(II)I"⟩
abbrev cX11_sign : ByteArray := prog_13_method_86_code
def yX11_sign : MethodName := ⟨RX11, "sign", "()I"⟩
abbrev cX11_prove : ByteArray := prog_13_method_87_code
def yX11_prove : MethodName := ⟨RX11, "prove", "(I)I"⟩
abbrev cX11_isRow : ByteArray := prog_13_method_88_code
def yX11_isRow : MethodName := ⟨RX11, "isRow", "(II)Z"⟩
abbrev cX11_row : ByteArray := prog_13_method_89_code
def yX11_row : MethodName := ⟨RX11, "row", "(II)I"⟩
abbrev cX11_alterRow : ByteArray := prog_13_method_90_code
def yX11_alterRow : MethodName := ⟨RX11, "alterRow", "(III)I"⟩
abbrev cX11_judge : ByteArray := prog_13_method_91_code
def yX11_judge : MethodName := ⟨RX11, "judge", "(I)I"⟩
abbrev cX11_isShelf : ByteArray := prog_13_method_92_code
def yX11_isShelf : MethodName := ⟨RX11, "isShelf", "(I)Z"⟩
abbrev cX11_sheet : ByteArray := prog_13_method_93_code
def yX11_sheet : MethodName := ⟨RX11, "sheet", "(III)I"⟩
abbrev cX11_put : ByteArray := prog_13_method_94_code
def yX11_put : MethodName := ⟨RX11, "put", "(III)I"⟩
abbrev cX11_lacksSort : ByteArray := prog_13_method_95_code
def yX11_lacksSort : MethodName := ⟨RX11, "lacksSort", "(II)I"⟩
abbrev cX11_item : ByteArray := prog_13_method_96_code
def yX11_item : MethodName := ⟨RX11, "item", "(III)I"⟩
abbrev cX11_isHeld : ByteArray := prog_13_method_97_code
def yX11_isHeld : MethodName := ⟨RX11, "isHeld", "(II)Z"⟩
abbrev cX11_shelf : ByteArray := prog_13_method_98_code
def yX11_shelf : MethodName := ⟨RX11, "shelf", "(III)I"⟩
abbrev cX11_kindOn : ByteArray := prog_13_method_99_code
def yX11_kindOn : MethodName := ⟨RX11, "kindOn", "(I)I"⟩
abbrev cX11_isUnder : ByteArray := prog_13_method_100_code
def yX11_isUnder : MethodName := ⟨RX11, "isUnder", "(II)Z"⟩
abbrev cX11_taken : ByteArray := prog_13_method_101_code
def yX11_taken : MethodName := ⟨RX11, "taken", "(II)I"⟩
abbrev cX11_body : ByteArray := prog_13_method_102_code
def yX11_body : MethodName := ⟨RX11, "body", "(I)V"⟩
abbrev cX11_takesIt : ByteArray := prog_13_method_103_code
def yX11_takesIt : MethodName := ⟨RX11, "takesIt", "(I)I"⟩
abbrev cX11_plainShares : ByteArray := prog_13_method_104_code
def yX11_plainShares : MethodName := ⟨RX11, "plainShares", "(I)I"⟩
abbrev cX11_sharesIt : ByteArray := prog_13_method_105_code
def yX11_sharesIt : MethodName := ⟨RX11, "sharesIt", "(I)I"⟩
abbrev cX11_plainBounds : ByteArray := prog_13_method_106_code
def yX11_plainBounds : MethodName := ⟨RX11, "plainBounds", "(I)I"⟩
abbrev cX11_boundsIt : ByteArray := prog_13_method_107_code
def yX11_boundsIt : MethodName := ⟨RX11, "boundsIt", "(I)I"⟩
abbrev cX11_plainTells : ByteArray := prog_13_method_108_code
def yX11_plainTells : MethodName := ⟨RX11, "plainTells", "(I)I"⟩
abbrev cX11_tellsIt : ByteArray := prog_13_method_109_code
def yX11_tellsIt : MethodName := ⟨RX11, "tellsIt", "(I)I"⟩
abbrev cX11_act : ByteArray := prog_13_method_110_code
def yX11_act : MethodName := ⟨RX11, "act", "(III)I"⟩
abbrev cX11_trace : ByteArray := prog_13_method_111_code
def yX11_trace : MethodName := ⟨RX11, "trace", "(I)I"⟩
abbrev cX11_many : ByteArray := prog_13_method_112_code
def yX11_many : MethodName := ⟨RX11, "many", "(I)I"⟩
abbrev cX11_move : ByteArray := prog_13_method_113_code
def yX11_move : MethodName := ⟨RX11, "move", "([IIZ)V"⟩
abbrev cX11_moveAll : ByteArray := prog_13_method_114_code
def yX11_moveAll : MethodName := ⟨RX11, "moveAll", "(Z)V"⟩
abbrev cX11_keep : ByteArray := prog_13_method_115_code
def yX11_keep : MethodName := ⟨RX11, "keep", "()I"⟩
abbrev cX11_back : ByteArray := prog_13_method_116_code
def yX11_back : MethodName := ⟨RX11, "back", "()I"⟩
def RJx145de : String := "java/io/Serializable"
def TJx145de : u_T := fun k => match k with
  | _ => ("", "", "", false)
def tyJx145de : Nat → FieldType := fun k => match k with
  | _ => .int
abbrev wsJx145de0 : List Cond := u_ws RJx145de TJx145de 0
theorem nmJx145de : ∀ a, a < 0 → ∀ b, b < 0 → a ≠ b → (TJx145de a).2.1 ≠ (TJx145de b).2.1 := by decide +kernel
theorem tyJx145de_ok : ∀ k, k < 0 → parseFieldDescriptor (TJx145de k).2.2.1 = some (tyJx145de k) := by decide +kernel
def RJx9f9b0 : String := "java/lang/CharSequence"
def TJx9f9b0 : u_T := fun k => match k with
  | _ => ("", "", "", false)
def tyJx9f9b0 : Nat → FieldType := fun k => match k with
  | _ => .int
abbrev wsJx9f9b00 : List Cond := u_ws RJx9f9b0 TJx9f9b0 0
theorem nmJx9f9b0 : ∀ a, a < 0 → ∀ b, b < 0 → a ≠ b → (TJx9f9b0 a).2.1 ≠ (TJx9f9b0 b).2.1 := by decide +kernel
theorem tyJx9f9b0_ok : ∀ k, k < 0 → parseFieldDescriptor (TJx9f9b0 k).2.2.1 = some (tyJx9f9b0 k) := by decide +kernel
def RJx8e188 : String := "java/lang/Cloneable"
def TJx8e188 : u_T := fun k => match k with
  | _ => ("", "", "", false)
def tyJx8e188 : Nat → FieldType := fun k => match k with
  | _ => .int
abbrev wsJx8e1880 : List Cond := u_ws RJx8e188 TJx8e188 0
theorem nmJx8e188 : ∀ a, a < 0 → ∀ b, b < 0 → a ≠ b → (TJx8e188 a).2.1 ≠ (TJx8e188 b).2.1 := by decide +kernel
theorem tyJx8e188_ok : ∀ k, k < 0 → parseFieldDescriptor (TJx8e188 k).2.2.1 = some (tyJx8e188 k) := by decide +kernel
def RJxb160c : String := "java/lang/Comparable"
def TJxb160c : u_T := fun k => match k with
  | _ => ("", "", "", false)
def tyJxb160c : Nat → FieldType := fun k => match k with
  | _ => .int
abbrev wsJxb160c0 : List Cond := u_ws RJxb160c TJxb160c 0
theorem nmJxb160c : ∀ a, a < 0 → ∀ b, b < 0 → a ≠ b → (TJxb160c a).2.1 ≠ (TJxb160c b).2.1 := by decide +kernel
theorem tyJxb160c_ok : ∀ k, k < 0 → parseFieldDescriptor (TJxb160c k).2.2.1 = some (tyJxb160c k) := by decide +kernel
def RJ9 : String := "java/lang/Math"
def TJ9 : u_T := fun k => match k with
  | _ => ("", "", "", false)
def tyJ9 : Nat → FieldType := fun k => match k with
  | _ => .int
abbrev wsJ90 : List Cond := u_ws RJ9 TJ9 0
theorem nmJ9 : ∀ a, a < 0 → ∀ b, b < 0 → a ≠ b → (TJ9 a).2.1 ≠ (TJ9 b).2.1 := by decide +kernel
theorem tyJ9_ok : ∀ k, k < 0 → parseFieldDescriptor (TJ9 k).2.2.1 = some (tyJ9 k) := by decide +kernel
abbrev cJ9_abs_0f7a4 : ByteArray := prog_15_method_59_code
def yJ9_abs_0f7a4 : MethodName := ⟨RJ9, "abs", "(I)I"⟩
abbrev cJ9_abs_067f4 : ByteArray := prog_15_method_61_code
def yJ9_abs_067f4 : MethodName := ⟨RJ9, "abs", "(J)J"⟩
abbrev cJ9_max_7cf53 : ByteArray := prog_15_method_65_code
def yJ9_max_7cf53 : MethodName := ⟨RJ9, "max", "(II)I"⟩
abbrev cJ9_min_7cf53 : ByteArray := prog_15_method_69_code
def yJ9_min_7cf53 : MethodName := ⟨RJ9, "min", "(II)I"⟩
def RJ0 : String := "java/lang/String"
def TJ0 : u_T := fun k => match k with
  | _ => ("", "", "", false)
def tyJ0 : Nat → FieldType := fun k => match k with
  | _ => .int
abbrev wsJ00 : List Cond := u_ws RJ0 TJ0 0
theorem nmJ0 : ∀ a, a < 0 → ∀ b, b < 0 → a ≠ b → (TJ0 a).2.1 ≠ (TJ0 b).2.1 := by decide +kernel
theorem tyJ0_ok : ∀ k, k < 0 → parseFieldDescriptor (TJ0 k).2.2.1 = some (tyJ0 k) := by decide +kernel
abbrev cJ0_length_8abf5 : ByteArray := prog_16_method_54_code
def yJ0_length_8abf5 : MethodName := ⟨RJ0, "length", "()I"⟩
abbrev cJ0_charAt_5068e : ByteArray := prog_16_method_56_code
def yJ0_charAt_5068e : MethodName := ⟨RJ0, "charAt", "(I)C"⟩
abbrev cJ0_coder_7d493 : ByteArray := prog_16_method_152_code
def yJ0_coder_7d493 : MethodName := ⟨RJ0, "coder", "()B"⟩
abbrev cJ0_isLatin1_aae02 : ByteArray := prog_16_method_154_code
def yJ0_isLatin1_aae02 : MethodName := ⟨RJ0, "isLatin1", "()Z"⟩
abbrev cJ0_checkIndex_df160 : ByteArray := prog_16_method_155_code
def yJ0_checkIndex_df160 : MethodName := ⟨RJ0, "checkIndex", "(II)V"⟩
def RJ1 : String := "java/lang/StringLatin1"
def TJ1 : u_T := fun k => match k with
  | _ => ("", "", "", false)
def tyJ1 : Nat → FieldType := fun k => match k with
  | _ => .int
abbrev wsJ10 : List Cond := u_ws RJ1 TJ1 0
theorem nmJ1 : ∀ a, a < 0 → ∀ b, b < 0 → a ≠ b → (TJ1 a).2.1 ≠ (TJ1 b).2.1 := by decide +kernel
theorem tyJ1_ok : ∀ k, k < 0 → parseFieldDescriptor (TJ1 k).2.2.1 = some (tyJ1 k) := by decide +kernel
abbrev cJ1_charAt_3b067 : ByteArray := prog_17_method_2_code
def yJ1_charAt_3b067 : MethodName := ⟨RJ1, "charAt", "([BI)C"⟩
def RJ2 : String := "java/lang/StringUTF16"
def TJ2 : u_T := fun k => match k with
  | _ => ("", "", "", false)
def tyJ2 : Nat → FieldType := fun k => match k with
  | _ => .int
abbrev wsJ20 : List Cond := u_ws RJ2 TJ2 0
theorem nmJ2 : ∀ a, a < 0 → ∀ b, b < 0 → a ≠ b → (TJ2 a).2.1 ≠ (TJ2 b).2.1 := by decide +kernel
theorem tyJ2_ok : ∀ k, k < 0 → parseFieldDescriptor (TJ2 k).2.2.1 = some (tyJ2 k) := by decide +kernel
abbrev cJ2_getChar_3b067 : ByteArray := prog_18_method_5_code
def yJ2_getChar_3b067 : MethodName := ⟨RJ2, "getChar", "([BI)C"⟩
abbrev cJ2_length_9d52b : ByteArray := prog_18_method_6_code
def yJ2_length_9d52b : MethodName := ⟨RJ2, "length", "([B)I"⟩
abbrev cJ2_charAt_3b067 : ByteArray := prog_18_method_83_code
def yJ2_charAt_3b067 : MethodName := ⟨RJ2, "charAt", "([BI)C"⟩
abbrev cJ2_checkIndex_2214a : ByteArray := prog_18_method_91_code
def yJ2_checkIndex_2214a : MethodName := ⟨RJ2, "checkIndex", "(I[B)V"⟩
def RJ10 : String := "java/lang/System"
def TJ10 : u_T := fun k => match k with
  | _ => ("", "", "", false)
def tyJ10 : Nat → FieldType := fun k => match k with
  | _ => .int
abbrev wsJ100 : List Cond := u_ws RJ10 TJ10 0
theorem nmJ10 : ∀ a, a < 0 → ∀ b, b < 0 → a ≠ b → (TJ10 a).2.1 ≠ (TJ10 b).2.1 := by decide +kernel
theorem tyJ10_ok : ∀ k, k < 0 → parseFieldDescriptor (TJ10 k).2.2.1 = some (tyJ10 k) := by decide +kernel
def RJxfd54e : String := "java/lang/constant/Constable"
def TJxfd54e : u_T := fun k => match k with
  | _ => ("", "", "", false)
def tyJxfd54e : Nat → FieldType := fun k => match k with
  | _ => .int
abbrev wsJxfd54e0 : List Cond := u_ws RJxfd54e TJxfd54e 0
theorem nmJxfd54e : ∀ a, a < 0 → ∀ b, b < 0 → a ≠ b → (TJxfd54e a).2.1 ≠ (TJxfd54e b).2.1 := by decide +kernel
theorem tyJxfd54e_ok : ∀ k, k < 0 → parseFieldDescriptor (TJxfd54e k).2.2.1 = some (tyJxfd54e k) := by decide +kernel
def RJx3cf43 : String := "java/lang/constant/ConstantDesc"
def TJx3cf43 : u_T := fun k => match k with
  | _ => ("", "", "", false)
def tyJx3cf43 : Nat → FieldType := fun k => match k with
  | _ => .int
abbrev wsJx3cf430 : List Cond := u_ws RJx3cf43 TJx3cf43 0
theorem nmJx3cf43 : ∀ a, a < 0 → ∀ b, b < 0 → a ≠ b → (TJx3cf43 a).2.1 ≠ (TJx3cf43 b).2.1 := by decide +kernel
theorem tyJx3cf43_ok : ∀ k, k < 0 → parseFieldDescriptor (TJx3cf43 k).2.2.1 = some (tyJx3cf43 k) := by decide +kernel
def RJ7 : String := "java/util/Arrays"
def TJ7 : u_T := fun k => match k with
  | _ => ("", "", "", false)
def tyJ7 : Nat → FieldType := fun k => match k with
  | _ => .int
abbrev wsJ70 : List Cond := u_ws RJ7 TJ7 0
theorem nmJ7 : ∀ a, a < 0 → ∀ b, b < 0 → a ≠ b → (TJ7 a).2.1 ≠ (TJ7 b).2.1 := by decide +kernel
theorem tyJ7_ok : ∀ k, k < 0 → parseFieldDescriptor (TJ7 k).2.2.1 = some (tyJ7 k) := by decide +kernel
abbrev cJ7_fill_53178 : ByteArray := prog_20_method_103_code
def yJ7_fill_53178 : MethodName := ⟨RJ7, "fill", "([II)V"⟩
abbrev cJ7_copyOf_59c91 : ByteArray := prog_20_method_123_code
def yJ7_copyOf_59c91 : MethodName := ⟨RJ7, "copyOf", "([II)[I"⟩
def RJ3 : String := "jdk/internal/util/Preconditions"
def TJ3 : u_T := fun k => match k with
  | _ => ("", "", "", false)
def tyJ3 : Nat → FieldType := fun k => match k with
  | _ => .int
abbrev wsJ30 : List Cond := u_ws RJ3 TJ3 0
theorem nmJ3 : ∀ a, a < 0 → ∀ b, b < 0 → a ≠ b → (TJ3 a).2.1 ≠ (TJ3 b).2.1 := by decide +kernel
theorem tyJ3_ok : ∀ k, k < 0 → parseFieldDescriptor (TJ3 k).2.2.1 = some (tyJ3 k) := by decide +kernel
abbrev cJ3_checkIndex_8e157 : ByteArray := prog_21_method_11_code
def yJ3_checkIndex_8e157 : MethodName := ⟨RJ3, "checkIndex", "(IILjava/util/function/BiFunction;)I"⟩
def RL : String := "LoosePlugLaw"
abbrev cL_law : ByteArray := code
def yL_law : MethodName := ⟨RL, "law", "([I)Z"⟩
abbrev vwCl : List vw_C := [(RX0, TX0, 6), (RX1, TX1, 9), (RX2, TX2, 1), (RX3, TX3, 3), (RX4, TX4, 3), (RX5, TX5, 4), (RX6, TX6, 4), (RX7, TX7, 5), (RX8, TX8, 5), (RX9, TX9, 14), (RX10, TX10, 17), (RX11, TX11, 54)]
